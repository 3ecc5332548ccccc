/-! ===== the first state: what the class's cells tell ===== -/
theorem first_OrI {g : XH} (a : AGH XB g zr116) : OrI (S1 g) := by
  obtain ⟨n1, n2, n3, n4, n5, n6, n7⟩ := first_n a
  have e : ordC (S1 g) = 0 := by
    have := gon_le (S1 g) (nRd (S1 g))
    unfold ordC
    omega
  refine ⟨by rw [e, S1_0 a (by decide)]; rfl, fun r h => ?_, fun k h => ?_, fun r k h _ => ?_, fun r h => ?_⟩
  · rw [n3] at h; omega
  · rw [n4] at h; omega
  · rw [n3] at h; omega
  · rw [n3] at h; omega
theorem first_Inv {g : XH} (a : AGH XB g zr116) : Inv (S1 g) := ⟨first_SInv a, first_TpI a, first_OrI a, first_StI a, first_TbI a, first_PInv a, first_AcI a⟩
theorem first_EL {g : XH} (a : AGH XB g zr116) (j : Nat) : EL (S1 g) [] j = [] := by
  obtain ⟨n1, n2, n3, n4, n5, n6, n7⟩ := first_n a
  unfold EL
  split
  · rw [n1]; rfl
  · rw [n2]; rfl
  · rw [n3]; rfl
  · rw [n4]; rfl
  · rfl
  · rw [n7]; rfl
theorem first_LL {g : XH} (a : AGH XB g zr116) (h510 : hn g 510 0 = 0) : LL g (EL (S1 g) []) := by
  refine ⟨fun _ => (510, 0), h510, fun j hj => ?_, fun _ _ _ _ _ => Or.inl rfl⟩
  obtain ⟨_, _, _, _, h1, h2, _⟩ := zr_tp j hj
  rw [first_EL a j]
  refine ⟨(congrFun (congrFun (a.r 0 rfl) j) 1).trans h1, (congrFun (congrFun (a.i 0 rfl) j) 2).trans h2, Nat.zero_le _, fun k hk => absurd hk (Nat.not_lt_zero k), fun z hz => (List.not_mem_nil hz).elim, Or.inl rfl⟩
theorem first_CSt {g : XH} (a : AGH XB g zr116) : CSt g (S1 g) := by
  obtain ⟨n1, _⟩ := first_n a
  obtain ⟨_, _, _, _, _, _, c8, c106, _⟩ := zr_c
  refine ⟨by rw [n1]; exact (a.c 8 rfl).trans c8, by rw [n1]; exact (a.c 106 rfl).trans c106, fun s hs => ?_⟩
  rw [n1] at hs
  omega
theorem first_CCl {g : XH} (a : AGH XB g zr116) : CCl g (S1 g) := by
  obtain ⟨_, n2, _⟩ := first_n a
  obtain ⟨_, _, _, _, _, _, _, _, c2, c101, c102, _⟩ := zr_c
  refine ⟨by rw [n2]; exact (a.c 2 rfl).trans c2, by rw [n2]; exact (a.c 101 rfl).trans c101, by rw [n2]; exact (a.c 102 rfl).trans c102, fun s hs => ?_⟩
  rw [n2] at hs
  omega
theorem first_CRd {g : XH} (a : AGH XB g zr116) : CRd g (S1 g) := by
  obtain ⟨_, _, n3, _⟩ := first_n a
  obtain ⟨_, _, _, _, _, _, _, _, _, _, _, c5, _⟩ := zr_c
  refine ⟨by rw [n3]; exact (a.c 5 rfl).trans c5, fun s hs => ?_⟩
  rw [n3] at hs
  omega
theorem first_CLe {g : XH} (a : AGH XB g zr116) : CLe g (S1 g) := by
  obtain ⟨_, _, _, n4, _⟩ := first_n a
  obtain ⟨_, _, _, _, _, _, _, _, _, _, _, _, c3, _⟩ := zr_c
  refine ⟨by rw [n4]; exact (a.c 3 rfl).trans c3, fun s hs => ?_⟩
  rw [n4] at hs
  omega
theorem first_CPl {g : XH} (a : AGH XB g zr116) : CPl g (S1 g) := by
  obtain ⟨_, _, _, _, _, _, n7⟩ := first_n a
  obtain ⟨_, _, _, _, _, _, _, _, _, _, _, _, _, c4⟩ := zr_c
  refine ⟨by rw [n7]; exact (a.c 4 rfl).trans c4, fun s hs => ?_⟩
  rw [n7] at hs
  omega
theorem first_CTp {g : XH} (a : AGH XB g zr116) : CTp g (S1 g) := fun t ht => by
  obtain ⟨_, _, h1, h2, _, _, h3, h4⟩ := zr_tp t ht
  have e1 : S1 g 151 t = -1 := (congrFun (congrFun (a.i 151 rfl) 0) t).trans h3
  have e2 : S1 g 152 t = 0 := (congrFun (congrFun (a.i 152 rfl) 0) t).trans h4
  refine ⟨by rw [e1]; exact (congrFun (congrFun (a.i 10 rfl) t) 1).trans h1, by rw [e2]; exact (congrFun (congrFun (a.i 10 rfl) t) 2).trans h2, fun k _ => ?_⟩
  show hi g 114 t k = hi g 153 0 (60 * t + k)
  rw [a.i 114 rfl, a.i 153 rfl, zr_114, zr_153]
theorem first_CTb {g : XH} (a : AGH XB g zr116) : CTb g (S1 g) := fun n hn => by
  obtain ⟨h1, h2, _⟩ := zr_t n (by omega)
  exact ((congrFun (congrFun (a.i 115 rfl) 0) n).trans h2).trans ((congrFun (congrFun (a.i 145 rfl) 0) n).trans h1).symm
theorem first_CSc {g : XH} (a : AGH XB g zr116) : CSc g (S1 g) := by
  obtain ⟨h1, h2, h3, h4, _⟩ := zr_x
  have e : S1 g 12 19 = -1 := (congrFun (congrFun (a.i 12 rfl) 0) 19).trans h1
  refine ⟨?_, ?_, ?_⟩
  · rw [S1_0 a (by decide)]; exact (congrFun (congrFun (a.i 11 rfl) 0) 12).trans h2
  · rw [S1_0 a (by decide)]; exact (congrFun (congrFun (a.i 11 rfl) 0) 13).trans h3
  · rw [e, if_pos (by decide)]; exact (congrFun (congrFun (a.i 11 rfl) 0) 14).trans h4
theorem first_CTx {g : XH} (a : AGH XB g zr116) : CTx g (S1 g) := by
  obtain ⟨_, _, _, _, h5, _⟩ := zr_x
  exact ctx0 ((congrFun (congrFun (a.i 7 rfl) 0) 1).trans h5) (S1_0 a (by decide))
theorem first_CAr {g : XH} (a : AGH XB g zr116) : CAr g (S1 g) := by
  obtain ⟨_, _, _, _, _, h6⟩ := zr_x
  refine ⟨?_, 0, S1_0 a (by decide), by omega, fun k _ hk => absurd hk (Nat.not_lt_zero k)⟩
  rw [S1_0 a (by decide)]
  exact (congrFun (congrFun (a.i 1 rfl) 0) 1).trans h6
theorem first_CRu {m g : XH} (a : AGH XB g zr116) (hF : Fr YB m g) (h6 : hc m 6 = 1) (h103 : hc m 103 = 1) (h104 : hc m 104 = 1) (h105 : hc m 105 = 1) (i0 : hi m 6 0 0 = -1) (hR : RR m 0 0 rt0) : CRu g (S1 g) [] := by
  have f6 := hF 6 rfl
  have f103 := hF 103 rfl
  have f104 := hF 104 rfl
  have f105 := hF 105 rfl
  refine ⟨⟨by rw [f103.1, f6.1, h103, h6], by rw [f104.1, f6.1, h104, h6], by rw [f105.1, f6.1, h105, h6]⟩, (first_n a).2.2.2.2.1.symm, ⟨by rw [f6.1, h6]; exact Nat.one_pos, by rw [f6.2.2.1]; exact i0, hR.cg (by rw [f6.2.2.1]) (by rw [f103.2.2.1]) (by rw [f104.2.2.1]) (by rw [f105.2.2.1]) (by rw [f6.2.2.2.2]) (by rw [f103.2.1]) (by rw [f104.2.1]) (by rw [f105.2.1])⟩, fun k t hk => nomatch hk⟩
theorem first_WW {m g : XH} (a : AGH XB g zr116) (st : STA g) (hF : Fr YB m g) (h6 : hc m 6 = 1) (h103 : hc m 103 = 1) (h104 : hc m 104 = 1) (h105 : hc m 105 = 1) (i0 : hi m 6 0 0 = -1) (hR : RR m 0 0 rt0) : WW g (S1 g) [] :=
  ⟨first_MI a, ⟨first_CFX a st, first_LL a st.2.2.1, first_CSt a, first_CCl a, first_CRd a, first_CSc a, first_CTp a, first_CTb a, first_CLe a, first_CPl a, first_CTx a, first_CAr a, first_CRu a hF h6 h103 h104 h105 i0 hR⟩, first_Inv a, first_TxI a, first_RuI a, up_S1 g⟩
