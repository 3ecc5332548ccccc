/-! ===== the first state: its invariants ===== -/
theorem S1_0 {g : XH} (a : AGH XB g zr116) {j : Nat} (hj : j ∈ [0, 1, 2, 3, 8, 20, 25, 26, 59, 63]) : S1 g 12 j = 0 := by
  show hi g 12 0 j = 0
  rw [a.i 12 rfl]
  exact zr_s j hj
theorem vp_none {x : Int32} (h : vp_in x 0) : False := h (Or.inr (Nat.zero_le _))
theorem first_n {g : XH} (a : AGH XB g zr116) : nSt (S1 g) = 0 ∧ nCl (S1 g) = 0 ∧ nRd (S1 g) = 0 ∧ nLe (S1 g) = 0 ∧ nRu (S1 g) = 0 ∧ nFd (S1 g) = 0 ∧ nPl (S1 g) = 0 := by
  unfold nSt nCl nRd nLe nRu nFd nPl
  rw [S1_0 a (j := 1) (by decide), S1_0 a (j := 2) (by decide), S1_0 a (j := 8) (by decide), S1_0 a (j := 20) (by decide), S1_0 a (j := 25) (by decide), S1_0 a (j := 26) (by decide), S1_0 a (j := 59) (by decide)]
  decide
theorem first_SInv {g : XH} (a : AGH XB g zr116) : SInv (S1 g) := by
  obtain ⟨n1, n2, n3, n4, n5, n6, n7⟩ := first_n a
  have z : (0 : Int32) = nI 0 := rfl
  refine ⟨?_, ?_, ?_, ?_, ?_, ?_, ?_, ?_, fun i v => ?_, fun i v => ?_⟩
  · rw [n1, S1_0 a (by decide)]; exact ⟨z, by omega⟩
  · rw [n2, S1_0 a (by decide)]; exact ⟨z, by omega⟩
  · rw [n3, S1_0 a (by decide)]; exact ⟨z, by omega⟩
  · rw [n4, S1_0 a (by decide)]; exact ⟨z, by omega⟩
  · rw [n5, S1_0 a (by decide)]; exact ⟨z, by omega⟩
  · rw [n6, S1_0 a (by decide)]; exact ⟨z, by omega⟩
  · rw [n7, S1_0 a (by decide)]; exact ⟨z, by omega⟩
  · rw [S1_0 a (by decide)]; decide
  · rw [n2] at v; exact (vp_none v).elim
  · rw [n3] at v; exact (vp_none v).elim
theorem first_TpI {g : XH} (a : AGH XB g zr116) : TpI (S1 g) := fun t ht => by
  obtain ⟨_, _, _, _, _, _, h1, h2⟩ := zr_tp t ht
  have e1 : S1 g 151 t = -1 := by
    show hi g 151 0 t = -1
    rw [a.i 151 rfl]; exact h1
  have e2 : S1 g 152 t = 0 := by
    show hi g 152 0 t = 0
    rw [a.i 152 rfl]; exact h2
  rw [e1, e2]
  exact ⟨by decide, by decide, fun _ => rfl⟩
theorem first_StI {g : XH} (a : AGH XB g zr116) : StI (S1 g) := by
  have e : ∀ j, j < 44 → S1 g 146 j = 0 := fun j hj => by
    show hi g 146 0 j = 0
    rw [a.i 146 rfl]; exact (zr_t j (by omega)).2.2
  refine ⟨fun s hs => ?_, fun j _ hj => e j hj, fun j hj => by rw [e j hj]; decide⟩
  rw [(first_n a).1] at hs
  omega
theorem first_TbI {g : XH} (a : AGH XB g zr116) : TbI (S1 g) := fun n hn => by
  have e : S1 g 145 n = 0 := by
    show hi g 145 0 n = 0
    rw [a.i 145 rfl]; exact (zr_t n (by omega)).1
  rw [e]
  decide
theorem first_PInv {g : XH} (a : AGH XB g zr116) : PInv (S1 g) := fun k hk => by
  rw [(first_n a).2.2.2.2.2.2] at hk
  omega
theorem first_AcI {g : XH} (a : AGH XB g zr116) : AcI (S1 g) := ⟨0, S1_0 a (by decide), by omega⟩
theorem first_TxI {g : XH} (a : AGH XB g zr116) : TxI (S1 g) := fun k hk => by
  rw [(first_n a).2.2.2.2.2.1] at hk
  omega
theorem first_RuI {g : XH} (a : AGH XB g zr116) : RuI (S1 g) := fun k hk => by
  rw [(first_n a).2.2.2.2.1] at hk
  omega
