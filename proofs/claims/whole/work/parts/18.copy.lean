/-! ===== arraycopy, getClass ===== -/
theorem kA2 {D : va_G} {U : State} {cA cB : ClassId} {ty tz : FieldType} (h : va_K D vwCl [] U) (k : ArrOfT U cA ty ∧ va_RA U cA ty) (k2 : ArrOfT U cB tz ∧ va_RA U cB tz) : va_K D vwCl [(cA, ty), (cB, tz)] U := ⟨h.1, fun i q hi => by
  match i, hi with
  | 0, hi => cases hi; exact k
  | 1, hi => cases hi; exact k2⟩
theorem offO_cpI (σ : XH) (o q : XO) (a b n : Nat) : offO σ (cpI σ o a q b n) q := ⟨rfl, rfl, fun s i h => ⟨funext fun k => by
  show (if s = q.1 ∧ i = q.2 ∧ b ≤ k ∧ k < b + n then _ else σ.2.2.1 s i k) = σ.2.2.1 s i k
  rw [if_neg]
  rintro ⟨rfl, rfl, -⟩
  exact h rfl, rfl, rfl⟩⟩
theorem offO_cpR (σ : XH) (o q : XO) (a b n : Nat) : offO σ (cpR σ o a q b n) q := ⟨rfl, rfl, fun s i h => ⟨rfl, rfl, funext fun k => by
  show (if s = q.1 ∧ i = q.2 ∧ b ≤ k ∧ k < b + n then _ else σ.2.2.2.2 s i k) = σ.2.2.2.2 s i k
  rw [if_neg]
  rintro ⟨rfl, rfl, -⟩
  exact h rfl⟩⟩
theorem natW : nativeFrameWords "java/lang/System" "arraycopy" 5 ≤ 20 := by decide +kernel
theorem r_copyI {d rc rs y pc : Nat} {ls st : List XV} {σ : XH} {Q : XV → XH → Prop} {o q : XO} {sp dp n : Int32} {idx : Nat} (hd : decode (mC y) pc = .ok (.invokestatic idx, 3)) (hw : Cond.methodLink (mY y).cls idx arraycopyName ∈ lwA) (ho : 100 ≤ o.1 ∧ o.1 < 200) (hq : 100 ≤ q.1 ∧ q.1 < 200) (k1 : ¬ sp < 0) (k2 : ¬ dp < 0) (k3 : ¬ n < 0) (k4 : sp.toNatClampNeg + n.toNatClampNeg ≤ hn σ o.1 o.2) (k5 : dp.toNatClampNeg + n.toNatClampNeg ≤ hn σ q.1 q.2) (hdd : 1 ≤ d) (hcat : catS st ≤ 8)
    (h : Ex d rc rs y (pc + 3) ls st (cpI σ o sp.toNatClampNeg q dp.toNatClampNeg n.toNatClampNeg) Q) : Ex d rc rs y pc ls (vI n :: vI dp :: vR (some q) :: vI sp :: vR (some o) :: st) σ Q := by
  intro p l e R s m args below meth c H locs cells slots D n0 σ0 L0 ad0 L ad lsR C hL hst
  have hx := C.1.1
  have hb := C.1.2.1
  obtain ⟨⟨-, -, -, hml, hown, -, -, hts⟩, ⟨r1, r2, -, -⟩, hP, hZ, -, hS, -⟩ := id C
  have hlo := live_dyn hP (okh (okt (okt (okt (okt hst)))) o rfl) (by omega)
  have hlq := live_dyn hP (okh (okt (okt hst)) q rfl) (by omega)
  obtain ⟨cy, h1, h2, h3, h4, h5, h6, h7, h8, h9⟩ := hP
  obtain ⟨q0, hq0, hw0⟩ := wsX_at (ad := ad) (cy := cy) (σ := σ) ((h1 o).mpr hlo)
  obtain ⟨q1, hq1, hw1⟩ := wsX_at (ad := ad) (cy := cy) (σ := σ) ((h1 q).mpr hlq)
  rw [celX_int (by omega) (by omega)] at hw0 hw1
  have k7 := h7 o ((h1 o).mpr hlo) (by omega)
  have k8 := h7 q ((h1 q).mpr hlq) (by omega)
  have et : tyA o.1 = .int := by unfold tyA; rw [if_pos ho.2]
  have eu : tyA q.1 = .int := by unfold tyA; rw [if_pos hq.2]
  rw [et] at k7
  rw [eu] at k8
  have hoff := offO_cpI σ o q sp.toNatClampNeg dp.toNatClampNeg n.toNatClampNeg
  have ec : celX ad cy (cpI σ o sp.toNatClampNeg q dp.toNatClampNeg n.toNatClampNeg) q = .inl (cy q, hn σ q.1 q.2, .inl (va_cpy (hi σ o.1 o.2) (hi σ q.1 q.2) sp.toNatClampNeg dp.toNatClampNeg n.toNatClampNeg)) := by
    rw [celX_int (by omega) (by omega)]
    have : hi (cpI σ o sp.toNatClampNeg q dp.toNatClampNeg n.toNatClampNeg) q.1 q.2 = va_cpy (hi σ o.1 o.2) (hi σ q.1 q.2) sp.toNatClampNeg dp.toNatClampNeg n.toNatClampNeg := by
      funext j
      simp [hi, cpI, va_cpy]
    rw [this]
    rfl
  have hnw := natW
  refine va_copyi (ty := .int) hx hb (hml.trans hL.1.symm) hown (hts _ hw) (hts _ (tm_2 _ (List.mem_of_getElem? (i := 143) rfl) rfl)) (hts _ (tm_2 _ (List.mem_of_getElem? (i := 142) rfl) rfl)) (hts _ (tm_1 _ (List.mem_of_getElem? (i := 15) rfl) rfl)) (kA2 h6 k7 k8) h4 h5 hS q0 q1 0 1 hw0 hw1 rfl rfl rfl k1 k2 k3 k4 k5 (fun _ _ => rfl) (by omega) (by rw [catS_ok]; omega) hd fun H1 locs1 g1 g2 g3 => ?_
  rw [← ec] at g1 g2
  exact h _ (cx_off C hoff (by omega) (XRep.upd h1 h2 h3 h6 h7 h8 h9 hlq hoff (fun k r z => h9 _ _ k r z) hq1 g1 g2) g3) (hL.off hoff) (okS hoff (okt (okt (okt (okt (okt hst))))))
theorem r_copyR {d rc rs y pc : Nat} {ls st : List XV} {σ : XH} {Q : XV → XH → Prop} {o q : XO} {sp dp n : Int32} {idx : Nat} (hd : decode (mC y) pc = .ok (.invokestatic idx, 3)) (hw : Cond.methodLink (mY y).cls idx arraycopyName ∈ lwA) (ho : 410 ≤ o.1 ∧ o.1 < 500) (hq : 410 ≤ q.1 ∧ q.1 < 500) (k1 : ¬ sp < 0) (k2 : ¬ dp < 0) (k3 : ¬ n < 0) (k4 : sp.toNatClampNeg + n.toNatClampNeg ≤ hn σ o.1 o.2) (k5 : dp.toNatClampNeg + n.toNatClampNeg ≤ hn σ q.1 q.2) (k6 : ∀ i, i < n.toNatClampNeg → ∀ z, hr σ o.1 o.2 (sp.toNatClampNeg + i) = some z → z.1 < 13) (hdd : 1 ≤ d) (hcat : catS st ≤ 8)
    (h : Ex d rc rs y (pc + 3) ls st (cpR σ o sp.toNatClampNeg q dp.toNatClampNeg n.toNatClampNeg) Q) : Ex d rc rs y pc ls (vI n :: vI dp :: vR (some q) :: vI sp :: vR (some o) :: st) σ Q := by
  intro p l e R s m args below meth c H locs cells slots D n0 σ0 L0 ad0 L ad lsR C hL hst
  have hx := C.1.1
  have hb := C.1.2.1
  obtain ⟨⟨-, -, -, hml, hown, -, -, hts⟩, ⟨r1, r2, -, -⟩, hP, hZ, -, hS, -⟩ := id C
  have hlo := live_dyn hP (okh (okt (okt (okt (okt hst)))) o rfl) (by omega)
  have hlq := live_dyn hP (okh (okt (okt hst)) q rfl) (by omega)
  have hP2 := hP
  obtain ⟨cy, h1, h2, h3, h4, h5, h6, h7, h8, h9⟩ := hP
  obtain ⟨q0, hq0, hw0⟩ := wsX_at (ad := ad) (cy := cy) (σ := σ) ((h1 o).mpr hlo)
  obtain ⟨q1, hq1, hw1⟩ := wsX_at (ad := ad) (cy := cy) (σ := σ) ((h1 q).mpr hlq)
  rw [celX_ref (by omega)] at hw0 hw1
  have k7 := h7 o ((h1 o).mpr hlo) (by omega)
  have k8 := h7 q ((h1 q).mpr hlq) (by omega)
  have et : tyA o.1 = .object "java/lang/Object" := by unfold tyA; rw [if_neg (by omega), if_neg (by omega), if_neg (by omega), if_neg (by omega)]
  have eu : tyA q.1 = .object "java/lang/Object" := by unfold tyA; rw [if_neg (by omega), if_neg (by omega), if_neg (by omega), if_neg (by omega)]
  rw [et] at k7
  rw [eu] at k8
  have hoff := offO_cpR σ o q sp.toNatClampNeg dp.toNatClampNeg n.toNatClampNeg
  have ec : celX ad cy (cpR σ o sp.toNatClampNeg q dp.toNatClampNeg n.toNatClampNeg) q = .inl (cy q, hn σ q.1 q.2, .inr (.inr (.inr (.inr (va_cpy (fun k => (hr σ o.1 o.2 k).map ad) (fun k => (hr σ q.1 q.2 k).map ad) sp.toNatClampNeg dp.toNatClampNeg n.toNatClampNeg))))) := by
    rw [celX_ref (by omega)]
    have : (fun k => (hr (cpR σ o sp.toNatClampNeg q dp.toNatClampNeg n.toNatClampNeg) q.1 q.2 k).map ad) = va_cpy (fun k => (hr σ o.1 o.2 k).map ad) (fun k => (hr σ q.1 q.2 k).map ad) sp.toNatClampNeg dp.toNatClampNeg n.toNatClampNeg := by
      funext j
      simp only [hr, cpR, va_cpy, true_and]
      split <;> rfl
    rw [this]
    rfl
  have hnw := natW
  refine va_copyM (E0 := "java/lang/Object") (E1 := "java/lang/Object") hx hb (hml.trans hL.1.symm) hown (hts _ hw) (hts _ (tm_2 _ (List.mem_of_getElem? (i := 143) rfl) rfl)) (hts _ (tm_2 _ (List.mem_of_getElem? (i := 142) rfl) rfl)) (hts _ (tm_1 _ (List.mem_of_getElem? (i := 15) rfl) rfl)) (kA2 h6 k7 k8) h4 h5 hS q0 q1 0 1 hw0 hw1 rfl rfl k1 k2 k3 k4 k5 (fun i hi z hz => ?_) (by omega) (by rw [catS_ok]; omega) hd fun H1 locs1 g1 g2 g3 => ?_
  · cases hk : hr σ o.1 o.2 (sp.toNatClampNeg + i) with
    | none => rw [hk] at hz; cases hz
    | some w =>
      rw [hk] at hz
      cases hz
      have hw13 := k6 i hi w hk
      have hlw := live_dyn hP2 (h9 _ _ _ _ hk) (by omega)
      obtain ⟨q2, hq2, hw2⟩ := wsX_at (ad := ad) (cy := cy) (σ := σ) ((h1 w).mpr hlw)
      rw [show w = (w.1, w.2) from rfl, celX_obj hw13] at hw2
      have hcl : vwCl[w.1]? = some (vwCl[w.1]'hw13) := List.getElem?_eq_getElem hw13
      refine va_rAny h6 h4 hw2 hcl fun comp c0 e1 e2 => ?_
      have hca := castO hts hcl
      unfold va_Nw at hca
      obtain ⟨c1, t1, f1, f2, f3⟩ := Cond.castable_spec hca
      cases e1.symm.trans f2
      cases e2.symm.trans f1
      exact f3
  · rw [← ec] at g1 g2
    refine h _ (cx_off C hoff (by omega) (XRep.upd h1 h2 h3 h6 h7 h8 h9 hlq hoff (fun k r z => ?_) hq1 g1 g2) g3) (hL.off hoff) (okS hoff (okt (okt (okt (okt (okt hst))))))
    simp only [hr, cpR] at z
    split at z
    · exact h9 _ _ _ _ z
    · exact h9 _ _ _ _ z
theorem r_getC {d rc rs y pc : Nat} {ls st : List XV} {σ : XH} {Q : XV → XH → Prop} {o : XO} {idx : Nat} (hd : decode (mC y) pc = .ok (.invokevirtual idx, 3)) (hw : Cond.methodLink (mY y).cls idx ⟨"java/lang/Object", "getClass", "()Ljava/lang/Class;"⟩ ∈ lwA) (ho : 410 ≤ o.1 ∧ o.1 < 500) (hdd : 1 ≤ d) (hcat : catS st ≤ 8) (h : Ex d rc rs y (pc + 3) ls (vR (some (511, 0)) :: st) σ Q) : Ex d rc rs y pc ls (vR (some o) :: st) σ Q := by
  intro p l e R s m args below meth c H locs cells slots D n0 σ0 L0 ad0 L ad lsR C hL hst
  have hx := C.1.1
  have hb := C.1.2.1
  obtain ⟨⟨-, -, -, hml, hown, -, -, hts⟩, ⟨r1, r2, -, -⟩, hP, hZ, -, hS, -⟩ := id C
  have hlo := live_dyn hP (okh hst o rfl) (by omega)
  obtain ⟨cy, h1, h2, h3, h4, h5, h6, h7, h8, h9⟩ := hP
  obtain ⟨q0, hq0, hw0⟩ := wsX_at (ad := ad) (cy := cy) (σ := σ) ((h1 o).mpr hlo)
  rw [celX_ref (by omega)] at hw0
  have k7 := h7 o ((h1 o).mpr hlo) (by omega)
  have et : tyA o.1 = .object "java/lang/Object" := by unfold tyA; rw [if_neg (by omega), if_neg (by omega), if_neg (by omega), if_neg (by omega)]
  rw [et] at k7
  obtain ⟨kAr, comp, f1, f2, f3, f4⟩ := k7.2
  have hcell : H[ad o]? = some (vp_cell (cy o) (hn σ o.1 o.2, .inr (.inr (.inr (.inr fun k => (hr σ o.1 o.2 k).map ad))))) := h4 q0 _ hw0
  exact va_getC hx hb (hml.trans hL.1.symm) hown (hts _ hw) (hts _ (nm_A _ (List.mem_of_getElem? (i := 26) rfl))) (hts _ (tm_8 _ (List.mem_of_getElem? (i := 158) rfl) rfl)) (hts _ (tm_2 _ (List.mem_of_getElem? (i := 116) rfl) rfl)) (hts _ (tm_2 _ (List.mem_of_getElem? (i := 131) rfl) rfl)) hZ.2.2.2.2.2.2.2.1 ⟨_, hcell, rfl, f4⟩ (by omega) (by rw [catS_ok]; omega) hd (h _ C hL (ok1 (XVok_o (Or.inr (by decide))) (okt hst)))

