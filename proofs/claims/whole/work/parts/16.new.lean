/-! ===== new objects and arrays; other rules ===== -/
def adN (ad : XO → Nat) (o : XO) (q : Nat) : XO → Nat := fun x => if x = o then q else ad x
def cyN (cy : XO → ClassId) (o : XO) (q : ClassId) : XO → ClassId := fun x => if x = o then q else cy x
theorem st_ext {σ0 σ : XH} {L0 L : List XO} {a0 a : XO → Nat} (h : XExt σ0 L0 a0 σ L a) (hL : ∀ o, o ∈ L0 ↔ o.2 < hc σ0 o.1) {st : List XV} (hst : ∀ v ∈ st, XVok σ0 v) : st.map (trv a) = st.map (trv a0) := List.map_congr_left fun v hv => h.tr hL (hst v hv)
theorem XRep.grow {D : va_G} {n0 : Nat} {L : List XO} {ad : XO → Nat} {σ σ' : XH} {U : State} {H1 : Heap} {o : XO} {q : Nat} {cy : XO → ClassId} {cyo : ClassId}
    (h1 : ∀ o, o ∈ L ↔ o.2 < hc σ o.1) (h2 : L.Nodup) (h3 : ∀ s, 500 ≤ s → hc σ s = 0) (h6 : va_K D vwCl [] U) (h7 : ∀ o ∈ L, 13 ≤ o.1 → ArrOfT U (cy o) (tyA o.1) ∧ va_RA U (cy o) (tyA o.1))
    (h8 : ∀ s i k, s < 500 → hc σ s ≤ i → hi σ s i k = 0 ∧ hl σ s i k = 0 ∧ hr σ s i k = none) (h9 : ∀ s i k r, hr σ s i k = some r → XLive σ r)
    (ho : o.2 = hc σ o.1) (h500 : o.1 < 500) (ec : ∀ t, hc σ' t = if t = o.1 then hc σ o.1 + 1 else hc σ t) (en : ∀ s i, (s, i) ≠ o → hn σ' s i = hn σ s i) (ei : hi σ' = hi σ) (el : hl σ' = hl σ) (er : hr σ' = hr σ) (harr : 13 ≤ o.1 → ArrOfT U cyo (tyA o.1) ∧ va_RA U cyo (tyA o.1))
    (hP1 : va_P D vwCl (wsX L ad cy σ ++ [(q, celX (adN ad o q) (cyN cy o cyo) σ' o)]) H1) (hD1 : va_D (fun q => n0 ≤ q) (wsX L ad cy σ ++ [(q, celX (adN ad o q) (cyN cy o cyo) σ' o)])) :
    XRep D n0 (L ++ [o]) (adN ad o q) σ' U H1 ∧ XExt σ L ad σ' (L ++ [o]) (adN ad o q) := by
  have hno : ∀ x, XLive σ x → x ≠ o := fun x hx z => by
    subst z
    rcases hx with w | w <;> omega
  have hnL : ∀ x ∈ L, x ≠ o := fun x hx => hno x (Or.inl ((h1 x).mp hx))
  have hmap : ∀ s i k, (hr σ s i k).map (adN ad o q) = (hr σ s i k).map ad := fun s i k => by
    cases hk : hr σ s i k with
    | none => rfl
    | some r =>
      have := hno r (h9 s i k r hk)
      simp [adN, this]
  have hcel : ∀ x ∈ L, celX (adN ad o q) (cyN cy o cyo) σ' x = celX ad cy σ x := fun x hx => by
    have hne := hnL x hx
    unfold celX flds fvX
    simp only [ei, el, er, hmap, en x.1 x.2 hne, cyN, if_neg hne]
  have hws : wsX (L ++ [o]) (adN ad o q) (cyN cy o cyo) σ' = wsX L ad cy σ ++ [(q, celX (adN ad o q) (cyN cy o cyo) σ' o)] := by
    unfold wsX
    rw [List.map_append]
    congr 1
    · refine List.map_congr_left fun x hx => ?_
      rw [hcel x hx]
      simp [adN, hnL x hx]
    · simp [adN]
  rw [← hws] at hP1 hD1
  have hle : ∀ t, hc σ t ≤ hc σ' t := fun t => by
    rw [ec]
    split
    · rename_i z
      rw [z]
      omega
    · exact Nat.le_refl _
  have hlive : ∀ r, XLive σ r → XLive σ' r := fun r hr => by
    rcases hr with w | w
    · exact Or.inl (Nat.lt_of_lt_of_le w (hle _))
    · exact Or.inr w
  refine ⟨⟨cyN cy o cyo, fun x => ?_, ?_, fun s hs => ?_, hP1, hD1, h6, fun x hx h13 => ?_, fun s i k hs hle2 => ?_, fun s i k r hk => ?_⟩, ⟨fun x hx => ⟨List.mem_append_left _ hx, by simp [adN, hnL x hx]⟩, fun x hx => ?_, fun s hs => ⟨funext fun i => en s i ?_, by rw [ei], by rw [er]⟩, hle⟩⟩
  · rw [List.mem_append, h1 x, List.mem_singleton, ec]
    constructor
    · rintro (w | w)
      · split
        · rename_i z
          rw [z] at w
          omega
        · exact w
      · subst w
        rw [if_pos rfl]
        omega
    · intro w
      by_cases z : x.1 = o.1
      · rw [if_pos z] at w
        by_cases z2 : x.2 = o.2
        · exact Or.inr (Prod.ext z z2)
        · left
          rw [z]
          omega
      · rw [if_neg z] at w
        exact Or.inl w
  · refine List.nodup_append.mpr ⟨h2, List.nodup_cons.mpr ⟨List.not_mem_nil, List.nodup_nil⟩, fun a ha b hb z => ?_⟩
    rw [List.mem_singleton] at hb
    subst hb
    exact hnL a ha z
  · rw [ec, if_neg (by omega)]
    exact h3 s hs
  · by_cases z : x = o
    · subst z
      simp only [cyN, if_true]
      exact harr h13
    · simp only [cyN, if_neg z]
      refine h7 x ?_ h13
      rcases List.mem_append.mp hx with w | w
      · exact w
      · exact absurd (List.mem_singleton.mp w) z
  · rw [ei, el, er]
    exact h8 s i k hs (Nat.le_trans (hle s) hle2)
  · rw [er] at hk
    exact hlive r (h9 s i k r hk)
  · have : x ≠ o := fun z => by
      subst z
      omega
    simp [adN, this]
  · intro z
    subst z
    dsimp only at h500
    omega
theorem cx_grow {d rc rs rc' rs' y : Nat} {p : Program} {R : Room} {s : State} {m : MethodId} {args : Array Value} {meth : Method} {c : Code} {H H1 : Heap} {locs locs1 : List Loc} {cells slots cells' slots' : Nat} {D : va_G} {n0 : Nat} {σ0 σ σ' : XH} {L0 L L' : List XO} {ad0 ad ad' : XO → Nat}
    (C : XCx d rc rs y p R s m args meth c H locs cells slots D n0 σ0 L0 ad0 σ L ad) (hE : XExt σ L ad σ' L' ad') (hP : XRep D n0 L' ad' σ' s H1) (hS : va_S (fun q => n0 ≤ q) s.heap H1 locs1) (hc1 : cells' + rc' ≤ cells + rc) (hs1 : slots' + rs' ≤ slots + rs) : XCx d rc' rs' y p R s m args meth c H1 locs1 cells' slots' D n0 σ0 L0 ad0 σ' L' ad' := by
  obtain ⟨C1, ⟨r1, r2, r3, r4⟩, -, C4, C5, -, C7⟩ := C
  exact ⟨C1, ⟨r1, r2, by omega, by omega⟩, hP, C4.ext hE, C5, hS, C7.trans hE⟩
theorem fvX_zero {ad : XO → Nat} {σ : XH} {s i k : Nat} (h : hi σ s i k = 0 ∧ hl σ s i k = 0 ∧ hr σ s i k = none) {ty : FieldType} (ht : tyK ty (ftc s k) = true) : fvX ad σ s i k = defaultValue ty := by
  obtain ⟨e1, e2, e3⟩ := h
  unfold fvX
  rw [e1, e2, e3]
  cases ty <;> simp [tyK] at ht <;> simp [ht, defaultValue, va_rf]
theorem r_new {d rc rs y pc : Nat} {ls st : List XV} {σ : XH} {Q : XV → XH → Prop} {ci idx : Nat} {r : vw_C} (hd : decode (mC y) pc = .ok (.new idx, 3)) (hcl : vwCl[ci]? = some r) (hw1 : Cond.classLink (mY y).cls idx r.1 ∈ lwA) (hw2 : Cond.instantiable r.1 r.2.2 ∈ lwA) (hw3 : Cond.initialized r.1 ∈ lwA)
    (h : Ex d rc rs y (pc + 3) ls (vR (some (ci, hc σ ci)) :: st) (nwO σ ci) Q) : Ex d (rc + 1) (rs + r.2.2) y pc ls st σ Q := by
  intro p l e R s m args below meth c H locs cells slots D n0 σ0 L0 ad0 L ad lsR C hL hst
  have hx := C.1.1
  have hb := C.1.2.1
  obtain ⟨⟨-, -, -, -, hown, -, -, hts⟩, ⟨-, -, r3, r4⟩, hP, -, hn0, hS, -⟩ := id C
  have h13 := cls_lt hcl
  obtain ⟨cy, h1, h2, h3, h4, h5, h6, h7, h8, h9⟩ := hP
  obtain ⟨ty0, kty, knm, kin, kN, kt⟩ := clOk_all hcl
  have hz : ∀ k, hi σ ci (hc σ ci) k = 0 ∧ hl σ ci (hc σ ci) k = 0 ∧ hr σ ci (hc σ ci) k = none := fun k => h8 ci _ k (by omega) (Nat.le_refl _)
  refine va_new (D := D) (cl := vwCl) (ws := wsX L ad cy σ) (C := r.1) (T := r.2.1) (N := r.2.2) (A := fun q => n0 ≤ q) (H0 := s.heap) (fs := flds ad σ ci (hc σ ci)) hx hb hts kin ty0 kty hown (hts _ hw1) (hts _ hw2) (hts _ hw3) h6 h4 h5 hS (fun q hq => Nat.le_trans hn0 hq) hcl (fun j hj => ?_) (by omega) (by omega) hd fun q H1 g1 g2 g3 => ?_
  · unfold vp_V
    rw [List.getD_eq_getElem?_getD, flds_at ad σ (by rw [← kN]; exact hj)]
    exact (fvX_zero (hz j) (kt j hj)).symm
  · have ecel : (Sum.inr (ci, flds ad σ ci (hc σ ci)) : va_E) = celX (adN ad (ci, hc σ ci) q) (cyN cy (ci, hc σ ci) 0) (nwO σ ci) (ci, hc σ ci) := by
      rw [celX_obj h13]
      congr 2
      unfold flds
      refine List.map_congr_left fun k _ => ?_
      have e3 := (hz k).2.2
      have e3' : hr (nwO σ ci) ci (hc σ ci) k = none := e3
      unfold fvX
      rw [e3, e3']
      rfl
    rw [ecel] at g1 g2
    obtain ⟨gR, gE⟩ := XRep.grow (σ' := nwO σ ci) (o := (ci, hc σ ci)) h1 h2 h3 h6 h7 h8 h9 rfl (by show ci < 500; omega) (fun _ => rfl) (fun _ _ _ => rfl) rfl rfl rfl (fun z => by
      have z2 : 13 ≤ ci := z
      omega) g1 g2
    have kk := h _ (l := l) (e := e) (below := below) (cx_grow C gE gR g3 (cells' := cells + 1) (slots' := slots + r.2.2) (rc' := rc) (rs' := rs) (by omega) (by omega)) (hL.ext gE h1) (ok1 (XVok_o (Or.inl (by
      show hc σ ci < hc (nwO σ ci) ci
      show hc σ ci < if ci = ci then hc σ ci + 1 else hc σ ci
      simp))) (fun v hv => gE.ok (hst v hv)))
    rw [List.map_cons, st_ext gE h1 hst] at kk
    have ea : trv (adN ad (ci, hc σ ci) q) (vR (some (ci, hc σ ci))) = .ref q := by
      show Value.ref (adN ad (ci, hc σ ci) q (ci, hc σ ci)) = .ref q
      simp [adN]
    rw [ea] at kk
    exact kk

theorem r_newI {d rc rs y pc : Nat} {ls st : List XV} {σ : XH} {Q : XV → XH → Prop} {a : Nat} {n : Int32} (hd : decode (mC y) pc = .ok (.newarray .int, 2)) (ha : 100 ≤ a ∧ a < 200) (hw : Cond.arrayClass .int ∈ lwA) (hn0' : ¬ n < 0) (hle : n.toNatClampNeg ≤ 100000)
    (h : Ex d rc rs y (pc + 2) ls (vR (some (a, hc σ a)) :: st) (nwA σ a n.toNatClampNeg) Q) : Ex d (rc + 1) (rs + n.toNatClampNeg) y pc ls (vI n :: st) σ Q := by
  intro p l e R s m args below meth c H locs cells slots D n0 σ0 L0 ad0 L ad lsR C hL hst
  have hx := C.1.1
  have hb := C.1.2.1
  obtain ⟨⟨-, -, -, -, hown, -, -, hts⟩, ⟨-, -, r3, r4⟩, hP, -, hn0, hS, -⟩ := id C
  obtain ⟨cy, h1, h2, h3, h4, h5, h6, h7, h8, h9⟩ := hP
  have et : tyA a = .int := by unfold tyA; rw [if_pos (by omega)]
  have hz : ∀ k, hi σ a (hc σ a) k = 0 := fun k => (h8 a _ k (by omega) (Nat.le_refl _)).1
  refine va_newa (atype := .int) (D := D) (cl := vwCl) (tys := []) (ws := wsX L ad cy σ) (A := fun q => n0 ≤ q) (H0 := s.heap) (a0 := (n.toNatClampNeg, .inl fun _ => 0)) hx hb (hts _ hw) (ty := .int) rfl h6 h4 h5 hS (fun q hq => Nat.le_trans hn0 hq) (fun cA => rfl) hn0' rfl (by
    show n.toNatClampNeg * 4 ≤ 536870912
    omega) (by omega) (by omega) hd fun q cA H1 gK g1 g2 g3 => ?_
  have ecel : (Sum.inl (cA, n.toNatClampNeg, Sum.inl fun _ => 0) : va_E) = celX (adN ad (a, hc σ a) q) (cyN cy (a, hc σ a) cA) (nwA σ a n.toNatClampNeg) (a, hc σ a) := by
    rw [celX_int (by show 13 ≤ a; omega) (by show a < 400; omega)]
    have e1 : cyN cy (a, hc σ a) cA (a, hc σ a) = cA := by simp [cyN]
    have e2 : hn (nwA σ a n.toNatClampNeg) a (hc σ a) = n.toNatClampNeg := by simp [hn, nwA, hc]
    have e3 : hi (nwA σ a n.toNatClampNeg) a (hc σ a) = fun _ => 0 := funext hz
    rw [e1]
    dsimp only
    rw [e2, e3]
  rw [ecel] at g1 g2
  obtain ⟨gR, gE⟩ := XRep.grow (σ' := nwA σ a n.toNatClampNeg) (o := (a, hc σ a)) (cyo := cA) h1 h2 h3 h6 h7 h8 h9 rfl (by show a < 500; omega) (fun _ => rfl) (fun s2 i2 hne => by
    show (if s2 = a ∧ i2 = σ.1 a then n.toNatClampNeg else σ.2.1 s2 i2) = σ.2.1 s2 i2
    rw [if_neg]
    rintro ⟨rfl, rfl⟩
    exact hne rfl) rfl rfl rfl (fun _ => by
    show ArrOfT s cA (tyA a) ∧ va_RA s cA (tyA a)
    rw [et]
    exact gK.2 0 _ rfl) g1 g2
  have kk := h _ (l := l) (e := e) (below := below) (cx_grow C gE gR g3 (cells' := cells + 1) (slots' := slots + n.toNatClampNeg) (rc' := rc) (rs' := rs) (by omega) (by omega)) (hL.ext gE h1) (ok1 (XVok_o (Or.inl (by
    show hc σ a < if a = a then hc σ a + 1 else hc σ a
    simp))) (fun v hv => gE.ok (okt hst v hv)))
  rw [List.map_cons, st_ext gE h1 (okt hst)] at kk
  have ea : trv (adN ad (a, hc σ a) q) (vR (some (a, hc σ a))) = .ref q := by
    show Value.ref (adN ad (a, hc σ a) q (a, hc σ a)) = .ref q
    simp [adN]
  rw [ea] at kk
  exact kk
theorem r_newB {d rc rs y pc : Nat} {ls st : List XV} {σ : XH} {Q : XV → XH → Prop} {a : Nat} {n : Int32} (hd : decode (mC y) pc = .ok (.newarray .byte, 2)) (ha : 200 ≤ a ∧ a < 300) (hw : Cond.arrayClass .byte ∈ lwA) (hn0' : ¬ n < 0) (hle : n.toNatClampNeg ≤ 100000)
    (h : Ex d rc rs y (pc + 2) ls (vR (some (a, hc σ a)) :: st) (nwA σ a n.toNatClampNeg) Q) : Ex d (rc + 1) (rs + n.toNatClampNeg) y pc ls (vI n :: st) σ Q := by
  intro p l e R s m args below meth c H locs cells slots D n0 σ0 L0 ad0 L ad lsR C hL hst
  have hx := C.1.1
  have hb := C.1.2.1
  obtain ⟨⟨-, -, -, -, hown, -, -, hts⟩, ⟨-, -, r3, r4⟩, hP, -, hn0, hS, -⟩ := id C
  obtain ⟨cy, h1, h2, h3, h4, h5, h6, h7, h8, h9⟩ := hP
  have et : tyA a = .byte := by unfold tyA; rw [if_neg (by omega), if_pos (by omega)]
  have hz : ∀ k, hi σ a (hc σ a) k = 0 := fun k => (h8 a _ k (by omega) (Nat.le_refl _)).1
  refine va_newa (atype := .byte) (D := D) (cl := vwCl) (tys := []) (ws := wsX L ad cy σ) (A := fun q => n0 ≤ q) (H0 := s.heap) (a0 := (n.toNatClampNeg, .inl fun _ => 0)) hx hb (hts _ hw) (ty := .byte) rfl h6 h4 h5 hS (fun q hq => Nat.le_trans hn0 hq) (fun cA => rfl) hn0' rfl (by
    show n.toNatClampNeg * 1 ≤ 536870912
    omega) (by omega) (by omega) hd fun q cA H1 gK g1 g2 g3 => ?_
  have ecel : (Sum.inl (cA, n.toNatClampNeg, Sum.inl fun _ => 0) : va_E) = celX (adN ad (a, hc σ a) q) (cyN cy (a, hc σ a) cA) (nwA σ a n.toNatClampNeg) (a, hc σ a) := by
    rw [celX_int (by show 13 ≤ a; omega) (by show a < 400; omega)]
    have e1 : cyN cy (a, hc σ a) cA (a, hc σ a) = cA := by simp [cyN]
    have e2 : hn (nwA σ a n.toNatClampNeg) a (hc σ a) = n.toNatClampNeg := by simp [hn, nwA, hc]
    have e3 : hi (nwA σ a n.toNatClampNeg) a (hc σ a) = fun _ => 0 := funext hz
    rw [e1]
    dsimp only
    rw [e2, e3]
  rw [ecel] at g1 g2
  obtain ⟨gR, gE⟩ := XRep.grow (σ' := nwA σ a n.toNatClampNeg) (o := (a, hc σ a)) (cyo := cA) h1 h2 h3 h6 h7 h8 h9 rfl (by show a < 500; omega) (fun _ => rfl) (fun s2 i2 hne => by
    show (if s2 = a ∧ i2 = σ.1 a then n.toNatClampNeg else σ.2.1 s2 i2) = σ.2.1 s2 i2
    rw [if_neg]
    rintro ⟨rfl, rfl⟩
    exact hne rfl) rfl rfl rfl (fun _ => by
    show ArrOfT s cA (tyA a) ∧ va_RA s cA (tyA a)
    rw [et]
    exact gK.2 0 _ rfl) g1 g2
  have kk := h _ (l := l) (e := e) (below := below) (cx_grow C gE gR g3 (cells' := cells + 1) (slots' := slots + n.toNatClampNeg) (rc' := rc) (rs' := rs) (by omega) (by omega)) (hL.ext gE h1) (ok1 (XVok_o (Or.inl (by
    show hc σ a < if a = a then hc σ a + 1 else hc σ a
    simp))) (fun v hv => gE.ok (okt hst v hv)))
  rw [List.map_cons, st_ext gE h1 (okt hst)] at kk
  have ea : trv (adN ad (a, hc σ a) q) (vR (some (a, hc σ a))) = .ref q := by
    show Value.ref (adN ad (a, hc σ a) q (a, hc σ a)) = .ref q
    simp [adN]
  rw [ea] at kk
  exact kk
theorem r_newZ {d rc rs y pc : Nat} {ls st : List XV} {σ : XH} {Q : XV → XH → Prop} {a : Nat} {n : Int32} (hd : decode (mC y) pc = .ok (.newarray .boolean, 2)) (ha : 300 ≤ a ∧ a < 400) (hw : Cond.arrayClass .boolean ∈ lwA) (hn0' : ¬ n < 0) (hle : n.toNatClampNeg ≤ 100000)
    (h : Ex d rc rs y (pc + 2) ls (vR (some (a, hc σ a)) :: st) (nwA σ a n.toNatClampNeg) Q) : Ex d (rc + 1) (rs + n.toNatClampNeg) y pc ls (vI n :: st) σ Q := by
  intro p l e R s m args below meth c H locs cells slots D n0 σ0 L0 ad0 L ad lsR C hL hst
  have hx := C.1.1
  have hb := C.1.2.1
  obtain ⟨⟨-, -, -, -, hown, -, -, hts⟩, ⟨-, -, r3, r4⟩, hP, -, hn0, hS, -⟩ := id C
  obtain ⟨cy, h1, h2, h3, h4, h5, h6, h7, h8, h9⟩ := hP
  have et : tyA a = .boolean := by unfold tyA; rw [if_neg (by omega), if_neg (by omega), if_pos (by omega)]
  have hz : ∀ k, hi σ a (hc σ a) k = 0 := fun k => (h8 a _ k (by omega) (Nat.le_refl _)).1
  refine va_newa (atype := .boolean) (D := D) (cl := vwCl) (tys := []) (ws := wsX L ad cy σ) (A := fun q => n0 ≤ q) (H0 := s.heap) (a0 := (n.toNatClampNeg, .inl fun _ => 0)) hx hb (hts _ hw) (ty := .boolean) rfl h6 h4 h5 hS (fun q hq => Nat.le_trans hn0 hq) (fun cA => rfl) hn0' rfl (by
    show n.toNatClampNeg * 1 ≤ 536870912
    omega) (by omega) (by omega) hd fun q cA H1 gK g1 g2 g3 => ?_
  have ecel : (Sum.inl (cA, n.toNatClampNeg, Sum.inl fun _ => 0) : va_E) = celX (adN ad (a, hc σ a) q) (cyN cy (a, hc σ a) cA) (nwA σ a n.toNatClampNeg) (a, hc σ a) := by
    rw [celX_int (by show 13 ≤ a; omega) (by show a < 400; omega)]
    have e1 : cyN cy (a, hc σ a) cA (a, hc σ a) = cA := by simp [cyN]
    have e2 : hn (nwA σ a n.toNatClampNeg) a (hc σ a) = n.toNatClampNeg := by simp [hn, nwA, hc]
    have e3 : hi (nwA σ a n.toNatClampNeg) a (hc σ a) = fun _ => 0 := funext hz
    rw [e1]
    dsimp only
    rw [e2, e3]
  rw [ecel] at g1 g2
  obtain ⟨gR, gE⟩ := XRep.grow (σ' := nwA σ a n.toNatClampNeg) (o := (a, hc σ a)) (cyo := cA) h1 h2 h3 h6 h7 h8 h9 rfl (by show a < 500; omega) (fun _ => rfl) (fun s2 i2 hne => by
    show (if s2 = a ∧ i2 = σ.1 a then n.toNatClampNeg else σ.2.1 s2 i2) = σ.2.1 s2 i2
    rw [if_neg]
    rintro ⟨rfl, rfl⟩
    exact hne rfl) rfl rfl rfl (fun _ => by
    show ArrOfT s cA (tyA a) ∧ va_RA s cA (tyA a)
    rw [et]
    exact gK.2 0 _ rfl) g1 g2
  have kk := h _ (l := l) (e := e) (below := below) (cx_grow C gE gR g3 (cells' := cells + 1) (slots' := slots + n.toNatClampNeg) (rc' := rc) (rs' := rs) (by omega) (by omega)) (hL.ext gE h1) (ok1 (XVok_o (Or.inl (by
    show hc σ a < if a = a then hc σ a + 1 else hc σ a
    simp))) (fun v hv => gE.ok (okt hst v hv)))
  rw [List.map_cons, st_ext gE h1 (okt hst)] at kk
  have ea : trv (adN ad (a, hc σ a) q) (vR (some (a, hc σ a))) = .ref q := by
    show Value.ref (adN ad (a, hc σ a) q (a, hc σ a)) = .ref q
    simp [adN]
  rw [ea] at kk
  exact kk
theorem r_anew {d rc rs y pc : Nat} {ls st : List XV} {σ : XH} {Q : XV → XH → Prop} {a idx : Nat} {n : Int32} {C0 : String} (hd : decode (mC y) pc = .ok (.anewarray idx, 3)) (ha : 400 ≤ a ∧ a < 500) (et : tyA a = .object C0) (hw1 : Cond.classLink (mY y).cls idx C0 ∈ lwA) (hw2 : Cond.arrayOver (.object C0) ∈ lwA) (hn0' : ¬ n < 0) (hle : n.toNatClampNeg ≤ 100000)
    (h : Ex d rc rs y (pc + 3) ls (vR (some (a, hc σ a)) :: st) (nwA σ a n.toNatClampNeg) Q) : Ex d (rc + 1) (rs + n.toNatClampNeg) y pc ls (vI n :: st) σ Q := by
  intro p l e R s m args below meth c H locs cells slots D n0 σ0 L0 ad0 L ad lsR C hL hst
  have hx := C.1.1
  have hb := C.1.2.1
  obtain ⟨⟨-, -, -, -, hown, -, -, hts⟩, ⟨-, -, r3, r4⟩, hP, -, hn0, hS, -⟩ := id C
  obtain ⟨cy, h1, h2, h3, h4, h5, h6, h7, h8, h9⟩ := hP
  have hz : ∀ k, hr σ a (hc σ a) k = none := fun k => (h8 a _ k (by omega) (Nat.le_refl _)).2.2
  refine va_newq (D := D) (cl := vwCl) (tys := []) (ws := wsX L ad cy σ) (A := fun q => n0 ≤ q) (H0 := s.heap) hx hb hown (hts _ hw1) (va_AO.of (hts _ hw2)) h6 h4 h5 hS (fun q hq => Nat.le_trans hn0 hq) hn0' rfl (by omega) (by omega) (by omega) hd fun q cA H1 gK g1 g2 g3 => ?_
  have ecel : (Sum.inl (cA, n.toNatClampNeg, Sum.inr (Sum.inr (Sum.inr (Sum.inr fun _ => none)))) : va_E) = celX (adN ad (a, hc σ a) q) (cyN cy (a, hc σ a) cA) (nwA σ a n.toNatClampNeg) (a, hc σ a) := by
    rw [celX_ref (by show 400 ≤ a; omega)]
    have e1 : cyN cy (a, hc σ a) cA (a, hc σ a) = cA := by simp [cyN]
    have e2 : hn (nwA σ a n.toNatClampNeg) a (hc σ a) = n.toNatClampNeg := by simp [hn, nwA, hc]
    have e3 : hr (nwA σ a n.toNatClampNeg) a (hc σ a) = fun _ => none := funext hz
    rw [e1]
    dsimp only
    rw [e2, e3]
    rfl
  rw [ecel] at g1 g2
  obtain ⟨gR, gE⟩ := XRep.grow (σ' := nwA σ a n.toNatClampNeg) (o := (a, hc σ a)) (cyo := cA) h1 h2 h3 h6 h7 h8 h9 rfl (by show a < 500; omega) (fun _ => rfl) (fun s2 i2 hne => by
    show (if s2 = a ∧ i2 = σ.1 a then n.toNatClampNeg else σ.2.1 s2 i2) = σ.2.1 s2 i2
    rw [if_neg]
    rintro ⟨rfl, rfl⟩
    exact hne rfl) rfl rfl rfl (fun _ => by
    show ArrOfT s cA (tyA a) ∧ va_RA s cA (tyA a)
    rw [et]
    exact gK.2 0 _ rfl) g1 g2
  have kk := h _ (l := l) (e := e) (below := below) (cx_grow C gE gR g3 (cells' := cells + 1) (slots' := slots + n.toNatClampNeg) (rc' := rc) (rs' := rs) (by omega) (by omega)) (hL.ext gE h1) (ok1 (XVok_o (Or.inl (by
    show hc σ a < if a = a then hc σ a + 1 else hc σ a
    simp))) (fun v hv => gE.ok (okt hst v hv)))
  rw [List.map_cons, st_ext gE h1 (okt hst)] at kk
  have ea : trv (adN ad (a, hc σ a) q) (vR (some (a, hc σ a))) = .ref q := by
    show Value.ref (adN ad (a, hc σ a) q (a, hc σ a)) = .ref q
    simp [adN]
  rw [ea] at kk
  exact kk
theorem r_cast {d rc rs y pc : Nat} {ls st : List XV} {σ : XH} {Q : XV → XH → Prop} {ci i idx : Nat} {r : vw_C} (hd : decode (mC y) pc = .ok (.checkcast idx, 3)) (hcl : vwCl[ci]? = some r) (hw : Cond.classLink (mY y).cls idx r.1 ∈ lwA) (h : Ex d rc rs y (pc + 3) ls (vR (some (ci, i)) :: st) σ Q) : Ex d rc rs y pc ls (vR (some (ci, i)) :: st) σ Q := by
  intro p l e R s m args below meth c H locs cells slots D n0 σ0 L0 ad0 L ad lsR C hL hst
  have hx := C.1.1
  have hb := C.1.2.1
  obtain ⟨⟨-, -, -, -, hown, -, -, hts⟩, -, hP, -, -, hS, -⟩ := id C
  have h13 := cls_lt hcl
  have hlv := live_dyn hP (okh hst (ci, i) rfl) (by show ci < 500; omega)
  obtain ⟨cy, h1, h2, h3, h4, -, h6, h7, h8, h9⟩ := hP
  obtain ⟨q0, hq, hw2⟩ := wsX_at (ad := ad) (cy := cy) (σ := σ) ((h1 (ci, i)).mpr hlv)
  rw [celX_obj h13] at hw2
  exact va_castS hx hb hown (hts _ hw) (h6.1 ci r hcl).2 (va_recv h6 h4 hcl hw2) hd (h _ C hL hst)
theorem r_castN {d rc rs y pc : Nat} {ls st : List XV} {σ : XH} {Q : XV → XH → Prop} {idx : Nat} (hd : decode (mC y) pc = .ok (.checkcast idx, 3)) (h : Ex d rc rs y (pc + 3) ls (vR none :: st) σ Q) : Ex d rc rs y pc ls (vR none :: st) σ Q := by
  intro p l e R s m args below meth c H locs cells slots D n0 σ0 L0 ad0 L ad lsR C hL hst
  have hx := C.1.1
  have hb := C.1.2.1
  exact lv_castN hx hb hd (h _ C hL hst)
/-- the static arrays of the class, from itself and from its nest mates; ArrayList's empty one; two of the texts' -/
theorem r_getsA {d rc rs y pc : Nat} {ls st : List XV} {σ : XH} {Q : XV → XH → Prop} {idx : Nat} {nm : String} {q : Nat} (hd : decode (mC y) pc = .ok (.getstatic idx, 3)) (hq : q = 500 ∧ nm = "ABOVE" ∨ q = 501 ∧ nm = "BODIES") (hw : Cond.fieldLink (mY y).cls idx "SpotTimers" nm "[I" ∈ lwA ∨ Cond.fieldLinkNest (mY y).cls idx "SpotTimers" nm "[I" "SpotTimers" ∈ lwA)
    (h : Ex d rc rs y (pc + 3) ls (vR (some (q, 0)) :: st) σ Q) : Ex d rc rs y pc ls st σ Q := by
  intro p l e R s m args below meth c H locs cells slots D n0 σ0 L0 ad0 L ad lsR C hL hst
  have hx := C.1.1
  have hb := C.1.2.1
  obtain ⟨⟨-, -, -, -, hown, -, -, hts⟩, -, hP, hZ, -, hS, -⟩ := id C
  have kk := h _ (l := l) (e := e) (below := below) C hL (ok1 (XVok_o (Or.inr (by show 500 ≤ q; omega))) hst)
  have hz : va_Z "SpotTimers" nm "[I" (.ref (ad (q, 0))) (fun q => n0 ≤ q) s s.heap := by
    rcases hq with ⟨rfl, rfl⟩ | ⟨rfl, rfl⟩
    · exact hZ.2.2.1
    · exact hZ.2.2.2.1
  rcases hw with hw | hw
  · exact va_gets hx hb hz hS hown (hts _ hw) (fun _ z => z) hd kk
  · exact va_getsN hx hb hz hS hown (hts _ hw) (fun _ z => z) hd kk
theorem r_getsE {d rc rs y pc : Nat} {ls st : List XV} {σ : XH} {Q : XV → XH → Prop} {idx : Nat} (hd : decode (mC y) pc = .ok (.getstatic idx, 3)) (hw : Cond.fieldLink (mY y).cls idx "java/util/ArrayList" "DEFAULTCAPACITY_EMPTY_ELEMENTDATA" "[Ljava/lang/Object;" ∈ lwA) (h : Ex d rc rs y (pc + 3) ls (vR (some (510, 0)) :: st) σ Q) : Ex d rc rs y pc ls st σ Q := by
  intro p l e R s m args below meth c H locs cells slots D n0 σ0 L0 ad0 L ad lsR C hL hst
  have hx := C.1.1
  have hb := C.1.2.1
  obtain ⟨⟨-, -, -, -, hown, -, -, hts⟩, -, hP, hZ, -, hS, -⟩ := id C
  exact va_gets hx hb hZ.2.2.2.2.1 hS hown (hts _ hw) (fun _ z => z) hd (h _ C hL (ok1 (XVok_o (Or.inr (by decide))) hst))
theorem r_getsC {d rc rs y pc : Nat} {ls st : List XV} {σ : XH} {Q : XV → XH → Prop} {idx : Nat} (hd : decode (mC y) pc = .ok (.getstatic idx, 3)) (hw : Cond.fieldLink (mY y).cls idx "java/lang/String" "COMPACT_STRINGS" "Z" ∈ lwA) (h : Ex d rc rs y (pc + 3) ls (vI 1 :: st) σ Q) : Ex d rc rs y pc ls st σ Q := by
  intro p l e R s m args below meth c H locs cells slots D n0 σ0 L0 ad0 L ad lsR C hL hst
  have hx := C.1.1
  have hb := C.1.2.1
  obtain ⟨⟨-, -, -, -, hown, -, -, hts⟩, -, hP, hZ, -, hS, -⟩ := id C
  exact va_gets hx hb hZ.2.2.2.2.2.1 hS hown (hts _ hw) (fun _ z => z) hd (h _ C hL (ok1 (XVok_I _ _) hst))
theorem r_getsF {d rc rs y pc : Nat} {ls st : List XV} {σ : XH} {Q : XV → XH → Prop} {idx : Nat} (hd : decode (mC y) pc = .ok (.getstatic idx, 3)) (hw : Cond.fieldLink (mY y).cls idx "jdk/internal/util/Preconditions" "SIOOBE_FORMATTER" "Ljava/util/function/BiFunction;" ∈ lwA) (h : Ex d rc rs y (pc + 3) ls (vU :: st) σ Q) : Ex d rc rs y pc ls st σ Q := by
  intro p l e R s m args below meth c H locs cells slots D n0 σ0 L0 ad0 L ad lsR C hL hst
  have hx := C.1.1
  have hb := C.1.2.1
  obtain ⟨⟨-, -, -, -, hown, -, -, hts⟩, -, hP, hZ, -, hS, -⟩ := id C
  exact va_gets hx hb hZ.2.2.2.2.2.2.1 hS hown (hts _ hw) (fun _ z => z) hd (h _ C hL (ok1 (XVok_U _) hst))
theorem r_ldcS {d rc rs y pc : Nat} {ls st : List XV} {σ : XH} {Q : XV → XH → Prop} {k idx : Nat} {tx : String} (hd : decode (mC y) pc = .ok (.ldc idx, 2)) (hk : strT[k]? = some (idx, tx)) (hc : (mY y).cls = "SpotTimers$RuleReader") (h : Ex d rc rs y (pc + 2) ls (vR (some (512, k)) :: st) σ Q) : Ex d rc rs y pc ls st σ Q := by
  intro p l e R s m args below meth c H locs cells slots D n0 σ0 L0 ad0 L ad lsR C hL hst
  have hx := C.1.1
  have hb := C.1.2.1
  obtain ⟨⟨-, -, -, -, hown, -, -, hts⟩, -, hP, hZ, -, hS, -⟩ := id C
  rw [hc] at hown
  exact va_ldcS hx hb hown (hZ.2.2.2.2.2.2.2.2.2.1 k (idx, tx) hk) hd (h _ C hL (ok1 (XVok_o (Or.inr (by show 500 ≤ 512; omega))) hst))
theorem r_strV {d rc rs y pc : Nat} {ls st : List XV} {σ : XH} {Q : XV → XH → Prop} {k idx : Nat} (hd : decode (mC y) pc = .ok (.getfield idx, 3)) (hk : k < 12) (hw : Cond.fieldLink (mY y).cls idx "java/lang/String" "value" "[B" ∈ lwA) (h : Ex d rc rs y (pc + 3) ls (vR (some (513, k)) :: st) σ Q) : Ex d rc rs y pc ls (vR (some (512, k)) :: st) σ Q := by
  intro p l e R s m args below meth c H locs cells slots D n0 σ0 L0 ad0 L ad lsR C hL hst
  have hx := C.1.1
  have hb := C.1.2.1
  obtain ⟨⟨-, -, -, -, hown, -, -, hts⟩, -, hP, hZ, -, hS, -⟩ := id C
  exact vk_getf hx hb (hZ.2.2.2.2.2.2.2.2.1 k hk).2.2.1 hS hown (hts _ hw) (fun _ z => z) hd (h _ C hL (ok1 (XVok_o (Or.inr (by show 500 ≤ 513; omega))) (okt hst)))
theorem r_strC {d rc rs y pc : Nat} {ls st : List XV} {σ : XH} {Q : XV → XH → Prop} {k idx : Nat} (hd : decode (mC y) pc = .ok (.getfield idx, 3)) (hk : k < 12) (hw : Cond.fieldLink (mY y).cls idx "java/lang/String" "coder" "B" ∈ lwA) (h : Ex d rc rs y (pc + 3) ls (vI 0 :: st) σ Q) : Ex d rc rs y pc ls (vR (some (512, k)) :: st) σ Q := by
  intro p l e R s m args below meth c H locs cells slots D n0 σ0 L0 ad0 L ad lsR C hL hst
  have hx := C.1.1
  have hb := C.1.2.1
  obtain ⟨⟨-, -, -, -, hown, -, -, hts⟩, -, hP, hZ, -, hS, -⟩ := id C
  exact vk_getf hx hb (hZ.2.2.2.2.2.2.2.2.1 k hk).2.1 hS hown (hts _ hw) (fun _ z => z) hd (h _ C hL (ok1 (XVok_I _ _) (okt hst)))
theorem r_ldcM {d rc rs y pc : Nat} {ls st : List XV} {σ : XH} {Q : XV → XH → Prop} {idx : Nat} (hd : decode (mC y) pc = .ok (.ldc idx, 2)) (hw : Cond.classLink (mY y).cls idx "[Ljava/lang/Object;" ∈ lwA) (h : Ex d rc rs y (pc + 2) ls (vR (some (511, 0)) :: st) σ Q) : Ex d rc rs y pc ls st σ Q := by
  intro p l e R s m args below meth c H locs cells slots D n0 σ0 L0 ad0 L ad lsR C hL hst
  have hx := C.1.1
  have hb := C.1.2.1
  obtain ⟨⟨-, -, -, -, hown, -, -, hts⟩, -, hP, hZ, -, hS, -⟩ := id C
  exact va_ldcM hx hb hown (hts _ hw) hZ.2.2.2.2.2.2.2.1 hd (h _ C hL (ok1 (XVok_o (Or.inr (by decide))) hst))

