/-! ===== stores, returns, switches ===== -/
def lvl (ad : XO → Nat) (ls : List XV) : List (Nat × Value) := (List.range ls.length).filterMap fun k => match ls[k]? with
  | some v => if v = vU then none else some (k, trv ad v)
  | none => none
theorem lvl_mem {ad : XO → Nat} {ls : List XV} {k : Nat} {v : XV} (h : ls[k]? = some v) (hv : v ≠ vU) : (k, trv ad v) ∈ lvl ad ls := by
  unfold lvl
  refine List.mem_filterMap.mpr ⟨k, List.mem_range.mpr (List.getElem?_eq_some_iff.mp h).1, ?_⟩
  rw [h]
  simp [hv]
theorem lvl_has {ad : XO → Nat} {σ : XH} {lsR : Array Slot} {nL : Nat} {ls : List XV} (h : XLoc ad σ lsR nL ls) : lv_has lsR nL (lvl ad ls) := by
  refine ⟨h.1, h.2.1, fun q hq => ?_⟩
  unfold lvl at hq
  obtain ⟨k, -, hk⟩ := List.mem_filterMap.mp hq
  cases e : ls[k]? with
  | none => rw [e] at hk; cases hk
  | some v =>
    rw [e] at hk
    by_cases hv : v = vU
    · simp [hv] at hk
    · simp only [hv, if_false] at hk
      cases hk
      exact (h.2.2 k v e hv).1
def killL (ls : List XV) (i : Nat) : List XV := match i with
  | 0 => ls
  | j + 1 => match ls[j]? with
    | some (Sum.inr (Sum.inl _)) => ls.set j vU
    | _ => ls
theorem killL_at {ls : List XV} {i k : Nat} {v : XV} (h : (killL ls i)[k]? = some v) (hv : v ≠ vU) : ls[k]? = some v ∧ ¬ (k + 1 = i ∧ catX v = 2) := by
  match i with
  | 0 => exact ⟨h, fun q => by omega⟩
  | j + 1 =>
    unfold killL at h
    dsimp only at h
    split at h
    · rename_i x e
      by_cases hk : j = k
      · subst hk
        rw [List.getElem?_set] at h
        simp at h
        exact absurd h.2.symm hv
      · rw [List.getElem?_set_ne hk] at h
        exact ⟨h, fun q => hk (by omega)⟩
    · rename_i e
      refine ⟨h, fun q => ?_⟩
      have hk : k = j := by omega
      subst hk
      match v, q.2 with
      | Sum.inr (Sum.inl x), _ => exact e x h
def setX (ls : List XV) (i : Nat) (v : XV) : List XV := (killL ls i).set i v
def setX2 (ls : List XV) (i : Nat) (v : XV) : List XV := ((killL ls i).set i v).set (i + 1) vU
theorem XLoc.st1 {ad : XO → Nat} {σ : XH} {lsR ls' : Array Slot} {nL i : Nat} {ls : List XV} {v : XV} (h : XLoc ad σ lsR nL ls) (hv : XVok σ v)
    (k : lv_has ls' nL ((i, trv ad v) :: (lvl ad ls).filter (fun q => !(q.1 == i) && !(q.1 + 1 == i && q.2.category == 2)))) : XLoc ad σ ls' nL (setX ls i v) := by
  refine ⟨k.1, k.2.1, fun j w hj hw => ?_⟩
  unfold setX at hj
  by_cases e : i = j
  · subst e
    have hw2 : w = v := by
      rw [List.getElem?_set] at hj
      simp at hj
      exact hj.2.symm
    subst hw2
    exact ⟨k.2.2 _ List.mem_cons_self, hv⟩
  · rw [List.getElem?_set_ne e] at hj
    obtain ⟨h1, h2⟩ := killL_at hj hw
    refine ⟨k.2.2 (j, trv ad w) (List.mem_cons_of_mem _ (List.mem_filter.mpr ⟨lvl_mem h1 hw, ?_⟩)), (h.2.2 j w h1 hw).2⟩
    have e1 : ¬ j = i := fun q => e q.symm
    have e2 : ¬ (j + 1 = i ∧ (trv ad w).category = 2) := by rw [catX_ok]; exact h2
    simp [e1]
    exact Classical.not_and_iff_not_or_not.mp e2
theorem XLoc.st2 {ad : XO → Nat} {σ : XH} {lsR ls' : Array Slot} {nL i : Nat} {ls : List XV} {v : XV} (h : XLoc ad σ lsR nL ls) (hv : XVok σ v)
    (k : lv_has ls' nL ((i, trv ad v) :: (lvl ad ls).filter (fun q => !(q.1 == i) && (!(q.1 == i + 1) && !(q.1 + 1 == i && q.2.category == 2))))) : XLoc ad σ ls' nL (setX2 ls i v) := by
  refine ⟨k.1, k.2.1, fun j w hj hw => ?_⟩
  unfold setX2 at hj
  by_cases e3 : i + 1 = j
  · subst e3
    rw [List.getElem?_set] at hj
    simp at hj
    exact absurd hj.2.symm hw
  rw [List.getElem?_set_ne e3] at hj
  by_cases e : i = j
  · subst e
    have hw2 : w = v := by
      rw [List.getElem?_set] at hj
      simp at hj
      exact hj.2.symm
    subst hw2
    exact ⟨k.2.2 _ List.mem_cons_self, hv⟩
  · rw [List.getElem?_set_ne e] at hj
    obtain ⟨h1, h2⟩ := killL_at hj hw
    refine ⟨k.2.2 (j, trv ad w) (List.mem_cons_of_mem _ (List.mem_filter.mpr ⟨lvl_mem h1 hw, ?_⟩)), (h.2.2 j w h1 hw).2⟩
    have e1 : ¬ j = i := fun q => e q.symm
    have e4 : ¬ j = i + 1 := fun q => e3 q.symm
    have e2 : ¬ (j + 1 = i ∧ (trv ad w).category = 2) := by rw [catX_ok]; exact h2
    simp [e1, e4]
    exact Classical.not_and_iff_not_or_not.mp e2
theorem r_istore {d rc rs y pc : Nat} {ls st : List XV} {σ : XH} {Q : XV → XH → Prop} {i : Nat} {a : Int32} (hd : decode (mC y) pc = .ok (.istore i, 2)) (hi : i < mL y) (h : Ex d rc rs y (pc + 2) (setX ls i (vI a)) st σ Q) : Ex d rc rs y pc ls (vI a :: st) σ Q := by
  intro p l e R s m args below meth c H locs cells slots D n0 σ0 L0 ad0 L ad lsR C hL hst
  have hx := C.1.1
  have hb := C.1.2.1
  exact lv_istore hx hb hd (lvl_has hL) hi rfl fun ls2 h2 => h _ C (XLoc.st1 (v := vI a) hL (XVok_I _ _) h2) (okt hst)
theorem r_istore_n {d rc rs y pc : Nat} {ls st : List XV} {σ : XH} {Q : XV → XH → Prop} {k : Fin 4} {i : Nat} {a : Int32} (hd : decode (mC y) pc = .ok (.istore_n k, 1)) (hk : (k : Nat) = i) (hi : i < mL y) (h : Ex d rc rs y (pc + 1) (setX ls i (vI a)) st σ Q) : Ex d rc rs y pc ls (vI a :: st) σ Q := by
  intro p l e R s m args below meth c H locs cells slots D n0 σ0 L0 ad0 L ad lsR C hL hst
  have hx := C.1.1
  have hb := C.1.2.1
  exact lv_istore_n hx hb hd hk (lvl_has hL) hi rfl fun ls2 h2 => h _ C (XLoc.st1 (v := vI a) hL (XVok_I _ _) h2) (okt hst)
theorem r_lstore {d rc rs y pc : Nat} {ls st : List XV} {σ : XH} {Q : XV → XH → Prop} {i : Nat} {a : Int64} (hd : decode (mC y) pc = .ok (.lstore i, 2)) (hi : i + 1 < mL y) (h : Ex d rc rs y (pc + 2) (setX2 ls i (vL a)) st σ Q) : Ex d rc rs y pc ls (vL a :: st) σ Q := by
  intro p l e R s m args below meth c H locs cells slots D n0 σ0 L0 ad0 L ad lsR C hL hst
  have hx := C.1.1
  have hb := C.1.2.1
  exact lv_lstore hx hb hd (lvl_has hL) hi rfl fun ls2 h2 => h _ C (XLoc.st2 (v := vL a) hL (XVok_L _ _) h2) (okt hst)
theorem r_lstore_n {d rc rs y pc : Nat} {ls st : List XV} {σ : XH} {Q : XV → XH → Prop} {k : Fin 4} {i : Nat} {a : Int64} (hd : decode (mC y) pc = .ok (.lstore_n k, 1)) (hk : (k : Nat) = i) (hi : i + 1 < mL y) (h : Ex d rc rs y (pc + 1) (setX2 ls i (vL a)) st σ Q) : Ex d rc rs y pc ls (vL a :: st) σ Q := by
  intro p l e R s m args below meth c H locs cells slots D n0 σ0 L0 ad0 L ad lsR C hL hst
  have hx := C.1.1
  have hb := C.1.2.1
  exact lv_lstore_n hx hb hd hk (lvl_has hL) hi rfl fun ls2 h2 => h _ C (XLoc.st2 (v := vL a) hL (XVok_L _ _) h2) (okt hst)
theorem r_astore {d rc rs y pc : Nat} {ls st : List XV} {σ : XH} {Q : XV → XH → Prop} {i : Nat} {r : Option XO} (hd : decode (mC y) pc = .ok (.astore i, 2)) (hi : i < mL y) (h : Ex d rc rs y (pc + 2) (setX ls i (vR r)) st σ Q) : Ex d rc rs y pc ls (vR r :: st) σ Q := by
  intro p l e R s m args below meth c H locs cells slots D n0 σ0 L0 ad0 L ad lsR C hL hst
  have hx := C.1.1
  have hb := C.1.2.1
  cases r with
  | none => exact lv_astoreN hx hb hd (lvl_has hL) hi rfl fun ls2 h2 => h _ C (XLoc.st1 (v := vR none) hL (okh hst) h2) (okt hst)
  | some o => exact lv_astore hx hb hd (lvl_has hL) hi rfl fun ls2 h2 => h _ C (XLoc.st1 (v := vR (some o)) hL (okh hst) h2) (okt hst)
theorem r_astore_n {d rc rs y pc : Nat} {ls st : List XV} {σ : XH} {Q : XV → XH → Prop} {k : Fin 4} {i : Nat} {r : Option XO} (hd : decode (mC y) pc = .ok (.astore_n k, 1)) (hk : (k : Nat) = i) (hi : i < mL y) (h : Ex d rc rs y (pc + 1) (setX ls i (vR r)) st σ Q) : Ex d rc rs y pc ls (vR r :: st) σ Q := by
  intro p l e R s m args below meth c H locs cells slots D n0 σ0 L0 ad0 L ad lsR C hL hst
  have hx := C.1.1
  have hb := C.1.2.1
  cases r with
  | none => exact lv_astore_nN hx hb hd hk (lvl_has hL) hi rfl fun ls2 h2 => h _ C (XLoc.st1 (v := vR none) hL (okh hst) h2) (okt hst)
  | some o => exact lv_astore_n hx hb hd hk (lvl_has hL) hi rfl fun ls2 h2 => h _ C (XLoc.st1 (v := vR (some o)) hL (okh hst) h2) (okt hst)
theorem r_iinc {d rc rs y pc : Nat} {ls st : List XV} {σ : XH} {Q : XV → XH → Prop} {i : Nat} {n : Int} {a v : Int32} (hd : decode (mC y) pc = .ok (.iinc i n, 3)) (hv : Int32.ofInt n = v) (hi : i < mL y) (hl : ls[i]? = some (vI a)) (h : Ex d rc rs y (pc + 3) (setX ls i (vI (a + v))) st σ Q) : Ex d rc rs y pc ls st σ Q := by
  intro p l e R s m args below meth c H locs cells slots D n0 σ0 L0 ad0 L ad lsR C hL hst
  have hx := C.1.1
  have hb := C.1.2.1
  subst hv
  obtain ⟨k, hk⟩ := List.getElem?_of_mem (lvl_mem (ad := ad) hl (fun e => by cases e))
  exact lv_iinc hx hb hd (lvl_has hL) hk rfl hi rfl fun ls2 h2 => h _ C (XLoc.st1 (v := vI (a + Int32.ofInt n)) hL (XVok_I _ _) h2) hst
/-- references are compared: names are, if both are alive -/
theorem ad_inj {D : va_G} {n0 : Nat} {L : List XO} {ad : XO → Nat} {σ : XH} {U : State} {H : Heap} (h : XRep D n0 L ad σ U H) {o q : XO} (ho : o.2 < hc σ o.1) (hq : q.2 < hc σ q.1) (e : ad o = ad q) : o = q := by
  obtain ⟨cy, h1, h2, h3, h4, h5, -⟩ := h
  obtain ⟨i, hi⟩ := List.getElem?_of_mem ((h1 o).mpr ho)
  obtain ⟨j, hj⟩ := List.getElem?_of_mem ((h1 q).mpr hq)
  have k := h5.1 i j (ad o, celX ad cy σ o) (ad q, celX ad cy σ q) (by simp [wsX, hi]) (by simp [wsX, hj]) e
  subst k
  exact Option.some.inj (hi.symm.trans hj)
theorem ad_dyn {D : va_G} {n0 : Nat} {L : List XO} {ad : XO → Nat} {σ : XH} {U : State} {H : Heap} (h : XRep D n0 L ad σ U H) {o : XO} (ho : o.2 < hc σ o.1) : n0 ≤ ad o := by
  obtain ⟨cy, h1, h2, h3, h4, h5, -⟩ := h
  obtain ⟨i, hi⟩ := List.getElem?_of_mem ((h1 o).mpr ho)
  exact h5.2 i (ad o, celX ad cy σ o) (by simp [wsX, hi])
theorem XRep.dyn {D : va_G} {n0 : Nat} {L : List XO} {ad : XO → Nat} {σ : XH} {U : State} {H : Heap} (h : XRep D n0 L ad σ U H) {o : XO} (ho : o.2 < hc σ o.1) : o.1 < 500 := by
  obtain ⟨cy, h1, h2, h3, -⟩ := h
  rcases Nat.lt_or_ge o.1 500 with q | q
  · exact q
  · have := h3 o.1 q
    omega
/-- both null, or neither static but for the one empty array -/
def acmpOk (r q : Option XO) : Prop := r = q ∨ ∀ o, (r = some o ∨ q = some o) → o.1 < 500 ∨ o = (510, 0)
theorem acmp_iff {D : va_G} {n0 : Nat} {L : List XO} {ad : XO → Nat} {σ : XH} {U : State} {H H2 : Heap} (h : XRep D n0 L ad σ U H) (hZ : XStat ad n0 σ U H2) {r q : Option XO} (hr : XVok σ (vR r)) (hq : XVok σ (vR q)) (hok : acmpOk r q) : r.map ad = q.map ad ↔ r = q := by
  refine ⟨fun e => ?_, fun e => by rw [e]⟩
  rcases hok with hok | hok
  · exact hok
  have hE : ¬ n0 ≤ ad (510, 0) := by
    obtain ⟨-, ⟨cell, -, -, -, -, -, -, h7⟩, -⟩ := hZ
    exact h7
  match r, q, e with
  | none, none, _ => rfl
  | some o, some w, e =>
    have e1 : ad o = ad w := Option.some.inj e
    have lo := hr o rfl
    have lw := hq w rfl
    have oo := hok o (Or.inl rfl)
    have ow := hok w (Or.inr rfl)
    rcases oo with oo | rfl
    · have lo : o.2 < hc σ o.1 := by
        rcases lo with z | z
        · exact z
        · omega
      rcases ow with ow | rfl
      · have lw : w.2 < hc σ w.1 := by
          rcases lw with z | z
          · exact z
          · omega
        rw [ad_inj h lo lw e1]
      · exact absurd (by rw [← e1]; exact ad_dyn h lo) hE
    · rcases ow with ow | rfl
      · have lw : w.2 < hc σ w.1 := by
          rcases lw with z | z
          · exact z
          · omega
        exact absurd (by rw [e1]; exact ad_dyn h lw) hE
      · rfl
theorem r_acmp_eq {d rc rs y pc : Nat} {ls st : List XV} {σ : XH} {Q : XV → XH → Prop} {r q : Option XO} {off : Int} {tgt : Nat} (hd : decode (mC y) pc = .ok (.if_acmp .eq off, 3)) (ht : (pc : Int) + off = (tgt : Int)) (hok : acmpOk r q) (h1 : r = q → Ex d rc rs y tgt ls st σ Q) (h2 : ¬ r = q → Ex d rc rs y (pc + 3) ls st σ Q) : Ex d rc rs y pc ls (vR q :: vR r :: st) σ Q := by
  intro p l e R s m args below meth c H locs cells slots D n0 σ0 L0 ad0 L ad lsR C hL hst
  have hx := C.1.1
  have hb := C.1.2.1
  have k := acmp_iff C.2.2.1 C.2.2.2.1 (okh (okt hst)) (okh hst) hok
  exact lv_acmp_eq (rx := r.map ad) (ry := q.map ad) hx hb hd ht (fun z => h1 (k.mp z) _ C hL (okt (okt hst))) (fun z => h2 (fun e => z (k.mpr e)) _ C hL (okt (okt hst)))
theorem r_acmp_ne {d rc rs y pc : Nat} {ls st : List XV} {σ : XH} {Q : XV → XH → Prop} {r q : Option XO} {off : Int} {tgt : Nat} (hd : decode (mC y) pc = .ok (.if_acmp .ne off, 3)) (ht : (pc : Int) + off = (tgt : Int)) (hok : acmpOk r q) (h1 : ¬ r = q → Ex d rc rs y tgt ls st σ Q) (h2 : r = q → Ex d rc rs y (pc + 3) ls st σ Q) : Ex d rc rs y pc ls (vR q :: vR r :: st) σ Q := by
  intro p l e R s m args below meth c H locs cells slots D n0 σ0 L0 ad0 L ad lsR C hL hst
  have hx := C.1.1
  have hb := C.1.2.1
  have k := acmp_iff C.2.2.1 C.2.2.2.1 (okh (okt hst)) (okh hst) hok
  exact lv_acmp_ne (rx := r.map ad) (ry := q.map ad) hx hb hd ht (fun z => h1 (fun e => z (k.mpr e)) _ C hL (okt (okt hst))) (fun z => h2 (k.mp z) _ C hL (okt (okt hst)))
theorem ret_end {D : va_G} {n0 : Nat} {L L0 : List XO} {ad ad0 : XO → Nat} {σ σ0 : XH} {s t : State} {H : Heap} {locs : List Loc} {Q : XV → XH → Prop} {r : XV} {args : Array Value} (hP : XRep D n0 L ad σ s H) (hS : va_S (fun q => n0 ≤ q) s.heap H locs) (hE : XExt σ0 L0 ad0 σ L ad) (hq : Q r σ) (hr : XVok σ r) (ht : t.heap = H) (hw : s.WarmedH t.vm) : XQ D n0 σ0 L0 ad0 Q args s (.returned (retv ad r)) t :=
  ⟨⟨r, σ, L, ad, rfl, hq, hr, by rw [ht]; exact XRep.moved hw.alike hP, hE⟩, hS.F ht⟩
theorem r_ireturn {d rc rs y pc : Nat} {ls st : List XV} {σ : XH} {Q : XV → XH → Prop} {a : Int32} (hd : decode (mC y) pc = .ok (.ireturn, 1)) (hr : mRet y = some .int) (h : Q (vI a) σ) : Ex d rc rs y pc ls (vI a :: []) σ Q := by
  intro p l e R s m args below meth c H locs cells slots D n0 σ0 L0 ad0 L ad lsR C hL hst
  have hx := C.1.1
  have hb := C.1.2.1
  obtain ⟨⟨-, -, hrt, -, -, hlk, -, -⟩, ⟨-, -, r3, r4⟩, hP, hZ, hn0, hS, hE⟩ := C
  exact W.widen (k := R.cells) (n := R.slots) (by omega) (by omega) (W.iret hx hb (hrt.trans hr) (fun t ht hw => ret_end (r := vI a) hP hS hE h (okh hst) ht hw) hS.2.2 hd hlk)
theorem r_zreturn {d rc rs y pc : Nat} {ls st : List XV} {σ : XH} {Q : XV → XH → Prop} {a : Int32} {ty : FieldType} (hd : decode (mC y) pc = .ok (.ireturn, 1)) (hr : mRet y = some ty) (hn : narrow ty (.int a) = .int a) (h : Q (vI a) σ) : Ex d rc rs y pc ls (vI a :: []) σ Q := by
  intro p l e R s m args below meth c H locs cells slots D n0 σ0 L0 ad0 L ad lsR C hL hst
  have hx := C.1.1
  have hb := C.1.2.1
  obtain ⟨⟨-, -, hrt, -, -, hlk, -, -⟩, ⟨-, -, r3, r4⟩, hP, hZ, hn0, hS, hE⟩ := C
  exact W.widen (k := R.cells) (n := R.slots) (by omega) (by omega) (W.zret hx hb (hrt.trans hr) hn (fun t ht hw => ret_end (r := vI a) hP hS hE h (okh hst) ht hw) hS.2.2 hd hlk)
theorem r_lreturn {d rc rs y pc : Nat} {ls st : List XV} {σ : XH} {Q : XV → XH → Prop} {a : Int64} (hd : decode (mC y) pc = .ok (.lreturn, 1)) (hr : mRet y = some .long) (h : Q (vL a) σ) : Ex d rc rs y pc ls (vL a :: []) σ Q := by
  intro p l e R s m args below meth c H locs cells slots D n0 σ0 L0 ad0 L ad lsR C hL hst
  have hx := C.1.1
  have hb := C.1.2.1
  obtain ⟨⟨-, -, hrt, -, -, hlk, -, -⟩, ⟨-, -, r3, r4⟩, hP, hZ, hn0, hS, hE⟩ := C
  exact W.widen (k := R.cells) (n := R.slots) (by omega) (by omega) (W.lret hx hb (hrt.trans hr) (fun t ht hw => ret_end (r := vL a) hP hS hE h (okh hst) ht hw) hS.2.2 hd hlk)
theorem r_return {d rc rs y pc : Nat} {ls st : List XV} {σ : XH} {Q : XV → XH → Prop} (hd : decode (mC y) pc = .ok (.return_, 1)) (hr : mRet y = none) (h : Q vU σ) : Ex d rc rs y pc ls [] σ Q := by
  intro p l e R s m args below meth c H locs cells slots D n0 σ0 L0 ad0 L ad lsR C hL hst
  have hx := C.1.1
  have hb := C.1.2.1
  obtain ⟨⟨-, -, hrt, -, -, hlk, -, -⟩, ⟨-, -, r3, r4⟩, hP, hZ, hn0, hS, hE⟩ := C
  exact W.widen (k := R.cells) (n := R.slots) (by omega) (by omega) (W.vret hx hb (hrt.trans hr) (fun t ht hw => ret_end (r := vU) hP hS hE h (XVok_U _) ht hw) hS.2.2 hd hlk)
theorem r_areturn {d rc rs y pc : Nat} {ls st : List XV} {σ : XH} {Q : XV → XH → Prop} {a : Option XO} {ty : FieldType} (hd : decode (mC y) pc = .ok (.areturn, 1)) (hr : mRet y = some ty) (hty : (∃ n, ty = .object n) ∨ ∃ t, ty = .array t) (h : Q (vR a) σ) : Ex d rc rs y pc ls (vR a :: []) σ Q := by
  intro p l e R s m args below meth c H locs cells slots D n0 σ0 L0 ad0 L ad lsR C hL hst
  have hx := C.1.1
  have hb := C.1.2.1
  obtain ⟨⟨-, -, hrt, -, -, hlk, -, -⟩, ⟨-, -, r3, r4⟩, hP, hZ, hn0, hS, hE⟩ := C
  exact W.widen (k := R.cells) (n := R.slots) (by omega) (by omega) (W.aret hx hb (hrt.trans hr) hty (by cases a with
    | none => exact Or.inl rfl
    | some o => exact Or.inr ⟨ad o, rfl⟩) (fun t ht hw => ret_end (r := vR a) hP hS hE h (okh hst) ht hw) hS.2.2 hd hlk)
/-- a switch: the first case that fits -/
def swX (K : Nat → Prop) (x : Int32) (dflt : Nat) : List (Int32 × Nat) → Prop
  | [] => K dflt
  | (k, t) :: r => (x = k → K t) ∧ (¬ x = k → swX K x dflt r)
theorem swX_in {K : Nat → Prop} {x : Int32} {dflt : Nat} : ∀ {cs : List (Int32 × Nat)}, swX K x dflt cs → ∀ {i t : Nat}, cs[i]? = some (x, t) → (∀ (j : Nat) (u : Nat), j < i → cs[j]? ≠ some (x, u)) → K t
  | (k, t) :: r, h, 0, t2, hi, _ => by
    cases hi
    exact h.1 rfl
  | (k, t) :: r, h, i + 1, t2, hi, hm => by
    by_cases e : x = k
    · subst e
      exact absurd rfl (hm 0 t (by omega))
    · exact swX_in (h.2 e) (i := i) hi (fun j u hj => hm (j + 1) u (by omega))
theorem swX_out {K : Nat → Prop} {x : Int32} {dflt : Nat} : ∀ {cs : List (Int32 × Nat)}, swX K x dflt cs → (∀ q ∈ cs, q.1 ≠ x) → K dflt
  | [], h, _ => h
  | (k, t) :: r, h, hm => swX_out (h.2 (fun e => hm (k, t) List.mem_cons_self e.symm)) (fun q hq => hm q (List.mem_cons_of_mem _ hq))
/-- what is checked of a switch's table: the cases are lo, lo + 1 .. -/
def tabOk (pc : Nat) (dflt lo hi : Int) (offs : Array Int) (cs : List (Int32 × Nat)) (dt : Nat) : Bool :=
  ((pc : Int) + dflt == (dt : Int)) && (hi + 1 == lo + cs.length) && (offs.size == cs.length) && (List.range cs.length).all fun i => match cs[i]?, offs[i]? with
    | some q, some o => (q.1.toInt == lo + i) && ((pc : Int) + o == (q.2 : Int))
    | _, _ => false
theorem r_table {d rc rs y pc : Nat} {ls st : List XV} {σ : XH} {Q : XV → XH → Prop} {a : Int32} {dflt lo hi : Int} {offs : Array Int} {len dt : Nat} {cs : List (Int32 × Nat)} (hd : decode (mC y) pc = .ok (.tableswitch dflt lo hi offs, len)) (hok : tabOk pc dflt lo hi offs cs dt = true) (h : swX (fun t => Ex d rc rs y t ls st σ Q) a dt cs) : Ex d rc rs y pc ls (vI a :: st) σ Q := by
  simp only [tabOk, Bool.and_eq_true, beq_iff_eq, List.all_eq_true, List.mem_range] at hok
  obtain ⟨⟨⟨k1, k2⟩, k3⟩, k4⟩ := hok
  have key : ∀ i, i < cs.length → ∃ q o, cs[i]? = some q ∧ offs[i]? = some o ∧ q.1.toInt = lo + i ∧ (pc : Int) + o = (q.2 : Int) := by
    intro i hi
    have z := k4 i hi
    split at z
    · rename_i q o e1 e2
      simp only [Bool.and_eq_true, beq_iff_eq] at z
      exact ⟨q, o, e1, e2, z.1, z.2⟩
    · cases z
  rcases Classical.em (a.toInt < lo ∨ hi < a.toInt) with c1 | c1
  · have g : Ex d rc rs y dt ls st σ Q := swX_out h fun q hq e => by
      obtain ⟨i, hi2⟩ := List.getElem?_of_mem hq
      obtain ⟨q2, o, e1, e2, e3, e4⟩ := key i (List.getElem?_eq_some_iff.mp hi2).1
      cases hi2.symm.trans e1
      have hlt := (List.getElem?_eq_some_iff.mp hi2).1
      rw [e] at e3
      omega
    intro p l e R s m args below meth c H locs cells slots D n0 σ0 L0 ad0 L ad lsR C hL hst
    exact lv_tableOut C.1.1 C.1.2.1 hd c1 k1 (g _ C hL (okt hst))
  · have hlt : (a.toInt - lo).toNat < cs.length := by omega
    obtain ⟨q, o, e1, e2, e3, e4⟩ := key _ hlt
    have ea : q.1 = a := by
      apply Int32.toInt_inj.mp
      omega
    have g : Ex d rc rs y q.2 ls st σ Q := swX_in h (i := (a.toInt - lo).toNat) (by rw [e1, ← ea]) fun j u hj hu => by
      obtain ⟨q3, o3, f1, f2, f3, f4⟩ := key j (by omega)
      rw [hu] at f1
      cases f1
      dsimp only at f3
      omega
    intro p l e R s m args below meth c H locs cells slots D n0 σ0 L0 ad0 L ad lsR C hL hst
    exact lv_tableIn C.1.1 C.1.2.1 hd (by omega) (by omega) e2 e4 (g _ C hL (okt hst))
def lookOk (pc : Nat) (dflt : Int) (ps : List (Int × Int)) (cs : List (Int32 × Nat)) (dt : Nat) : Bool :=
  ((pc : Int) + dflt == (dt : Int)) && ((ps.zip (ps.drop 1)).all fun (a, next) => a.1 < next.1) && (ps.length == cs.length) && (ps.zip cs).all fun q => (q.2.1.toInt == q.1.1) && ((pc : Int) + q.1.2 == (q.2.2 : Int))
theorem look_go {K : Nat → Prop} {pc : Nat} {x : Int32} {dflt : Int} {dt : Nat} (h0 : (pc : Int) + dflt = (dt : Int)) : ∀ (ps : List (Int × Int)) (cs : List (Int32 × Nat)), ps.length = cs.length → (∀ q ∈ ps.zip cs, q.2.1.toInt = q.1.1 ∧ (pc : Int) + q.1.2 = (q.2.2 : Int)) → swX K x dt cs → ∃ t : Nat, (pc : Int) + Op.lookupswitch.offset ps dflt x.toInt = (t : Int) ∧ K t
  | [], [], _, _, h => ⟨dt, h0, h⟩
  | (a, b) :: ps, (k, t) :: cs, hl, hz, h => by
    have z := hz ((a, b), (k, t)) List.mem_cons_self
    dsimp only at z
    by_cases e : x = k
    · subst e
      refine ⟨t, ?_, h.1 rfl⟩
      have e2 : a = x.toInt := z.1.symm
      simp [Op.lookupswitch.offset, e2]
      exact z.2
    · have e2 : ¬ a = x.toInt := fun q => e (Int32.toInt_inj.mp (by omega))
      obtain ⟨t2, g1, g2⟩ := look_go h0 ps cs (Nat.succ.inj hl) (fun q hq => hz q (List.mem_cons_of_mem _ hq)) (h.2 e)
      refine ⟨t2, ?_, g2⟩
      rw [← g1]
      simp [Op.lookupswitch.offset, e2]
theorem r_look {d rc rs y pc : Nat} {ls st : List XV} {σ : XH} {Q : XV → XH → Prop} {a : Int32} {dflt : Int} {ps : Array (Int × Int)} {len dt : Nat} {cs : List (Int32 × Nat)} (hd : decode (mC y) pc = .ok (.lookupswitch dflt ps, len)) (hok : lookOk pc dflt ps.toList cs dt = true) (h : swX (fun t => Ex d rc rs y t ls st σ Q) a dt cs) : Ex d rc rs y pc ls (vI a :: st) σ Q := by
  simp only [lookOk, Bool.and_eq_true, beq_iff_eq] at hok
  obtain ⟨⟨⟨k1, k2⟩, k3⟩, k4⟩ := hok
  obtain ⟨t, g1, g2⟩ := look_go (x := a) k1 ps.toList cs k3 (fun q hq => by
    have z := List.all_eq_true.mp k4 q hq
    simpa using z) h
  intro p l e R s m args below meth c H locs cells slots D n0 σ0 L0 ad0 L ad lsR C hL hst
  exact lv_lookup C.1.1 C.1.2.1 hd k2 rfl g1 (g2 _ C hL (okt hst))
