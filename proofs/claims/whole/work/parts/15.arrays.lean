/-! ===== writes, arrays, new objects ===== -/
theorem cx_off {d rc rs y : Nat} {p : Program} {R : Room} {s : State} {m : MethodId} {args : Array Value} {meth : Method} {c : Code} {H H1 : Heap} {locs locs1 : List Loc} {cells slots : Nat} {D : va_G} {n0 : Nat} {σ0 σ σ' : XH} {L0 L : List XO} {ad0 ad : XO → Nat} {o : XO}
    (C : XCx d rc rs y p R s m args meth c H locs cells slots D n0 σ0 L0 ad0 σ L ad) (hoff : offO σ σ' o) (ho : o.1 < 500) (hP : XRep D n0 L ad σ' s H1) (hS : va_S (fun q => n0 ≤ q) s.heap H1 locs1) : XCx d rc rs y p R s m args meth c H1 locs1 cells slots D n0 σ0 L0 ad0 σ' L ad := by
  obtain ⟨C1, C2, -, C4, C5, -, C7⟩ := C
  exact ⟨C1, C2, hP, C4.ext ((XExt.rf σ L ad).off hoff ho), C5, hS, C7.off hoff ho⟩
theorem okS {σ σ' : XH} {o : XO} (hoff : offO σ σ' o) {st : List XV} (h : ∀ v ∈ st, XVok σ v) : ∀ v ∈ st, XVok σ' v := fun v hv => (h v hv).off hoff
theorem offO_V (σ : XH) (s i k : Nat) (v : XV) : offO σ (putV σ s i k v) (s, i) := by
  match v with
  | Sum.inl x => exact offO_I σ s i k x
  | Sum.inr (Sum.inl x) => exact offO_L σ s i k x
  | Sum.inr (Sum.inr (Sum.inl r)) => exact offO_R σ s i k r
  | Sum.inr (Sum.inr (Sum.inr _)) => exact ⟨rfl, rfl, fun _ _ _ => ⟨rfl, rfl, rfl⟩⟩
theorem live_V {σ : XH} {s i k : Nat} {v : XV} (h9 : ∀ s i k r, hr σ s i k = some r → XLive σ r) (hv : XVok σ v) : ∀ k' r, hr (putV σ s i k v) s i k' = some r → XLive σ r := by
  intro k' r hr2
  match v, hv, hr2 with
  | Sum.inl x, _, hr2 => exact h9 s i k' r hr2
  | Sum.inr (Sum.inl x), _, hr2 => exact h9 s i k' r hr2
  | Sum.inr (Sum.inr (Sum.inl q)), hv, hr2 =>
    simp only [putV, hr, wR, up3_at] at hr2
    split at hr2
    · exact hv r (by rw [hr2])
    · exact h9 s i k' r hr2
  | Sum.inr (Sum.inr (Sum.inr _)), _, hr2 => exact h9 s i k' r hr2
theorem put_fit {ty : FieldType} {t : Nat} {v : XV} (ad : XO → Nat) (h : tyK ty t = true) (hok : putOk t v) : narrow ty (trv ad v) = trv ad v ∧ fits ty (trv ad v) = true := by
  match v, hok with
  | Sum.inl x, hok =>
    rcases hok with rfl | ⟨rfl, hx⟩
    · cases ty <;> first | (exact ⟨rfl, rfl⟩; done) | (simp [tyK] at h)
    · cases ty <;> first | (simp [tyK] at h; done) | skip
      rcases hx with rfl | rfl
      · show narrow .boolean (.int 0) = .int 0 ∧ fits .boolean (.int 0) = true
        decide
      · show narrow .boolean (.int 1) = .int 1 ∧ fits .boolean (.int 1) = true
        decide
  | Sum.inr (Sum.inl x), hok =>
    have e : t = 1 := hok
    subst e
    cases ty <;> first | (exact ⟨rfl, rfl⟩; done) | (simp [tyK] at h)
  | Sum.inr (Sum.inr (Sum.inl none)), hok =>
    have e : t = 2 := hok
    subst e
    cases ty <;> first | (exact ⟨rfl, rfl⟩; done) | (simp [tyK] at h)
  | Sum.inr (Sum.inr (Sum.inl (some o))), hok =>
    have e : t = 2 := hok
    subst e
    cases ty <;> first | (exact ⟨rfl, rfl⟩; done) | (simp [tyK] at h)
theorem r_putfield {d rc rs y pc : Nat} {ls st : List XV} {σ : XH} {Q : XV → XH → Prop} {ci i k idx : Nat} {ref : String} {r : vw_C} {v : XV} (hd : decode (mC y) pc = .ok (.putfield idx, 3)) (hcl : vwCl[ci]? = some r) (hk : k < r.2.2) (hw : Cond.fieldLink (mY y).cls idx ref (r.2.1 k).2.1 (r.2.1 k).2.2.1 ∈ lwA) (hs : ref = (r.2.1 k).1 ∨ Cond.sameField ref (r.2.1 k).1 (r.2.1 k).2.1 (r.2.1 k).2.2.1 ∈ lwA)
    (hfin : (r.2.1 k).2.2.2 = false ∨ (r.2.1 k).2.2.2 = true ∧ (mY y).name = "<init>" ∧ (r.2.1 k).1 = (mY y).cls) (hok : putOk (ftc ci k) v)
    (h : Ex d rc rs y (pc + 3) ls st (putV σ ci i k v) Q) : Ex d rc rs y pc ls (v :: vR (some (ci, i)) :: st) σ Q := by
  intro p l e R s m args below meth c H locs cells slots D n0 σ0 L0 ad0 L ad lsR C hL hst
  have hx := C.1.1
  have hb := C.1.2.1
  obtain ⟨⟨-, -, -, -, hown, -, hnm, hts⟩, -, hP, -, -, hS, -⟩ := id C
  have h13 := cls_lt hcl
  have hlv := live_dyn hP (okh (okt hst) (ci, i) rfl) (by show ci < 500; omega)
  obtain ⟨cy, h1, h2, h3, h4, h5, h6, h7, h8, h9⟩ := hP
  obtain ⟨ty0, kty, knm, kin, kN, kt⟩ := clOk_all hcl
  obtain ⟨q0, hq, hw2⟩ := wsX_at (ad := ad) (cy := cy) (σ := σ) ((h1 (ci, i)).mpr hlv)
  rw [celX_obj h13] at hw2
  have hsame : ∀ x, s.fieldFound? (r.2.1 k).1 (r.2.1 k).2.1 (r.2.1 k).2.2.1 = some x → s.fieldFound? ref (r.2.1 k).2.1 (r.2.1 k).2.2.1 = some x := fun x hxx => by
    rcases hs with hs | hs
    · rw [hs]; exact hxx
    · exact u_same (hts _ hs) x hxx
  have hfk : k < fnum ci := by rw [← kN]; exact hk
  have hlen : k < (flds ad σ ci i).length := by simp [flds, hfk]
  have hoff := offO_V σ ci i k v
  have hft := put_fit ad (kt k hk) hok
  have fin : ∀ (H1 : Heap) (locs1 : List Loc), va_P D vwCl ((wsX L ad cy σ).set q0 (ad (ci, i), .inr (ci, (flds ad σ ci i).set k (trv ad v)))) H1 → va_D (fun q => n0 ≤ q) ((wsX L ad cy σ).set q0 (ad (ci, i), .inr (ci, (flds ad σ ci i).set k (trv ad v)))) → va_S (fun q => n0 ≤ q) s.heap H1 locs1 → W p l e R s m args below meth c H1 locs1 cells slots (MQ below (XQ D n0 σ0 L0 ad0 Q) args s R.cells R.slots (fun q => n0 ≤ q)) (F0 m (pc + 3) lsR (st.map (trv ad))) := by
    intro H1 locs1 g1 g2 g3
    rw [flds_set ad σ hfk hok, ← celX_obj (cy := cy) h13] at g1 g2
    exact h _ (cx_off C hoff (by show ci < 500; omega) (XRep.upd h1 h2 h3 h6 h7 h8 h9 hlv hoff (live_V h9 (okh hst)) hq g1 g2) g3) (hL.off hoff) (okS hoff (okt (okt hst)))
  rcases hfin with hfin | ⟨hfin, hini, hdc⟩
  · exact va_put (D := D) (cl := vwCl) (ws := wsX L ad cy σ) (C := r.1) (T := r.2.1) (N := r.2.2) hx hb hts kin ty0 kty knm hown h6 h4 h5 hS q0 hw2 hcl k hk (hts _ hw) hsame hfin (kty k hk) hft.1 hft.2 hlen hd fin
  · exact va_putF (D := D) (cl := vwCl) (ws := wsX L ad cy σ) (C := r.1) (T := r.2.1) (N := r.2.2) hx hb hts kin ty0 kty knm hown h6 h4 h5 hS q0 hw2 hcl k hk (hts _ hw) hsame hfin (hnm.trans hini) hdc (kty k hk) hft.1 hft.2 hlen hd fin
/-! arrays -/
theorem kA {D : va_G} {U : State} {cA : ClassId} {ty : FieldType} (h : va_K D vwCl [] U) (k : ArrOfT U cA ty ∧ va_RA U cA ty) : va_K D vwCl [(cA, ty)] U := ⟨h.1, fun i q hi => by
  match i, hi with
  | 0, hi => cases hi; exact k⟩
def isIo (o : XO) : Bool := bif Nat.blt o.1 200 then Nat.ble 100 o.1 else ((Nat.beq o.1 500 || (Nat.beq o.1 501 || Nat.beq o.1 503)) && Nat.beq o.2 0)
def isBo (o : XO) : Bool := bif Nat.blt o.1 300 then Nat.ble 200 o.1 else (Nat.beq o.1 513 && Nat.blt o.2 12)
def isZo (o : XO) : Bool := Nat.ble 300 o.1 && Nat.blt o.1 400
def isQo (o : XO) : Bool := Nat.ble 400 o.1 && Nat.blt o.1 500
theorem celX_int {ad : XO → Nat} {cy : XO → ClassId} {σ : XH} {o : XO} (h : 13 ≤ o.1) (h2 : o.1 < 400) : celX ad cy σ o = .inl (cy o, hn σ o.1 o.2, .inl (hi σ o.1 o.2)) := by
  unfold celX
  rw [if_neg (by omega), if_pos h2]
theorem celX_ref {ad : XO → Nat} {cy : XO → ClassId} {σ : XH} {o : XO} (h : 400 ≤ o.1) : celX ad cy σ o = .inl (cy o, hn σ o.1 o.2, .inr (.inr (.inr (.inr fun k => (hr σ o.1 o.2 k).map ad)))) := by
  unfold celX
  rw [if_neg (by omega), if_neg (by omega)]
theorem stat_in {o : XO} (h : 500 ≤ o.1) (hi : isIo o = true) : (o.1 = 500 ∨ o.1 = 501 ∨ o.1 = 503) ∧ o = (o.1, 0) := by
  unfold isIo at hi
  have e : Nat.blt o.1 200 = false := by
    rw [← Bool.not_eq_true, Nat.blt_eq]
    omega
  rw [e] at hi
  simp at hi
  obtain ⟨a, b⟩ := o
  simp at hi ⊢
  exact ⟨hi.1, hi.2⟩
theorem dyn_in {o : XO} (h : o.1 < 500) (hi : isIo o = true) : 100 ≤ o.1 ∧ o.1 < 200 := by
  unfold isIo at hi
  rcases Nat.lt_or_ge o.1 200 with q | q
  · have e : Nat.blt o.1 200 = true := by rw [Nat.blt_eq]; exact q
    rw [e] at hi
    exact ⟨Nat.le_of_ble_eq_true hi, q⟩
  · have e : Nat.blt o.1 200 = false := by
      rw [← Bool.not_eq_true, Nat.blt_eq]
      omega
    rw [e] at hi
    simp at hi
    omega
theorem r_iaload {d rc rs y pc : Nat} {ls st : List XV} {σ : XH} {Q : XV → XH → Prop} {o : XO} {i : Int32} (hd : decode (mC y) pc = .ok (.iaload, 1)) (ho : isIo o = true) (hin : vp_in i (hn σ o.1 o.2)) (h : Ex d rc rs y (pc + 1) ls (vI (hi σ o.1 o.2 i.toNatClampNeg) :: st) σ Q) : Ex d rc rs y pc ls (vI i :: vR (some o) :: st) σ Q := by
  intro p l e R s m args below meth c H locs cells slots D n0 σ0 L0 ad0 L ad lsR C hL hst
  have hx := C.1.1
  have hb := C.1.2.1
  obtain ⟨-, -, hP, hZ, -, hS, -⟩ := id C
  have kk := h _ (l := l) (e := e) (below := below) C hL (ok1 (XVok_I _ _) (okt (okt hst)))
  rcases Nat.lt_or_ge o.1 500 with q | q
  · obtain ⟨i1, i2⟩ := dyn_in q ho
    have hlv := live_dyn hP (okh (okt hst) o rfl) q
    obtain ⟨cy, h1, h2, h3, h4, h5, h6, h7, h8, h9⟩ := hP
    obtain ⟨q0, hq, hw2⟩ := wsX_at (ad := ad) (cy := cy) (σ := σ) ((h1 o).mpr hlv)
    rw [celX_int (by omega) (by omega)] at hw2
    have k7 := h7 o ((h1 o).mpr hlv) (by omega)
    have et : tyA o.1 = .int := by unfold tyA; rw [if_pos i2]
    rw [et] at k7
    exact va_iald hx hb (kA h6 k7) h4 q0 0 hw2 rfl hin hd kk
  · obtain ⟨i1, i2⟩ := stat_in q ho
    have hT := hZ.1 o.1 i1
    rw [← i2] at hT
    have e2 : o.2 = 0 := by rw [i2]
    rw [e2] at hin kk
    exact va_ti hx hb hT hS hin rfl hd kk
theorem r_iastore {d rc rs y pc : Nat} {ls st : List XV} {σ : XH} {Q : XV → XH → Prop} {o : XO} {i x : Int32} (hd : decode (mC y) pc = .ok (.iastore, 1)) (ho : isIo o = true) (h5 : o.1 < 500) (hin : vp_in i (hn σ o.1 o.2)) (h : Ex d rc rs y (pc + 1) ls st (wI σ o.1 o.2 i.toNatClampNeg x) Q) : Ex d rc rs y pc ls (vI x :: vI i :: vR (some o) :: st) σ Q := by
  intro p l e R s m args below meth c H locs cells slots D n0 σ0 L0 ad0 L ad lsR C hL hst
  have hx := C.1.1
  have hb := C.1.2.1
  obtain ⟨-, -, hP, hZ, -, hS, -⟩ := id C
  obtain ⟨i1, i2⟩ := dyn_in h5 ho
  have hlv := live_dyn hP (okh (okt (okt hst)) o rfl) h5
  obtain ⟨cy, h1, h2, h3, h4, h5', h6, h7, h8, h9⟩ := hP
  obtain ⟨q0, hq, hw2⟩ := wsX_at (ad := ad) (cy := cy) (σ := σ) ((h1 o).mpr hlv)
  rw [celX_int (by omega) (by omega)] at hw2
  have k7 := h7 o ((h1 o).mpr hlv) (by omega)
  have et : tyA o.1 = .int := by unfold tyA; rw [if_pos i2]
  rw [et] at k7
  have hoff := offO_I σ o.1 o.2 i.toNatClampNeg x
  have ec : celX ad cy (wI σ o.1 o.2 i.toNatClampNeg x) o = .inl (cy o, hn σ o.1 o.2, .inl (upd (hi σ o.1 o.2) i.toNatClampNeg x)) := by
    rw [celX_int (by omega) (by omega)]
    have : hi (wI σ o.1 o.2 i.toNatClampNeg x) o.1 o.2 = upd (hi σ o.1 o.2) i.toNatClampNeg x := by
      funext j
      simp only [hi, wI, up3_at, upd]
    rw [this]
    rfl
  refine va_iast hx hb (kA h6 k7) h4 h5' hS q0 0 hw2 rfl hin hd fun H1 locs1 g1 g2 g3 => ?_
  rw [← ec] at g1 g2
  exact h _ (cx_off C hoff h5 (XRep.upd h1 h2 h3 h6 h7 h8 h9 hlv hoff (fun k r z => h9 _ _ k r z) hq g1 g2) g3) (hL.off hoff) (okS hoff (okt (okt (okt hst))))

theorem r_baload {d rc rs y pc : Nat} {ls st : List XV} {σ : XH} {Q : XV → XH → Prop} {o : XO} {i : Int32} (hd : decode (mC y) pc = .ok (.baload, 1)) (h5 : 200 ≤ o.1 ∧ o.1 < 300) (hin : vp_in i (hn σ o.1 o.2)) (h : Ex d rc rs y (pc + 1) ls (vI (hi σ o.1 o.2 i.toNatClampNeg) :: st) σ Q) : Ex d rc rs y pc ls (vI i :: vR (some o) :: st) σ Q := by
  intro p l e R s m args below meth c H locs cells slots D n0 σ0 L0 ad0 L ad lsR C hL hst
  have hx := C.1.1
  have hb := C.1.2.1
  obtain ⟨-, -, hP, hZ, -, hS, -⟩ := id C
  have kk := h _ (l := l) (e := e) (below := below) C hL (ok1 (XVok_I _ _) (okt (okt hst)))
  have hlv := live_dyn hP (okh (okt hst) o rfl) (by omega)
  obtain ⟨cy, h1, h2, h3, h4, -, h6, h7, h8, h9⟩ := hP
  obtain ⟨q0, hq, hw2⟩ := wsX_at (ad := ad) (cy := cy) (σ := σ) ((h1 o).mpr hlv)
  rw [celX_int (by omega) (by omega)] at hw2
  have k7 := h7 o ((h1 o).mpr hlv) (by omega)
  have et : tyA o.1 = .byte := by unfold tyA; rw [if_neg (by omega), if_pos (by omega)]
  rw [et] at k7
  exact va_bald hx hb (kA h6 k7) h4 q0 0 hw2 rfl hin hd kk
theorem r_bastore {d rc rs y pc : Nat} {ls st : List XV} {σ : XH} {Q : XV → XH → Prop} {o : XO} {i x : Int32} (hd : decode (mC y) pc = .ok (.bastore, 1)) (h5 : 200 ≤ o.1 ∧ o.1 < 300) (hin : vp_in i (hn σ o.1 o.2)) (h : Ex d rc rs y (pc + 1) ls st (wI σ o.1 o.2 i.toNatClampNeg (vp_nar .byte x)) Q) : Ex d rc rs y pc ls (vI x :: vI i :: vR (some o) :: st) σ Q := by
  intro p l e R s m args below meth c H locs cells slots D n0 σ0 L0 ad0 L ad lsR C hL hst
  have hx := C.1.1
  have hb := C.1.2.1
  obtain ⟨-, -, hP, hZ, -, hS, -⟩ := id C
  have hlv := live_dyn hP (okh (okt (okt hst)) o rfl) (by omega)
  obtain ⟨cy, h1, h2, h3, h4, h5', h6, h7, h8, h9⟩ := hP
  obtain ⟨q0, hq, hw2⟩ := wsX_at (ad := ad) (cy := cy) (σ := σ) ((h1 o).mpr hlv)
  rw [celX_int (by omega) (by omega)] at hw2
  have k7 := h7 o ((h1 o).mpr hlv) (by omega)
  have et : tyA o.1 = .byte := by unfold tyA; rw [if_neg (by omega), if_pos (by omega)]
  rw [et] at k7
  have hoff := offO_I σ o.1 o.2 i.toNatClampNeg (vp_nar .byte x)
  have ec : celX ad cy (wI σ o.1 o.2 i.toNatClampNeg (vp_nar .byte x)) o = .inl (cy o, hn σ o.1 o.2, .inl (upd (hi σ o.1 o.2) i.toNatClampNeg (vp_nar .byte x))) := by
    rw [celX_int (by omega) (by omega)]
    have : hi (wI σ o.1 o.2 i.toNatClampNeg (vp_nar .byte x)) o.1 o.2 = upd (hi σ o.1 o.2) i.toNatClampNeg (vp_nar .byte x) := by
      funext j
      simp only [hi, wI, up3_at, upd]
    rw [this]
    rfl
  refine va_bast hx hb (kA h6 k7) h4 h5' hS q0 0 hw2 rfl hin hd fun H1 locs1 g1 g2 g3 => ?_
  rw [← ec] at g1 g2
  exact h _ (cx_off C hoff (by omega) (XRep.upd h1 h2 h3 h6 h7 h8 h9 hlv hoff (fun k r z => h9 _ _ k r z) hq g1 g2) g3) (hL.off hoff) (okS hoff (okt (okt (okt hst))))
theorem r_zaload {d rc rs y pc : Nat} {ls st : List XV} {σ : XH} {Q : XV → XH → Prop} {o : XO} {i : Int32} (hd : decode (mC y) pc = .ok (.baload, 1)) (h5 : 300 ≤ o.1 ∧ o.1 < 400) (hin : vp_in i (hn σ o.1 o.2)) (h : Ex d rc rs y (pc + 1) ls (vI (hi σ o.1 o.2 i.toNatClampNeg) :: st) σ Q) : Ex d rc rs y pc ls (vI i :: vR (some o) :: st) σ Q := by
  intro p l e R s m args below meth c H locs cells slots D n0 σ0 L0 ad0 L ad lsR C hL hst
  have hx := C.1.1
  have hb := C.1.2.1
  obtain ⟨-, -, hP, hZ, -, hS, -⟩ := id C
  have kk := h _ (l := l) (e := e) (below := below) C hL (ok1 (XVok_I _ _) (okt (okt hst)))
  have hlv := live_dyn hP (okh (okt hst) o rfl) (by omega)
  obtain ⟨cy, h1, h2, h3, h4, -, h6, h7, h8, h9⟩ := hP
  obtain ⟨q0, hq, hw2⟩ := wsX_at (ad := ad) (cy := cy) (σ := σ) ((h1 o).mpr hlv)
  rw [celX_int (by omega) (by omega)] at hw2
  have k7 := h7 o ((h1 o).mpr hlv) (by omega)
  have et : tyA o.1 = .boolean := by unfold tyA; rw [if_neg (by omega), if_neg (by omega), if_pos (by omega)]
  rw [et] at k7
  exact va_zald hx hb (kA h6 k7) h4 q0 0 hw2 rfl hin hd kk
theorem r_zastore {d rc rs y pc : Nat} {ls st : List XV} {σ : XH} {Q : XV → XH → Prop} {o : XO} {i x : Int32} (hd : decode (mC y) pc = .ok (.bastore, 1)) (h5 : 300 ≤ o.1 ∧ o.1 < 400) (hin : vp_in i (hn σ o.1 o.2)) (h : Ex d rc rs y (pc + 1) ls st (wI σ o.1 o.2 i.toNatClampNeg (vp_nar .boolean x)) Q) : Ex d rc rs y pc ls (vI x :: vI i :: vR (some o) :: st) σ Q := by
  intro p l e R s m args below meth c H locs cells slots D n0 σ0 L0 ad0 L ad lsR C hL hst
  have hx := C.1.1
  have hb := C.1.2.1
  obtain ⟨-, -, hP, hZ, -, hS, -⟩ := id C
  have hlv := live_dyn hP (okh (okt (okt hst)) o rfl) (by omega)
  obtain ⟨cy, h1, h2, h3, h4, h5', h6, h7, h8, h9⟩ := hP
  obtain ⟨q0, hq, hw2⟩ := wsX_at (ad := ad) (cy := cy) (σ := σ) ((h1 o).mpr hlv)
  rw [celX_int (by omega) (by omega)] at hw2
  have k7 := h7 o ((h1 o).mpr hlv) (by omega)
  have et : tyA o.1 = .boolean := by unfold tyA; rw [if_neg (by omega), if_neg (by omega), if_pos (by omega)]
  rw [et] at k7
  have hoff := offO_I σ o.1 o.2 i.toNatClampNeg (vp_nar .boolean x)
  have ec : celX ad cy (wI σ o.1 o.2 i.toNatClampNeg (vp_nar .boolean x)) o = .inl (cy o, hn σ o.1 o.2, .inl (upd (hi σ o.1 o.2) i.toNatClampNeg (vp_nar .boolean x))) := by
    rw [celX_int (by omega) (by omega)]
    have : hi (wI σ o.1 o.2 i.toNatClampNeg (vp_nar .boolean x)) o.1 o.2 = upd (hi σ o.1 o.2) i.toNatClampNeg (vp_nar .boolean x) := by
      funext j
      simp only [hi, wI, up3_at, upd]
    rw [this]
    rfl
  refine va_zast hx hb (kA h6 k7) h4 h5' hS q0 0 hw2 rfl hin hd fun H1 locs1 g1 g2 g3 => ?_
  rw [← ec] at g1 g2
  exact h _ (cx_off C hoff (by omega) (XRep.upd h1 h2 h3 h6 h7 h8 h9 hlv hoff (fun k r z => h9 _ _ k r z) hq g1 g2) g3) (hL.off hoff) (okS hoff (okt (okt (okt hst))))
/-- the bytes of a text constant -/
theorem r_saload {d rc rs y pc : Nat} {ls st : List XV} {σ : XH} {Q : XV → XH → Prop} {k : Nat} {i : Int32} (hd : decode (mC y) pc = .ok (.baload, 1)) (hk : k < 12) (hin : vp_in i (hn σ 513 k)) (h : Ex d rc rs y (pc + 1) ls (vI (hi σ 513 k i.toNatClampNeg) :: st) σ Q) : Ex d rc rs y pc ls (vI i :: vR (some (513, k)) :: st) σ Q := by
  intro p l e R s m args below meth c H locs cells slots D n0 σ0 L0 ad0 L ad lsR C hL hst
  have hx := C.1.1
  have hb := C.1.2.1
  obtain ⟨-, -, hP, hZ, -, hS, -⟩ := id C
  have kk := h _ (l := l) (e := e) (below := below) C hL (ok1 (XVok_I _ _) (okt (okt hst)))
  exact va_tb hx hb (hZ.2.2.2.2.2.2.2.2.1 k hk).2.2.2 hS hin rfl hd kk
/-- references: what an array holds -/
theorem r_aaload {d rc rs y pc : Nat} {ls st : List XV} {σ : XH} {Q : XV → XH → Prop} {o : XO} {i : Int32} (hd : decode (mC y) pc = .ok (.aaload, 1)) (h5 : 400 ≤ o.1 ∧ o.1 < 500) (hin : vp_in i (hn σ o.1 o.2)) (h : Ex d rc rs y (pc + 1) ls (vR (hr σ o.1 o.2 i.toNatClampNeg) :: st) σ Q) : Ex d rc rs y pc ls (vI i :: vR (some o) :: st) σ Q := by
  intro p l e R s m args below meth c H locs cells slots D n0 σ0 L0 ad0 L ad lsR C hL hst
  have hx := C.1.1
  have hb := C.1.2.1
  obtain ⟨-, -, hP, hZ, -, hS, -⟩ := id C
  have hlv := live_dyn hP (okh (okt hst) o rfl) (by omega)
  obtain ⟨cy, h1, h2, h3, h4, -, h6, h7, h8, h9⟩ := hP
  have kk := h _ (l := l) (e := e) (below := below) C hL (ok1 (XVok_R fun q hq => h9 _ _ _ _ hq) (okt (okt hst)))
  obtain ⟨q0, hq, hw2⟩ := wsX_at (ad := ad) (cy := cy) (σ := σ) ((h1 o).mpr hlv)
  rw [celX_ref h5.1] at hw2
  have k7 := h7 o ((h1 o).mpr hlv) (by omega)
  by_cases z : o.1 < 410
  · have et : tyA o.1 = .object "SpotTimers$Tape" := by unfold tyA; rw [if_neg (by omega), if_neg (by omega), if_neg (by omega), if_pos z]
    rw [et] at k7
    exact va_aldq hx hb (kA h6 k7) h4 q0 0 hw2 rfl hin hd kk
  · have et : tyA o.1 = .object "java/lang/Object" := by unfold tyA; rw [if_neg (by omega), if_neg (by omega), if_neg (by omega), if_neg z]
    rw [et] at k7
    exact va_aldq hx hb (kA h6 k7) h4 q0 0 hw2 rfl hin hd kk
theorem castO {args : Array Value} {s : State} (hts : ∀ w ∈ lwA, w.before args s = true) {ci : Nat} {r : vw_C} (h : vwCl[ci]? = some r) : va_Nw (.castable r.1 "java/lang/Object") s := by
  match ci, h with

  | 0, h => cases h; exact va_Nw.of rfl (hts _ (nm_A _ (List.mem_of_getElem? (i := 14) rfl)))
  | 1, h => cases h; exact va_Nw.of rfl (hts _ (nm_A _ (List.mem_of_getElem? (i := 18) rfl)))
  | 2, h => cases h; exact va_Nw.of rfl (hts _ (nm_A _ (List.mem_of_getElem? (i := 21) rfl)))
  | 3, h => cases h; exact va_Nw.of rfl (hts _ (nm_A _ (List.mem_of_getElem? (i := 23) rfl)))
  | 4, h => cases h; exact va_Nw.of rfl (hts _ (nm_A _ (List.mem_of_getElem? (i := 24) rfl)))
  | 5, h => cases h; exact va_Nw.of rfl (hts _ (nm_A _ (List.mem_of_getElem? (i := 22) rfl)))
  | 6, h => cases h; exact va_Nw.of rfl (hts _ (nm_A _ (List.mem_of_getElem? (i := 16) rfl)))
  | 7, h => cases h; exact va_Nw.of rfl (hts _ (nm_A _ (List.mem_of_getElem? (i := 15) rfl)))
  | 8, h => cases h; exact va_Nw.of rfl (hts _ (nm_A _ (List.mem_of_getElem? (i := 20) rfl)))
  | 9, h => cases h; exact va_Nw.of rfl (hts _ (nm_A _ (List.mem_of_getElem? (i := 17) rfl)))
  | 10, h => cases h; exact va_Nw.of rfl (hts _ (nm_A _ (List.mem_of_getElem? (i := 12) rfl)))
  | 11, h => cases h; exact va_Nw.of rfl (hts _ (nm_A _ (List.mem_of_getElem? (i := 13) rfl)))
  | 12, h => cases h; exact va_Nw.of rfl (hts _ (nm_A _ (List.mem_of_getElem? (i := 19) rfl)))
  | k + 13, h => simp [vwCl] at h
theorem r_aastore {d rc rs y pc : Nat} {ls st : List XV} {σ : XH} {Q : XV → XH → Prop} {o q : XO} {i : Int32} (hd : decode (mC y) pc = .ok (.aastore, 1)) (h5 : 410 ≤ o.1 ∧ o.1 < 500 ∨ 400 ≤ o.1 ∧ o.1 < 410 ∧ q.1 = 10) (hq13 : q.1 < 13) (hin : vp_in i (hn σ o.1 o.2)) (h : Ex d rc rs y (pc + 1) ls st (wR σ o.1 o.2 i.toNatClampNeg (some q)) Q) : Ex d rc rs y pc ls (vR (some q) :: vI i :: vR (some o) :: st) σ Q := by
  intro p l e R s m args below meth c H locs cells slots D n0 σ0 L0 ad0 L ad lsR C hL hst
  have hx := C.1.1
  have hb := C.1.2.1
  obtain ⟨⟨-, -, -, -, -, -, -, hts⟩, -, hP, hZ, -, hS, -⟩ := id C
  have hlv := live_dyn hP (okh (okt (okt hst)) o rfl) (by omega)
  have hlq := live_dyn hP (okh hst q rfl) (by omega)
  obtain ⟨cy, h1, h2, h3, h4, h5', h6, h7, h8, h9⟩ := hP
  obtain ⟨q0, hq, hw2⟩ := wsX_at (ad := ad) (cy := cy) (σ := σ) ((h1 o).mpr hlv)
  obtain ⟨q1, hq1, hw3⟩ := wsX_at (ad := ad) (cy := cy) (σ := σ) ((h1 q).mpr hlq)
  rw [celX_ref (by omega)] at hw2
  rw [show q = (q.1, q.2) from rfl, celX_obj hq13] at hw3
  have k7 := h7 o ((h1 o).mpr hlv) (by omega)
  have hoff := offO_R σ o.1 o.2 i.toNatClampNeg (some q)
  have ec : celX ad cy (wR σ o.1 o.2 i.toNatClampNeg (some q)) o = .inl (cy o, hn σ o.1 o.2, .inr (.inr (.inr (.inr (va_up (fun k => (hr σ o.1 o.2 k).map ad) i.toNatClampNeg (some (ad q))))))) := by
    rw [celX_ref (by omega)]
    have : (fun k => (hr (wR σ o.1 o.2 i.toNatClampNeg (some q)) o.1 o.2 k).map ad) = va_up (fun k => (hr σ o.1 o.2 k).map ad) i.toNatClampNeg (some (ad q)) := by
      funext j
      simp only [hr, wR, up3_at, va_up]
      split <;> rfl
    rw [this]
    rfl
  have fin : ∀ (H1 : Heap) (locs1 : List Loc), va_P D vwCl ((wsX L ad cy σ).set q0 (ad o, .inl (cy o, hn σ o.1 o.2, .inr (.inr (.inr (.inr (va_up (fun k => (hr σ o.1 o.2 k).map ad) i.toNatClampNeg (some (ad q))))))))) H1 → va_D (fun q => n0 ≤ q) ((wsX L ad cy σ).set q0 (ad o, .inl (cy o, hn σ o.1 o.2, .inr (.inr (.inr (.inr (va_up (fun k => (hr σ o.1 o.2 k).map ad) i.toNatClampNeg (some (ad q))))))))) → va_S (fun q => n0 ≤ q) s.heap H1 locs1 → W p l e R s m args below meth c H1 locs1 cells slots (MQ below (XQ D n0 σ0 L0 ad0 Q) args s R.cells R.slots (fun q => n0 ≤ q)) (F0 m (pc + 1) lsR (st.map (trv ad))) := by
    intro H1 locs1 g1 g2 g3
    rw [← ec] at g1 g2
    exact h _ (cx_off C hoff (by omega) (XRep.upd h1 h2 h3 h6 h7 h8 h9 hlv hoff (live_V (v := vR (some q)) h9 (okh hst)) hq g1 g2) g3) (hL.off hoff) (okS hoff (okt (okt (okt hst))))
  have hcl : ∃ r : vw_C, vwCl[q.1]? = some r := ⟨vwCl[q.1]'hq13, List.getElem?_eq_getElem hq13⟩
  obtain ⟨r, hcl⟩ := hcl
  rcases h5 with h5 | ⟨h5, h52, h53⟩
  · have et : tyA o.1 = .object "java/lang/Object" := by unfold tyA; rw [if_neg (by omega), if_neg (by omega), if_neg (by omega), if_neg (by omega)]
    rw [et] at k7
    exact va_astqO (qk := q1) (ci := q.1) hx hb (kA h6 k7) h4 h5' hS q0 0 hw2 rfl (castO hts hcl) hw3 hcl hin hd fin
  · have et : tyA o.1 = .object "SpotTimers$Tape" := by unfold tyA; rw [if_neg (by omega), if_neg (by omega), if_neg (by omega), if_pos (by omega)]
    rw [et] at k7
    obtain ⟨qa, qb⟩ := q
    dsimp only at h53
    subst h53
    exact va_astq (qk := q1) (ci := 10) (r := (RX9, TX9, 3)) hx hb (kA h6 k7) h4 h5' hS q0 0 hw2 rfl hw3 rfl hin hd fin
theorem r_alen {d rc rs y pc : Nat} {ls st : List XV} {σ : XH} {Q : XV → XH → Prop} {o : XO} {n : Int32} (hd : decode (mC y) pc = .ok (.arraylength, 1)) (ho : 100 ≤ o.1 ∧ o.1 < 500 ∨ o = (500, 0) ∨ o = (501, 0) ∨ o = (503, 0) ∨ o.1 = 513 ∧ o.2 < 12 ∨ o = (510, 0) ∧ hn σ 510 0 = 0) (hv : Int32.ofNat (hn σ o.1 o.2) = n) (h : Ex d rc rs y (pc + 1) ls (vI n :: st) σ Q) : Ex d rc rs y pc ls (vR (some o) :: st) σ Q := by
  intro p l e R s m args below meth c H locs cells slots D n0 σ0 L0 ad0 L ad lsR C hL hst
  have hx := C.1.1
  have hb := C.1.2.1
  obtain ⟨-, -, hP, hZ, -, hS, -⟩ := id C
  have kk := h _ (l := l) (e := e) (below := below) C hL (ok1 (XVok_I _ _) (okt hst))
  rcases ho with ho | rfl | rfl | rfl | ⟨ho, ho2⟩ | ⟨rfl, ho2⟩
  · have hlv := live_dyn hP (okh hst o rfl) (by omega)
    obtain ⟨cy, h1, h2, h3, h4, -, h6, h7, h8, h9⟩ := hP
    obtain ⟨q0, hq, hw2⟩ := wsX_at (ad := ad) (cy := cy) (σ := σ) ((h1 o).mpr hlv)
    have k7 := h7 o ((h1 o).mpr hlv) (by omega)
    by_cases z : o.1 < 400
    · rw [celX_int (by omega) z] at hw2
      exact va_alen hx hb (kA h6 k7) h4 q0 0 hw2 rfl hv hd kk
    · rw [celX_ref (by omega)] at hw2
      exact va_alen hx hb (kA h6 k7) h4 q0 0 hw2 rfl hv hd kk
  · exact va_tlen hx hb (hZ.1 500 (Or.inl rfl)) hS hv hd kk
  · exact va_tlen hx hb (hZ.1 501 (Or.inr (Or.inl rfl))) hS hv hd kk
  · exact va_tlen hx hb (hZ.1 503 (Or.inr (Or.inr rfl))) hS hv hd kk
  · obtain ⟨a, b⟩ := o
    dsimp only at ho ho2
    subst ho
    exact va_tlen hx hb (hZ.2.2.2.2.2.2.2.2.1 b ho2).2.2.2 hS hv hd kk
  · dsimp only at hv
    rw [ho2] at hv
    exact va_tlen hx hb hZ.2.1 hS hv hd kk
