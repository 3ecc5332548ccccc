/-! ===== calls ===== -/
theorem tbl_good : ∀ w ∈ lwG, goodWord w = true := fun w h => (List.mem_filter.mp h).2
theorem lwG_A : ∀ w ∈ lwG, w ∈ lwA := fun _ h => List.mem_append_left _ h
def MOK (y n : Nat) : Prop := plainFor (mY y) = true ∧ Cond.code (mY y) (mC y) (mL y) (mRet y) ∈ lwA ∧ ((mY y).cls ≠ "java/lang/invoke/MethodHandle" ∧ (mY y).cls ≠ "java/lang/invoke/VarHandle" ∧ (parseMethodDescriptor (mY y).desc).map (fun d => d.parameters.length) = some n) ∧ Cond.initialized (mY y).cls ∈ lwA ∧ mL y ≤ 21
theorem wsM_good {y n : Nat} (h : MOK y n) : GoodIn lwA (wsM y) := by
  intro w hw
  rcases List.mem_cons.mp hw with rfl | hw
  · exact ⟨h.2.1, good_of_word rfl⟩
  · exact ⟨lwG_A w hw, good_of_word (tbl_good w hw)⟩
def pushv (r : XV) (st : List XV) : List XV := match r with
  | Sum.inl x => vI x :: st
  | Sum.inr (Sum.inl x) => vL x :: st
  | Sum.inr (Sum.inr (Sum.inl o)) => vR o :: st
  | Sum.inr (Sum.inr (Sum.inr _)) => st
theorem pushv_ok {σ : XH} {r : XV} {st : List XV} (hr : XVok σ r) (h : ∀ v ∈ st, XVok σ v) : ∀ v ∈ pushv r st, XVok σ v := by
  match r, hr with
  | Sum.inl x, hr => exact ok1 hr h
  | Sum.inr (Sum.inl x), hr => exact ok1 hr h
  | Sum.inr (Sum.inr (Sum.inl o)), hr => exact ok1 hr h
  | Sum.inr (Sum.inr (Sum.inr _)), _ => exact h
theorem pushv_tr (ad : XO → Nat) (r : XV) (st : List XV) : (pushv r st).map (trv ad) = (retv ad r).toList ++ st.map (trv ad) := by
  match r with
  | Sum.inl x => rfl
  | Sum.inr (Sum.inl x) => rfl
  | Sum.inr (Sum.inr (Sum.inl o)) => rfl
  | Sum.inr (Sum.inr (Sum.inr _)) => rfl
theorem pre_call {d rc rs y : Nat} {p : Program} {R : Room} {s : State} {m : MethodId} {args : Array Value} {meth : Method} {c : Code} {H : Heap} {locs : List Loc} {cells slots : Nat} {D : va_G} {n0 : Nat} {σ0 σ : XH} {L0 L : List XO} {ad0 ad : XO → Nat} {as : List XV}
    (C : XCx d rc rs y p R s m args meth c H locs cells slots D n0 σ0 L0 ad0 σ L ad) (hok : ∀ v ∈ as, XVok σ v) : PreS s H (XPc D n0 σ L ad as) (as.map (trv ad)) := by
  obtain ⟨-, -, hP, hZ, hn0, hS, -⟩ := C
  refine ⟨XPc.blind, fun U hU hW => ⟨rfl, by rw [hU]; exact hP.moved hW.alike, ?_, by rw [hU]; exact Nat.le_trans hn0 hS.1, hok⟩⟩
  rw [hU]
  exact XStat.warm hW (hZ.kept hS.2.1)
theorem r_run {d d' rc rs mc ms y y' pc : Nat} {ls st as gst : List XV} {σ : XH} {Q : XV → XH → Prop} (hEc : Ec d' mc ms y' as σ (fun r σ' => Ex d rc rs y (pc + 3) ls (pushv r st) σ' Q)) (hokS : ∀ {σ : XH}, (∀ v ∈ gst, XVok σ v) → ∀ v ∈ st, XVok σ v)
    (hrun : ∀ {p : Program} {l : Launch} {e : Env} {R : Room} {s : State} {m : MethodId} {args : Array Value} {below : List Frame} {meth : Method} {c : Code} {H : Heap} {locs : List Loc} {cells slots : Nat} {D : va_G} {n0 : Nat} {σ0 : XH} {L0 : List XO} {ad0 : XO → Nat} {L : List XO} {ad : XO → Nat} {lsR : Array Slot} {Qc : Array Value → State → Outcome → State → Prop},
      XCx d (rc + mc) (rs + ms) y p R s m args meth c H locs cells slots D n0 σ0 L0 ad0 σ L ad → XLoc ad σ lsR (mL y) ls → (∀ v ∈ gst, XVok σ v) → Met l (mY y') (wsM y') { frames := d', cells := mc, slots := ms, locals := 40 * d' } (XPc D n0 σ L ad as) Qc mc ms (fun q => n0 ≤ q) →
      va_Run p l e R s m args below meth c H locs cells slots mc ms (F0 m pc lsR (gst.map (trv ad))) (st.map (trv ad)) (Qc (as.map (trv ad)).toArray) (fun q => n0 ≤ q)) : Ex d (rc + mc) (rs + ms) y pc ls gst σ Q := by
  intro p l e R s m args below meth c H locs cells slots D n0 σ0 L0 ad0 L ad lsR C hL hst T hT X
  obtain ⟨v, st₀, t, T', L', e0, X', hL', e1, e2, ⟨⟨r, σ', L1, ad1, hv, hK, hr, hR1, hE1⟩, hz, hk⟩, go⟩ := hrun (e := e) (below := below) C hL hst (hEc l D n0 L ad) T hT X
  cases hv
  rw [e0] at hz hk
  obtain ⟨-, ⟨r1, r2, r3, r4⟩, hP, hZ, hn0, hS, hE⟩ := id C
  have hL1 : ∀ o, o ∈ L ↔ o.2 < hc σ o.1 := hP.choose_spec.1
  have hvm : t.vm.Alike s.vm := by rw [← e2]; exact X'.warmed.alike.symm
  have hS' : va_S (fun q => n0 ≤ q) s.heap T'.heap (locs ++ L') := ⟨Nat.le_trans hS.1 (by rw [e1]; exact hz), fun q h1 h2 => by
    rw [e1, hk q (Nat.lt_of_lt_of_le h1 hS.1) h2]
    exact hS.2.1 q h1 h2, fun q hq => by
    rcases List.mem_append.mp hq with h | h
    · exact hS.2.2 q h
    · exact hL' q h⟩
  have kk := hK p (l := l) (e := e) (below := below) (cx_grow C hE1 (by rw [e1]; exact hR1.moved hvm) hS' (cells' := cells + mc) (slots' := slots + ms) (rc' := rc) (rs' := rs) (by omega) (by omega)) (hL.ext hE1 hL1) (pushv_ok hr (fun v hv => hE1.ok (hokS hst v hv))) T' rfl X'
  rw [pushv_tr, st_ext hE1 hL1 (hokS hst)] at kk
  obtain ⟨t2, a1, b1⟩ := kk
  exact ⟨t2, go t2 a1, b1⟩
theorem roomC {d d' rc rs y n : Nat} {y' : Nat} {p : Program} {R : Room} {s : State} {m : MethodId} {args : Array Value} {meth : Method} {c : Code} {H : Heap} {locs : List Loc} {cells slots mc ms : Nat} {D : va_G} {n0 : Nat} {σ0 σ : XH} {L0 L : List XO} {ad0 ad : XO → Nat}
    (C : XCx d rc rs y p R s m args meth c H locs cells slots D n0 σ0 L0 ad0 σ L ad) (hd : d' + 1 ≤ d) (hM : MOK y' n) : ({ frames := d', cells := mc, slots := ms, locals := 40 * d' } : Room).frames + 1 ≤ R.frames ∧ 8 + (mL y' + 11) + ({ frames := d', cells := mc, slots := ms, locals := 40 * d' } : Room).locals ≤ R.locals := by
  obtain ⟨-, ⟨r1, r2, -, -⟩, -⟩ := C
  have := hM.2.2.2.2
  exact ⟨by dsimp only; omega, by dsimp only; omega⟩
theorem r_static {d d' rc rs mc ms y y' n idx pc : Nat} {ls st as : List XV} {σ : XH} {Q : XV → XH → Prop} (hd : decode (mC y) pc = .ok (.invokestatic idx, 3)) (hM : MOK y' n) (hn : as.length = n) (hw : Cond.methodLink (mY y).cls idx (mY y') ∈ lwA ∨ Cond.methodLinkNest (mY y).cls idx (mY y') "SpotTimers" ∈ lwA) (hw2 : Cond.static (mY y') ∈ lwA) (hdd : d' + 1 ≤ d) (hcat : catS st ≤ 8)
    (h : Ec d' mc ms y' as σ (fun r σ' => Ex d rc rs y (pc + 3) ls (pushv r st) σ' Q)) : Ex d (rc + mc) (rs + ms) y pc ls (as.reverse ++ st) σ Q := by
  refine r_run h (fun hst v hv => hst v (List.mem_append_right _ hv)) ?_
  intro p l e R s m args below meth c H locs cells slots D n0 σ0 L0 ad0 L ad lsR Qc C hL hst hMet
  obtain ⟨⟨hx, hb, -, hml, hown, -, -, hts⟩, ⟨r1, r2, r3, r4⟩, -⟩ := id C
  have hpre : PreS s H (XPc D n0 σ L ad as) (as.map (trv ad)) := pre_call C (fun v hv => hst v (List.mem_append_left _ (List.mem_reverse.mpr hv)))
  have hstk : (as.reverse ++ st).map (trv ad) = (as.map (trv ad)).reverse ++ st.map (trv ad) := by rw [List.map_append, List.map_reverse]
  have hWr : 2 * (F0 m pc lsR ((as.reverse ++ st).map (trv ad))).monitorRoom + ((st.map (trv ad)).map fun v => v.category).sum ≤ 8 := lv_room (by rw [catS_ok]; exact hcat)
  rcases hw with hw | hw
  · exact va_runS (As := as.map (trv ad)) (rest := st.map (trv ad)) ⟨hx, hb, hml, hown, hts⟩ hMet ⟨callB_of n hts (wsM_good hM) rfl rfl rfl (hts _ hM.2.2.2.1) (hts _ hw) hM.2.2.1 (roomC C hdd hM), hts _ hw2⟩ hpre rfl (by rw [List.length_map]; exact hn) hL.1 hstk hWr hd ⟨by omega, by omega⟩
  · exact va_runSN (As := as.map (trv ad)) (rest := st.map (trv ad)) ⟨hx, hb, hml, hown, hts⟩ hMet ⟨va_cnB n hts (wsM_good hM) rfl rfl rfl (va_Nw.of rfl (hts _ hw)) (hts _ hM.2.2.2.1) hM.2.2.1 (roomC C hdd hM), hts _ hw2, trivial⟩ hpre rfl (by rw [List.length_map]; exact hn) hL.1 hstk hWr hd ⟨by omega, by omega⟩
theorem recv_ok {D : va_G} {n0 : Nat} {L : List XO} {ad : XO → Nat} {σ : XH} {s : State} {H : Heap} (hP : XRep D n0 L ad σ s H) {ci i : Nat} {r : vw_C} (hcl : vwCl[ci]? = some r) (hl : XLive σ (ci, i)) : ∃ cell : Cell, H[ad (ci, i)]? = some cell ∧ cell.vm.isStatics = false ∧ s.vm.findClass r.1 = some cell.cls := by
  have h13 := cls_lt hcl
  have hlv := live_dyn hP hl (by show ci < 500; omega)
  obtain ⟨cy, h1, h2, h3, h4, -, h6, -⟩ := hP
  obtain ⟨q0, hq, hw2⟩ := wsX_at (ad := ad) (cy := cy) (σ := σ) ((h1 (ci, i)).mpr hlv)
  rw [celX_obj h13] at hw2
  exact va_recv h6 h4 hcl hw2
theorem r_virt {d d' rc rs mc ms y y' n idx pc : Nat} {ls st as : List XV} {o : XO} {σ : XH} {Q : XV → XH → Prop} (hd : decode (mC y) pc = .ok (.invokevirtual idx, 3)) (hM : MOK y' n) (hn : as.length = n) (hw : Cond.methodLink (mY y).cls idx (mY y') ∈ lwA) (hw2 : Cond.instanceMethod (mY y') ∈ lwA) (hw3 : Cond.selects (mY y').cls (mY y') (mY y') ∈ lwA) (hcl : (∃ r : vw_C, vwCl[o.1]? = some r ∧ r.1 = (mY y').cls) ∨ o.1 = 512 ∧ o.2 < 12 ∧ (mY y').cls = "java/lang/String") (hdd : d' + 1 ≤ d) (hcat : catS st ≤ 8)
    (h : Ec d' mc ms y' (vR (some o) :: as) σ (fun r σ' => Ex d rc rs y (pc + 3) ls (pushv r st) σ' Q)) : Ex d (rc + mc) (rs + ms) y pc ls (as.reverse ++ vR (some o) :: st) σ Q := by
  refine r_run h (fun hst v hv => hst v (List.mem_append_right _ (List.mem_cons_of_mem _ hv))) ?_
  intro p l e R s m args below meth c H locs cells slots D n0 σ0 L0 ad0 L ad lsR Qc C hL hst hMet
  obtain ⟨⟨hx, hb, -, hml, hown, -, -, hts⟩, ⟨r1, r2, r3, r4⟩, hP, hZ, hn0, hS, -⟩ := id C
  have hpre : PreS s H (XPc D n0 σ L ad (vR (some o) :: as)) ((vR (some o) :: as).map (trv ad)) := pre_call C (fun v hv => by
    rcases List.mem_cons.mp hv with rfl | hv
    · exact hst _ (List.mem_append_right _ List.mem_cons_self)
    · exact hst v (List.mem_append_left _ (List.mem_reverse.mpr hv)))
  have hrec : ∃ cell : Cell, H[ad o]? = some cell ∧ cell.vm.isStatics = false ∧ s.vm.findClass (mY y').cls = some cell.cls := by
    rcases hcl with ⟨r, hcl, hr⟩ | ⟨q1, q2, q3⟩
    · rw [← hr]
      exact recv_ok hP (i := o.2) hcl (hst (vR (some o)) (List.mem_append_right _ List.mem_cons_self) o rfl)
    · obtain ⟨a, b⟩ := o
      dsimp only at q1 q2
      subst q1
      rw [q3]
      obtain ⟨cell, g1, g2, g3, -⟩ := (hZ.2.2.2.2.2.2.2.2.1 b q2).1.kept hS.2.1
      exact ⟨cell, g1, g2, g3⟩
  have hstk : (as.reverse ++ vR (some o) :: st).map (trv ad) = (as.map (trv ad)).reverse ++ .ref (ad o) :: st.map (trv ad) := by rw [List.map_append, List.map_reverse]; rfl
  have hWr : 2 * (F0 m pc lsR ((as.reverse ++ vR (some o) :: st).map (trv ad))).monitorRoom + ((st.map (trv ad)).map fun v => v.category).sum ≤ 8 := lv_room (by rw [catS_ok]; exact hcat)
  exact va_runV (C := (mY y').cls) (b := ad o) (As := as.map (trv ad)) (rest := st.map (trv ad)) ⟨hx, hb, hml, hown, hts⟩ hMet ⟨callB_of n hts (wsM_good hM) rfl rfl rfl (hts _ hM.2.2.2.1) (hts _ hw) hM.2.2.1 (roomC C hdd hM), hts _ hw2, hts _ hw3⟩ ⟨hpre.1, hrec, hpre.2⟩ rfl (by rw [List.length_map]; exact hn) hL.1 hstk hWr hd ⟨by omega, by omega⟩
theorem r_init {d d' rc rs mc ms y y' n idx pc : Nat} {ls st as : List XV} {o : XO} {σ : XH} {Q : XV → XH → Prop} (hd : decode (mC y) pc = .ok (.invokespecial idx, 3)) (hM : MOK y' n) (hn : as.length = n) (hw : Cond.methodLink (mY y).cls idx (mY y') ∈ lwA ∨ Cond.methodLinkNest (mY y).cls idx (mY y') "SpotTimers" ∈ lwA) (hw2 : Cond.instanceMethod (mY y') ∈ lwA) (hnm : (mY y').name = "<init>") (hret : mRet y' = none) (hdd : d' + 1 ≤ d) (hcat : catS st ≤ 8)
    (h : Ec d' mc ms y' (vR (some o) :: as) σ (fun r σ' => Ex d rc rs y (pc + 3) ls (pushv r st) σ' Q)) : Ex d (rc + mc) (rs + ms) y pc ls (as.reverse ++ vR (some o) :: st) σ Q := by
  refine r_run h (fun hst v hv => hst v (List.mem_append_right _ (List.mem_cons_of_mem _ hv))) ?_
  intro p l e R s m args below meth c H locs cells slots D n0 σ0 L0 ad0 L ad lsR Qc C hL hst hMet
  obtain ⟨⟨hx, hb, -, hml, hown, -, -, hts⟩, ⟨r1, r2, r3, r4⟩, hP, hZ, hn0, hS, -⟩ := id C
  have hpre : PreS s H (XPc D n0 σ L ad (vR (some o) :: as)) ((vR (some o) :: as).map (trv ad)) := pre_call C (fun v hv => by
    rcases List.mem_cons.mp hv with rfl | hv
    · exact hst _ (List.mem_append_right _ List.mem_cons_self)
    · exact hst v (List.mem_append_left _ (List.mem_reverse.mpr hv)))
  have hstk : (as.reverse ++ vR (some o) :: st).map (trv ad) = (as.map (trv ad)).reverse ++ .ref (ad o) :: st.map (trv ad) := by rw [List.map_append, List.map_reverse]; rfl
  have hWr : 2 * (F0 m pc lsR ((as.reverse ++ vR (some o) :: st).map (trv ad))).monitorRoom + ((st.map (trv ad)).map fun v => v.category).sum ≤ 8 := lv_room (by rw [catS_ok]; exact hcat)
  have hG := wsM_good hM
  unfold wsM at hMet hG
  rw [hret] at hMet hG
  rcases hw with hw | hw
  · exact va_runI (b := ad o) (As := as.map (trv ad)) (rest := st.map (trv ad)) ⟨hx, hb, hml, hown, hts⟩ hMet ⟨callB_of n hts hG rfl rfl rfl (hts _ hM.2.2.2.1) (hts _ hw) hM.2.2.1 (roomC C hdd hM), hnm, hts _ hw2⟩ hpre rfl (by rw [List.length_map]; exact hn) hL.1 hstk hWr hd ⟨by omega, by omega⟩
  · exact va_runIN (b := ad o) (As := as.map (trv ad)) (rest := st.map (trv ad)) ⟨hx, hb, hml, hown, hts⟩ hMet ⟨va_cnB n hts hG rfl rfl rfl (va_Nw.of rfl (hts _ hw)) (hts _ hM.2.2.2.1) hM.2.2.1 (roomC C hdd hM), hnm, hts _ hw2⟩ hpre rfl (by rw [List.length_map]; exact hn) hL.1 hstk hWr hd ⟨by omega, by omega⟩
theorem r_objInit {d rc rs y pc : Nat} {ls st : List XV} {σ : XH} {Q : XV → XH → Prop} {idx : Nat} {o : XO} (hd : decode (mC y) pc = .ok (.invokespecial idx, 3)) (hw : Cond.methodLink (mY y).cls idx Lib.objectInit ∈ lwA) (hw2 : Cond.instanceMethod Lib.objectInit ∈ lwA) (hw3 : Cond.code Lib.objectInit ⟨#[0xb1]⟩ 1 none ∈ lwA) (hdd : 1 ≤ d) (hcat : catS st ≤ 8) (h : Ex d rc rs y (pc + 3) ls st σ Q) : Ex d rc rs y pc ls (vR (some o) :: st) σ Q := by
  intro p l e R s m args below meth c H locs cells slots D n0 σ0 L0 ad0 L ad lsR C hL hst
  have hx := C.1.1
  have hb := C.1.2.1
  obtain ⟨⟨-, -, -, hml, hown, -, -, hts⟩, ⟨r1, r2, -, -⟩, -⟩ := id C
  have hWr := lv_room (m := m) (pc := pc) (ls := lsR) (rest := (vR (some o) :: st).map (trv ad)) (st := st.map (trv ad)) (by rw [catS_ok]; exact hcat)
  exact W.objInit hx hb hown (hts _ hw) (hts _ hw2) (hts _ hw3) rfl (hL.1.trans hml.symm) (a := ad o) (rest := st.map (trv ad)) rfl hd (by omega) (by omega) (h _ C hL (okt hst))

