/-! ===== a method's run and its contract over the abstract heap ===== -/
def retv (ad : XO → Nat) (v : XV) : Option Value := match v with
  | Sum.inr (Sum.inr (Sum.inr _)) => none
  | v => some (trv ad v)
def XQ (D : va_G) (n0 : Nat) (σ0 : XH) (L0 : List XO) (ad0 : XO → Nat) (Q : XV → XH → Prop) : Array Value → State → Outcome → State → Prop := fun _ st o t =>
  (∃ (r : XV) (σ : XH) (L : List XO) (ad : XO → Nat), o = .returned (retv ad r) ∧ Q r σ ∧ XVok σ r ∧ XRep D n0 L ad σ t t.heap ∧ XExt σ0 L0 ad0 σ L ad) ∧ va_F (fun q => n0 ≤ q) st t
def XPc (D : va_G) (n0 : Nat) (σ : XH) (L : List XO) (ad : XO → Nat) (as : List XV) : Array Value → State → Prop :=
  va_Pc (as.map (trv ad)) (fun U => XRep D n0 L ad σ U U.heap ∧ XStat ad n0 σ U U.heap ∧ n0 ≤ U.heap.size ∧ ∀ v ∈ as, XVok σ v)
def wsM (y : Nat) : List Cond := .code (mY y) (mC y) (mL y) (mRet y) :: lwG
def Ec (d mc ms y : Nat) (as : List XV) (σ : XH) (Q : XV → XH → Prop) : Prop :=
  ∀ (l : Launch) (D : va_G) (n0 : Nat) (L : List XO) (ad : XO → Nat), Met l (mY y) (wsM y) { frames := d, cells := mc, slots := ms, locals := 40 * d } (XPc D n0 σ L ad as) (XQ D n0 σ L ad Q) mc ms (fun q => n0 ≤ q)
def XCx (d rc rs y : Nat) (p : Program) (R : Room) (s : State) (m : MethodId) (args : Array Value) (meth : Method) (c : Code) (H : Heap) (locs : List Loc) (cells slots : Nat) (D : va_G) (n0 : Nat) (σ0 : XH) (L0 : List XO) (ad0 : XO → Nat) (σ : XH) (L : List XO) (ad : XO → Nat) : Prop :=
  (p.tables.exec = Jvm.exec ∧ c.code = mC y ∧ meth.sig.returnType = mRet y ∧ c.maxLocals = mL y ∧ s.vm.findClass (mY y).cls = some m.cls ∧ meth.locks = false ∧ meth.name = (mY y).name ∧ (∀ w ∈ lwA, w.before args s = true)) ∧
  (d ≤ R.frames ∧ 40 * d ≤ R.locals ∧ cells + rc ≤ R.cells ∧ slots + rs ≤ R.slots) ∧
  XRep D n0 L ad σ s H ∧ XStat ad n0 σ s s.heap ∧ n0 ≤ s.heap.size ∧ va_S (fun q => n0 ≤ q) s.heap H locs ∧ XExt σ0 L0 ad0 σ L ad
def Ex (d rc rs y pc : Nat) (ls st : List XV) (σ : XH) (Q : XV → XH → Prop) : Prop :=
  ∀ (p : Program) {l : Launch} {e : Env} {R : Room} {s : State} {m : MethodId} {args : Array Value} {below : List Frame} {meth : Method} {c : Code} {H : Heap} {locs : List Loc} {cells slots : Nat} {D : va_G} {n0 : Nat} {σ0 : XH} {L0 : List XO} {ad0 : XO → Nat} {L : List XO} {ad : XO → Nat} {lsR : Array Slot},
    XCx d rc rs y p R s m args meth c H locs cells slots D n0 σ0 L0 ad0 σ L ad → XLoc ad σ lsR (mL y) ls → (∀ v ∈ st, XVok σ v) →
    W p l e R s m args below meth c H locs cells slots (MQ below (XQ D n0 σ0 L0 ad0 Q) args s R.cells R.slots (fun q => n0 ≤ q)) (F0 m pc lsR (st.map (trv ad)))
theorem XRep.moved {D : va_G} {n0 : Nat} {L : List XO} {ad : XO → Nat} {σ : XH} {u U : State} {H : Heap} (hvm : u.vm.Alike U.vm) (h : XRep D n0 L ad σ u H) : XRep D n0 L ad σ U H := by
  obtain ⟨cy, h1, h2, h3, h4, h5, h6, h7, h8⟩ := h
  exact ⟨cy, h1, h2, h3, h4, h5, va_K.moved hvm h6, fun o ho h13 => ⟨arrOfT_moved hvm (h7 o ho h13).1, (h7 o ho h13).2.moved hvm⟩, h8⟩
theorem XStat.moved {ad : XO → Nat} {n0 : Nat} {σ : XH} {u U : State} {H : Heap} (hvm : u.vm.Alike U.vm) (hR : ∀ (own : String) (k : Nat) (tx : String) (a : Nat), vk_R own k tx a u → vk_R own k tx a U) (hN : ∀ w ∈ nwL, va_Nw w u → va_Nw w U) (h : XStat ad n0 σ u H) : XStat ad n0 σ U H := by
  obtain ⟨h1, h2, h3, h4, h5, h6, h7, h8, h9, h10, h11⟩ := h
  exact ⟨fun s hs => (h1 s hs).moved hvm, h2.moved hvm, h3.moved hvm, h4.moved hvm, h5.moved hvm, h6.moved hvm, h7.moved hvm, h8.moved hvm, fun k hk => ⟨(h9 k hk).1.moved hvm, (h9 k hk).2.1.moved hvm, (h9 k hk).2.2.1.moved hvm, (h9 k hk).2.2.2.moved hvm⟩, fun k q hk => hR _ _ _ _ (h10 k q hk), fun w hw => hN w hw (h11 w hw)⟩
theorem XStat.warm {ad : XO → Nat} {n0 : Nat} {σ : XH} {s U : State} {H : Heap} (hW : s.WarmedH U.vm) (h : XStat ad n0 σ s H) : XStat ad n0 σ U H := h.moved hW.alike (fun _ _ _ _ => vk_R.warm hW) (nw_warm hW)
theorem XStat.kept {ad : XO → Nat} {n0 : Nat} {σ : XH} {U : State} {H H1 : Heap} (h : XStat ad n0 σ U H) (hq : ∀ a : Nat, a < H.size → ¬ n0 ≤ a → H1[a]? = H[a]?) : XStat ad n0 σ U H1 := by
  obtain ⟨h1, h2, h3, h4, h5, h6, h7, h8, h9, h10, h11⟩ := h
  exact ⟨fun s hs => (h1 s hs).kept hq, h2.kept hq, h3.kept hq, h4.kept hq, h5.kept hq, h6.kept hq, h7.kept hq, h8, fun k hk => ⟨(h9 k hk).1.kept hq, (h9 k hk).2.1.kept hq, (h9 k hk).2.2.1.kept hq, (h9 k hk).2.2.2.kept hq⟩, h10, h11⟩
theorem XStat.ext {ad ad' : XO → Nat} {n0 : Nat} {σ σ' : XH} {L L' : List XO} {U : State} {H : Heap} (h : XStat ad n0 σ U H) (hE : XExt σ L ad σ' L' ad') : XStat ad' n0 σ' U H := by
  obtain ⟨h1, h2, h3, h4, h5, h6, h7, h8, h9, h10, h11⟩ := h
  obtain ⟨-, e1, e2, -⟩ := hE
  have k : ∀ s i, 500 ≤ s → ad' (s, i) = ad (s, i) := fun s i hs => e1 (s, i) hs
  refine ⟨fun s hs => ?_, ?_, ?_, ?_, ?_, h6, ?_, ?_, fun i hi => ?_, fun i q hi => ?_, h11⟩
  · have h5 : 500 ≤ s := by omega
    rw [k s 0 h5, (e2 s h5).1, (e2 s h5).2.1]
    exact h1 s hs
  · rw [k 510 0 (by omega)]; exact h2
  · rw [k 500 0 (by omega)]; exact h3
  · rw [k 501 0 (by omega)]; exact h4
  · rw [k 510 0 (by omega)]; exact h5
  · have e : trv ad' vU = trv ad vU := by
      show (if ad' (514, 1) = 0 then Value.null else .ref (ad' (514, 0))) = (if ad (514, 1) = 0 then Value.null else .ref (ad (514, 0)))
      rw [k 514 0 (by omega), k 514 1 (by omega)]
    rw [e]
    exact h7
  · rw [k 511 0 (by omega)]; exact h8
  · have hz := h9 i hi
    rw [k 512 i (by omega), k 513 i (by omega), (e2 513 (by omega)).1, (e2 513 (by omega)).2.1]
    exact hz
  · rw [k 512 i (by omega)]; exact h10 i q hi
theorem XExt.rf (σ : XH) (L : List XO) (ad : XO → Nat) : XExt σ L ad σ L ad := ⟨fun _ h => ⟨h, rfl⟩, fun _ _ => rfl, fun _ _ => ⟨rfl, rfl, rfl⟩, fun _ => Nat.le_refl _⟩
theorem XExt.trans {σ0 σ1 σ2 : XH} {L0 L1 L2 : List XO} {a0 a1 a2 : XO → Nat} (h : XExt σ0 L0 a0 σ1 L1 a1) (k : XExt σ1 L1 a1 σ2 L2 a2) : XExt σ0 L0 a0 σ2 L2 a2 := by
  obtain ⟨h1, h2, h3, h4⟩ := h
  obtain ⟨k1, k2, k3, k4⟩ := k
  exact ⟨fun o ho => ⟨(k1 o (h1 o ho).1).1, (k1 o (h1 o ho).1).2.trans (h1 o ho).2⟩, fun o ho => (k2 o ho).trans (h2 o ho), fun s hs => ⟨(k3 s hs).1.trans (h3 s hs).1, (k3 s hs).2.1.trans (h3 s hs).2.1, (k3 s hs).2.2.trans (h3 s hs).2.2⟩, fun s => Nat.le_trans (h4 s) (k4 s)⟩
theorem XExt.live {σ0 σ : XH} {L0 L : List XO} {a0 a : XO → Nat} (h : XExt σ0 L0 a0 σ L a) {o : XO} (ho : XLive σ0 o) : XLive σ o := by
  rcases ho with ho | ho
  · exact Or.inl (Nat.lt_of_lt_of_le ho (h.2.2.2 o.1))
  · exact Or.inr ho
theorem XExt.ok {σ0 σ : XH} {L0 L : List XO} {a0 a : XO → Nat} (h : XExt σ0 L0 a0 σ L a) {v : XV} (hv : XVok σ0 v) : XVok σ v := fun o e => h.live (hv o e)
/-- an old value's address is what it was -/
theorem XExt.tr {σ0 σ : XH} {L0 L : List XO} {a0 a : XO → Nat} (h : XExt σ0 L0 a0 σ L a) (hL : ∀ o, o ∈ L0 ↔ o.2 < hc σ0 o.1) {v : XV} (hv : XVok σ0 v) : trv a v = trv a0 v := by
  match v, hv with
  | Sum.inl x, _ => rfl
  | Sum.inr (Sum.inl x), _ => rfl
  | Sum.inr (Sum.inr (Sum.inl none)), _ => rfl
  | Sum.inr (Sum.inr (Sum.inl (some o))), hv =>
    have e : a o = a0 o := by
      rcases hv o rfl with q | q
      · exact (h.1 o ((hL o).mpr q)).2
      · exact h.2.1 o q
    show Value.ref (a o) = Value.ref (a0 o)
    rw [e]
  | Sum.inr (Sum.inr (Sum.inr _)), _ =>
    show (if a (514, 1) = 0 then Value.null else .ref (a (514, 0))) = (if a0 (514, 1) = 0 then Value.null else .ref (a0 (514, 0)))
    rw [h.2.1 (514, 0) (by show 500 ≤ 514; omega), h.2.1 (514, 1) (by show 500 ≤ 514; omega)]
theorem XLoc.ext {σ0 σ : XH} {L0 L : List XO} {a0 a : XO → Nat} (h : XExt σ0 L0 a0 σ L a) (hL : ∀ o, o ∈ L0 ↔ o.2 < hc σ0 o.1) {lsR : Array Slot} {nL : Nat} {ls : List XV} (k : XLoc a0 σ0 lsR nL ls) : XLoc a σ lsR nL ls :=
  ⟨k.1, k.2.1, fun j v hj hv => by
    obtain ⟨k1, k2⟩ := k.2.2 j v hj hv
    exact ⟨by rw [h.tr hL k2]; exact k1, h.ok k2⟩⟩
theorem XPc.blind {D : va_G} {n0 : Nat} {σ : XH} {L : List XO} {ad : XO → Nat} {as : List XV} : FrameBlind (XPc D n0 σ L ad as) := by
  intro a U g mk h
  obtain ⟨h1, h2, h3, h4, h5⟩ := h
  exact ⟨h1, XRep.moved (u := U) (U := U.calling g mk a) (Vm.Alike.refl U.vm) h2, XStat.moved (u := U) (U := U.calling g mk a) (Vm.Alike.refl U.vm) (fun _ _ _ _ => vk_R.same rfl) (nw_same rfl) h3, h4, h5⟩
/-- fewer locals known -/
def XLe (ls ls' : List XV) : Prop := ∀ (k : Nat) (v : XV), ls[k]? = some v → v ≠ vU → ls'[k]? = some v
theorem Ex.forget {d rc rs y pc : Nat} {ls ls' st : List XV} {σ : XH} {Q : XV → XH → Prop} (hl : XLe ls ls') (h : Ex d rc rs y pc ls st σ Q) : Ex d rc rs y pc ls' st σ Q := by
  intro p l e R s m args below meth c H locs cells slots D n0 σ0 L0 ad0 L ad lsR C hL hst
  exact h _ C ⟨hL.1, hL.2.1, fun k v hk hv => hL.2.2 k v (hl k v hk hv) hv⟩ hst
theorem Ex.more {d d' rc rc' rs rs' y pc : Nat} {ls st : List XV} {σ : XH} {Q : XV → XH → Prop} (hd : d ≤ d') (hc : rc ≤ rc') (hs : rs ≤ rs') (h : Ex d rc rs y pc ls st σ Q) : Ex d' rc' rs' y pc ls st σ Q := by
  intro p l e R s m args below meth c H locs cells slots D n0 σ0 L0 ad0 L ad lsR C hL hst
  obtain ⟨C1, ⟨r1, r2, r3, r4⟩, C3⟩ := C
  exact h _ ⟨C1, ⟨by omega, by omega, by omega, by omega⟩, C3⟩ hL hst
theorem XQ.mono {D : va_G} {n0 : Nat} {σ0 : XH} {L0 : List XO} {ad0 : XO → Nat} {Q Q' : XV → XH → Prop} (hq : ∀ r σ, Q r σ → Q' r σ) {a : Array Value} {s t : State} {o : Outcome} (h : XQ D n0 σ0 L0 ad0 Q a s o t) : XQ D n0 σ0 L0 ad0 Q' a s o t := by
  obtain ⟨⟨r, σ, L, ad, h1, h2, h3⟩, h4⟩ := h
  exact ⟨⟨r, σ, L, ad, h1, hq r σ h2, h3⟩, h4⟩
theorem Ex.mono {d rc rs y pc : Nat} {ls st : List XV} {σ : XH} {Q Q' : XV → XH → Prop} (hq : ∀ r σ, Q r σ → Q' r σ) (h : Ex d rc rs y pc ls st σ Q) : Ex d rc rs y pc ls st σ Q' := by
  intro p l e R s m args below meth c H locs cells slots D n0 σ0 L0 ad0 L ad lsR C hL hst T hT X
  obtain ⟨t, ht, o, k1, k2, k3, k4⟩ := h _ C hL hst T hT X
  exact ⟨t, ht, o, k1, k2, XQ.mono hq k3, k4⟩
def eLs : List XV → List XV
  | [] => []
  | Sum.inr (Sum.inl x) :: t => vL x :: vU :: eLs t
  | v :: t => v :: eLs t
def entL (as : List XV) (n : Nat) : List XV := eLs as ++ List.replicate (n - (eLs as).length) vU
theorem lg_sl_U (ad : XO → Nat) (u : Unit) (l : List Value) : lg_sl (trv ad (Sum.inr (Sum.inr (Sum.inr u))) :: l) = .val (trv ad (Sum.inr (Sum.inr (Sum.inr u)))) :: lg_sl l := by
  have e : (trv ad (Sum.inr (Sum.inr (Sum.inr u)))).category = 1 := by
    show (if ad (514, 1) = 0 then Value.null else .ref (ad (514, 0))).category = 1
    split <;> rfl
  simp [lg_sl, e]
theorem ent_at (ad : XO → Nat) : ∀ (as : List XV) (k : Nat) (v : XV), (eLs as)[k]? = some v → v ≠ vU → (lg_sl (as.map (trv ad)))[k]? = some (Slot.val (trv ad v)) ∧ v ∈ as
  | [], k, v, h, _ => by simp [eLs] at h
  | Sum.inl x :: t, 0, v, h, _ => by
    cases h
    exact ⟨rfl, List.mem_cons_self⟩
  | Sum.inl x :: t, k + 1, v, h, hv => by
    obtain ⟨h1, h2⟩ := ent_at ad t k v h hv
    exact ⟨h1, List.mem_cons_of_mem _ h2⟩
  | Sum.inr (Sum.inl x) :: t, 0, v, h, _ => by
    cases h
    exact ⟨rfl, List.mem_cons_self⟩
  | Sum.inr (Sum.inl x) :: t, 1, v, h, hv => by
    cases h
    exact absurd rfl hv
  | Sum.inr (Sum.inl x) :: t, k + 2, v, h, hv => by
    obtain ⟨h1, h2⟩ := ent_at ad t k v h hv
    exact ⟨h1, List.mem_cons_of_mem _ h2⟩
  | Sum.inr (Sum.inr (Sum.inl none)) :: t, 0, v, h, _ => by
    cases h
    exact ⟨rfl, List.mem_cons_self⟩
  | Sum.inr (Sum.inr (Sum.inl (some o))) :: t, 0, v, h, _ => by
    cases h
    exact ⟨rfl, List.mem_cons_self⟩
  | Sum.inr (Sum.inr (Sum.inl none)) :: t, k + 1, v, h, hv => by
    obtain ⟨h1, h2⟩ := ent_at ad t k v h hv
    exact ⟨h1, List.mem_cons_of_mem _ h2⟩
  | Sum.inr (Sum.inr (Sum.inl (some o))) :: t, k + 1, v, h, hv => by
    obtain ⟨h1, h2⟩ := ent_at ad t k v h hv
    exact ⟨h1, List.mem_cons_of_mem _ h2⟩
  | Sum.inr (Sum.inr (Sum.inr u)) :: t, 0, v, h, hv => by
    cases h
    exact absurd rfl hv
  | Sum.inr (Sum.inr (Sum.inr u)) :: t, k + 1, v, h, hv => by
    obtain ⟨h1, h2⟩ := ent_at ad t k v h hv
    refine ⟨?_, List.mem_cons_of_mem _ h2⟩
    rw [List.map_cons, lg_sl_U]
    exact h1
theorem ent_len (ad : XO → Nat) : ∀ (as : List XV), (lg_sl (as.map (trv ad))).length = (eLs as).length
  | [] => rfl
  | Sum.inl x :: t => congrArg (· + 1) (ent_len ad t)
  | Sum.inr (Sum.inl x) :: t => congrArg (· + 2) (ent_len ad t)
  | Sum.inr (Sum.inr (Sum.inl none)) :: t => congrArg (· + 1) (ent_len ad t)
  | Sum.inr (Sum.inr (Sum.inl (some o))) :: t => congrArg (· + 1) (ent_len ad t)
  | Sum.inr (Sum.inr (Sum.inr u)) :: t => by
    rw [List.map_cons, lg_sl_U]
    exact congrArg (· + 1) (ent_len ad t)
theorem Ec_of {d mc ms y : Nat} {as : List XV} {σ : XH} {Q : XV → XH → Prop} (hpl : plainFor (mY y) = true) (hl : (eLs as).length ≤ mL y) (h : Ex d mc ms y 0 (entL as (mL y)) [] σ Q) : Ec d mc ms y as σ Q := by
  intro l D n0 L ad
  refine va_MetF (cc := mC y) (maxL := mL y) (ret := mRet y) (ws' := lwG) hpl rfl ?_
  intro p e s m args below meth c s₁ B hml hv
  obtain ⟨rfl, hP, hZ, hn0, hok⟩ := hv
  have hts := atoms_spec (ws := wsM y) B.pre
  have hle : (lg_sl (as.map (trv ad))).length ≤ mL y := by rw [ent_len]; exact hl
  have he := lv_entry (as.map (trv ad)) (n := mL y) hle
  rw [lg_entry_eq]
  refine h _ (L0 := L) (ad0 := ad) (σ0 := σ) (L := L) (ad := ad) ⟨⟨B.exec, B.bytes, B.returns, hml, findClass_of_methodNamed B.named, B.notSynchronized, (name_of_methodNamed B.named B.method).1, fun w hw => (List.mem_append.mp hw).elim (fun hw => hts w (List.mem_cons_of_mem _ hw)) (fun hw => nw_use w hw (hZ.2.2.2.2.2.2.2.2.2.2 w hw))⟩, ⟨Nat.le_refl _, Nat.le_refl _, by simp [headSpec], by simp [headSpec]⟩, hP, hZ, hn0, va_S.rf, XExt.rf σ L ad⟩ ⟨he.1, he.2.1, fun k v hk hv => ?_⟩ (fun v hv => by cases hv)
  have hk2 : (eLs as)[k]? = some v := by
    unfold entL at hk
    rcases Nat.lt_or_ge k (eLs as).length with q | q
    · rw [List.getElem?_append_left q] at hk
      exact hk
    · rw [List.getElem?_append_right q, List.getElem?_replicate] at hk
      split at hk
      · cases hk
        exact absurd rfl hv
      · cases hk
  obtain ⟨h1, h2⟩ := ent_at ad as k v hk2 hv
  refine ⟨?_, hok v h2⟩
  have hlt : k < (lg_sl (as.map (trv ad))).length := (List.getElem?_eq_some_iff.mp h1).1
  rw [List.getElem?_toArray, List.getElem?_append_left hlt]
  exact h1
