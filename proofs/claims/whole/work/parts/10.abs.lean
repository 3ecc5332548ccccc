/-! ===== the abstract heap: names of objects are (site, index); typed functions hold what they hold ===== -/
abbrev XO : Type := Nat × Nat
abbrev XV : Type := Int32 ⊕ (Int64 ⊕ (Option XO ⊕ Unit))
abbrev vI (x : Int32) : XV := Sum.inl x
abbrev vL (x : Int64) : XV := Sum.inr (Sum.inl x)
abbrev vR (r : Option XO) : XV := Sum.inr (Sum.inr (Sum.inl r))
abbrev vU : XV := Sum.inr (Sum.inr (Sum.inr ()))
/-- how many there are at a site; lengths of arrays; ints; longs; references -/
abbrev XH : Type := (Nat → Nat) × (Nat → Nat → Nat) × (Nat → Nat → Nat → Int32) × (Nat → Nat → Nat → Int64) × (Nat → Nat → Nat → Option XO)
def hc (σ : XH) : Nat → Nat := σ.1
def hn (σ : XH) : Nat → Nat → Nat := σ.2.1
def hi (σ : XH) : Nat → Nat → Nat → Int32 := σ.2.2.1
def hl (σ : XH) : Nat → Nat → Nat → Int64 := σ.2.2.2.1
def hr (σ : XH) : Nat → Nat → Nat → Option XO := σ.2.2.2.2
def up3 {α : Type} (f : Nat → Nat → Nat → α) (s i k : Nat) (x : α) : Nat → Nat → Nat → α := fun s' i' k' => if s' = s ∧ i' = i ∧ k' = k then x else f s' i' k'
def wI (σ : XH) (s i k : Nat) (x : Int32) : XH := (σ.1, σ.2.1, up3 σ.2.2.1 s i k x, σ.2.2.2)
def wL (σ : XH) (s i k : Nat) (x : Int64) : XH := (σ.1, σ.2.1, σ.2.2.1, up3 σ.2.2.2.1 s i k x, σ.2.2.2.2)
def wR (σ : XH) (s i k : Nat) (x : Option XO) : XH := (σ.1, σ.2.1, σ.2.2.1, σ.2.2.2.1, up3 σ.2.2.2.2 s i k x)
def nwO (σ : XH) (s : Nat) : XH := (fun t => if t = s then σ.1 s + 1 else σ.1 t, σ.2)
def nwA (σ : XH) (s n : Nat) : XH := (fun t => if t = s then σ.1 s + 1 else σ.1 t, fun t i => if t = s ∧ i = σ.1 s then n else σ.2.1 t i, σ.2.2)
/-- n ints from place a of array o on come to place b of array q -/
def cpI (σ : XH) (o : XO) (a : Nat) (q : XO) (b n : Nat) : XH := (σ.1, σ.2.1, fun s i k => if s = q.1 ∧ i = q.2 ∧ b ≤ k ∧ k < b + n then σ.2.2.1 o.1 o.2 (a + (k - b)) else σ.2.2.1 s i k, σ.2.2.2)
def cpR (σ : XH) (o : XO) (a : Nat) (q : XO) (b n : Nat) : XH := (σ.1, σ.2.1, σ.2.2.1, σ.2.2.2.1, fun s i k => if s = q.1 ∧ i = q.2 ∧ b ≤ k ∧ k < b + n then σ.2.2.2.2 o.1 o.2 (a + (k - b)) else σ.2.2.2.2 s i k)
def trv (ad : XO → Nat) (v : XV) : Value := match v with
  | Sum.inl x => .int x
  | Sum.inr (Sum.inl x) => .long x
  | Sum.inr (Sum.inr (Sum.inl r)) => va_rf (r.map ad)
  | Sum.inr (Sum.inr (Sum.inr _)) => if ad (514, 1) = 0 then .null else .ref (ad (514, 0))
theorem trv_I (ad : XO → Nat) (x : Int32) : trv ad (vI x) = .int x := rfl
theorem trv_L (ad : XO → Nat) (x : Int64) : trv ad (vL x) = .long x := rfl
theorem trv_R (ad : XO → Nat) (r : Option XO) : trv ad (vR r) = va_rf (r.map ad) := rfl
theorem trv_o (ad : XO → Nat) (o : XO) : trv ad (vR (some o)) = .ref (ad o) := rfl
theorem trv_n (ad : XO → Nat) : trv ad (vR none) = .null := rfl
/-- sites from 500 on are there from the start and never change -/
def XLive (σ : XH) (o : XO) : Prop := o.2 < hc σ o.1 ∨ 500 ≤ o.1
def XVok (σ : XH) (v : XV) : Prop := ∀ o, v = vR (some o) → XLive σ o
theorem XVok_I (σ : XH) (x : Int32) : XVok σ (vI x) := fun _ h => by cases h
theorem XVok_L (σ : XH) (x : Int64) : XVok σ (vL x) := fun _ h => by cases h
theorem XVok_U (σ : XH) : XVok σ vU := fun _ h => by cases h
theorem XVok_n (σ : XH) : XVok σ (vR none) := fun _ h => by cases h
theorem XVok_o {σ : XH} {o : XO} (h : XLive σ o) : XVok σ (vR (some o)) := fun _ e => by cases e; exact h
theorem XVok_R {σ : XH} {r : Option XO} (h : ∀ o, r = some o → XLive σ o) : XVok σ (vR r) := fun o e => h o (by cases e; rfl)
/-- the field's sort: 0 int and its like, 1 long, 2 reference, 3 boolean -/
def ftL : List (List Nat) := [[0, 2, 0], [2, 0, 0, 0, 0], [0, 2, 2, 2, 0, 0], [0, 0, 0, 0], [0, 0], [0, 0, 2, 0, 0, 2, 0, 0, 0, 0, 0], [0, 0, 0, 2, 2, 2, 0, 0, 0, 0, 0, 3, 3], [2, 0, 0], [0, 3, 0, 2, 0], [2, 2, 2, 2, 2, 2, 2, 0, 1, 1], [2, 0, 0], [2, 2, 2, 2, 2, 2, 2, 2, 2, 2, 2, 2, 0, 0, 0], [0, 0, 0, 0, 2, 2, 2, 2, 0, 2, 2, 2, 2, 2, 2, 2, 2, 2, 2, 0, 0, 2, 2, 2, 2, 0, 0, 2, 2, 2, 2, 0, 0, 0, 0, 3, 3, 3, 2, 2, 0, 0, 0, 0, 2, 2, 0, 0, 0, 0, 2, 2, 2, 2, 2, 2, 2, 1, 1, 0, 2, 2, 2, 0, 2, 2, 2, 2, 2]]
def ftc (c k : Nat) : Nat := (ftL.getD c []).getD k 0
def fnum (c : Nat) : Nat := (ftL.getD c []).length
def fvX (ad : XO → Nat) (σ : XH) (s i k : Nat) : Value := if ftc s k = 1 then .long (hl σ s i k) else if ftc s k = 2 then va_rf ((hr σ s i k).map ad) else .int (hi σ s i k)
def flds (ad : XO → Nat) (σ : XH) (s i : Nat) : List Value := (List.range (fnum s)).map (fvX ad σ s i)
def celX (ad : XO → Nat) (cy : XO → ClassId) (σ : XH) (o : XO) : va_E :=
  if o.1 < 13 then .inr (o.1, flds ad σ o.1 o.2)
  else if o.1 < 400 then .inl (cy o, hn σ o.1 o.2, .inl (hi σ o.1 o.2))
  else .inl (cy o, hn σ o.1 o.2, .inr (.inr (.inr (.inr fun k => (hr σ o.1 o.2 k).map ad))))
/-- what an array of a site holds -/
def tyA (s : Nat) : FieldType := if s < 200 then .int else if s < 300 then .byte else if s < 400 then .boolean else if s < 410 then .object "SpotTimers$Tape" else .object "java/lang/Object"
def wsX (L : List XO) (ad : XO → Nat) (cy : XO → ClassId) (σ : XH) : va_W := L.map fun o => (ad o, celX ad cy σ o)
def XRep (D : va_G) (n0 : Nat) (L : List XO) (ad : XO → Nat) (σ : XH) (U : State) (H : Heap) : Prop :=
  ∃ cy : XO → ClassId, (∀ o, o ∈ L ↔ o.2 < hc σ o.1) ∧ L.Nodup ∧ (∀ s, 500 ≤ s → hc σ s = 0) ∧
    va_P D vwCl (wsX L ad cy σ) H ∧ va_D (fun q => n0 ≤ q) (wsX L ad cy σ) ∧ va_K D vwCl [] U ∧
    (∀ o ∈ L, 13 ≤ o.1 → ArrOfT U (cy o) (tyA o.1) ∧ va_RA U (cy o) (tyA o.1)) ∧
    (∀ s i k, s < 500 → hc σ s ≤ i → hi σ s i k = 0 ∧ hl σ s i k = 0 ∧ hr σ s i k = none) ∧
    (∀ s i k r, hr σ s i k = some r → XLive σ r)
def XLoc (ad : XO → Nat) (σ : XH) (lsR : Array Slot) (nL : Nat) (ls : List XV) : Prop :=
  lsR.size = nL ∧ lv_wf lsR ∧ ∀ (k : Nat) (v : XV), ls[k]? = some v → v ≠ vU → lsR[k]? = some (Slot.val (trv ad v)) ∧ XVok σ v
/-- the later world has all of the earlier one, at the same addresses; what never changes hasn't -/
def XExt (σ0 : XH) (L0 : List XO) (ad0 : XO → Nat) (σ : XH) (L : List XO) (ad : XO → Nat) : Prop :=
  (∀ o ∈ L0, o ∈ L ∧ ad o = ad0 o) ∧ (∀ o, 500 ≤ o.1 → ad o = ad0 o) ∧ (∀ s, 500 ≤ s → hn σ s = hn σ0 s ∧ hi σ s = hi σ0 s ∧ hr σ s = hr σ0 s) ∧ ∀ s, hc σ0 s ≤ hc σ s
/-- the text constants of the rule's reader: their places in the pool -/
def strT : List (Nat × String) := [(51, "edges "), (56, "blur "), (61, "rest "), (66, "strike "), (136, "="), (134, ")"), (78, "copied"), (83, "w"), (88, "ithdrawn"), (93, "eigh "), (115, " "), (26, ";")]
/-- what the tables and the start say of the cells that never change -/
def XStat (ad : XO → Nat) (n0 : Nat) (σ : XH) (U : State) (H : Heap) : Prop :=
  (∀ s, s = 500 ∨ s = 501 ∨ s = 503 → va_T .int (ad (s, 0)) (hn σ s 0) (fun j => .int (hi σ s 0 j)) (fun q => n0 ≤ q) U H) ∧
  va_T (.object "java/lang/Object") (ad (510, 0)) 0 (fun _ => .null) (fun q => n0 ≤ q) U H ∧
  va_Z "SpotTimers" "ABOVE" "[I" (.ref (ad (500, 0))) (fun q => n0 ≤ q) U H ∧ va_Z "SpotTimers" "BODIES" "[I" (.ref (ad (501, 0))) (fun q => n0 ≤ q) U H ∧
  va_Z "java/util/ArrayList" "DEFAULTCAPACITY_EMPTY_ELEMENTDATA" "[Ljava/lang/Object;" (.ref (ad (510, 0))) (fun q => n0 ≤ q) U H ∧
  va_Z "java/lang/String" "COMPACT_STRINGS" "Z" (.int 1) (fun q => n0 ≤ q) U H ∧
  va_Z "jdk/internal/util/Preconditions" "SIOOBE_FORMATTER" "Ljava/util/function/BiFunction;" (trv ad vU) (fun q => n0 ≤ q) U H ∧
  va_Mi "[Ljava/lang/Object;" (ad (511, 0)) U ∧
  (∀ k, k < 12 → va_O "java/lang/String" (ad (512, k)) (fun q => n0 ≤ q) U H ∧ va_OF "java/lang/String" "coder" "B" (.int 0) (ad (512, k)) (fun q => n0 ≤ q) U H ∧ va_OF "java/lang/String" "value" "[B" (.ref (ad (513, k))) (ad (512, k)) (fun q => n0 ≤ q) U H ∧ va_T .byte (ad (513, k)) (hn σ 513 k) (fun j => .int (hi σ 513 k j)) (fun q => n0 ≤ q) U H) ∧
  (∀ (k : Nat) (q : Nat × String), strT[k]? = some q → vk_R "SpotTimers$RuleReader" q.1 q.2 (ad (512, k)) U) ∧
  (∀ w ∈ nwL, va_Nw w U)
