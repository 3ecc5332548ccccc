/-! ===== what is checked of each instruction; the unrolled statement is sound ===== -/
def OKI (y pc : Nat) (Y : XE) : Prop := match Y with
  | (I, nx, ps, v, w, cs) => match I with
    | .iconst n => decode (mC y) pc = .ok (I, 1) ∧ nx = pc + 1 ∧ Int32.ofInt n = v
    | .bipush n => decode (mC y) pc = .ok (I, 2) ∧ nx = pc + 2 ∧ (Int8.ofInt n).toInt32 = v
    | .sipush n => decode (mC y) pc = .ok (I, 3) ∧ nx = pc + 3 ∧ (Int16.ofInt n).toInt32 = v
    | .lconst n => decode (mC y) pc = .ok (I, 1) ∧ nx = pc + 1 ∧ Int64.ofNat (n : Nat) = w
    | .ldc i => decode (mC y) pc = .ok (I, 2) ∧ nx = pc + 2 ∧ (match ps with
      | [] => Cond.constant (mY y).cls i v ∈ lwA
      | [_, k] => (∃ tx, strT[k]? = some (i, tx)) ∧ (mY y).cls = "SpotTimers$RuleReader"
      | _ => Cond.classLink (mY y).cls i "[Ljava/lang/Object;" ∈ lwA)
    | .ldc_w i => decode (mC y) pc = .ok (I, 3) ∧ nx = pc + 3 ∧ Cond.constant (mY y).cls i v ∈ lwA
    | .ldc2_w i => decode (mC y) pc = .ok (I, 3) ∧ nx = pc + 3 ∧ Cond.constantLong (mY y).cls i w ∈ lwA
    | .iload i => decode (mC y) pc = .ok (I, 2) ∧ nx = pc + 2 ∧ i = ps.headD 0
    | .lload i => decode (mC y) pc = .ok (I, 2) ∧ nx = pc + 2 ∧ i = ps.headD 0
    | .aload i => decode (mC y) pc = .ok (I, 2) ∧ nx = pc + 2 ∧ i = ps.headD 0
    | .iload_n i => decode (mC y) pc = .ok (I, 1) ∧ nx = pc + 1 ∧ (i : Nat) = ps.headD 0
    | .lload_n i => decode (mC y) pc = .ok (I, 1) ∧ nx = pc + 1 ∧ (i : Nat) = ps.headD 0
    | .aload_n i => decode (mC y) pc = .ok (I, 1) ∧ nx = pc + 1 ∧ (i : Nat) = ps.headD 0
    | .istore i => decode (mC y) pc = .ok (I, 2) ∧ nx = pc + 2 ∧ i = ps.headD 0 ∧ ps.headD 0 < mL y
    | .astore i => decode (mC y) pc = .ok (I, 2) ∧ nx = pc + 2 ∧ i = ps.headD 0 ∧ ps.headD 0 < mL y
    | .lstore i => decode (mC y) pc = .ok (I, 2) ∧ nx = pc + 2 ∧ i = ps.headD 0 ∧ ps.headD 0 + 1 < mL y
    | .istore_n i => decode (mC y) pc = .ok (I, 1) ∧ nx = pc + 1 ∧ (i : Nat) = ps.headD 0 ∧ ps.headD 0 < mL y
    | .astore_n i => decode (mC y) pc = .ok (I, 1) ∧ nx = pc + 1 ∧ (i : Nat) = ps.headD 0 ∧ ps.headD 0 < mL y
    | .lstore_n i => decode (mC y) pc = .ok (I, 1) ∧ nx = pc + 1 ∧ (i : Nat) = ps.headD 0 ∧ ps.headD 0 + 1 < mL y
    | .iinc i n => decode (mC y) pc = .ok (I, 3) ∧ nx = pc + 3 ∧ i = ps.headD 0 ∧ Int32.ofInt n = v ∧ ps.headD 0 < mL y
    | .ifCond _ off => decode (mC y) pc = .ok (I, 3) ∧ nx = pc + 3 ∧ (pc : Int) + off = ((ps.headD 0 : Nat) : Int)
    | .if_icmp _ off => decode (mC y) pc = .ok (I, 3) ∧ nx = pc + 3 ∧ (pc : Int) + off = ((ps.headD 0 : Nat) : Int)
    | .if_acmp _ off => decode (mC y) pc = .ok (I, 3) ∧ nx = pc + 3 ∧ (pc : Int) + off = ((ps.headD 0 : Nat) : Int)
    | .ifnull off => decode (mC y) pc = .ok (I, 3) ∧ nx = pc + 3 ∧ (pc : Int) + off = ((ps.headD 0 : Nat) : Int)
    | .ifnonnull off => decode (mC y) pc = .ok (I, 3) ∧ nx = pc + 3 ∧ (pc : Int) + off = ((ps.headD 0 : Nat) : Int)
    | .goto off => decode (mC y) pc = .ok (I, 3) ∧ nx = pc + 3 ∧ (pc : Int) + off = ((ps.headD 0 : Nat) : Int)
    | .tableswitch dflt lo hi offs => (∃ len, decode (mC y) pc = .ok (I, len)) ∧ tabOk pc dflt lo hi offs cs (ps.headD 0) = true
    | .lookupswitch dflt ks => (∃ len, decode (mC y) pc = .ok (I, len)) ∧ lookOk pc dflt ks.toList cs (ps.headD 0) = true
    | .getfield i => decode (mC y) pc = .ok (I, 3) ∧ nx = pc + 3 ∧ (match ps with
      | [ci, k, t] => ∃ (r : vw_C) (ref : String), vwCl[ci]? = some r ∧ k < r.2.2 ∧ Cond.fieldLink (mY y).cls i ref (r.2.1 k).2.1 (r.2.1 k).2.2.1 ∈ lwA ∧ (ref = (r.2.1 k).1 ∨ Cond.sameField ref (r.2.1 k).1 (r.2.1 k).2.1 (r.2.1 k).2.2.1 ∈ lwA) ∧ (t = 1 ∧ ftc ci k = 1 ∨ t = 2 ∧ ftc ci k = 2 ∨ t = 0 ∧ (ftc ci k = 0 ∨ ftc ci k = 3))
      | [ci, k, t, _, _] => ∃ (r : vw_C) (ref : String), vwCl[ci]? = some r ∧ k < r.2.2 ∧ Cond.fieldLink (mY y).cls i ref (r.2.1 k).2.1 (r.2.1 k).2.2.1 ∈ lwA ∧ (ref = (r.2.1 k).1 ∨ Cond.sameField ref (r.2.1 k).1 (r.2.1 k).2.1 (r.2.1 k).2.2.1 ∈ lwA) ∧ t = 2 ∧ ftc ci k = 2
      | [k] => k = 0 ∧ Cond.fieldLink (mY y).cls i "java/lang/String" "value" "[B" ∈ lwA ∨ k = 1 ∧ Cond.fieldLink (mY y).cls i "java/lang/String" "coder" "B" ∈ lwA
      | _ => False)
    | .putfield i => decode (mC y) pc = .ok (I, 3) ∧ nx = pc + 3 ∧ (match ps with
      | [ci, k, t] => ∃ (r : vw_C) (ref : String), vwCl[ci]? = some r ∧ k < r.2.2 ∧ Cond.fieldLink (mY y).cls i ref (r.2.1 k).2.1 (r.2.1 k).2.2.1 ∈ lwA ∧ (ref = (r.2.1 k).1 ∨ Cond.sameField ref (r.2.1 k).1 (r.2.1 k).2.1 (r.2.1 k).2.2.1 ∈ lwA) ∧ ((r.2.1 k).2.2.2 = false ∨ (r.2.1 k).2.2.2 = true ∧ (mY y).name = "<init>" ∧ (r.2.1 k).1 = (mY y).cls) ∧ t = ftc ci k
      | _ => False)
    | .getstatic i => decode (mC y) pc = .ok (I, 3) ∧ nx = pc + 3 ∧ (match ps with
      | [0] => Cond.fieldLink (mY y).cls i "java/lang/String" "COMPACT_STRINGS" "Z" ∈ lwA
      | [1] => Cond.fieldLink (mY y).cls i "jdk/internal/util/Preconditions" "SIOOBE_FORMATTER" "Ljava/util/function/BiFunction;" ∈ lwA
      | [q] => (q = 510 ∧ Cond.fieldLink (mY y).cls i "java/util/ArrayList" "DEFAULTCAPACITY_EMPTY_ELEMENTDATA" "[Ljava/lang/Object;" ∈ lwA) ∨ ∃ nm, (q = 500 ∧ nm = "ABOVE" ∨ q = 501 ∧ nm = "BODIES") ∧ (Cond.fieldLink (mY y).cls i "SpotTimers" nm "[I" ∈ lwA ∨ Cond.fieldLinkNest (mY y).cls i "SpotTimers" nm "[I" "SpotTimers" ∈ lwA)
      | _ => False)
    | .new i => decode (mC y) pc = .ok (I, 3) ∧ nx = pc + 3 ∧ (match ps with
      | [ci, n] => ∃ r : vw_C, vwCl[ci]? = some r ∧ r.2.2 = n ∧ Cond.classLink (mY y).cls i r.1 ∈ lwA ∧ Cond.instantiable r.1 r.2.2 ∈ lwA ∧ Cond.initialized r.1 ∈ lwA
      | _ => False)
    | .newarray t => decode (mC y) pc = .ok (I, 2) ∧ nx = pc + 2 ∧ (match t with
      | .int => (100 ≤ ps.headD 0 ∧ ps.headD 0 < 200) ∧ Cond.arrayClass .int ∈ lwA
      | .byte => (200 ≤ ps.headD 0 ∧ ps.headD 0 < 300) ∧ Cond.arrayClass .byte ∈ lwA
      | .boolean => (300 ≤ ps.headD 0 ∧ ps.headD 0 < 400) ∧ Cond.arrayClass .boolean ∈ lwA
      | _ => False)
    | .anewarray i => decode (mC y) pc = .ok (I, 3) ∧ nx = pc + 3 ∧ (400 ≤ ps.headD 0 ∧ ps.headD 0 < 500) ∧ ∃ C0, tyA (ps.headD 0) = .object C0 ∧ Cond.classLink (mY y).cls i C0 ∈ lwA ∧ Cond.arrayOver (.object C0) ∈ lwA
    | .checkcast i => decode (mC y) pc = .ok (I, 3) ∧ nx = pc + 3 ∧ ∃ r : vw_C, vwCl[ps.headD 0]? = some r ∧ Cond.classLink (mY y).cls i r.1 ∈ lwA
    | .ireturn => decode (mC y) pc = .ok (I, 1) ∧ (ps.headD 0 = 0 ∧ mRet y = some .int ∨ ps.headD 0 = 3 ∧ mRet y = some .boolean ∨ ps.headD 0 = 4 ∧ mRet y = some .byte ∨ ps.headD 0 = 5 ∧ mRet y = some .char)
    | .lreturn => decode (mC y) pc = .ok (I, 1) ∧ mRet y = some .long
    | .areturn => decode (mC y) pc = .ok (I, 1) ∧ ∃ ty, mRet y = some ty ∧ ((∃ n, ty = .object n) ∨ ∃ t, ty = .array t)
    | .return_ => decode (mC y) pc = .ok (I, 1) ∧ mRet y = none
    | .invokestatic i => decode (mC y) pc = .ok (I, 3) ∧ nx = pc + 3 ∧ (match ps with
      | [y', n, kd, _, _, _] => kd = 0 ∧ MOK y' n ∧ (Cond.methodLink (mY y).cls i (mY y') ∈ lwA ∨ Cond.methodLinkNest (mY y).cls i (mY y') "SpotTimers" ∈ lwA) ∧ Cond.static (mY y') ∈ lwA
      | [c] => (c = 9002 ∨ c = 9003) ∧ Cond.methodLink (mY y).cls i arraycopyName ∈ lwA
      | _ => False)
    | .invokevirtual i => decode (mC y) pc = .ok (I, 3) ∧ nx = pc + 3 ∧ (match ps with
      | [y', n, kd, _, _, _] => 1 ≤ kd ∧ 1 ≤ n ∧ MOK y' (n - 1) ∧ Cond.methodLink (mY y).cls i (mY y') ∈ lwA ∧ Cond.instanceMethod (mY y') ∈ lwA ∧ Cond.selects (mY y').cls (mY y') (mY y') ∈ lwA ∧ ((∃ r : vw_C, vwCl[kd - 1]? = some r ∧ r.1 = (mY y').cls) ∨ kd = 513 ∧ (mY y').cls = "java/lang/String")
      | [c] => c = 9001 ∧ Cond.methodLink (mY y).cls i ⟨"java/lang/Object", "getClass", "()Ljava/lang/Class;"⟩ ∈ lwA
      | _ => False)
    | .invokespecial i => decode (mC y) pc = .ok (I, 3) ∧ nx = pc + 3 ∧ (match ps with
      | [y', n, kd, _, _, _] => 1 ≤ kd ∧ kd < 500 ∧ 1 ≤ n ∧ MOK y' (n - 1) ∧ (Cond.methodLink (mY y).cls i (mY y') ∈ lwA ∨ Cond.methodLinkNest (mY y).cls i (mY y') "SpotTimers" ∈ lwA) ∧ Cond.instanceMethod (mY y') ∈ lwA ∧ (mY y').name = "<init>" ∧ mRet y' = none
      | [c] => c = 9004 ∧ Cond.methodLink (mY y).cls i Lib.objectInit ∈ lwA ∧ Cond.instanceMethod Lib.objectInit ∈ lwA ∧ Cond.code Lib.objectInit ⟨#[0xb1]⟩ 1 none ∈ lwA
      | _ => False)
    | _ => decode (mC y) pc = .ok (I, 1) ∧ nx = pc + 1
theorem drf_el {r : Option XO} {ci : Nat} {K : Nat → Prop} (h : drf r ci K) : ∃ i, r = some (ci, i) ∧ K i := by
  match r, h with
  | some (a, b), h =>
    unfold drf at h
    dsimp only at h
    by_cases e : a = ci
    · subst e
      rw [show Nat.beq a a = true from Nat.beq_refl a] at h
      exact ⟨b, rfl, h⟩
    · rw [show Nat.beq a ci = false from by rw [← Bool.not_eq_true]; exact fun z => e (Nat.eq_of_beq_eq_true z)] at h
      exact h.elim
theorem arf_el {r : Option XO} {K : XO → Prop} (h : arf r K) : ∃ o, r = some o ∧ K o := by
  match r, h with
  | some o, h => exact ⟨o, rfl, h⟩
theorem bif_el {b : Bool} {P : Prop} (h : bif b then P else False) : b = true ∧ P := by
  cases b with
  | false => exact h.elim
  | true => exact ⟨rfl, h⟩
theorem take_rev {st : List XV} {n : Nat} {r : Option XO} {as : List XV} (h : (st.take n).reverse = vR r :: as) : st = as.reverse ++ vR r :: st.drop n := by
  have e : st.take n = (vR r :: as).reverse := by rw [← h, List.reverse_reverse]
  have e2 := (List.take_append_drop n st).symm
  rw [e] at e2
  rw [List.reverse_cons, List.append_assoc] at e2
  exact e2
section SND
variable {d y : Nat} {Q : XV → XH → Prop} {G : Nat → Nat → Nat → List XV → List XV → XH → Prop} {pc nx rc rs : Nat} {ls st : List XV} {σ : XH} {ps : List Nat} {v : Int32} {w : Int64} {cs : List (Int32 × Nat)}
theorem call_len {n : Nat} {r : Option XO} {as : List XV} (h : (st.take n).reverse = vR r :: as) (hn : as.length + 1 = n ∨ True) : True := trivial
/-- the arguments are as many as the call takes -/
theorem kont_Ec {d' mc ms y' t : Nat} {as rest : List XV} (hG : ∀ rc rs pc ls st σ, G rc rs pc ls st σ → Ex d rc rs y pc ls st σ Q) {rc rs : Nat} (h : Ec d' mc ms y' as σ (kont t (G rc rs (pc + 3) ls) rest)) : Ec d' mc ms y' as σ (fun r σ' => Ex d rc rs y (pc + 3) ls (pushv r rest) σ' Q) := h.mono fun _ _ z => hG _ _ _ _ _ _ (kont_push z)

theorem swX_mono {K K' : Nat → Prop} {x : Int32} {dflt : Nat} (hk : ∀ t, K t → K' t) : ∀ {cs : List (Int32 × Nat)}, swX K x dflt cs → swX K' x dflt cs
  | [], h => hk _ h
  | (_, _) :: _, h => ⟨fun e => hk _ (h.1 e), fun e => swX_mono hk (h.2 e)⟩
theorem alOk_el {o : XO} (h : alOk o = true) : 100 ≤ o.1 ∧ o.1 < 500 ∨ o = (500, 0) ∨ o = (501, 0) ∨ o = (503, 0) ∨ o.1 = 513 ∧ o.2 < 12 ∨ o = (510, 0) ∧ hn σ 510 0 = 0 := by
  unfold alOk at h
  rw [Bool.or_eq_true, Bool.and_eq_true, Nat.blt_eq, Nat.ble_eq] at h
  rcases h with h | h
  · exact Or.inl h
  · by_cases e : o.1 = 513
    · rw [e] at h
      refine Or.inr (Or.inr (Or.inr (Or.inr (Or.inl ⟨e, ?_⟩))))
      exact (Nat.blt_eq).mp h
    · rw [show Nat.beq o.1 513 = false from by rw [← Bool.not_eq_true]; exact fun z => e (Nat.eq_of_beq_eq_true z)] at h
      obtain ⟨a, b⟩ := o
      simp only [cond_false, Bool.and_eq_true, Bool.or_eq_true, Nat.beq_eq] at h
      obtain ⟨h1, rfl⟩ := h
      rcases h1 with rfl | rfl | rfl
      · exact Or.inr (Or.inl rfl)
      · exact Or.inr (Or.inr (Or.inl rfl))
      · exact Or.inr (Or.inr (Or.inr (Or.inl rfl)))
theorem len_take {n : Nat} {r : Option XO} {as : List XV} (h : (st.take n).reverse = vR r :: as) : as.length + 1 ≤ n := by
  have e := congrArg List.length h
  simp at e
  omega
/-- fewer on the stack than the call takes can't be: its contract would not be met; it's checked -/
theorem snd_static {i : Nat} (hG : ∀ rc rs pc ls st σ, G rc rs pc ls st σ → Ex d rc rs y pc ls st σ Q) (ok : OKI y pc (.invokestatic i, nx, ps, v, w, cs)) (h : xstep (.invokestatic i, nx, ps, v, w, cs) d Q G rc rs ls st σ) : Ex d rc rs y pc ls st σ Q := by
  obtain ⟨hd, rfl, hv⟩ := ok
  dsimp only [xstep] at h
  unfold xcall at h
  split at h
  · rename_i y' n kd mc ms t
    obtain ⟨rfl, hM, hl, hs⟩ := hv
    obtain ⟨hcat, h⟩ := bif_el h
    have hcat := Nat.le_of_ble_eq_true hcat
    obtain ⟨hlen, h⟩ := bif_el h
    have hlen := Nat.le_of_ble_eq_true hlen
    have hlen2 : (st.take n).reverse.length = n := by simp; omega
    have est : st = (st.take n).reverse.reverse ++ st.drop n := by rw [List.reverse_reverse, List.take_append_drop]
    dsimp only [show Nat.beq 0 0 = true from rfl, cond_true] at h
    by_cases z : (Nat.beq mc 0 && Nat.beq ms 0) = true
    · rw [z] at h
      have h : _ ∧ _ := h
      rw [est]
      exact r_static (mc := 0) (ms := 0) hd hM hlen2 hl hs (by omega) hcat (kont_Ec hG h.2)
    · rw [Bool.not_eq_true] at z
      rw [z] at h
      obtain ⟨h1, h2, h3, h⟩ := h
      have k := r_static hd hM hlen2 hl hs (by omega) hcat (kont_Ec hG h)
      rw [Nat.sub_add_cancel h2, Nat.sub_add_cancel h3, ← est] at k
      exact k
  · exact absurd hv.1 (by omega)
  · split at h
    · replace h := arf_el h; obtain ⟨o, rfl, h⟩ := h
      replace h := arf_el h; obtain ⟨q, rfl, h⟩ := h
      obtain ⟨g1, g2, g3, g4, g5, g6, h⟩ := h
      obtain ⟨b, h⟩ := bif_el h
      simp only [Bool.and_eq_true, Nat.blt_eq, Nat.ble_eq] at b
      exact r_copyI hd hv.2 ⟨b.1, b.2.1⟩ ⟨b.2.2.1, b.2.2.2.1⟩ g2 g3 g4 g5 g6 g1 b.2.2.2.2 (hG _ _ _ _ _ _ (h _ rfl))
    · exact h.elim
  · split at h
    · replace h := arf_el h; obtain ⟨o, rfl, h⟩ := h
      replace h := arf_el h; obtain ⟨q, rfl, h⟩ := h
      obtain ⟨g1, g2, g3, g4, g5, g6, g7, h⟩ := h
      obtain ⟨b, h⟩ := bif_el h
      simp only [Bool.and_eq_true, Nat.blt_eq, Nat.ble_eq] at b
      exact r_copyR hd hv.2 ⟨b.1, b.2.1⟩ ⟨b.2.2.1, b.2.2.2.1⟩ g2 g3 g4 g5 g6 g7 g1 b.2.2.2.2 (hG _ _ _ _ _ _ (h _ rfl))
    · exact h.elim
  · exact absurd hv.1 (by omega)
  · exact h.elim
theorem snd_virt {i : Nat} (hG : ∀ rc rs pc ls st σ, G rc rs pc ls st σ → Ex d rc rs y pc ls st σ Q) (ok : OKI y pc (.invokevirtual i, nx, ps, v, w, cs)) (h : xstep (.invokevirtual i, nx, ps, v, w, cs) d Q G rc rs ls st σ) : Ex d rc rs y pc ls st σ Q := by
  obtain ⟨hd, rfl, hv⟩ := ok
  dsimp only [xstep] at h
  unfold xcall at h
  split at h
  · rename_i y' n kd mc ms t
    obtain ⟨hk1, hn1, hM, hl, hs, hs2, hcl⟩ := hv
    obtain ⟨hcat, h⟩ := bif_el h
    have hcat := Nat.le_of_ble_eq_true hcat
    obtain ⟨hlen, h⟩ := bif_el h
    have hlen := Nat.le_of_ble_eq_true hlen
    rw [show Nat.beq kd 0 = false from by rw [← Bool.not_eq_true]; exact fun z => by have := Nat.eq_of_beq_eq_true z; omega] at h
    dsimp only [cond_false] at h
    split at h
    · rename_i r as e
      have est := take_rev e
      have hlen2 : as.length = n - 1 := by
        have e2 := congrArg List.length e
        simp at e2
        omega
      replace h := drf_el h; obtain ⟨j, rfl, h⟩ := h
      by_cases q : kd = 513
      · subst q
        obtain ⟨j1, j2, h⟩ := h
        rcases hcl with ⟨r2, hcl, hr2⟩ | ⟨-, hcl⟩
        · exact absurd (cls_lt hcl) (by decide)
        · rw [est]
          exact r_virt (o := (512, j)) (mc := 0) (ms := 0) hd hM hlen2 hl hs hs2 (Or.inr ⟨rfl, j1, hcl⟩) (by omega) hcat (kont_Ec hG h)
      · rw [show Nat.beq kd 513 = false from by rw [← Bool.not_eq_true]; exact fun z => q (Nat.eq_of_beq_eq_true z)] at h
        dsimp only [cond_false] at h
        have hcl : ∃ r : vw_C, vwCl[kd - 1]? = some r ∧ r.1 = (mY y').cls := by
          rcases hcl with hcl | ⟨hcl, -⟩
          · exact hcl
          · exact absurd hcl q
        by_cases z : (Nat.beq mc 0 && Nat.beq ms 0) = true
        · rw [z] at h
          have h : _ ∧ _ := h
          rw [est]
          exact r_virt (o := (kd - 1, j)) (mc := 0) (ms := 0) hd hM hlen2 hl hs hs2 (Or.inl hcl) (by omega) hcat (kont_Ec hG h.2)
        · rw [Bool.not_eq_true] at z
          rw [z] at h
          obtain ⟨h1, h2, h3, h⟩ := h
          have k := r_virt (o := (kd - 1, j)) hd hM hlen2 hl hs hs2 (Or.inl hcl) (by omega) hcat (kont_Ec hG h)
          rw [Nat.sub_add_cancel h2, Nat.sub_add_cancel h3, ← est] at k
          exact k
    · exact h.elim
  · split at h
    · replace h := arf_el h; obtain ⟨o, rfl, h⟩ := h
      obtain ⟨b, h⟩ := bif_el h
      simp only [Bool.and_eq_true, Nat.blt_eq, Nat.ble_eq] at b
      exact r_getC hd hv.2 ⟨b.1, b.2.1⟩ h.1 b.2.2 (hG _ _ _ _ _ _ h.2)
    · exact h.elim
  · exact absurd hv.1 (by omega)
  · exact absurd hv.1 (by omega)
  · exact absurd hv.1 (by omega)
  · exact h.elim
theorem snd_spec {i : Nat} (hG : ∀ rc rs pc ls st σ, G rc rs pc ls st σ → Ex d rc rs y pc ls st σ Q) (ok : OKI y pc (.invokespecial i, nx, ps, v, w, cs)) (h : xstep (.invokespecial i, nx, ps, v, w, cs) d Q G rc rs ls st σ) : Ex d rc rs y pc ls st σ Q := by
  obtain ⟨hd, rfl, hv⟩ := ok
  dsimp only [xstep] at h
  unfold xcall at h
  split at h
  · rename_i y' n kd mc ms t
    obtain ⟨hk1, hk2, hn1, hM, hl, hs, hnm, hret⟩ := hv
    obtain ⟨hcat, h⟩ := bif_el h
    have hcat := Nat.le_of_ble_eq_true hcat
    obtain ⟨hlen, h⟩ := bif_el h
    have hlen := Nat.le_of_ble_eq_true hlen
    rw [show Nat.beq kd 0 = false from by rw [← Bool.not_eq_true]; exact fun z => by have := Nat.eq_of_beq_eq_true z; omega] at h
    dsimp only [cond_false] at h
    split at h
    · rename_i r as e
      have est := take_rev e
      have hlen2 : as.length = n - 1 := by
        have e2 := congrArg List.length e
        simp at e2
        omega
      replace h := drf_el h; obtain ⟨j, rfl, h⟩ := h
      rw [show Nat.beq kd 513 = false from by rw [← Bool.not_eq_true]; exact fun z => by have := Nat.eq_of_beq_eq_true z; omega] at h
      dsimp only [cond_false] at h
      by_cases z : (Nat.beq mc 0 && Nat.beq ms 0) = true
      · rw [z] at h
        have h : _ ∧ _ := h
        rw [est]
        exact r_init (o := (kd - 1, j)) (mc := 0) (ms := 0) hd hM hlen2 hl hs hnm hret (by omega) hcat (kont_Ec hG h.2)
      · rw [Bool.not_eq_true] at z
        rw [z] at h
        obtain ⟨h1, h2, h3, h⟩ := h
        have k := r_init (o := (kd - 1, j)) hd hM hlen2 hl hs hnm hret (by omega) hcat (kont_Ec hG h)
        rw [Nat.sub_add_cancel h2, Nat.sub_add_cancel h3, ← est] at k
        exact k
    · exact h.elim
  · exact absurd hv.1 (by omega)
  · exact absurd hv.1 (by omega)
  · exact absurd hv.1 (by omega)
  · split at h
    · replace h := arf_el h; obtain ⟨o, rfl, h⟩ := h
      obtain ⟨b, h⟩ := bif_el h
      exact r_objInit hd hv.2.1 hv.2.2.1 hv.2.2.2 h.1 (Nat.le_of_ble_eq_true b) (hG _ _ _ _ _ _ h.2)
    · exact h.elim
  · exact h.elim
set_option maxHeartbeats 4000000 in
theorem xstep_sound (hG : ∀ rc rs pc ls st σ, G rc rs pc ls st σ → Ex d rc rs y pc ls st σ Q) {Y : XE} (ok : OKI y pc Y) (h : xstep Y d Q G rc rs ls st σ) : Ex d rc rs y pc ls st σ Q := by
  obtain ⟨I, nx, ps, v, w, cs⟩ := Y
  cases I with
  | iconst n =>
    obtain ⟨hd, rfl, hv⟩ := ok
    exact r_iconst hd hv (hG _ _ _ _ _ _ h)
  | bipush n =>
    obtain ⟨hd, rfl, hv⟩ := ok
    exact r_bipush hd hv (hG _ _ _ _ _ _ h)
  | sipush n =>
    obtain ⟨hd, rfl, hv⟩ := ok
    exact r_sipush hd hv (hG _ _ _ _ _ _ h)
  | lconst n =>
    obtain ⟨hd, rfl, hv⟩ := ok
    exact r_lconst hd hv (hG _ _ _ _ _ _ h)
  | ldc i =>
    obtain ⟨hd, rfl, hv⟩ := ok
    match ps, hv, h with
    | [], hv, h => exact r_ldc hd hv (hG _ _ _ _ _ _ h)
    | [a, k], hv, h =>
      obtain ⟨⟨tx, h1⟩, h2⟩ := hv
      exact r_ldcS hd h1 h2 (hG _ _ _ _ _ _ h)
    | [a], hv, h => exact r_ldcM hd hv (hG _ _ _ _ _ _ h)
    | a :: b :: c :: q, hv, h => exact r_ldcM hd hv (hG _ _ _ _ _ _ h)
  | ldc_w i =>
    obtain ⟨hd, rfl, hv⟩ := ok
    exact r_ldcw hd hv (hG _ _ _ _ _ _ h)
  | ldc2_w i =>
    obtain ⟨hd, rfl, hv⟩ := ok
    exact r_ldc2 hd hv (hG _ _ _ _ _ _ h)
  | aconst_null =>
    obtain ⟨hd, rfl⟩ := ok
    exact r_null hd (hG _ _ _ _ _ _ h)
  | iload i =>
    obtain ⟨hd, rfl, hi⟩ := ok
    subst hi
    dsimp only [xstep] at h
    split at h
    · rename_i x e
      exact r_iload hd e (hG _ _ _ _ _ _ h)
    · exact h.elim
  | iload_n i =>
    obtain ⟨hd, rfl, hi⟩ := ok
    dsimp only [xstep] at h
    split at h
    · rename_i x e
      exact r_iload_n hd hi e (hG _ _ _ _ _ _ h)
    · exact h.elim
  | lload i =>
    obtain ⟨hd, rfl, hi⟩ := ok
    subst hi
    dsimp only [xstep] at h
    split at h
    · rename_i x e
      exact r_lload hd e (hG _ _ _ _ _ _ h)
    · exact h.elim
  | lload_n i =>
    obtain ⟨hd, rfl, hi⟩ := ok
    dsimp only [xstep] at h
    split at h
    · rename_i x e
      exact r_lload_n hd hi e (hG _ _ _ _ _ _ h)
    · exact h.elim
  | aload i =>
    obtain ⟨hd, rfl, hi⟩ := ok
    subst hi
    dsimp only [xstep] at h
    split at h
    · rename_i x e
      exact r_aload hd e (hG _ _ _ _ _ _ h)
    · exact h.elim
  | aload_n i =>
    obtain ⟨hd, rfl, hi⟩ := ok
    dsimp only [xstep] at h
    split at h
    · rename_i x e
      exact r_aload_n hd hi e (hG _ _ _ _ _ _ h)
    · exact h.elim
  | istore i =>
    obtain ⟨hd, rfl, hi, hl⟩ := ok
    subst hi
    dsimp only [xstep] at h
    split at h
    · exact r_istore hd hl (hG _ _ _ _ _ _ h)
    · exact h.elim
  | istore_n i =>
    obtain ⟨hd, rfl, hi, hl⟩ := ok
    dsimp only [xstep] at h
    split at h
    · exact r_istore_n hd hi hl (hG _ _ _ _ _ _ h)
    · exact h.elim
  | lstore i =>
    obtain ⟨hd, rfl, hi, hl⟩ := ok
    subst hi
    dsimp only [xstep] at h
    split at h
    · exact r_lstore hd hl (hG _ _ _ _ _ _ h)
    · exact h.elim
  | lstore_n i =>
    obtain ⟨hd, rfl, hi, hl⟩ := ok
    dsimp only [xstep] at h
    split at h
    · exact r_lstore_n hd hi hl (hG _ _ _ _ _ _ h)
    · exact h.elim
  | astore i =>
    obtain ⟨hd, rfl, hi, hl⟩ := ok
    subst hi
    dsimp only [xstep] at h
    split at h
    · exact r_astore hd hl (hG _ _ _ _ _ _ h)
    · exact h.elim
  | astore_n i =>
    obtain ⟨hd, rfl, hi, hl⟩ := ok
    dsimp only [xstep] at h
    split at h
    · exact r_astore_n hd hi hl (hG _ _ _ _ _ _ h)
    · exact h.elim
  | iinc i n =>
    obtain ⟨hd, rfl, hi, hv, hl⟩ := ok
    subst hi
    dsimp only [xstep] at h
    split at h
    · rename_i x e
      exact r_iinc hd hv hl e (hG _ _ _ _ _ _ h)
    · exact h.elim
  | iadd =>
    obtain ⟨hd, rfl⟩ := ok
    dsimp only [xstep] at h
    split at h
    · exact r_iadd hd (hG _ _ _ _ _ _ h)
    · exact h.elim
  | isub =>
    obtain ⟨hd, rfl⟩ := ok
    dsimp only [xstep] at h
    split at h
    · exact r_isub hd (hG _ _ _ _ _ _ h)
    · exact h.elim
  | imul =>
    obtain ⟨hd, rfl⟩ := ok
    dsimp only [xstep] at h
    split at h
    · exact r_imul hd (hG _ _ _ _ _ _ h)
    · exact h.elim
  | iand =>
    obtain ⟨hd, rfl⟩ := ok
    dsimp only [xstep] at h
    split at h
    · exact r_iand hd (hG _ _ _ _ _ _ h)
    · exact h.elim
  | ior =>
    obtain ⟨hd, rfl⟩ := ok
    dsimp only [xstep] at h
    split at h
    · exact r_ior hd (hG _ _ _ _ _ _ h)
    · exact h.elim
  | ixor =>
    obtain ⟨hd, rfl⟩ := ok
    dsimp only [xstep] at h
    split at h
    · exact r_ixor hd (hG _ _ _ _ _ _ h)
    · exact h.elim
  | ishl =>
    obtain ⟨hd, rfl⟩ := ok
    dsimp only [xstep] at h
    split at h
    · exact r_ishl hd (hG _ _ _ _ _ _ h)
    · exact h.elim
  | ishr =>
    obtain ⟨hd, rfl⟩ := ok
    dsimp only [xstep] at h
    split at h
    · exact r_ishr hd (hG _ _ _ _ _ _ h)
    · exact h.elim
  | iushr =>
    obtain ⟨hd, rfl⟩ := ok
    dsimp only [xstep] at h
    split at h
    · exact r_iushr hd (hG _ _ _ _ _ _ h)
    · exact h.elim
  | ineg =>
    obtain ⟨hd, rfl⟩ := ok
    dsimp only [xstep] at h
    split at h
    · exact r_ineg hd (hG _ _ _ _ _ _ h)
    · exact h.elim
  | ladd =>
    obtain ⟨hd, rfl⟩ := ok
    dsimp only [xstep] at h
    split at h
    · exact r_ladd hd (hG _ _ _ _ _ _ h)
    · exact h.elim
  | lsub =>
    obtain ⟨hd, rfl⟩ := ok
    dsimp only [xstep] at h
    split at h
    · exact r_lsub hd (hG _ _ _ _ _ _ h)
    · exact h.elim
  | lmul =>
    obtain ⟨hd, rfl⟩ := ok
    dsimp only [xstep] at h
    split at h
    · exact r_lmul hd (hG _ _ _ _ _ _ h)
    · exact h.elim
  | land =>
    obtain ⟨hd, rfl⟩ := ok
    dsimp only [xstep] at h
    split at h
    · exact r_land hd (hG _ _ _ _ _ _ h)
    · exact h.elim
  | lor =>
    obtain ⟨hd, rfl⟩ := ok
    dsimp only [xstep] at h
    split at h
    · exact r_lor hd (hG _ _ _ _ _ _ h)
    · exact h.elim
  | lxor =>
    obtain ⟨hd, rfl⟩ := ok
    dsimp only [xstep] at h
    split at h
    · exact r_lxor hd (hG _ _ _ _ _ _ h)
    · exact h.elim
  | lneg =>
    obtain ⟨hd, rfl⟩ := ok
    dsimp only [xstep] at h
    split at h
    · exact r_lneg hd (hG _ _ _ _ _ _ h)
    · exact h.elim
  | lushr =>
    obtain ⟨hd, rfl⟩ := ok
    dsimp only [xstep] at h
    split at h
    · exact r_lushr hd (hG _ _ _ _ _ _ h)
    · exact h.elim
  | lshl =>
    obtain ⟨hd, rfl⟩ := ok
    dsimp only [xstep] at h
    split at h
    · exact r_lshl hd (hG _ _ _ _ _ _ h)
    · exact h.elim
  | lshr =>
    obtain ⟨hd, rfl⟩ := ok
    dsimp only [xstep] at h
    split at h
    · exact r_lshr hd (hG _ _ _ _ _ _ h)
    · exact h.elim
  | lcmp =>
    obtain ⟨hd, rfl⟩ := ok
    dsimp only [xstep] at h
    split at h
    · exact r_lcmp hd (hG _ _ _ _ _ _ h)
    · exact h.elim
  | i2l =>
    obtain ⟨hd, rfl⟩ := ok
    dsimp only [xstep] at h
    split at h
    · exact r_i2l hd (hG _ _ _ _ _ _ h)
    · exact h.elim
  | l2i =>
    obtain ⟨hd, rfl⟩ := ok
    dsimp only [xstep] at h
    split at h
    · exact r_l2i hd (hG _ _ _ _ _ _ h)
    · exact h.elim
  | i2b =>
    obtain ⟨hd, rfl⟩ := ok
    dsimp only [xstep] at h
    split at h
    · exact r_i2b hd (hG _ _ _ _ _ _ h)
    · exact h.elim
  | i2s =>
    obtain ⟨hd, rfl⟩ := ok
    dsimp only [xstep] at h
    split at h
    · exact r_i2s hd (hG _ _ _ _ _ _ h)
    · exact h.elim
  | i2c =>
    obtain ⟨hd, rfl⟩ := ok
    dsimp only [xstep] at h
    split at h
    · exact r_i2c hd (hG _ _ _ _ _ _ h)
    · exact h.elim
  | idiv =>
    obtain ⟨hd, rfl⟩ := ok
    dsimp only [xstep] at h
    split at h
    · exact r_idiv hd h.1 (hG _ _ _ _ _ _ h.2)
    · exact h.elim
  | irem =>
    obtain ⟨hd, rfl⟩ := ok
    dsimp only [xstep] at h
    split at h
    · exact r_irem hd h.1 (hG _ _ _ _ _ _ h.2)
    · exact h.elim
  | ldiv =>
    obtain ⟨hd, rfl⟩ := ok
    dsimp only [xstep] at h
    split at h
    · exact r_ldiv hd h.1 (hG _ _ _ _ _ _ h.2)
    · exact h.elim
  | lrem =>
    obtain ⟨hd, rfl⟩ := ok
    dsimp only [xstep] at h
    split at h
    · exact r_lrem hd h.1 (hG _ _ _ _ _ _ h.2)
    · exact h.elim
  | dup =>
    obtain ⟨hd, rfl⟩ := ok
    dsimp only [xstep] at h
    split at h
    · obtain ⟨b, h⟩ := bif_el h
      exact r_dup hd (Nat.eq_of_beq_eq_true b) (hG _ _ _ _ _ _ h)
    · exact h.elim
  | pop =>
    obtain ⟨hd, rfl⟩ := ok
    dsimp only [xstep] at h
    split at h
    · obtain ⟨b, h⟩ := bif_el h
      exact r_pop hd (Nat.eq_of_beq_eq_true b) (hG _ _ _ _ _ _ h)
    · exact h.elim
  | dup_x1 =>
    obtain ⟨hd, rfl⟩ := ok
    dsimp only [xstep] at h
    split at h
    · obtain ⟨b, h⟩ := bif_el h
      rw [Bool.and_eq_true] at b
      exact r_dup_x1 hd (Nat.eq_of_beq_eq_true b.1) (Nat.eq_of_beq_eq_true b.2) (hG _ _ _ _ _ _ h)
    · exact h.elim
  | dup2 =>
    obtain ⟨hd, rfl⟩ := ok
    dsimp only [xstep] at h
    split at h
    · obtain ⟨b, h⟩ := bif_el h
      rw [Bool.and_eq_true] at b
      exact r_dup2 hd (Nat.eq_of_beq_eq_true b.1) (Nat.eq_of_beq_eq_true b.2) (hG _ _ _ _ _ _ h)
    · exact h.elim
  | ifCond k off =>
    obtain ⟨hd, rfl, ht⟩ := ok
    dsimp only [xstep] at h
    split at h
    · cases k with
      | eq => exact r_if_eq hd ht (fun z => hG _ _ _ _ _ _ (h.1 z)) (fun z => hG _ _ _ _ _ _ (h.2 z))
      | ne => exact r_if_ne hd ht (fun z => hG _ _ _ _ _ _ (h.2 z)) (fun z => hG _ _ _ _ _ _ (h.1 z))
      | lt => exact r_if_lt hd ht (fun z => hG _ _ _ _ _ _ (h.1 z)) (fun z => hG _ _ _ _ _ _ (h.2 z))
      | ge => exact r_if_ge hd ht (fun z => hG _ _ _ _ _ _ (h.2 z)) (fun z => hG _ _ _ _ _ _ (h.1 z))
      | gt => exact r_if_gt hd ht (fun z => hG _ _ _ _ _ _ (h.1 z)) (fun z => hG _ _ _ _ _ _ (h.2 z))
      | le => exact r_if_le hd ht (fun z => hG _ _ _ _ _ _ (h.2 z)) (fun z => hG _ _ _ _ _ _ (h.1 z))
    · exact h.elim
  | if_icmp k off =>
    obtain ⟨hd, rfl, ht⟩ := ok
    dsimp only [xstep] at h
    split at h
    · cases k with
      | eq => exact r_icmp_eq hd ht (fun z => hG _ _ _ _ _ _ (h.1 z)) (fun z => hG _ _ _ _ _ _ (h.2 z))
      | ne => exact r_icmp_ne hd ht (fun z => hG _ _ _ _ _ _ (h.2 z)) (fun z => hG _ _ _ _ _ _ (h.1 z))
      | lt => exact r_icmp_lt hd ht (fun z => hG _ _ _ _ _ _ (h.1 z)) (fun z => hG _ _ _ _ _ _ (h.2 z))
      | ge => exact r_icmp_ge hd ht (fun z => hG _ _ _ _ _ _ (h.2 z)) (fun z => hG _ _ _ _ _ _ (h.1 z))
      | gt => exact r_icmp_gt hd ht (fun z => hG _ _ _ _ _ _ (h.1 z)) (fun z => hG _ _ _ _ _ _ (h.2 z))
      | le => exact r_icmp_le hd ht (fun z => hG _ _ _ _ _ _ (h.2 z)) (fun z => hG _ _ _ _ _ _ (h.1 z))
    · exact h.elim
  | if_acmp k off =>
    obtain ⟨hd, rfl, ht⟩ := ok
    dsimp only [xstep] at h
    split at h
    · obtain ⟨hc, h⟩ := h
      cases k with
      | eq => exact r_acmp_eq hd ht hc (fun z => hG _ _ _ _ _ _ (h.1 z)) (fun z => hG _ _ _ _ _ _ (h.2 z))
      | ne => exact r_acmp_ne hd ht hc (fun z => hG _ _ _ _ _ _ (h.2 z)) (fun z => hG _ _ _ _ _ _ (h.1 z))
    · exact h.elim
  | ifnull off =>
    obtain ⟨hd, rfl, ht⟩ := ok
    dsimp only [xstep] at h
    split at h
    · exact r_ifnull hd ht (fun z => hG _ _ _ _ _ _ (h.1 z)) (fun z => hG _ _ _ _ _ _ (h.2 z))
    · exact h.elim
  | ifnonnull off =>
    obtain ⟨hd, rfl, ht⟩ := ok
    dsimp only [xstep] at h
    split at h
    · exact r_ifnonnull hd ht (fun z => hG _ _ _ _ _ _ (h.2 z)) (fun z => hG _ _ _ _ _ _ (h.1 z))
    · exact h.elim
  | goto off =>
    obtain ⟨hd, rfl, ht⟩ := ok
    exact r_goto hd ht (hG _ _ _ _ _ _ h)
  | tableswitch d1 lo hi2 offs =>
    obtain ⟨⟨len, hd⟩, hok⟩ := ok
    dsimp only [xstep] at h
    split at h
    · exact r_table hd hok (swX_mono (fun t z => hG _ _ _ _ _ _ z) h)
    · exact h.elim
  | lookupswitch d1 ks =>
    obtain ⟨⟨len, hd⟩, hok⟩ := ok
    dsimp only [xstep] at h
    split at h
    · exact r_look hd hok (swX_mono (fun t z => hG _ _ _ _ _ _ z) h)
    · exact h.elim
  | getfield i =>
    obtain ⟨hd, rfl, hv⟩ := ok
    dsimp only [xstep] at h
    split at h
    · rename_i ci k t o r
      replace h := drf_el h; obtain ⟨i2, rfl, h⟩ := h
      obtain ⟨r2, ref, g1, g2, g3, g4, g5⟩ := hv
      refine r_getfield hd g1 g2 g3 g4 ?_
      unfold fvV
      rcases g5 with ⟨rfl, g5⟩ | ⟨rfl, g5⟩ | ⟨rfl, g5⟩
      · rw [if_pos g5]
        exact hG _ _ _ _ _ _ h
      · rw [if_neg (by omega), if_pos g5]
        exact hG _ _ _ _ _ _ h
      · rw [if_neg (by omega), if_neg (by omega)]
        exact hG _ _ _ _ _ _ h
    · rename_i ci k t q md o r
      replace h := drf_el h; obtain ⟨i2, rfl, h⟩ := h
      obtain ⟨r2, ref, g1, g2, g3, g4, g5, g6⟩ := hv
      refine r_getfield hd g1 g2 g3 g4 ?_
      unfold fvV
      rw [if_neg (by omega), if_pos g6, h.1]
      exact hG _ _ _ _ _ _ h.2
    · rename_i k o r
      replace h := drf_el h; obtain ⟨i2, rfl, h12, h⟩ := h
      rcases hv with ⟨rfl, hv⟩ | ⟨rfl, hv⟩
      · exact r_strV hd h12 hv (hG _ _ _ _ _ _ h)
      · exact r_strC hd h12 hv (hG _ _ _ _ _ _ h)
    · exact h.elim
  | putfield i =>
    obtain ⟨hd, rfl, hv⟩ := ok
    dsimp only [xstep] at h
    split at h
    · rename_i ci k t a o r
      replace h := drf_el h; obtain ⟨i2, rfl, h⟩ := h
      obtain ⟨r2, ref, g1, g2, g3, g4, g5, g6⟩ := hv
      match a, h with
      | Sum.inl x, h =>
        dsimp only at h
        by_cases e3 : t = 3
        · subst e3
          have h : (x = 0 ∨ x = 1) ∧ _ := h
          exact r_putfield (v := vI x) hd g1 g2 g3 g4 g5 (Or.inr ⟨g6.symm, h.1⟩) (hG _ _ _ _ _ _ (h.2 _ rfl))
        · rw [show Nat.beq t 3 = false from by rw [← Bool.not_eq_true]; exact fun z => e3 (Nat.eq_of_beq_eq_true z)] at h
          obtain ⟨b, h⟩ := bif_el h
          have e0 := Nat.eq_of_beq_eq_true b
          exact r_putfield (v := vI x) hd g1 g2 g3 g4 g5 (Or.inl (by rw [← g6]; exact e0)) (hG _ _ _ _ _ _ (h _ rfl))
      | Sum.inr (Sum.inl x), h =>
        obtain ⟨b, h⟩ := bif_el h
        have e0 := Nat.eq_of_beq_eq_true b
        exact r_putfield (v := vL x) hd g1 g2 g3 g4 g5 (show ftc ci k = 1 by rw [← g6]; exact e0) (hG _ _ _ _ _ _ (h _ rfl))
      | Sum.inr (Sum.inr (Sum.inl x)), h =>
        obtain ⟨b, h⟩ := bif_el h
        have e0 := Nat.eq_of_beq_eq_true b
        exact r_putfield (v := vR x) hd g1 g2 g3 g4 g5 (show ftc ci k = 2 by rw [← g6]; exact e0) (hG _ _ _ _ _ _ (h _ rfl))
    · exact h.elim
  | getstatic i =>
    obtain ⟨hd, rfl, hv⟩ := ok
    dsimp only [xstep] at h
    split at h
    · exact r_getsC hd hv (hG _ _ _ _ _ _ h)
    · exact r_getsF hd hv (hG _ _ _ _ _ _ h)
    · rename_i q n0 n1
      split at hv
      · rename_i e
        cases e
        exact absurd rfl n0
      · rename_i e
        cases e
        exact absurd rfl n1
      · rename_i q2 m0 m1 e
        cases e
        rcases hv with ⟨rfl, hv⟩ | ⟨nm, h1, h2⟩
        · exact r_getsE hd hv (hG _ _ _ _ _ _ h)
        · exact r_getsA hd h1 h2 (hG _ _ _ _ _ _ h)
      · exact hv.elim
    · exact h.elim
  | iaload =>
    obtain ⟨hd, rfl⟩ := ok
    dsimp only [xstep] at h
    split at h
    · replace h := arf_el h; obtain ⟨o, rfl, h⟩ := h
      obtain ⟨b, h⟩ := bif_el h
      exact r_iaload hd b h.1 (hG _ _ _ _ _ _ h.2)
    · exact h.elim
  | iastore =>
    obtain ⟨hd, rfl⟩ := ok
    dsimp only [xstep] at h
    split at h
    · replace h := arf_el h; obtain ⟨o, rfl, h⟩ := h
      obtain ⟨b, h⟩ := bif_el h
      rw [Bool.and_eq_true, Nat.blt_eq] at b
      exact r_iastore hd b.1 b.2 h.1 (hG _ _ _ _ _ _ (h.2 _ rfl))
    · exact h.elim
  | baload =>
    obtain ⟨hd, rfl⟩ := ok
    dsimp only [xstep] at h
    split at h
    · replace h := arf_el h; obtain ⟨o, rfl, h⟩ := h
      obtain ⟨b, h⟩ := bif_el h
      rw [Bool.or_eq_true, Bool.and_eq_true, Bool.and_eq_true, Nat.blt_eq, Nat.blt_eq] at b
      rcases b with ⟨b1, b2⟩ | ⟨b1, b2⟩
      · have b1 := Nat.le_of_ble_eq_true b1
        rcases Nat.lt_or_ge o.1 300 with q | q
        · exact r_baload hd ⟨b1, q⟩ h.1 (hG _ _ _ _ _ _ h.2)
        · exact r_zaload hd ⟨q, b2⟩ h.1 (hG _ _ _ _ _ _ h.2)
      · have b1 := Nat.eq_of_beq_eq_true b1
        obtain ⟨oa, ob⟩ := o
        dsimp only at b1 b2
        subst b1
        exact r_saload hd b2 h.1 (hG _ _ _ _ _ _ h.2)
    · exact h.elim
  | bastore =>
    obtain ⟨hd, rfl⟩ := ok
    dsimp only [xstep] at h
    split at h
    · replace h := arf_el h; obtain ⟨o, rfl, h⟩ := h
      by_cases b : (Nat.ble 200 o.1 && Nat.blt o.1 300) = true
      · rw [b] at h
        rw [Bool.and_eq_true, Nat.blt_eq] at b
        have h : _ ∧ _ := h
        exact r_bastore hd ⟨Nat.le_of_ble_eq_true b.1, b.2⟩ h.1 (hG _ _ _ _ _ _ (h.2 _ rfl))
      · rw [Bool.not_eq_true] at b
        rw [b] at h
        obtain ⟨b, h⟩ := bif_el h
        rw [Bool.and_eq_true, Nat.blt_eq] at b
        exact r_zastore hd ⟨Nat.le_of_ble_eq_true b.1, b.2⟩ h.1 (hG _ _ _ _ _ _ (h.2 _ rfl))
    · exact h.elim
  | aaload =>
    obtain ⟨hd, rfl⟩ := ok
    dsimp only [xstep] at h
    split at h
    · replace h := arf_el h; obtain ⟨o, rfl, h⟩ := h
      obtain ⟨b, h⟩ := bif_el h
      rw [Bool.and_eq_true, Nat.blt_eq] at b
      exact r_aaload hd ⟨Nat.le_of_ble_eq_true b.1, b.2⟩ h.1 (hG _ _ _ _ _ _ h.2)
    · exact h.elim
  | aastore =>
    obtain ⟨hd, rfl⟩ := ok
    dsimp only [xstep] at h
    split at h
    · replace h := arf_el h; obtain ⟨o, rfl, h⟩ := h
      replace h := arf_el h; obtain ⟨q, rfl, h⟩ := h
      obtain ⟨b, h⟩ := bif_el h
      simp only [Bool.and_eq_true, Bool.or_eq_true, Nat.blt_eq, Nat.ble_eq, Nat.beq_eq] at b
      exact r_aastore hd (by omega) b.1 h.1 (hG _ _ _ _ _ _ (h.2 _ rfl))
    · exact h.elim
  | arraylength =>
    obtain ⟨hd, rfl⟩ := ok
    dsimp only [xstep] at h
    split at h
    · replace h := arf_el h; obtain ⟨o, rfl, h⟩ := h
      by_cases b : alOk o = true
      · rw [b] at h
        refine r_alen hd (alOk_el b) rfl (hG _ _ _ _ _ _ h)
      · rw [Bool.not_eq_true] at b
        rw [b] at h
        obtain ⟨b, h⟩ := bif_el h
        simp only [Bool.and_eq_true, Nat.beq_eq] at b
        obtain ⟨oa, ob⟩ := o
        dsimp only at b
        obtain ⟨rfl, rfl⟩ := b
        exact r_alen hd (Or.inr (Or.inr (Or.inr (Or.inr (Or.inr ⟨rfl, h.1⟩))))) rfl (hG _ _ _ _ _ _ h.2)
    · exact h.elim
  | new i =>
    obtain ⟨hd, rfl, hv⟩ := ok
    dsimp only [xstep] at h
    split at h
    · rename_i ci n
      obtain ⟨r, g1, g2, g3, g4, g5⟩ := hv
      subst g2
      obtain ⟨h1, h2, h⟩ := h
      have k := r_new hd g1 g3 g4 g5 (hG _ _ _ _ _ _ (h _ rfl))
      rw [Nat.sub_add_cancel h1, Nat.sub_add_cancel h2] at k
      exact k
    · exact h.elim
  | newarray t =>
    obtain ⟨hd, rfl, hv⟩ := ok
    dsimp only [xstep] at h
    split at h
    · obtain ⟨h1, h2, h3, h4, h⟩ := h
      cases t with
      | int =>
        have k := r_newI hd hv.1 hv.2 h1 h2 (hG _ _ _ _ _ _ (h _ rfl))
        rw [Nat.sub_add_cancel h3, Nat.sub_add_cancel h4] at k
        exact k
      | byte =>
        have k := r_newB hd hv.1 hv.2 h1 h2 (hG _ _ _ _ _ _ (h _ rfl))
        rw [Nat.sub_add_cancel h3, Nat.sub_add_cancel h4] at k
        exact k
      | boolean =>
        have k := r_newZ hd hv.1 hv.2 h1 h2 (hG _ _ _ _ _ _ (h _ rfl))
        rw [Nat.sub_add_cancel h3, Nat.sub_add_cancel h4] at k
        exact k
      | _ => exact hv.elim
    · exact h.elim
  | anewarray i =>
    obtain ⟨hd, rfl, hr, C0, g1, g2, g3⟩ := ok
    dsimp only [xstep] at h
    split at h
    · obtain ⟨h1, h2, h3, h4, h⟩ := h
      have k := r_anew hd hr g1 g2 g3 h1 h2 (hG _ _ _ _ _ _ (h _ rfl))
      rw [Nat.sub_add_cancel h3, Nat.sub_add_cancel h4] at k
      exact k
    · exact h.elim
  | checkcast i =>
    obtain ⟨hd, rfl, r, g1, g2⟩ := ok
    dsimp only [xstep] at h
    split at h
    · rename_i o r2
      match o, h with
      | none, h => exact r_castN hd (hG _ _ _ _ _ _ h)
      | some (a, b), h =>
        obtain ⟨e, h⟩ := bif_el h
        have e := Nat.eq_of_beq_eq_true e
        dsimp only at e
        subst e
        exact r_cast hd g1 g2 (hG _ _ _ _ _ _ h)
    · exact h.elim
  | ireturn =>
    obtain ⟨hd, hv⟩ := ok
    dsimp only [xstep] at h
    split at h
    · rcases hv with ⟨e, hv⟩ | ⟨e, hv⟩ | ⟨e, hv⟩ | ⟨e, hv⟩ <;> rw [e] at h
      · exact r_ireturn (st := []) hd hv h
      · refine r_zreturn (st := []) hd hv ?_ h.2
        rcases h.1 with z | z <;> rw [z] <;> decide
      · exact r_zreturn (st := []) hd hv (congrArg Value.int h.1) h.2
      · exact r_zreturn (st := []) hd hv (congrArg Value.int h.1) h.2
    · exact h.elim
  | lreturn =>
    obtain ⟨hd, hv⟩ := ok
    dsimp only [xstep] at h
    split at h
    · exact r_lreturn (st := []) hd hv h
    · exact h.elim
  | areturn =>
    obtain ⟨hd, ty, hv, ht⟩ := ok
    dsimp only [xstep] at h
    split at h
    · exact r_areturn (st := []) hd hv ht h
    · exact h.elim
  | return_ =>
    obtain ⟨hd, hv⟩ := ok
    dsimp only [xstep] at h
    split at h
    · exact r_return (st := []) hd hv h
    · exact h.elim
  | invokestatic i =>
    exact snd_static hG ok h
  | invokevirtual i =>
    exact snd_virt hG ok h
  | invokespecial i =>
    exact snd_spec hG ok h
  | _ => exact (show False from h).elim
theorem xtree_sound {pf : Nat → Option XE} {stop : Nat → Option (List Bool)} (hpf : ∀ pc Y, pf pc = some Y → OKI y pc Y) : ∀ (n rc rs pc : Nat) (ls st : List XV) (σ : XH), xtree pf stop d y Q n rc rs pc ls st σ → Ex d rc rs y pc ls st σ Q := by
  intro n
  induction n with
  | zero => intro rc rs pc ls st σ h; exact (show False from h).elim
  | succ n ih =>
    intro rc rs pc ls st σ h
    have h : xst pf stop d y Q (xtree pf stop d y Q n) rc rs pc ls st σ := h
    unfold xst at h
    cases hp : pf pc with
    | none => rw [hp] at h; exact h.elim
    | some Y =>
      rw [hp] at h
      refine xstep_sound (fun rc rs pc ls st σ g => ?_) (hpf pc Y hp) h
      unfold xgo at g
      split at g
      · exact Ex.forget (msk_le _ _) g
      · exact ih rc rs pc ls st σ g
end SND
