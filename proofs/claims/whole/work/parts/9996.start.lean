/-! ===== what the tables and the start say at the entry ===== -/
theorem st_nw {A : Array Value} {U : State} : ∀ w ∈ nwL, w.before A U = true → va_Nw w U := List.forall_mem_cons.mpr ⟨(fun z => z), List.forall_mem_cons.mpr ⟨va_Nw.of rfl, List.forall_mem_cons.mpr ⟨va_Nw.of rfl, List.forall_mem_cons.mpr ⟨va_Nw.of rfl, List.forall_mem_cons.mpr ⟨va_Nw.of rfl, List.forall_mem_cons.mpr ⟨(fun z => z), List.forall_mem_cons.mpr ⟨va_Nw.of rfl, List.forall_mem_cons.mpr ⟨va_Nw.of rfl, List.forall_mem_cons.mpr ⟨va_Nw.of rfl, List.forall_mem_cons.mpr ⟨va_Nw.of rfl, List.forall_mem_cons.mpr ⟨va_Nw.of rfl, List.forall_mem_cons.mpr ⟨va_Nw.of rfl, List.forall_mem_cons.mpr ⟨va_Nw.of rfl, List.forall_mem_cons.mpr ⟨va_Nw.of rfl, List.forall_mem_cons.mpr ⟨va_Nw.of rfl, List.forall_mem_cons.mpr ⟨va_Nw.of rfl, List.forall_mem_cons.mpr ⟨va_Nw.of rfl, List.forall_mem_cons.mpr ⟨va_Nw.of rfl, List.forall_mem_cons.mpr ⟨va_Nw.of rfl, List.forall_mem_cons.mpr ⟨va_Nw.of rfl, List.forall_mem_cons.mpr ⟨va_Nw.of rfl, List.forall_mem_cons.mpr ⟨va_Nw.of rfl, List.forall_mem_cons.mpr ⟨va_Nw.of rfl, List.forall_mem_cons.mpr ⟨va_Nw.of rfl, List.forall_mem_cons.mpr ⟨va_Nw.of rfl, List.forall_mem_cons.mpr ⟨va_Nw.of rfl, List.forall_mem_cons.mpr ⟨va_Nw.of rfl, fun _ h => absurd h List.not_mem_nil⟩⟩⟩⟩⟩⟩⟩⟩⟩⟩⟩⟩⟩⟩⟩⟩⟩⟩⟩⟩⟩⟩⟩⟩⟩⟩⟩
theorem st_nwin : ∀ w ∈ nwL, w ∈ lw_tbl := by decide +kernel
theorem st_lwA {A : Array Value} {s : State} (hts : ∀ w ∈ lw_tbl, w.before A s = true) : ∀ w ∈ lwA, w.before A s = true := fun w hw => (List.mem_append.mp hw).elim (fun h => hts w (List.mem_filter.mp h).1) (fun h => hts w (st_nwin w h))
theorem st_c0 : (∀ w ∈ u_ws RJx4a65c TJx4a65c 3, w ∈ lw_tbl) ∧ Cond.instantiable RJx4a65c 3 ∈ lw_tbl := ⟨by decide +kernel, by decide +kernel⟩
theorem st_c1 : (∀ w ∈ u_ws RX0 TX0 5, w ∈ lw_tbl) ∧ Cond.instantiable RX0 5 ∈ lw_tbl := ⟨by decide +kernel, by decide +kernel⟩
theorem st_c2 : (∀ w ∈ u_ws RX1 TX1 6, w ∈ lw_tbl) ∧ Cond.instantiable RX1 6 ∈ lw_tbl := ⟨by decide +kernel, by decide +kernel⟩
theorem st_c3 : (∀ w ∈ u_ws RX2 TX2 4, w ∈ lw_tbl) ∧ Cond.instantiable RX2 4 ∈ lw_tbl := ⟨by decide +kernel, by decide +kernel⟩
theorem st_c4 : (∀ w ∈ u_ws RX3 TX3 2, w ∈ lw_tbl) ∧ Cond.instantiable RX3 2 ∈ lw_tbl := ⟨by decide +kernel, by decide +kernel⟩
theorem st_c5 : (∀ w ∈ u_ws RX4 TX4 11, w ∈ lw_tbl) ∧ Cond.instantiable RX4 11 ∈ lw_tbl := ⟨by decide +kernel, by decide +kernel⟩
theorem st_c6 : (∀ w ∈ u_ws RX5 TX5 13, w ∈ lw_tbl) ∧ Cond.instantiable RX5 13 ∈ lw_tbl := ⟨by decide +kernel, by decide +kernel⟩
theorem st_c7 : (∀ w ∈ u_ws RX6 TX6 3, w ∈ lw_tbl) ∧ Cond.instantiable RX6 3 ∈ lw_tbl := ⟨by decide +kernel, by decide +kernel⟩
theorem st_c8 : (∀ w ∈ u_ws RX7 TX7 5, w ∈ lw_tbl) ∧ Cond.instantiable RX7 5 ∈ lw_tbl := ⟨by decide +kernel, by decide +kernel⟩
theorem st_c9 : (∀ w ∈ u_ws RX8 TX8 10, w ∈ lw_tbl) ∧ Cond.instantiable RX8 10 ∈ lw_tbl := ⟨by decide +kernel, by decide +kernel⟩
theorem st_c10 : (∀ w ∈ u_ws RX9 TX9 3, w ∈ lw_tbl) ∧ Cond.instantiable RX9 3 ∈ lw_tbl := ⟨by decide +kernel, by decide +kernel⟩
theorem st_c11 : (∀ w ∈ u_ws RX10 TX10 15, w ∈ lw_tbl) ∧ Cond.instantiable RX10 15 ∈ lw_tbl := ⟨by decide +kernel, by decide +kernel⟩
theorem st_c12 : (∀ w ∈ u_ws RX11 TX11 69, w ∈ lw_tbl) ∧ Cond.instantiable RX11 69 ∈ lw_tbl := ⟨by decide +kernel, by decide +kernel⟩
theorem st_cls : ∀ p ∈ vwCl, (∀ w ∈ u_ws p.1 p.2.1 p.2.2, w ∈ lw_tbl) ∧ ∃ n, Cond.instantiable p.1 n ∈ lw_tbl := List.forall_mem_cons.mpr ⟨⟨st_c0.1, _, st_c0.2⟩, List.forall_mem_cons.mpr ⟨⟨st_c1.1, _, st_c1.2⟩, List.forall_mem_cons.mpr ⟨⟨st_c2.1, _, st_c2.2⟩, List.forall_mem_cons.mpr ⟨⟨st_c3.1, _, st_c3.2⟩, List.forall_mem_cons.mpr ⟨⟨st_c4.1, _, st_c4.2⟩, List.forall_mem_cons.mpr ⟨⟨st_c5.1, _, st_c5.2⟩, List.forall_mem_cons.mpr ⟨⟨st_c6.1, _, st_c6.2⟩, List.forall_mem_cons.mpr ⟨⟨st_c7.1, _, st_c7.2⟩, List.forall_mem_cons.mpr ⟨⟨st_c8.1, _, st_c8.2⟩, List.forall_mem_cons.mpr ⟨⟨st_c9.1, _, st_c9.2⟩, List.forall_mem_cons.mpr ⟨⟨st_c10.1, _, st_c10.2⟩, List.forall_mem_cons.mpr ⟨⟨st_c11.1, _, st_c11.2⟩, List.forall_mem_cons.mpr ⟨⟨st_c12.1, _, st_c12.2⟩, fun _ h => absurd h List.not_mem_nil⟩⟩⟩⟩⟩⟩⟩⟩⟩⟩⟩⟩⟩
theorem st_known {A : Array Value} {s : State} (hts : ∀ w ∈ lw_tbl, w.before A s = true) : ∃ D : va_G, va_K D vwCl [] s := by
  have h : ∀ c : Nat, ∃ q : ClassId × (Nat → Nat), ∀ p : vw_C, vwCl[c]? = some p → u_Kn s p.1 p.2.1 p.2.2 q.1 q.2 := by
    intro c
    cases hc : vwCl[c]? with
    | none => exact ⟨((0 : Nat), fun _ => 0), fun p hp => by cases hp⟩
    | some p =>
      obtain ⟨hin, n, hn⟩ := st_cls p (List.mem_of_getElem? hc)
      obtain ⟨cC, iS, hk⟩ := u_known (n := n) hts hin (hts _ hn)
      exact ⟨(cC, iS), fun p' hp' => by cases hp'; exact hk⟩
  obtain ⟨f, hf⟩ := Classical.axiomOfChoice h
  exact ⟨(fun c => (f c).1, fun c => (f c).2), fun c q hq => hf c q hq, fun k q hq => absurd hq (by simp)⟩
/-- the words that are given of the start -/
def sgF : List Cond := flatC (Jvm.Cond.and given_1 narrow_1)
def stT (i : Nat) : Term := .string "SpotTimers$RuleReader" (strT.getD i (0, "")).1
def stV (i : Nat) : Term := .field (stT i) "java/lang/String" "value" "[B"
def stW : Term := .static "SpotTimers" "ABOVE" "[I"
def sgB : Term := .static "SpotTimers" "BODIES" "[I"
def stE : Term := .static "java/util/ArrayList" "DEFAULTCAPACITY_EMPTY_ELEMENTDATA" "[Ljava/lang/Object;"
theorem sf_w0 : Cond.arrayOf stW .int ∈ sgF ∧ Cond.eq (.length stW) (.int (Int32.ofNat 8)) ∈ sgF := by decide +kernel
theorem sf_w1 : ∀ j, j < 8 → Cond.eq (.elem stW (.int (Int32.ofNat j))) (.int (aboveC.getD j 0)) ∈ sgF := by decide +kernel
theorem sf_b0 : Cond.arrayOf sgB .int ∈ sgF ∧ Cond.eq (.length sgB) (.int (Int32.ofNat 24)) ∈ sgF := by decide +kernel
theorem sf_b1 : ∀ j, j < 24 → Cond.eq (.elem sgB (.int (Int32.ofNat j))) (.int (bodiesC.getD j 0)) ∈ sgF := by decide +kernel
theorem sf_e0 : Cond.arrayOf stE (.object "java/lang/Object") ∈ sgF ∧ Cond.eq (.length stE) (.int (Int32.ofNat 0)) ∈ sgF := by decide +kernel
theorem sf_c0 : Cond.eq (.static "java/lang/String" "COMPACT_STRINGS" "Z") (.int 1) ∈ sgF ∧ Cond.isRef (.static "jdk/internal/util/Preconditions" "SIOOBE_FORMATTER" "Ljava/util/function/BiFunction;") ∈ sgF ∧ Cond.isRef (.mirror "[Ljava/lang/Object;") ∈ sgF := by decide +kernel
theorem sf_t0 : ∀ i, i < 12 → Cond.exactly (stT i) "java/lang/String" ∈ sgF ∧ Cond.eq (.field (stT i) "java/lang/String" "coder" "B") (.int 0) ∈ sgF ∧ Cond.arrayOf (stV i) .byte ∈ sgF ∧ Cond.eq (.length (stV i)) (.int (Int32.ofNat ((strC.map List.length).getD i 0))) ∈ sgF := by decide +kernel
theorem sf_t1 : ∀ i, i < 12 → ∀ j, j < (strC.map List.length).getD i 0 → Cond.eq (.elem (stV i) (.int (Int32.ofNat j))) (.int ((strC.getD i []).getD j 0)) ∈ sgF := by decide +kernel
theorem sf_t2 : ∀ i, i < 12 → ∀ j, j < 12 → i ≠ j → Cond.not (Cond.eq (stT i) (stT j)) ∈ sgF ∨ Cond.not (Cond.eq (stT j) (stT i)) ∈ sgF := by decide +kernel
theorem sf_l0 : Cond.laysStatic "SpotTimers" "ABOVE" "[I" ∈ lw_tbl ∧ Cond.laysStatic "SpotTimers" "BODIES" "[I" ∈ lw_tbl ∧ Cond.laysStatic "java/util/ArrayList" "DEFAULTCAPACITY_EMPTY_ELEMENTDATA" "[Ljava/lang/Object;" ∈ lw_tbl ∧ Cond.laysStatic "java/lang/String" "COMPACT_STRINGS" "Z" ∈ lw_tbl ∧ Cond.laysStatic "jdk/internal/util/Preconditions" "SIOOBE_FORMATTER" "Ljava/util/function/BiFunction;" ∈ lw_tbl := by decide +kernel
theorem sf_l1 : Cond.initialized "SpotTimers" ∈ lw_tbl ∧ Cond.initialized "java/util/ArrayList" ∈ lw_tbl ∧ Cond.initialized "java/lang/String" ∈ lw_tbl ∧ Cond.initialized "jdk/internal/util/Preconditions" ∈ lw_tbl := by decide +kernel
theorem sf_s0 : ∀ q ∈ strT, Cond.stringRef "SpotTimers$RuleReader" q.1 q.2 ∈ lw_tbl := by decide +kernel
