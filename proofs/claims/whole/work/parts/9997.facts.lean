/-! ===== the heap at the entry stands for the abstract one ===== -/
def stN (L : Nat) (s i : Nat) : Nat := bif Nat.beq s 500 then 8 else bif Nat.beq s 501 then 24 else bif Nat.beq s 503 then L else bif Nat.beq s 513 then (strC.getD i []).length else 0
def stI (xs : Nat → Int32) (s i k : Nat) : Int32 := bif Nat.beq s 500 then aboveC.getD k 0 else bif Nat.beq s 501 then bodiesC.getD k 0 else bif Nat.beq s 503 then xs k else bif Nat.beq s 513 then (strC.getD i []).getD k 0 else 0
def stH (L : Nat) (xs : Nat → Int32) : XH := XEm (stN L) (stI xs)
def stA (b a0 a1 a2 a3 u v : Nat) (kK kV : Nat → Nat) (o : XO) : Nat := bif Nat.beq o.1 500 then a0 else bif Nat.beq o.1 501 then a1 else bif Nat.beq o.1 503 then b else bif Nat.beq o.1 510 then a2 else bif Nat.beq o.1 511 then a3 else bif Nat.beq o.1 512 then kK o.2 else bif Nat.beq o.1 513 then kV o.2 else bif Nat.beq o.2 0 then u else v
theorem st_getD {l : List Int32} {k : Nat} {x : Int32} (h : l[k]? = some x) : l.getD k 0 = x := by
  rw [List.getD_eq_getElem?_getD, h]
  rfl
theorem st_STA (L : Nat) (xs : Nat → Int32) : STA (stH L xs) := by
  refine ⟨rfl, rfl, rfl, fun k x h => st_getD h, fun k x h => st_getD h, fun t l h => ?_⟩
  have e : strC.getD t [] = l := by
    rw [List.getD_eq_getElem?_getD, h]
    rfl
  refine ⟨?_, fun k x hk => ?_⟩
  · show (strC.getD t []).length = l.length
    rw [e]
  · show (strC.getD t []).getD k 0 = x
    rw [e]
    exact st_getD hk
theorem st_len (i : Nat) : (strC.map List.length).getD i 0 = (strC.getD i []).length := by
  rw [List.getD_eq_getElem?_getD, List.getD_eq_getElem?_getD, List.getElem?_map]
  cases strC[i]? <;> rfl
theorem st_stat {s : State} {args : Array Value} {b L : Nat} {xs : Nat → Int32} (hts : ∀ w ∈ lw_tbl, w.before args s = true) (hg : (Jvm.Cond.and given_1 narrow_1).before args s = true) (hX : va_X b L xs s s.heap) (hb : b < s.heap.size) :
    ∃ ad : XO → Nat, ad (503, 0) = b ∧ XStat ad s.heap.size (stH L xs) s s.heap := by
  have hs : ∀ c ∈ sgF, c.before args s = true := flat_of_before _ hg
  have hA : ∀ a : Nat, a < s.heap.size → ¬ s.heap.size ≤ a := fun a h => Nat.not_le.mpr h
  obtain ⟨l0, l1, l2, l3, l4⟩ := sf_l0
  obtain ⟨i0, i1, i2, i3⟩ := sf_l1
  obtain ⟨c0, c1, c2⟩ := sf_c0
  obtain ⟨a0, e0, t0⟩ := va_Tof (tm := stW) (ty := .int) (N := 8) (f := fun j => .int (aboveC.getD j 0)) (A := fun q => s.heap.size ≤ q) (by decide) (hs _ sf_w0.1) (va_eqt (hs _ sf_w0.2)) (fun j hj => va_eqt (hs _ (sf_w1 j hj))) hA
  obtain ⟨a1, e1, t1⟩ := va_Tof (tm := sgB) (ty := .int) (N := 24) (f := fun j => .int (bodiesC.getD j 0)) (A := fun q => s.heap.size ≤ q) (by decide) (hs _ sf_b0.1) (va_eqt (hs _ sf_b0.2)) (fun j hj => va_eqt (hs _ (sf_b1 j hj))) hA
  obtain ⟨a2, e2, t2⟩ := va_Tof (tm := stE) (ty := .object "java/lang/Object") (N := 0) (f := fun _ => .null) (A := fun q => s.heap.size ≤ q) (by decide) (hs _ sf_e0.1) (va_eqt (hs _ sf_e0.2)) (fun j hj => absurd hj (Nat.not_lt_zero j)) hA
  obtain ⟨a3, m3⟩ := va_Mi.of (hs _ c2)
  have z0 := va_Zref (hts _ l0) (hts _ i0) e0 hA
  have z1 := va_Zref (hts _ l1) (hts _ i0) e1 hA
  have z2 := va_Zref (hts _ l2) (hts _ i1) e2 hA
  have z3 := va_Zof (hts _ l3) (hts _ i2) (va_eqi (hs _ c0)) hA
  have z4 := va_Zqof (hts _ l4) (hts _ i3) (hs _ c1) hA
  obtain ⟨kK, kV, hK, hE⟩ := vk_Sof (N := 12) (tm := stT) (len := strC.map List.length) (byt := strC) (A := fun q => s.heap.size ≤ q) (by decide) (fun i hi => hs _ (sf_t0 i hi).1) (fun i hi => hs _ (sf_t0 i hi).2.1) (fun i hi => hs _ (sf_t0 i hi).2.2.1) (fun i hi => hs _ (sf_t0 i hi).2.2.2) (fun i hi j hj => hs _ (sf_t1 i hi j hj)) (fun i j hi hj h => (sf_t2 i hi j hj h).elim (fun q => Or.inl (hs _ q)) (fun q => Or.inr (hs _ q))) hA
  have hu : ∃ u v : Nat, va_Z "jdk/internal/util/Preconditions" "SIOOBE_FORMATTER" "Ljava/util/function/BiFunction;" (if v = 0 then Value.null else .ref u) (fun q => s.heap.size ≤ q) s s.heap := by
    rcases z4 with h | ⟨t, h⟩
    · exact ⟨0, 0, h⟩
    · exact ⟨t, 1, h⟩
  obtain ⟨u, v, z5⟩ := hu
  have hS : va_T .int b L (fun j => .int (xs j)) (fun q => s.heap.size ≤ q) s s.heap := by
    obtain ⟨scr, h1, h2, h3, h4, h5⟩ := hX
    exact ⟨scr, h1, h2, h3, Nat.le_of_eq h4.symm, by rw [h4], h5, hA b hb⟩
  refine ⟨stA b a0 a1 a2 a3 u v kK kV, rfl, ?_, t2, z0, z1, z2, z3, z5, m3, ?_, ?_, ?_⟩
  · intro k hk
    rcases hk with rfl | rfl | rfl
    · exact t0
    · exact t1
    · exact hS
  · intro k hk
    obtain ⟨g1, g2, g3, g4⟩ := hK.1 k hk
    rw [st_len] at g4
    exact ⟨g1, g2, g3, g4⟩
  · intro k q hk
    have hk12 : k < 12 := (List.getElem?_eq_some_iff.mp hk).1
    refine vk_R.of (hts _ (sf_s0 q (List.mem_of_getElem? hk))) ?_
    have e := hE k hk12
    have eq : strT.getD k (0, "") = q := by
      rw [List.getD_eq_getElem?_getD, hk]
      rfl
    unfold stT at e
    rw [eq] at e
    exact e
  · exact fun w hw => st_nw w hw (hts w (st_nwin w hw))
