/-! ===== the program's loop ===== -/
theorem past_end {n k : Nat} (h : n < k + 7) (hn : n < 100000) (hk : k < 100000) : Int32.ofNat n - 7 < nI k := by
  by_cases y : 7 ≤ n
  · rw [nI_sub7 y]
    exact (nI_ltI (by omega) (by omega)).mpr (by omega)
  · have h0 : ∀ n, n < 7 → Int32.ofNat n - 7 < 0 := by decide
    have h1 := h0 n (by omega)
    have h2 : ¬ nI k < 0 := fun z => absurd z (by
      rw [fa_lt]
      have e0 : (0 : Int32).toInt = 0 := by decide
      have := nI_tI (n := k) (by omega)
      omega)
    rw [fa_lt] at h1 h2 ⊢
    omega
theorem law_loop : ∀ (m : Nat) {d rc rs k : Nat} {σ : XH} {S : SS} {ρ : List Nat} {Q : XV → XH → Prop}, WW σ S ρ → 46 ≤ d → hn σ 503 0 < 1000 → k ≤ 1000 → hn σ 503 0 < k + 7 * m + 7 → 80 * m ≤ rc → 8440 * m ≤ rs → (∀ g, Q (vI 1) g) → Ex d rc rs m_L_law 18 [vR (some (503, 0)), vR (some (11, 0)), vR (some (12, 0)), vI (nI k)] [] σ Q := by
  have done : ∀ {d rc rs k : Nat} {σ : XH} {Q : XV → XH → Prop}, hn σ 503 0 < 1000 → k ≤ 1000 → hn σ 503 0 < k + 7 → (∀ g, Q (vI 1) g) → Ex d rc rs m_L_law 18 [vR (some (503, 0)), vR (some (11, 0)), vR (some (12, 0)), vI (nI k)] [] σ Q := fun hn7 hk h hQ => by
    refine sL_law_18 ?_
    unfold bL_law_18
    exact ar_al rfl ⟨fun _ => ⟨Or.inr rfl, hQ _⟩, fun y => absurd (past_end h (by omega) (by omega)) y⟩
  intro m
  induction m with
  | zero => exact fun w hd hn7 hk h _ _ hQ => done hn7 hk (by omega) hQ
  | succ m ih =>
    intro d rc rs k σ S ρ Q w hd hn7 hk h hc hs hQ
    by_cases y : hn σ 503 0 < k + 7
    · exact done hn7 hk y hQ
    · refine at_18 w hd (by omega) (by omega) ⟨by omega, by omega⟩ fun rc' rs' σ' S' ρ' hc' hs' w' hsm => ?_
      refine sL_law_1813 ?_
      unfold bL_law_1813
      have e7 : nI k + 7 = nI (k + 7) := nI_add k 7
      rw [e7]
      have en := congrFun hsm.1 0
      exact ih w' hd (by rw [en]; exact hn7) (by omega) (by rw [en]; omega) (by omega) (by omega) hQ
