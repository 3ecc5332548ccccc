/-! ===== the whole run, from an empty heap ===== -/
theorem zero_AGH {σ : XH} (z : ∀ s, s < 500 → hc σ s = 0) (hz : ZH σ) : AGH XA σ ((fun _ => 0), (fun _ _ => 0), (fun _ _ _ => 0), (fun _ _ _ => 0), (fun _ _ _ => none)) := fun s hs => by
  have hlt : s < 500 := by
    rcases Nat.lt_or_ge s 500 with h | h
    · exact h
    · have : XA s = true := Nat.ble_eq_true_of_le h
      rw [this] at hs
      cases hs
  have hh := fun i k => hz s i k hlt (by rw [z s hlt]; exact Nat.zero_le i)
  exact ⟨z s hlt, funext fun i => funext fun k => (hh i k).1, funext fun i => funext fun k => (hh i k).2.2, fun i h => absurd rfl h⟩
theorem law_all {d rc rs : Nat} {σ : XH} {Q : XV → XH → Prop} (hd : 50 ≤ d) (z : ∀ s, s < 500 → hc σ s = 0) (st : STA σ) (hL : hn σ 503 0 ≤ 448) (hc6 : 6000 ≤ rc) (hs6 : 560000 ≤ rs) (hQ : ∀ g, Q (vI 1) g) : Ex d rc rs m_L_law 0 [vR (some (503, 0)), vU, vU, vU] [] σ Q := by
  refine Ex.zero fun hz => ?_
  have a0 := zero_AGH z hz
  refine sL_law_0 ?_
  unfold bL_law_0
  rw [z 11 (by omega)]
  refine ⟨by omega, by omega, fun h1 e1 => ⟨by omega, by omega, by omega, ?_⟩⟩
  have a1 : AGH XA h1 zc0 := by rw [e1]; exact a0.nwO 11
  have f1 : Fr Y0 σ h1 := by rw [e1]; exact (Fr.rf _ _).nwO rfl
  refine sp_X10_init (by omega) a1 fun g m ag fm fg q6 q103 q104 q105 i0 hR => ku_of ?_
  rw [show hc g 12 = 0 from (ag.c 12 rfl).trans (by decide +kernel)]
  refine ⟨by omega, by omega, fun h3 e3 => ⟨by omega, by omega, by omega, ?_⟩⟩
  have a3 : AGH XB h3 zr0 := by rw [e3]; exact ag.nwO 12
  have f3 : Fr YB m h3 := by rw [e3]; exact fg.nwO rfl
  refine sp_X11_init (by omega) a3 fun g2 ag2 fg2 => ku_of ?_
  have fr : Fr YB m g2 := f3.trans fg2
  have stg : STA g2 := (st.fr (f1.trans fm) (by decide)).fr fr (by decide)
  have n503 : hn g2 503 0 = hn σ 503 0 := by rw [fr.n rfl, fm.n rfl, f1.n rfl]
  exact law_loop 64 (k := 0) (first_WW ag2 stg fr q6 q103 q104 q105 i0 hR) (by omega) (by omega) (by omega) (by omega) (by omega) (by omega) hQ
