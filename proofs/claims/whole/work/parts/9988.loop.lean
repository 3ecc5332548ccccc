/-! ===== the program's loop: one step of it ===== -/
theorem vin {k N : Nat} (hk : k + 7 ≤ N ∧ N < 100000) {j : Int32} (m : Nat) (hj : j = nI m) (hm : m < 7) : vp_in (nI k + j) N := by
  rw [hj, nI_add]
  exact vp_in_nI (by omega) (by omega)
theorem vin0 {k N : Nat} (hk : k + 7 ≤ N ∧ N < 100000) : vp_in (nI k) N := vp_in_nI (by omega) (by omega)
theorem ar_io {o : XO} {K : XO → Prop} (h : isIo o = true) (k : K o) : arf (some o) fun q => bif isIo q then K q else False := by
  show bif isIo o then K o else False
  rw [h]
  exact k
theorem ar_al {o : XO} {K K2 : XO → Prop} (h : alOk o = true) (k : K o) : arf (some o) fun q => bif alOk q then K q else K2 q := by
  show bif alOk o then K o else K2 o
  rw [h]
  exact k
theorem nI_sub7 {n : Nat} (h : 7 ≤ n) : Int32.ofNat n - 7 = nI (n - 7) := by
  have e : Int32.ofNat n = nI (n - 7) + 7 := by
    show nI n = nI (n - 7) + nI 7
    rw [nI_add, Nat.sub_add_cancel h]
  rw [e, Int32.add_sub_cancel]
theorem ki_of {K : Int32 → XH → Prop} {x : Int32} {g : XH} (h : K x g) : kI K (vI x) g := h
theorem kl_of {K : Int64 → XH → Prop} {x : Int64} {g : XH} (h : K x g) : kL K (vL x) g := h
theorem lg_self (x : Int64) : lg_cmp x x = 0 := by
  unfold lg_cmp
  simp
/-- where the program goes on after a call -/
def NX (d rc rs k : Nat) (σ : XH) (Q : XV → XH → Prop) : Prop := ∀ rc' rs' σ' S' ρ', rc - 80 ≤ rc' → rs - 8440 ≤ rs' → WW σ' S' ρ' → Same σ σ' → Ex d rc' rs' m_L_law 1813 [vR (some (503, 0)), vR (some (11, 0)), vR (some (12, 0)), vI (nI k)] [] σ' Q
theorem at_220 {d rc rs k : Nat} {σ : XH} {S : SS} {ρ : List Nat} {Q : XV → XH → Prop} (w : WW σ S ρ) (hd : 46 ≤ d) (hc : 80 ≤ rc) (hs : 8440 ≤ rs) (hk : k + 7 ≤ hn σ 503 0 ∧ hn σ 503 0 < 100000) (N : NX d rc rs k σ Q) : Ex d rc rs m_L_law 220 [vR (some (503, 0)), vR (some (11, 0)), vR (some (12, 0)), vI (nI k)] [] σ Q := by
  refine sL_law_220 ?_
  unfold bL_law_220
  refine ar_io rfl ⟨vin hk 1 rfl (by omega), drf_of rfl ⟨by omega, st_pass w (by omega) fun x g hg hx => ?_⟩⟩
  rw [← hg.1] at hk
  refine ki_of ?_
  refine ar_io rfl ⟨vin hk 1 rfl (by omega), drf_of rfl ⟨by omega, ?_⟩⟩
  rw [hg.2]
  exact hx (d - 1) _ (by omega) fun g' S' ρ' w' hs' => ki_of ⟨fun _ => N _ _ _ _ _ (by omega) (by omega) w' hs', fun y => absurd rfl y⟩
theorem at_243 {d rc rs k : Nat} {σ : XH} {S : SS} {ρ : List Nat} {Q : XV → XH → Prop} (w : WW σ S ρ) (hd : 46 ≤ d) (hc : 80 ≤ rc) (hs : 8440 ≤ rs) (hk : k + 7 ≤ hn σ 503 0 ∧ hn σ 503 0 < 100000) (N : NX d rc rs k σ Q) : Ex d rc rs m_L_law 243 [vR (some (503, 0)), vR (some (11, 0)), vR (some (12, 0)), vI (nI k)] [] σ Q := by
  refine sL_law_243 ?_
  unfold bL_law_243
  refine ar_io rfl ⟨vin hk 1 rfl (by omega), ar_io rfl ⟨vin hk 2 rfl (by omega), drf_of rfl ⟨by omega, by omega, by omega, st_station w (by omega) fun x g hg hx => ?_⟩⟩⟩
  rw [← hg.1] at hk
  refine ki_of ?_
  refine ar_io rfl ⟨vin hk 1 rfl (by omega), ar_io rfl ⟨vin hk 2 rfl (by omega), drf_of rfl ⟨by omega, ?_⟩⟩⟩
  rw [hg.2]
  exact hx (d - 1) _ (by omega) fun g' S' ρ' w' hs' => ki_of ⟨fun _ => N _ _ _ _ _ (by omega) (by omega) w' hs', fun y => absurd rfl y⟩
theorem at_276 {d rc rs k : Nat} {σ : XH} {S : SS} {ρ : List Nat} {Q : XV → XH → Prop} (w : WW σ S ρ) (hd : 46 ≤ d) (hc : 80 ≤ rc) (hs : 8440 ≤ rs) (hk : k + 7 ≤ hn σ 503 0 ∧ hn σ 503 0 < 100000) (N : NX d rc rs k σ Q) : Ex d rc rs m_L_law 276 [vR (some (503, 0)), vR (some (11, 0)), vR (some (12, 0)), vI (nI k)] [] σ Q := by
  refine sL_law_276 ?_
  unfold bL_law_276
  refine ar_io rfl ⟨vin hk 1 rfl (by omega), drf_of rfl ⟨by omega, by omega, by omega, st_clock w (by omega) fun x g hg hx => ?_⟩⟩
  rw [← hg.1] at hk
  refine ki_of ?_
  refine ar_io rfl ⟨vin hk 1 rfl (by omega), drf_of rfl ⟨by omega, ?_⟩⟩
  rw [hg.2]
  exact hx (d - 1) _ (by omega) fun g' S' ρ' w' hs' => ki_of ⟨fun _ => N _ _ _ _ _ (by omega) (by omega) w' hs', fun y => absurd rfl y⟩
theorem at_299 {d rc rs k : Nat} {σ : XH} {S : SS} {ρ : List Nat} {Q : XV → XH → Prop} (w : WW σ S ρ) (hd : 46 ≤ d) (hc : 80 ≤ rc) (hs : 8440 ≤ rs) (hk : k + 7 ≤ hn σ 503 0 ∧ hn σ 503 0 < 100000) (N : NX d rc rs k σ Q) : Ex d rc rs m_L_law 299 [vR (some (503, 0)), vR (some (11, 0)), vR (some (12, 0)), vI (nI k)] [] σ Q := by
  refine sL_law_299 ?_
  unfold bL_law_299
  refine ar_io rfl ⟨vin hk 1 rfl (by omega), ar_io rfl ⟨vin hk 2 rfl (by omega), drf_of rfl ⟨by omega, st_stop w (by omega) fun x g hg hx => ?_⟩⟩⟩
  rw [← hg.1] at hk
  refine ki_of ?_
  refine ar_io rfl ⟨vin hk 1 rfl (by omega), ar_io rfl ⟨vin hk 2 rfl (by omega), drf_of rfl ⟨by omega, ?_⟩⟩⟩
  rw [hg.2]
  exact hx (d - 1) _ (by omega) fun g' S' ρ' w' hs' => ki_of ⟨fun _ => N _ _ _ _ _ (by omega) (by omega) w' hs', fun y => absurd rfl y⟩
theorem at_332 {d rc rs k : Nat} {σ : XH} {S : SS} {ρ : List Nat} {Q : XV → XH → Prop} (w : WW σ S ρ) (hd : 46 ≤ d) (hc : 80 ≤ rc) (hs : 8440 ≤ rs) (hk : k + 7 ≤ hn σ 503 0 ∧ hn σ 503 0 < 100000) (N : NX d rc rs k σ Q) : Ex d rc rs m_L_law 332 [vR (some (503, 0)), vR (some (11, 0)), vR (some (12, 0)), vI (nI k)] [] σ Q := by
  refine sL_law_332 ?_
  unfold bL_law_332
  refine ar_io rfl ⟨vin hk 1 rfl (by omega), ar_io rfl ⟨vin hk 2 rfl (by omega), ar_io rfl ⟨vin hk 3 rfl (by omega), ar_io rfl ⟨vin hk 4 rfl (by omega), ar_io rfl ⟨vin hk 5 rfl (by omega), drf_of rfl ⟨by omega, by omega, by omega, st_reading w (by omega) fun x g hg hx => ?_⟩⟩⟩⟩⟩⟩
  rw [← hg.1] at hk
  refine ki_of ?_
  refine ar_io rfl ⟨vin hk 1 rfl (by omega), ar_io rfl ⟨vin hk 2 rfl (by omega), ar_io rfl ⟨vin hk 3 rfl (by omega), ar_io rfl ⟨vin hk 4 rfl (by omega), ar_io rfl ⟨vin hk 5 rfl (by omega), drf_of rfl ⟨by omega, ?_⟩⟩⟩⟩⟩⟩
  rw [hg.2]
  exact hx (d - 1) _ (by omega) fun g' S' ρ' w' hs' => ki_of ⟨fun _ => N _ _ _ _ _ (by omega) (by omega) w' hs', fun y => absurd rfl y⟩
theorem at_395 {d rc rs k : Nat} {σ : XH} {S : SS} {ρ : List Nat} {Q : XV → XH → Prop} (w : WW σ S ρ) (hd : 46 ≤ d) (hc : 80 ≤ rc) (hs : 8440 ≤ rs) (hk : k + 7 ≤ hn σ 503 0 ∧ hn σ 503 0 < 100000) (N : NX d rc rs k σ Q) : Ex d rc rs m_L_law 395 [vR (some (503, 0)), vR (some (11, 0)), vR (some (12, 0)), vI (nI k)] [] σ Q := by
  refine sL_law_395 ?_
  unfold bL_law_395
  refine ar_io rfl ⟨vin hk 1 rfl (by omega), ar_io rfl ⟨vin hk 2 rfl (by omega), drf_of rfl ⟨by omega, st_number w (by omega) fun x g hg hx => ?_⟩⟩⟩
  rw [← hg.1] at hk
  refine ki_of ?_
  refine ar_io rfl ⟨vin hk 1 rfl (by omega), ar_io rfl ⟨vin hk 2 rfl (by omega), drf_of rfl ⟨by omega, ?_⟩⟩⟩
  rw [hg.2]
  exact hx (d - 1) _ (by omega) fun g' S' ρ' w' hs' => ki_of ⟨fun _ => N _ _ _ _ _ (by omega) (by omega) w' hs', fun y => absurd rfl y⟩
theorem at_428 {d rc rs k : Nat} {σ : XH} {S : SS} {ρ : List Nat} {Q : XV → XH → Prop} (w : WW σ S ρ) (hd : 46 ≤ d) (hc : 80 ≤ rc) (hs : 8440 ≤ rs) (hk : k + 7 ≤ hn σ 503 0 ∧ hn σ 503 0 < 100000) (N : NX d rc rs k σ Q) : Ex d rc rs m_L_law 428 [vR (some (503, 0)), vR (some (11, 0)), vR (some (12, 0)), vI (nI k)] [] σ Q := by
  refine sL_law_428 ?_
  unfold bL_law_428
  refine ar_io rfl ⟨vin hk 1 rfl (by omega), ar_io rfl ⟨vin hk 2 rfl (by omega), drf_of rfl ⟨by omega, by omega, by omega, st_copied w (by omega) fun x g hg hx => ?_⟩⟩⟩
  rw [← hg.1] at hk
  refine ki_of ?_
  refine ar_io rfl ⟨vin hk 1 rfl (by omega), ar_io rfl ⟨vin hk 2 rfl (by omega), drf_of rfl ⟨by omega, ?_⟩⟩⟩
  rw [hg.2]
  exact hx (d - 1) _ (by omega) fun g' S' ρ' w' hs' => ki_of ⟨fun _ => N _ _ _ _ _ (by omega) (by omega) w' hs', fun y => absurd rfl y⟩
theorem at_461 {d rc rs k : Nat} {σ : XH} {S : SS} {ρ : List Nat} {Q : XV → XH → Prop} (w : WW σ S ρ) (hd : 46 ≤ d) (hc : 80 ≤ rc) (hs : 8440 ≤ rs) (hk : k + 7 ≤ hn σ 503 0 ∧ hn σ 503 0 < 100000) (N : NX d rc rs k σ Q) : Ex d rc rs m_L_law 461 [vR (some (503, 0)), vR (some (11, 0)), vR (some (12, 0)), vI (nI k)] [] σ Q := by
  refine sL_law_461 ?_
  unfold bL_law_461
  refine ar_io rfl ⟨vin hk 1 rfl (by omega), drf_of rfl ⟨by omega, st_withdraw w (by omega) fun x g hg hx => ?_⟩⟩
  rw [← hg.1] at hk
  refine ki_of ?_
  refine ar_io rfl ⟨vin hk 1 rfl (by omega), drf_of rfl ⟨by omega, ?_⟩⟩
  rw [hg.2]
  exact hx (d - 1) _ (by omega) fun g' S' ρ' w' hs' => ki_of ⟨fun _ => N _ _ _ _ _ (by omega) (by omega) w' hs', fun y => absurd rfl y⟩
theorem at_484 {d rc rs k : Nat} {σ : XH} {S : SS} {ρ : List Nat} {Q : XV → XH → Prop} (w : WW σ S ρ) (hd : 46 ≤ d) (hc : 80 ≤ rc) (hs : 8440 ≤ rs) (hk : k + 7 ≤ hn σ 503 0 ∧ hn σ 503 0 < 100000) (N : NX d rc rs k σ Q) : Ex d rc rs m_L_law 484 [vR (some (503, 0)), vR (some (11, 0)), vR (some (12, 0)), vI (nI k)] [] σ Q := by
  refine sL_law_484 ?_
  unfold bL_law_484
  refine ar_io rfl ⟨vin hk 1 rfl (by omega), ar_io rfl ⟨vin hk 2 rfl (by omega), drf_of rfl ⟨by omega, st_of w (by omega) fun x g hg hx => ?_⟩⟩⟩
  rw [← hg.1] at hk
  refine ki_of ?_
  refine ar_io rfl ⟨vin hk 1 rfl (by omega), ar_io rfl ⟨vin hk 2 rfl (by omega), drf_of rfl ⟨by omega, ?_⟩⟩⟩
  rw [hg.2]
  exact hx (d - 1) _ (by omega) fun g' S' ρ' w' hs' => ki_of ⟨fun _ => N _ _ _ _ _ (by omega) (by omega) w' hs', fun y => absurd rfl y⟩
theorem at_517 {d rc rs k : Nat} {σ : XH} {S : SS} {ρ : List Nat} {Q : XV → XH → Prop} (w : WW σ S ρ) (hd : 46 ≤ d) (hc : 80 ≤ rc) (hs : 8440 ≤ rs) (hk : k + 7 ≤ hn σ 503 0 ∧ hn σ 503 0 < 100000) (N : NX d rc rs k σ Q) : Ex d rc rs m_L_law 517 [vR (some (503, 0)), vR (some (11, 0)), vR (some (12, 0)), vI (nI k)] [] σ Q := by
  refine sL_law_517 ?_
  unfold bL_law_517
  refine ar_io rfl ⟨vin hk 1 rfl (by omega), ar_io rfl ⟨vin hk 2 rfl (by omega), drf_of rfl ⟨by omega, st_time w (by omega) fun x g hg hx => ?_⟩⟩⟩
  rw [← hg.1] at hk
  refine ki_of ?_
  refine ar_io rfl ⟨vin hk 1 rfl (by omega), ar_io rfl ⟨vin hk 2 rfl (by omega), drf_of rfl ⟨by omega, ?_⟩⟩⟩
  rw [hg.2]
  exact hx (d - 1) _ (by omega) fun g' S' ρ' w' hs' => ki_of ⟨fun _ => N _ _ _ _ _ (by omega) (by omega) w' hs', fun y => absurd rfl y⟩
theorem at_550 {d rc rs k : Nat} {σ : XH} {S : SS} {ρ : List Nat} {Q : XV → XH → Prop} (w : WW σ S ρ) (hd : 46 ≤ d) (hc : 80 ≤ rc) (hs : 8440 ≤ rs) (hk : k + 7 ≤ hn σ 503 0 ∧ hn σ 503 0 < 100000) (N : NX d rc rs k σ Q) : Ex d rc rs m_L_law 550 [vR (some (503, 0)), vR (some (11, 0)), vR (some (12, 0)), vI (nI k)] [] σ Q := by
  refine sL_law_550 ?_
  unfold bL_law_550
  refine ar_io rfl ⟨vin hk 1 rfl (by omega), drf_of rfl ⟨by omega, st_longitude w (by omega) fun x g hg hx => ?_⟩⟩
  rw [← hg.1] at hk
  refine ki_of ?_
  refine ar_io rfl ⟨vin hk 1 rfl (by omega), drf_of rfl ⟨by omega, ?_⟩⟩
  rw [hg.2]
  exact hx (d - 1) _ (by omega) fun g' S' ρ' w' hs' => ki_of ⟨fun _ => N _ _ _ _ _ (by omega) (by omega) w' hs', fun y => absurd rfl y⟩
theorem at_573 {d rc rs k : Nat} {σ : XH} {S : SS} {ρ : List Nat} {Q : XV → XH → Prop} (w : WW σ S ρ) (hd : 46 ≤ d) (hc : 80 ≤ rc) (hs : 8440 ≤ rs) (hk : k + 7 ≤ hn σ 503 0 ∧ hn σ 503 0 < 100000) (N : NX d rc rs k σ Q) : Ex d rc rs m_L_law 573 [vR (some (503, 0)), vR (some (11, 0)), vR (some (12, 0)), vI (nI k)] [] σ Q := by
  refine sL_law_573 ?_
  unfold bL_law_573
  refine ar_io rfl ⟨vin hk 1 rfl (by omega), ar_io rfl ⟨vin hk 2 rfl (by omega), drf_of rfl ⟨by omega, st_seen w (by omega) fun x g hg hx => ?_⟩⟩⟩
  rw [← hg.1] at hk
  refine ki_of ?_
  refine ar_io rfl ⟨vin hk 1 rfl (by omega), ar_io rfl ⟨vin hk 2 rfl (by omega), drf_of rfl ⟨by omega, ?_⟩⟩⟩
  rw [hg.2]
  exact hx (d - 1) _ (by omega) fun g' S' ρ' w' hs' => ki_of ⟨fun _ => N _ _ _ _ _ (by omega) (by omega) w' hs', fun y => absurd rfl y⟩
theorem at_606 {d rc rs k : Nat} {σ : XH} {S : SS} {ρ : List Nat} {Q : XV → XH → Prop} (w : WW σ S ρ) (hd : 46 ≤ d) (hc : 80 ≤ rc) (hs : 8440 ≤ rs) (hk : k + 7 ≤ hn σ 503 0 ∧ hn σ 503 0 < 100000) (N : NX d rc rs k σ Q) : Ex d rc rs m_L_law 606 [vR (some (503, 0)), vR (some (11, 0)), vR (some (12, 0)), vI (nI k)] [] σ Q := by
  refine sL_law_606 ?_
  unfold bL_law_606
  refine ar_io rfl ⟨vin hk 1 rfl (by omega), drf_of rfl ⟨by omega, st_like w (by omega) fun x g hg hx => ?_⟩⟩
  rw [← hg.1] at hk
  refine ki_of ?_
  refine ar_io rfl ⟨vin hk 1 rfl (by omega), drf_of rfl ⟨by omega, ?_⟩⟩
  rw [hg.2]
  exact hx (d - 1) _ (by omega) fun g' S' ρ' w' hs' => ki_of ⟨fun _ => N _ _ _ _ _ (by omega) (by omega) w' hs', fun y => absurd rfl y⟩
theorem at_629 {d rc rs k : Nat} {σ : XH} {S : SS} {ρ : List Nat} {Q : XV → XH → Prop} (w : WW σ S ρ) (hd : 46 ≤ d) (hc : 80 ≤ rc) (hs : 8440 ≤ rs) (hk : k + 7 ≤ hn σ 503 0 ∧ hn σ 503 0 < 100000) (N : NX d rc rs k σ Q) : Ex d rc rs m_L_law 629 [vR (some (503, 0)), vR (some (11, 0)), vR (some (12, 0)), vI (nI k)] [] σ Q := by
  refine sL_law_629 ?_
  unfold bL_law_629
  refine ar_io rfl ⟨vin hk 1 rfl (by omega), ar_io rfl ⟨vin hk 2 rfl (by omega), ar_io rfl ⟨vin hk 3 rfl (by omega), ar_io rfl ⟨vin hk 4 rfl (by omega), ar_io rfl ⟨vin hk 5 rfl (by omega), ar_io rfl ⟨vin hk 6 rfl (by omega), drf_of rfl ⟨by omega, by omega, by omega, st_book w (by omega) fun x g hg hx => ?_⟩⟩⟩⟩⟩⟩⟩
  rw [← hg.1] at hk
  refine ki_of ?_
  refine ar_io rfl ⟨vin hk 1 rfl (by omega), ar_io rfl ⟨vin hk 2 rfl (by omega), ar_io rfl ⟨vin hk 3 rfl (by omega), ar_io rfl ⟨vin hk 4 rfl (by omega), ar_io rfl ⟨vin hk 5 rfl (by omega), ar_io rfl ⟨vin hk 6 rfl (by omega), drf_of rfl ⟨by omega, ?_⟩⟩⟩⟩⟩⟩⟩
  rw [hg.2]
  exact hx (d - 1) _ (by omega) fun g' S' ρ' w' hs' => ki_of ⟨fun _ => N _ _ _ _ _ (by omega) (by omega) w' hs', fun y => absurd rfl y⟩
theorem at_704 {d rc rs k : Nat} {σ : XH} {S : SS} {ρ : List Nat} {Q : XV → XH → Prop} (w : WW σ S ρ) (hd : 46 ≤ d) (hc : 80 ≤ rc) (hs : 8440 ≤ rs) (hk : k + 7 ≤ hn σ 503 0 ∧ hn σ 503 0 < 100000) (N : NX d rc rs k σ Q) : Ex d rc rs m_L_law 704 [vR (some (503, 0)), vR (some (11, 0)), vR (some (12, 0)), vI (nI k)] [] σ Q := by
  refine sL_law_704 ?_
  unfold bL_law_704
  refine drf_of rfl ⟨by omega, st_ended w (by omega) fun x g hg hx => ?_⟩
  refine ki_of ?_
  refine drf_of rfl ⟨by omega, ?_⟩
  exact hx (d - 1) _ (by omega) fun g' S' ρ' w' hs' => ki_of ⟨fun _ => N _ _ _ _ _ (by omega) (by omega) w' hs', fun y => absurd rfl y⟩
theorem at_717 {d rc rs k : Nat} {σ : XH} {S : SS} {ρ : List Nat} {Q : XV → XH → Prop} (w : WW σ S ρ) (hd : 46 ≤ d) (hc : 80 ≤ rc) (hs : 8440 ≤ rs) (hk : k + 7 ≤ hn σ 503 0 ∧ hn σ 503 0 < 100000) (N : NX d rc rs k σ Q) : Ex d rc rs m_L_law 717 [vR (some (503, 0)), vR (some (11, 0)), vR (some (12, 0)), vI (nI k)] [] σ Q := by
  refine sL_law_717 ?_
  unfold bL_law_717
  refine ar_io rfl ⟨vin hk 1 rfl (by omega), ar_io rfl ⟨vin hk 2 rfl (by omega), ar_io rfl ⟨vin hk 3 rfl (by omega), drf_of rfl ⟨by omega, by omega, by omega, st_letter w (by omega) fun x g hg hx => ?_⟩⟩⟩⟩
  rw [← hg.1] at hk
  refine ki_of ?_
  refine ar_io rfl ⟨vin hk 1 rfl (by omega), ar_io rfl ⟨vin hk 2 rfl (by omega), ar_io rfl ⟨vin hk 3 rfl (by omega), drf_of rfl ⟨by omega, ?_⟩⟩⟩⟩
  rw [hg.2]
  exact hx (d - 1) _ (by omega) fun g' S' ρ' w' hs' => ki_of ⟨fun _ => N _ _ _ _ _ (by omega) (by omega) w' hs', fun y => absurd rfl y⟩
theorem at_760 {d rc rs k : Nat} {σ : XH} {S : SS} {ρ : List Nat} {Q : XV → XH → Prop} (w : WW σ S ρ) (hd : 46 ≤ d) (hc : 80 ≤ rc) (hs : 8440 ≤ rs) (hk : k + 7 ≤ hn σ 503 0 ∧ hn σ 503 0 < 100000) (N : NX d rc rs k σ Q) : Ex d rc rs m_L_law 760 [vR (some (503, 0)), vR (some (11, 0)), vR (some (12, 0)), vI (nI k)] [] σ Q := by
  refine sL_law_760 ?_
  unfold bL_law_760
  refine ar_io rfl ⟨vin hk 1 rfl (by omega), ar_io rfl ⟨vin hk 2 rfl (by omega), ar_io rfl ⟨vin hk 3 rfl (by omega), drf_of rfl ⟨by omega, st_has w (by omega) fun x g hg hx => ?_⟩⟩⟩⟩
  rw [← hg.1] at hk
  refine ki_of ?_
  refine ar_io rfl ⟨vin hk 1 rfl (by omega), ar_io rfl ⟨vin hk 2 rfl (by omega), ar_io rfl ⟨vin hk 3 rfl (by omega), drf_of rfl ⟨by omega, ?_⟩⟩⟩⟩
  rw [hg.2]
  exact hx (d - 1) _ (by omega) fun g' S' ρ' w' hs' => ki_of ⟨fun _ => N _ _ _ _ _ (by omega) (by omega) w' hs', fun y => absurd rfl y⟩
theorem at_803 {d rc rs k : Nat} {σ : XH} {S : SS} {ρ : List Nat} {Q : XV → XH → Prop} (w : WW σ S ρ) (hd : 46 ≤ d) (hc : 80 ≤ rc) (hs : 8440 ≤ rs) (hk : k + 7 ≤ hn σ 503 0 ∧ hn σ 503 0 < 100000) (N : NX d rc rs k σ Q) : Ex d rc rs m_L_law 803 [vR (some (503, 0)), vR (some (11, 0)), vR (some (12, 0)), vI (nI k)] [] σ Q := by
  refine sL_law_803 ?_
  unfold bL_law_803
  refine ar_io rfl ⟨vin hk 1 rfl (by omega), ar_io rfl ⟨vin hk 2 rfl (by omega), drf_of rfl ⟨by omega, st_feed w (by omega) fun x g hg hx => ?_⟩⟩⟩
  rw [← hg.1] at hk
  refine ki_of ?_
  refine ar_io rfl ⟨vin hk 1 rfl (by omega), ar_io rfl ⟨vin hk 2 rfl (by omega), drf_of rfl ⟨by omega, ?_⟩⟩⟩
  rw [hg.2]
  exact hx (d - 1) _ (by omega) fun g' S' ρ' w' hs' => ki_of ⟨fun _ => N _ _ _ _ _ (by omega) (by omega) w' hs', fun y => absurd rfl y⟩
theorem at_836 {d rc rs k : Nat} {σ : XH} {S : SS} {ρ : List Nat} {Q : XV → XH → Prop} (w : WW σ S ρ) (hd : 46 ≤ d) (hc : 80 ≤ rc) (hs : 8440 ≤ rs) (hk : k + 7 ≤ hn σ 503 0 ∧ hn σ 503 0 < 100000) (N : NX d rc rs k σ Q) : Ex d rc rs m_L_law 836 [vR (some (503, 0)), vR (some (11, 0)), vR (some (12, 0)), vI (nI k)] [] σ Q := by
  refine sL_law_836 ?_
  unfold bL_law_836
  refine ar_io rfl ⟨vin hk 1 rfl (by omega), ar_io rfl ⟨vin hk 2 rfl (by omega), drf_of rfl ⟨by omega, by omega, by omega, st_rule w (by omega) fun x g hg hx => ?_⟩⟩⟩
  rw [← hg.1] at hk
  refine ki_of ?_
  refine ar_io rfl ⟨vin hk 1 rfl (by omega), ar_io rfl ⟨vin hk 2 rfl (by omega), drf_of rfl ⟨by omega, ?_⟩⟩⟩
  rw [hg.2]
  exact hx (d - 1) _ (by omega) fun g' S' ρ' w' hs' => ki_of ⟨fun _ => N _ _ _ _ _ (by omega) (by omega) w' hs', fun y => absurd rfl y⟩
theorem at_869 {d rc rs k : Nat} {σ : XH} {S : SS} {ρ : List Nat} {Q : XV → XH → Prop} (w : WW σ S ρ) (hd : 46 ≤ d) (hc : 80 ≤ rc) (hs : 8440 ≤ rs) (hk : k + 7 ≤ hn σ 503 0 ∧ hn σ 503 0 < 100000) (N : NX d rc rs k σ Q) : Ex d rc rs m_L_law 869 [vR (some (503, 0)), vR (some (11, 0)), vR (some (12, 0)), vI (nI k)] [] σ Q := by
  refine sL_law_869 ?_
  unfold bL_law_869
  refine ar_io rfl ⟨vin hk 1 rfl (by omega), ar_io rfl ⟨vin hk 2 rfl (by omega), ar_io rfl ⟨vin hk 3 rfl (by omega), drf_of rfl ⟨by omega, st_ruled w (by omega) fun x g hg hx => ?_⟩⟩⟩⟩
  rw [← hg.1] at hk
  refine ki_of ?_
  refine ar_io rfl ⟨vin hk 1 rfl (by omega), ar_io rfl ⟨vin hk 2 rfl (by omega), ar_io rfl ⟨vin hk 3 rfl (by omega), drf_of rfl ⟨by omega, ?_⟩⟩⟩⟩
  rw [hg.2]
  exact hx (d - 1) _ (by omega) fun g' S' ρ' w' hs' => ki_of ⟨fun _ => N _ _ _ _ _ (by omega) (by omega) w' hs', fun y => absurd rfl y⟩
theorem at_912 {d rc rs k : Nat} {σ : XH} {S : SS} {ρ : List Nat} {Q : XV → XH → Prop} (w : WW σ S ρ) (hd : 46 ≤ d) (hc : 80 ≤ rc) (hs : 8440 ≤ rs) (hk : k + 7 ≤ hn σ 503 0 ∧ hn σ 503 0 < 100000) (N : NX d rc rs k σ Q) : Ex d rc rs m_L_law 912 [vR (some (503, 0)), vR (some (11, 0)), vR (some (12, 0)), vI (nI k)] [] σ Q := by
  refine sL_law_912 ?_
  unfold bL_law_912
  refine ar_io rfl ⟨vin hk 1 rfl (by omega), ar_io rfl ⟨vin hk 2 rfl (by omega), ar_io rfl ⟨vin hk 3 rfl (by omega), drf_of rfl ⟨by omega, st_counted w (by omega) fun x g hg hx => ?_⟩⟩⟩⟩
  rw [← hg.1] at hk
  refine ki_of ?_
  refine ar_io rfl ⟨vin hk 1 rfl (by omega), ar_io rfl ⟨vin hk 2 rfl (by omega), ar_io rfl ⟨vin hk 3 rfl (by omega), drf_of rfl ⟨by omega, ?_⟩⟩⟩⟩
  rw [hg.2]
  exact hx (d - 1) _ (by omega) fun g' S' ρ' w' hs' => ki_of ⟨fun _ => N _ _ _ _ _ (by omega) (by omega) w' hs', fun y => absurd rfl y⟩
theorem at_955 {d rc rs k : Nat} {σ : XH} {S : SS} {ρ : List Nat} {Q : XV → XH → Prop} (w : WW σ S ρ) (hd : 46 ≤ d) (hc : 80 ≤ rc) (hs : 8440 ≤ rs) (hk : k + 7 ≤ hn σ 503 0 ∧ hn σ 503 0 < 100000) (N : NX d rc rs k σ Q) : Ex d rc rs m_L_law 955 [vR (some (503, 0)), vR (some (11, 0)), vR (some (12, 0)), vI (nI k)] [] σ Q := by
  refine sL_law_955 ?_
  unfold bL_law_955
  refine ar_io rfl ⟨vin hk 1 rfl (by omega), ar_io rfl ⟨vin hk 2 rfl (by omega), ar_io rfl ⟨vin hk 3 rfl (by omega), drf_of rfl ⟨by omega, st_counts w (by omega) fun x g hg hx => ?_⟩⟩⟩⟩
  rw [← hg.1] at hk
  refine ki_of ?_
  refine ar_io rfl ⟨vin hk 1 rfl (by omega), ar_io rfl ⟨vin hk 2 rfl (by omega), ar_io rfl ⟨vin hk 3 rfl (by omega), drf_of rfl ⟨by omega, ?_⟩⟩⟩⟩
  rw [hg.2]
  exact hx (d - 1) _ (by omega) fun g' S' ρ' w' hs' => ki_of ⟨fun _ => N _ _ _ _ _ (by omega) (by omega) w' hs', fun y => absurd rfl y⟩
theorem at_998 {d rc rs k : Nat} {σ : XH} {S : SS} {ρ : List Nat} {Q : XV → XH → Prop} (w : WW σ S ρ) (hd : 46 ≤ d) (hc : 80 ≤ rc) (hs : 8440 ≤ rs) (hk : k + 7 ≤ hn σ 503 0 ∧ hn σ 503 0 < 100000) (N : NX d rc rs k σ Q) : Ex d rc rs m_L_law 998 [vR (some (503, 0)), vR (some (11, 0)), vR (some (12, 0)), vI (nI k)] [] σ Q := by
  refine sL_law_998 ?_
  unfold bL_law_998
  refine ar_io rfl ⟨vin hk 1 rfl (by omega), ar_io rfl ⟨vin hk 2 rfl (by omega), drf_of rfl ⟨by omega, st_table w (by omega) fun x g hg hx => ?_⟩⟩⟩
  rw [← hg.1] at hk
  refine ki_of ?_
  refine ar_io rfl ⟨vin hk 1 rfl (by omega), ar_io rfl ⟨vin hk 2 rfl (by omega), drf_of rfl ⟨by omega, ?_⟩⟩⟩
  rw [hg.2]
  exact hx (d - 1) _ (by omega) fun g' S' ρ' w' hs' => ki_of ⟨fun _ => N _ _ _ _ _ (by omega) (by omega) w' hs', fun y => absurd rfl y⟩
theorem at_1031 {d rc rs k : Nat} {σ : XH} {S : SS} {ρ : List Nat} {Q : XV → XH → Prop} (w : WW σ S ρ) (hd : 46 ≤ d) (hc : 80 ≤ rc) (hs : 8440 ≤ rs) (hk : k + 7 ≤ hn σ 503 0 ∧ hn σ 503 0 < 100000) (N : NX d rc rs k σ Q) : Ex d rc rs m_L_law 1031 [vR (some (503, 0)), vR (some (11, 0)), vR (some (12, 0)), vI (nI k)] [] σ Q := by
  refine sL_law_1031 ?_
  unfold bL_law_1031
  refine ar_io rfl ⟨vin hk 1 rfl (by omega), ar_io rfl ⟨vin hk 2 rfl (by omega), ar_io rfl ⟨vin hk 3 rfl (by omega), drf_of rfl ⟨by omega, st_lever w (by omega) fun x g hg hx => ?_⟩⟩⟩⟩
  rw [← hg.1] at hk
  refine ki_of ?_
  refine ar_io rfl ⟨vin hk 1 rfl (by omega), ar_io rfl ⟨vin hk 2 rfl (by omega), ar_io rfl ⟨vin hk 3 rfl (by omega), drf_of rfl ⟨by omega, ?_⟩⟩⟩⟩
  rw [hg.2]
  exact hx (d - 1) _ (by omega) fun g' S' ρ' w' hs' => ki_of ⟨fun _ => N _ _ _ _ _ (by omega) (by omega) w' hs', fun y => absurd rfl y⟩
theorem at_1074 {d rc rs k : Nat} {σ : XH} {S : SS} {ρ : List Nat} {Q : XV → XH → Prop} (w : WW σ S ρ) (hd : 46 ≤ d) (hc : 80 ≤ rc) (hs : 8440 ≤ rs) (hk : k + 7 ≤ hn σ 503 0 ∧ hn σ 503 0 < 100000) (N : NX d rc rs k σ Q) : Ex d rc rs m_L_law 1074 [vR (some (503, 0)), vR (some (11, 0)), vR (some (12, 0)), vI (nI k)] [] σ Q := by
  refine sL_law_1074 ?_
  unfold bL_law_1074
  refine ar_io rfl ⟨vin hk 1 rfl (by omega), ar_io rfl ⟨vin hk 2 rfl (by omega), ar_io rfl ⟨vin hk 3 rfl (by omega), drf_of rfl ⟨by omega, st_sum w (by omega) fun x g hg hx => ?_⟩⟩⟩⟩
  rw [← hg.1] at hk
  refine kl_of ?_
  refine ar_io rfl ⟨vin hk 1 rfl (by omega), ar_io rfl ⟨vin hk 2 rfl (by omega), ar_io rfl ⟨vin hk 3 rfl (by omega), drf_of rfl ⟨by omega, ?_⟩⟩⟩⟩
  rw [hg.2]
  exact hx (d - 1) _ (by omega) fun g' S' ρ' w' hs' => kl_of ⟨fun _ => N _ _ _ _ _ (by omega) (by omega) w' hs', fun y => absurd (lg_self x) y⟩
theorem at_1118 {d rc rs k : Nat} {σ : XH} {S : SS} {ρ : List Nat} {Q : XV → XH → Prop} (w : WW σ S ρ) (hd : 46 ≤ d) (hc : 80 ≤ rc) (hs : 8440 ≤ rs) (hk : k + 7 ≤ hn σ 503 0 ∧ hn σ 503 0 < 100000) (N : NX d rc rs k σ Q) : Ex d rc rs m_L_law 1118 [vR (some (503, 0)), vR (some (11, 0)), vR (some (12, 0)), vI (nI k)] [] σ Q := by
  refine sL_law_1118 ?_
  unfold bL_law_1118
  refine ar_io rfl ⟨vin hk 1 rfl (by omega), ar_io rfl ⟨vin hk 2 rfl (by omega), ar_io rfl ⟨vin hk 3 rfl (by omega), drf_of rfl ⟨by omega, st_distance w (by omega) fun x g hg hx => ?_⟩⟩⟩⟩
  rw [← hg.1] at hk
  refine ki_of ?_
  refine ar_io rfl ⟨vin hk 1 rfl (by omega), ar_io rfl ⟨vin hk 2 rfl (by omega), ar_io rfl ⟨vin hk 3 rfl (by omega), drf_of rfl ⟨by omega, ?_⟩⟩⟩⟩
  rw [hg.2]
  exact hx (d - 1) _ (by omega) fun g' S' ρ' w' hs' => ki_of ⟨fun _ => N _ _ _ _ _ (by omega) (by omega) w' hs', fun y => absurd rfl y⟩
theorem at_1161 {d rc rs k : Nat} {σ : XH} {S : SS} {ρ : List Nat} {Q : XV → XH → Prop} (w : WW σ S ρ) (hd : 46 ≤ d) (hc : 80 ≤ rc) (hs : 8440 ≤ rs) (hk : k + 7 ≤ hn σ 503 0 ∧ hn σ 503 0 < 100000) (N : NX d rc rs k σ Q) : Ex d rc rs m_L_law 1161 [vR (some (503, 0)), vR (some (11, 0)), vR (some (12, 0)), vI (nI k)] [] σ Q := by
  refine sL_law_1161 ?_
  unfold bL_law_1161
  refine ar_io rfl ⟨vin hk 1 rfl (by omega), ar_io rfl ⟨vin hk 2 rfl (by omega), ar_io rfl ⟨vin hk 3 rfl (by omega), ar_io rfl ⟨vin hk 4 rfl (by omega), drf_of rfl ⟨by omega, st_rest w (by omega) fun x g hg hx => ?_⟩⟩⟩⟩⟩
  rw [← hg.1] at hk
  refine ki_of ?_
  refine ar_io rfl ⟨vin hk 1 rfl (by omega), ar_io rfl ⟨vin hk 2 rfl (by omega), ar_io rfl ⟨vin hk 3 rfl (by omega), ar_io rfl ⟨vin hk 4 rfl (by omega), drf_of rfl ⟨by omega, ?_⟩⟩⟩⟩⟩
  rw [hg.2]
  exact hx (d - 1) _ (by omega) fun g' S' ρ' w' hs' => ki_of ⟨fun _ => N _ _ _ _ _ (by omega) (by omega) w' hs', fun y => absurd rfl y⟩
theorem at_1214 {d rc rs k : Nat} {σ : XH} {S : SS} {ρ : List Nat} {Q : XV → XH → Prop} (w : WW σ S ρ) (hd : 46 ≤ d) (hc : 80 ≤ rc) (hs : 8440 ≤ rs) (hk : k + 7 ≤ hn σ 503 0 ∧ hn σ 503 0 < 100000) (N : NX d rc rs k σ Q) : Ex d rc rs m_L_law 1214 [vR (some (503, 0)), vR (some (11, 0)), vR (some (12, 0)), vI (nI k)] [] σ Q := by
  refine sL_law_1214 ?_
  unfold bL_law_1214
  refine ar_io rfl ⟨vin hk 1 rfl (by omega), ar_io rfl ⟨vin hk 2 rfl (by omega), drf_of rfl ⟨by omega, st_blunders w (by omega) fun x g hg hx => ?_⟩⟩⟩
  rw [← hg.1] at hk
  refine ki_of ?_
  refine ar_io rfl ⟨vin hk 1 rfl (by omega), ar_io rfl ⟨vin hk 2 rfl (by omega), drf_of rfl ⟨by omega, ?_⟩⟩⟩
  rw [hg.2]
  exact hx (d - 1) _ (by omega) fun g' S' ρ' w' hs' => ki_of ⟨fun _ => N _ _ _ _ _ (by omega) (by omega) w' hs', fun y => absurd rfl y⟩
theorem at_1247 {d rc rs k : Nat} {σ : XH} {S : SS} {ρ : List Nat} {Q : XV → XH → Prop} (w : WW σ S ρ) (hd : 46 ≤ d) (hc : 80 ≤ rc) (hs : 8440 ≤ rs) (hk : k + 7 ≤ hn σ 503 0 ∧ hn σ 503 0 < 100000) (N : NX d rc rs k σ Q) : Ex d rc rs m_L_law 1247 [vR (some (503, 0)), vR (some (11, 0)), vR (some (12, 0)), vI (nI k)] [] σ Q := by
  refine sL_law_1247 ?_
  unfold bL_law_1247
  refine ar_io rfl ⟨vin hk 1 rfl (by omega), ar_io rfl ⟨vin hk 2 rfl (by omega), ar_io rfl ⟨vin hk 3 rfl (by omega), drf_of rfl ⟨by omega, st_tooWell w (by omega) fun x g hg hx => ?_⟩⟩⟩⟩
  rw [← hg.1] at hk
  refine ki_of ?_
  refine ar_io rfl ⟨vin hk 1 rfl (by omega), ar_io rfl ⟨vin hk 2 rfl (by omega), ar_io rfl ⟨vin hk 3 rfl (by omega), drf_of rfl ⟨by omega, ?_⟩⟩⟩⟩
  rw [hg.2]
  exact hx (d - 1) _ (by omega) fun g' S' ρ' w' hs' => ki_of ⟨fun _ => N _ _ _ _ _ (by omega) (by omega) w' hs', fun y => absurd rfl y⟩
theorem at_1290 {d rc rs k : Nat} {σ : XH} {S : SS} {ρ : List Nat} {Q : XV → XH → Prop} (w : WW σ S ρ) (hd : 46 ≤ d) (hc : 80 ≤ rc) (hs : 8440 ≤ rs) (hk : k + 7 ≤ hn σ 503 0 ∧ hn σ 503 0 < 100000) (N : NX d rc rs k σ Q) : Ex d rc rs m_L_law 1290 [vR (some (503, 0)), vR (some (11, 0)), vR (some (12, 0)), vI (nI k)] [] σ Q := by
  refine sL_law_1290 ?_
  unfold bL_law_1290
  refine ar_io rfl ⟨vin hk 1 rfl (by omega), ar_io rfl ⟨vin hk 2 rfl (by omega), ar_io rfl ⟨vin hk 3 rfl (by omega), drf_of rfl ⟨by omega, by omega, by omega, st_place w (by omega) fun x g hg hx => ?_⟩⟩⟩⟩
  rw [← hg.1] at hk
  refine ki_of ?_
  refine ar_io rfl ⟨vin hk 1 rfl (by omega), ar_io rfl ⟨vin hk 2 rfl (by omega), ar_io rfl ⟨vin hk 3 rfl (by omega), drf_of rfl ⟨by omega, ?_⟩⟩⟩⟩
  rw [hg.2]
  exact hx (d - 1) _ (by omega) fun g' S' ρ' w' hs' => ki_of ⟨fun _ => N _ _ _ _ _ (by omega) (by omega) w' hs', fun y => absurd rfl y⟩
theorem at_1333 {d rc rs k : Nat} {σ : XH} {S : SS} {ρ : List Nat} {Q : XV → XH → Prop} (w : WW σ S ρ) (hd : 46 ≤ d) (hc : 80 ≤ rc) (hs : 8440 ≤ rs) (hk : k + 7 ≤ hn σ 503 0 ∧ hn σ 503 0 < 100000) (N : NX d rc rs k σ Q) : Ex d rc rs m_L_law 1333 [vR (some (503, 0)), vR (some (11, 0)), vR (some (12, 0)), vI (nI k)] [] σ Q := by
  refine sL_law_1333 ?_
  unfold bL_law_1333
  refine ar_io rfl ⟨vin hk 1 rfl (by omega), ar_io rfl ⟨vin hk 2 rfl (by omega), ar_io rfl ⟨vin hk 3 rfl (by omega), drf_of rfl ⟨by omega, st_go w (by omega) fun x g hg hx => ?_⟩⟩⟩⟩
  rw [← hg.1] at hk
  refine ki_of ?_
  refine ar_io rfl ⟨vin hk 1 rfl (by omega), ar_io rfl ⟨vin hk 2 rfl (by omega), ar_io rfl ⟨vin hk 3 rfl (by omega), drf_of rfl ⟨by omega, ?_⟩⟩⟩⟩
  rw [hg.2]
  exact hx (d - 1) _ (by omega) fun g' S' ρ' w' hs' => ki_of ⟨fun _ => N _ _ _ _ _ (by omega) (by omega) w' hs', fun y => absurd rfl y⟩
theorem at_1376 {d rc rs k : Nat} {σ : XH} {S : SS} {ρ : List Nat} {Q : XV → XH → Prop} (w : WW σ S ρ) (hd : 46 ≤ d) (hc : 80 ≤ rc) (hs : 8440 ≤ rs) (hk : k + 7 ≤ hn σ 503 0 ∧ hn σ 503 0 < 100000) (N : NX d rc rs k σ Q) : Ex d rc rs m_L_law 1376 [vR (some (503, 0)), vR (some (11, 0)), vR (some (12, 0)), vI (nI k)] [] σ Q := by
  refine sL_law_1376 ?_
  unfold bL_law_1376
  refine ar_io rfl ⟨vin hk 1 rfl (by omega), ar_io rfl ⟨vin hk 2 rfl (by omega), ar_io rfl ⟨vin hk 3 rfl (by omega), drf_of rfl ⟨by omega, st_lost w (by omega) fun x g hg hx => ?_⟩⟩⟩⟩
  rw [← hg.1] at hk
  refine ki_of ?_
  refine ar_io rfl ⟨vin hk 1 rfl (by omega), ar_io rfl ⟨vin hk 2 rfl (by omega), ar_io rfl ⟨vin hk 3 rfl (by omega), drf_of rfl ⟨by omega, ?_⟩⟩⟩⟩
  rw [hg.2]
  exact hx (d - 1) _ (by omega) fun g' S' ρ' w' hs' => ki_of ⟨fun _ => N _ _ _ _ _ (by omega) (by omega) w' hs', fun y => absurd rfl y⟩
theorem at_1419 {d rc rs k : Nat} {σ : XH} {S : SS} {ρ : List Nat} {Q : XV → XH → Prop} (w : WW σ S ρ) (hd : 46 ≤ d) (hc : 80 ≤ rc) (hs : 8440 ≤ rs) (hk : k + 7 ≤ hn σ 503 0 ∧ hn σ 503 0 < 100000) (N : NX d rc rs k σ Q) : Ex d rc rs m_L_law 1419 [vR (some (503, 0)), vR (some (11, 0)), vR (some (12, 0)), vI (nI k)] [] σ Q := by
  refine sL_law_1419 ?_
  unfold bL_law_1419
  refine ar_io rfl ⟨vin hk 1 rfl (by omega), ar_io rfl ⟨vin hk 2 rfl (by omega), drf_of rfl ⟨by omega, st_difference w (by omega) fun x g hg hx => ?_⟩⟩⟩
  rw [← hg.1] at hk
  refine kl_of ?_
  refine ar_io rfl ⟨vin hk 1 rfl (by omega), ar_io rfl ⟨vin hk 2 rfl (by omega), drf_of rfl ⟨by omega, ?_⟩⟩⟩
  rw [hg.2]
  exact hx (d - 1) _ (by omega) fun g' S' ρ' w' hs' => kl_of ⟨fun _ => N _ _ _ _ _ (by omega) (by omega) w' hs', fun y => absurd (lg_self x) y⟩
theorem at_1453 {d rc rs k : Nat} {σ : XH} {S : SS} {ρ : List Nat} {Q : XV → XH → Prop} (w : WW σ S ρ) (hd : 46 ≤ d) (hc : 80 ≤ rc) (hs : 8440 ≤ rs) (hk : k + 7 ≤ hn σ 503 0 ∧ hn σ 503 0 < 100000) (N : NX d rc rs k σ Q) : Ex d rc rs m_L_law 1453 [vR (some (503, 0)), vR (some (11, 0)), vR (some (12, 0)), vI (nI k)] [] σ Q := by
  refine sL_law_1453 ?_
  unfold bL_law_1453
  refine ar_io rfl ⟨vin hk 1 rfl (by omega), drf_of rfl ⟨by omega, st_beside w (by omega) fun x g hg hx => ?_⟩⟩
  rw [← hg.1] at hk
  refine ki_of ?_
  refine ar_io rfl ⟨vin hk 1 rfl (by omega), drf_of rfl ⟨by omega, ?_⟩⟩
  rw [hg.2]
  exact hx (d - 1) _ (by omega) fun g' S' ρ' w' hs' => ki_of ⟨fun _ => N _ _ _ _ _ (by omega) (by omega) w' hs', fun y => absurd rfl y⟩
theorem at_1476 {d rc rs k : Nat} {σ : XH} {S : SS} {ρ : List Nat} {Q : XV → XH → Prop} (w : WW σ S ρ) (hd : 46 ≤ d) (hc : 80 ≤ rc) (hs : 8440 ≤ rs) (hk : k + 7 ≤ hn σ 503 0 ∧ hn σ 503 0 < 100000) (N : NX d rc rs k σ Q) : Ex d rc rs m_L_law 1476 [vR (some (503, 0)), vR (some (11, 0)), vR (some (12, 0)), vI (nI k)] [] σ Q := by
  refine sL_law_1476 ?_
  unfold bL_law_1476
  refine ar_io rfl ⟨vin hk 1 rfl (by omega), ar_io rfl ⟨vin hk 2 rfl (by omega), ar_io rfl ⟨vin hk 3 rfl (by omega), drf_of rfl ⟨by omega, st_act w (by omega) fun x g hg hx => ?_⟩⟩⟩⟩
  rw [← hg.1] at hk
  refine ki_of ?_
  refine ar_io rfl ⟨vin hk 1 rfl (by omega), ar_io rfl ⟨vin hk 2 rfl (by omega), ar_io rfl ⟨vin hk 3 rfl (by omega), drf_of rfl ⟨by omega, ?_⟩⟩⟩⟩
  rw [hg.2]
  exact hx (d - 1) _ (by omega) fun g' S' ρ' w' hs' => ki_of ⟨fun _ => N _ _ _ _ _ (by omega) (by omega) w' hs', fun y => absurd rfl y⟩
theorem at_1519 {d rc rs k : Nat} {σ : XH} {S : SS} {ρ : List Nat} {Q : XV → XH → Prop} (w : WW σ S ρ) (hd : 46 ≤ d) (hc : 80 ≤ rc) (hs : 8440 ≤ rs) (hk : k + 7 ≤ hn σ 503 0 ∧ hn σ 503 0 < 100000) (N : NX d rc rs k σ Q) : Ex d rc rs m_L_law 1519 [vR (some (503, 0)), vR (some (11, 0)), vR (some (12, 0)), vI (nI k)] [] σ Q := by
  refine sL_law_1519 ?_
  unfold bL_law_1519
  refine ar_io rfl ⟨vin hk 1 rfl (by omega), drf_of rfl ⟨by omega, st_trace w (by omega) fun x g hg hx => ?_⟩⟩
  rw [← hg.1] at hk
  refine ki_of ?_
  refine ar_io rfl ⟨vin hk 1 rfl (by omega), drf_of rfl ⟨by omega, ?_⟩⟩
  rw [hg.2]
  exact hx (d - 1) _ (by omega) fun g' S' ρ' w' hs' => ki_of ⟨fun _ => N _ _ _ _ _ (by omega) (by omega) w' hs', fun y => absurd rfl y⟩
theorem at_1542 {d rc rs k : Nat} {σ : XH} {S : SS} {ρ : List Nat} {Q : XV → XH → Prop} (w : WW σ S ρ) (hd : 46 ≤ d) (hc : 80 ≤ rc) (hs : 8440 ≤ rs) (hk : k + 7 ≤ hn σ 503 0 ∧ hn σ 503 0 < 100000) (N : NX d rc rs k σ Q) : Ex d rc rs m_L_law 1542 [vR (some (503, 0)), vR (some (11, 0)), vR (some (12, 0)), vI (nI k)] [] σ Q := by
  refine sL_law_1542 ?_
  unfold bL_law_1542
  refine ar_io rfl ⟨vin hk 1 rfl (by omega), ar_io rfl ⟨vin hk 2 rfl (by omega), drf_of rfl ⟨by omega, st_taken w (by omega) fun x g hg hx => ?_⟩⟩⟩
  rw [← hg.1] at hk
  refine ki_of ?_
  refine ar_io rfl ⟨vin hk 1 rfl (by omega), ar_io rfl ⟨vin hk 2 rfl (by omega), drf_of rfl ⟨by omega, ?_⟩⟩⟩
  rw [hg.2]
  exact hx (d - 1) _ (by omega) fun g' S' ρ' w' hs' => ki_of ⟨fun _ => N _ _ _ _ _ (by omega) (by omega) w' hs', fun y => absurd rfl y⟩
theorem at_1575 {d rc rs k : Nat} {σ : XH} {S : SS} {ρ : List Nat} {Q : XV → XH → Prop} (w : WW σ S ρ) (hd : 46 ≤ d) (hc : 80 ≤ rc) (hs : 8440 ≤ rs) (hk : k + 7 ≤ hn σ 503 0 ∧ hn σ 503 0 < 100000) (N : NX d rc rs k σ Q) : Ex d rc rs m_L_law 1575 [vR (some (503, 0)), vR (some (11, 0)), vR (some (12, 0)), vI (nI k)] [] σ Q := by
  refine sL_law_1575 ?_
  unfold bL_law_1575
  refine ar_io rfl ⟨vin hk 1 rfl (by omega), drf_of rfl ⟨by omega, st_count w (by omega) fun x g hg hx => ?_⟩⟩
  rw [← hg.1] at hk
  refine ki_of ?_
  refine ar_io rfl ⟨vin hk 1 rfl (by omega), drf_of rfl ⟨by omega, ?_⟩⟩
  rw [hg.2]
  exact hx (d - 1) _ (by omega) fun g' S' ρ' w' hs' => ki_of ⟨fun _ => N _ _ _ _ _ (by omega) (by omega) w' hs', fun y => absurd rfl y⟩
theorem at_1598 {d rc rs k : Nat} {σ : XH} {S : SS} {ρ : List Nat} {Q : XV → XH → Prop} (w : WW σ S ρ) (hd : 46 ≤ d) (hc : 80 ≤ rc) (hs : 8440 ≤ rs) (hk : k + 7 ≤ hn σ 503 0 ∧ hn σ 503 0 < 100000) (N : NX d rc rs k σ Q) : Ex d rc rs m_L_law 1598 [vR (some (503, 0)), vR (some (11, 0)), vR (some (12, 0)), vI (nI k)] [] σ Q := by
  refine sL_law_1598 ?_
  unfold bL_law_1598
  refine ar_io rfl ⟨vin hk 1 rfl (by omega), ar_io rfl ⟨vin hk 2 rfl (by omega), ar_io rfl ⟨vin hk 3 rfl (by omega), drf_of rfl ⟨by omega, st_tape w (by omega) fun x g hg hx => ?_⟩⟩⟩⟩
  rw [← hg.1] at hk
  refine ki_of ?_
  refine ar_io rfl ⟨vin hk 1 rfl (by omega), ar_io rfl ⟨vin hk 2 rfl (by omega), ar_io rfl ⟨vin hk 3 rfl (by omega), drf_of rfl ⟨by omega, ?_⟩⟩⟩⟩
  rw [hg.2]
  exact hx (d - 1) _ (by omega) fun g' S' ρ' w' hs' => ki_of ⟨fun _ => N _ _ _ _ _ (by omega) (by omega) w' hs', fun y => absurd rfl y⟩
theorem at_1641 {d rc rs k : Nat} {σ : XH} {S : SS} {ρ : List Nat} {Q : XV → XH → Prop} (w : WW σ S ρ) (hd : 46 ≤ d) (hc : 80 ≤ rc) (hs : 8440 ≤ rs) (hk : k + 7 ≤ hn σ 503 0 ∧ hn σ 503 0 < 100000) (N : NX d rc rs k σ Q) : Ex d rc rs m_L_law 1641 [vR (some (503, 0)), vR (some (11, 0)), vR (some (12, 0)), vI (nI k)] [] σ Q := by
  refine sL_law_1641 ?_
  unfold bL_law_1641
  refine ar_io rfl ⟨vin hk 1 rfl (by omega), ar_io rfl ⟨vin hk 2 rfl (by omega), ar_io rfl ⟨vin hk 3 rfl (by omega), drf_of rfl ⟨by omega, st_item w (by omega) fun x g hg hx => ?_⟩⟩⟩⟩
  rw [← hg.1] at hk
  refine ki_of ?_
  refine ar_io rfl ⟨vin hk 1 rfl (by omega), ar_io rfl ⟨vin hk 2 rfl (by omega), ar_io rfl ⟨vin hk 3 rfl (by omega), drf_of rfl ⟨by omega, ?_⟩⟩⟩⟩
  rw [hg.2]
  exact hx (d - 1) _ (by omega) fun g' S' ρ' w' hs' => ki_of ⟨fun _ => N _ _ _ _ _ (by omega) (by omega) w' hs', fun y => absurd rfl y⟩
theorem at_1684 {d rc rs k : Nat} {σ : XH} {S : SS} {ρ : List Nat} {Q : XV → XH → Prop} (w : WW σ S ρ) (hd : 46 ≤ d) (hc : 80 ≤ rc) (hs : 8440 ≤ rs) (hk : k + 7 ≤ hn σ 503 0 ∧ hn σ 503 0 < 100000) (N : NX d rc rs k σ Q) : Ex d rc rs m_L_law 1684 [vR (some (503, 0)), vR (some (11, 0)), vR (some (12, 0)), vI (nI k)] [] σ Q := by
  refine sL_law_1684 ?_
  unfold bL_law_1684
  refine ar_io rfl ⟨vin hk 1 rfl (by omega), ar_io rfl ⟨vin hk 2 rfl (by omega), drf_of rfl ⟨by omega, st_blank w (by omega) fun x g hg hx => ?_⟩⟩⟩
  rw [← hg.1] at hk
  refine ki_of ?_
  refine ar_io rfl ⟨vin hk 1 rfl (by omega), ar_io rfl ⟨vin hk 2 rfl (by omega), drf_of rfl ⟨by omega, ?_⟩⟩⟩
  rw [hg.2]
  exact hx (d - 1) _ (by omega) fun g' S' ρ' w' hs' => ki_of ⟨fun _ => N _ _ _ _ _ (by omega) (by omega) w' hs', fun y => absurd rfl y⟩
theorem at_1717 {d rc rs k : Nat} {σ : XH} {S : SS} {ρ : List Nat} {Q : XV → XH → Prop} (w : WW σ S ρ) (hd : 46 ≤ d) (hc : 80 ≤ rc) (hs : 8440 ≤ rs) (hk : k + 7 ≤ hn σ 503 0 ∧ hn σ 503 0 < 100000) (N : NX d rc rs k σ Q) : Ex d rc rs m_L_law 1717 [vR (some (503, 0)), vR (some (11, 0)), vR (some (12, 0)), vI (nI k)] [] σ Q := by
  refine sL_law_1717 ?_
  unfold bL_law_1717
  refine ar_io rfl ⟨vin hk 1 rfl (by omega), ar_io rfl ⟨vin hk 2 rfl (by omega), drf_of rfl ⟨by omega, st_read w (by omega) fun x g hg hx => ?_⟩⟩⟩
  rw [← hg.1] at hk
  refine ki_of ?_
  refine ar_io rfl ⟨vin hk 1 rfl (by omega), ar_io rfl ⟨vin hk 2 rfl (by omega), drf_of rfl ⟨by omega, ?_⟩⟩⟩
  rw [hg.2]
  exact hx (d - 1) _ (by omega) fun g' S' ρ' w' hs' => ki_of ⟨fun _ => N _ _ _ _ _ (by omega) (by omega) w' hs', fun y => absurd rfl y⟩
theorem at_1750 {d rc rs k : Nat} {σ : XH} {S : SS} {ρ : List Nat} {Q : XV → XH → Prop} (w : WW σ S ρ) (hd : 46 ≤ d) (hc : 80 ≤ rc) (hs : 8440 ≤ rs) (hk : k + 7 ≤ hn σ 503 0 ∧ hn σ 503 0 < 100000) (N : NX d rc rs k σ Q) : Ex d rc rs m_L_law 1750 [vR (some (503, 0)), vR (some (11, 0)), vR (some (12, 0)), vI (nI k)] [] σ Q := by
  refine sL_law_1750 ?_
  unfold bL_law_1750
  refine ar_io rfl ⟨vin hk 1 rfl (by omega), ar_io rfl ⟨vin hk 2 rfl (by omega), ar_io rfl ⟨vin hk 3 rfl (by omega), ar_io rfl ⟨vin hk 4 rfl (by omega), ar_io rfl ⟨vin hk 5 rfl (by omega), drf_of rfl ⟨by omega, st_shift w (by omega) fun x g hg hx => ?_⟩⟩⟩⟩⟩⟩
  rw [← hg.1] at hk
  refine ki_of ?_
  refine ar_io rfl ⟨vin hk 1 rfl (by omega), ar_io rfl ⟨vin hk 2 rfl (by omega), ar_io rfl ⟨vin hk 3 rfl (by omega), ar_io rfl ⟨vin hk 4 rfl (by omega), ar_io rfl ⟨vin hk 5 rfl (by omega), drf_of rfl ⟨by omega, ?_⟩⟩⟩⟩⟩⟩
  rw [hg.2]
  exact hx (d - 1) _ (by omega) fun g' S' ρ' w' hs' => ki_of ⟨fun _ => N _ _ _ _ _ (by omega) (by omega) w' hs', fun y => absurd rfl y⟩
theorem at_18 {d rc rs k : Nat} {σ : XH} {S : SS} {ρ : List Nat} {Q : XV → XH → Prop} (w : WW σ S ρ) (hd : 46 ≤ d) (hc : 80 ≤ rc) (hs : 8440 ≤ rs) (hk : k + 7 ≤ hn σ 503 0 ∧ hn σ 503 0 < 100000) (N : NX d rc rs k σ Q) : Ex d rc rs m_L_law 18 [vR (some (503, 0)), vR (some (11, 0)), vR (some (12, 0)), vI (nI k)] [] σ Q := by
  have e7 : ¬ Int32.ofNat (hn σ 503 0) - 7 < nI k := by
    have e : Int32.ofNat (hn σ 503 0) - 7 = nI (hn σ 503 0 - 7) := nI_sub7 (by omega)
    rw [e]
    exact fun y => absurd ((nI_ltI (by omega) (by omega)).mp y) (by omega)
  refine sL_law_18 ?_
  unfold bL_law_18
  exact ar_al rfl ⟨fun y => absurd y e7, fun _ => ar_io rfl ⟨vin0 hk, ⟨fun _ => at_220 w hd hc hs hk N, fun _ => ⟨fun _ => at_243 w hd hc hs hk N, fun _ => ⟨fun _ => at_276 w hd hc hs hk N, fun _ => ⟨fun _ => at_299 w hd hc hs hk N, fun _ => ⟨fun _ => at_332 w hd hc hs hk N, fun _ => ⟨fun _ => at_395 w hd hc hs hk N, fun _ => ⟨fun _ => at_428 w hd hc hs hk N, fun _ => ⟨fun _ => at_461 w hd hc hs hk N, fun _ => ⟨fun _ => at_484 w hd hc hs hk N, fun _ => ⟨fun _ => at_517 w hd hc hs hk N, fun _ => ⟨fun _ => at_550 w hd hc hs hk N, fun _ => ⟨fun _ => at_573 w hd hc hs hk N, fun _ => ⟨fun _ => at_606 w hd hc hs hk N, fun _ => ⟨fun _ => at_629 w hd hc hs hk N, fun _ => ⟨fun _ => at_704 w hd hc hs hk N, fun _ => ⟨fun _ => at_717 w hd hc hs hk N, fun _ => ⟨fun _ => at_760 w hd hc hs hk N, fun _ => ⟨fun _ => at_803 w hd hc hs hk N, fun _ => ⟨fun _ => at_836 w hd hc hs hk N, fun _ => ⟨fun _ => at_869 w hd hc hs hk N, fun _ => ⟨fun _ => at_912 w hd hc hs hk N, fun _ => ⟨fun _ => at_955 w hd hc hs hk N, fun _ => ⟨fun _ => at_998 w hd hc hs hk N, fun _ => ⟨fun _ => at_1031 w hd hc hs hk N, fun _ => ⟨fun _ => at_1074 w hd hc hs hk N, fun _ => ⟨fun _ => at_1118 w hd hc hs hk N, fun _ => ⟨fun _ => at_1161 w hd hc hs hk N, fun _ => ⟨fun _ => at_1214 w hd hc hs hk N, fun _ => ⟨fun _ => at_1247 w hd hc hs hk N, fun _ => ⟨fun _ => at_1290 w hd hc hs hk N, fun _ => ⟨fun _ => at_1333 w hd hc hs hk N, fun _ => ⟨fun _ => at_1376 w hd hc hs hk N, fun _ => ⟨fun _ => at_1419 w hd hc hs hk N, fun _ => ⟨fun _ => at_1453 w hd hc hs hk N, fun _ => ⟨fun _ => at_1476 w hd hc hs hk N, fun _ => ⟨fun _ => at_1519 w hd hc hs hk N, fun _ => ⟨fun _ => at_1542 w hd hc hs hk N, fun _ => ⟨fun _ => at_1575 w hd hc hs hk N, fun _ => ⟨fun _ => at_1598 w hd hc hs hk N, fun _ => ⟨fun _ => at_1641 w hd hc hs hk N, fun _ => ⟨fun _ => at_1684 w hd hc hs hk N, fun _ => ⟨fun _ => at_1717 w hd hc hs hk N, fun _ => ⟨fun _ => at_1750 w hd hc hs hk N, fun _ => N _ _ _ _ _ (by omega) (by omega) w (Same.rf _)⟩⟩⟩⟩⟩⟩⟩⟩⟩⟩⟩⟩⟩⟩⟩⟩⟩⟩⟩⟩⟩⟩⟩⟩⟩⟩⟩⟩⟩⟩⟩⟩⟩⟩⟩⟩⟩⟩⟩⟩⟩⟩⟩⟩⟩
