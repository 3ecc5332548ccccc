/-! ===== the reference takes a clause ===== -/
def MR (S : SS) (R : RT) (ev : Int32 → Int32 → Bool) : Prop := (∀ j, j ∈ [31, 32, 33, 34, 35, 36] → S 12 j = R.1 j) ∧ (∀ h, h < 6 → S 138 h = R.1 (100 + h)) ∧ S 12 37 = bI (struck ev R.2)
def GS (S S' : SS) : Prop := SA (tl [138, 140, 300]) (tl [31, 32, 33, 34, 35, 36, 37, 42, 43, 46, 47, 48]) S S'
theorem MR.sa {S S' : SS} {R : RT} {ev : Int32 → Int32 → Bool} {A K : Nat → Bool} (h : MR S R ev) (sa : SA A K S S') (a : A 138 = false) (k : ∀ j, j ∈ [31, 32, 33, 34, 35, 36, 37] → K j = false) : MR S' R ev := by
  obtain ⟨h1, h2, h3⟩ := h
  refine ⟨fun j hj => ?_, fun i hi_ => ?_, ?_⟩
  · rw [sa.k (k j (by revert hj; revert j; decide))]
    exact h1 j hj
  · rw [sa.a (s := 138) (by decide) a]
    exact h2 i hi_
  · rw [sa.k (k 37 (by decide))]
    exact h3
theorem MR.adv {S : SS} {R : RT} {ev : Int32 → Int32 → Bool} (h : MR S R ev) (a : Nat) : MR (CSpotTimersLaw_law_r3327_87c8ce.adv S a) R ev := h.sa (A := tl []) (K := tl [42]) ((SA.rf _ _ S).wk 42 _ rfl) rfl (by decide)
theorem MR.set {S : SS} {R : RT} {ev : Int32 → Int32 → Bool} (h : MR S R ev) {j : Nat} (hj : j ∈ [31, 32, 33, 34, 35, 36]) (x : Int32) : MR (up2 S 12 j x) (rset R j x) ev := by
  obtain ⟨h1, h2, h3⟩ := h
  have hj37 : ¬ 37 = j := by revert hj; revert j; decide
  refine ⟨fun i hi_ => ?_, fun i hi_ => ?_, ?_⟩
  · rw [up2_at]
    show _ = if i = j then x else R.1 i
    split
    · rfl
    · exact h1 i hi_
  · have : j ≤ 36 := by
      clear hj37
      revert hj
      revert j
      decide
    rw [up2_s _ _ _ (show 138 ≠ 12 by decide)]
    show _ = if 100 + i = j then x else R.1 (100 + i)
    rw [if_neg (by omega)]
    exact h2 i hi_
  · rw [up2_k _ _ _ hj37]
    exact h3
theorem GS.rf (S : SS) : GS S S := SA.rf _ _ S
theorem GS.adv {S S' : SS} (h : GS S S') (a : Nat) : GS S (CSpotTimersLaw_law_r3327_87c8ce.adv S' a) := SA.wk h 42 _ rfl
/-- a word with a blank behind it -/
theorem mWord {d D b n a k : Nat} {L : Int64} {kk : Int32} {l l' : List Int32} {ch : Nat → Int32} {σ : XH} {S : SS} {K0 K1 : XH → Prop} (hd : 2 ≤ d) (hD : 2 ≤ D) (hM : MI σ) (hkk : kk = nI k) (hk : k < 1000) (hl : wl L k = l) (hw : ∀ j, j < k → ¬ wd L j = -1) (hlo : ∀ c, c ∈ l → ¬ c = -1) (hl' : l ++ [32] = l') (hP : PT S b n a ch)
    (h1 : (gW ch n l' a).1 = true → K1 (up σ (adv S (gW ch n l' a).2))) (h0 : (gW ch n l' a).1 = false → K0 (up σ (adv S (gW ch n l' a).2))) :
    Ec d 0 0 m_X11_takesWord [vR (some (12, 0)), vL L, vI kk] (up σ S) (kI fun x g => ((x = 0 → K0 g) ∧ (¬ x = 0 → ((1 ≤ D ∧ Ec (D - 1) 0 0 m_X11_takes [vR (some (12, 0)), vI 32] g (kI fun y g2 => ((y = 0 → K0 g2) ∧ (¬ y = 0 → K1 g2)))))))) := by
  subst hkk
  subst hl'
  rw [gW_app] at h1 h0
  have hle := gW_le (ch := ch) (n := n) l a hP.2.2.2.2.2.1 hlo
  refine sp_X11_takesWord hd hM hk hl hw hP (fun w => br_f (by decide) ⟨by omega, ?_⟩) (fun w => br_t rfl ?_)
  · rw [if_pos w] at h1 h0
    refine sp_X11_takes (by omega) hM (hP.adv hle) (fun c => br_f (by decide) ?_) (fun c => br_t rfl ?_)
    · rw [if_pos c] at h1
      rw [adv_adv]
      exact h1 rfl
    · rw [if_neg c] at h0
      exact h0 rfl
  · rw [if_neg (by rw [w]; decide)] at h0
    exact h0 rfl
/-! edges: figures as bits -/
def pcE (m : Nat) : Nat := m / 2 % 2 + m / 4 % 2 + m / 8 % 2 + m / 16 % 2
def edb (c : Nat) : Int32 := 1 <<< ((nI (c + 49) - 48) &&& 31)
def edB (m c : Nat) : Bool := (decide (((nI m >>> ((nI (c + 49) - 48) &&& 31)) &&& 1) = 1) != decide (nI m &&& edb c = 0)) && (decide (¬ nI m &&& edb c = 0) || (decide (nI m ||| edb c = nI (m + 2 ^ (c + 1))) && decide (m + 2 ^ (c + 1) < 32) && decide ((m + 2 ^ (c + 1)) % 2 = 0) && decide (pcE (m + 2 ^ (c + 1)) = pcE m + 1)))
theorem edB_all : ∀ m, m < 32 → m % 2 = 0 → ∀ c, c < 4 → edB m c = true := by decide +kernel
theorem edF : ∀ m, m < 32 → m % 2 = 0 → ∀ c, c < 4 → ((((nI m >>> ((nI (c + 49) - 48) &&& 31)) &&& 1) = 1 ↔ ¬ nI m &&& (1 <<< ((nI (c + 49) - 48) &&& 31)) = 0) ∧ (nI m &&& (1 <<< ((nI (c + 49) - 48) &&& 31)) = 0 → (nI m ||| (1 <<< ((nI (c + 49) - 48) &&& 31)) = nI (m + 2 ^ (c + 1)) ∧ m + 2 ^ (c + 1) < 32 ∧ (m + 2 ^ (c + 1)) % 2 = 0 ∧ pcE (m + 2 ^ (c + 1)) = pcE m + 1))) := fun m hm h2 c hc => by
  have h := edB_all m hm h2 c hc
  unfold edB at h
  have eb : (1 <<< ((nI (c + 49) - 48) &&& 31) : Int32) = edb c := rfl
  rw [eb]
  rw [Bool.and_eq_true] at h
  obtain ⟨a, b⟩ := h
  constructor
  · by_cases p : ((nI m >>> ((nI (c + 49) - 48) &&& 31)) &&& 1) = 1
    · by_cases q : nI m &&& edb c = 0
      · rw [decide_eq_true p, decide_eq_true q] at a
        exact absurd a (by decide)
      · exact ⟨fun _ => q, fun _ => p⟩
    · by_cases q : nI m &&& edb c = 0
      · exact ⟨fun z => absurd z p, fun z => absurd q z⟩
      · rw [decide_eq_false p, decide_eq_false q] at a
        exact absurd a (by decide)
  · intro q
    rw [decide_eq_false (fun z => z q), Bool.false_or, Bool.and_eq_true, Bool.and_eq_true, Bool.and_eq_true] at b
    exact ⟨of_decide_eq_true b.1.1.1, of_decide_eq_true b.1.1.2, of_decide_eq_true b.1.2, of_decide_eq_true b.2⟩
theorem ed4 : ∀ m, m < 32 → m % 2 = 0 → pcE m = 4 → m = 30 := by decide +kernel
theorem ed30 : ∀ c, c < 4 → ¬ nI 30 &&& (1 <<< ((nI (c + 49) - 48) &&& 31)) = 0 := by decide +kernel
theorem inE {x : Int32} (h : inP x 49 52) : ∃ c, c < 4 ∧ x = nI (c + 49) := by
  rw [inP_iff] at h
  have e1 : (49 : Int32).toInt = 49 := by decide
  have e2 : (52 : Int32).toInt = 52 := by decide
  rw [fa_lt, fa_lt, e1, e2] at h
  refine ⟨(x.toInt - 49).toNat, by omega, ?_⟩
  apply Int32.toInt_inj.mp
  rw [nI_toInt (by omega)]
  omega
theorem gEd_ne {ch : Nat → Int32} {n : Nat} : ∀ (j a m : Nat), m < 32 → m % 2 = 0 → ¬ m = 0 → ¬ (gEd ch n j a (nI m)).2.2 = 0
  | 0, a, m, h1, h2, h3 => fun z => h3 (nI_inj (b := 0) (by omega) (by omega) z)
  | j + 1, a, m, h1, h2, h3 => by
    unfold gEd
    split
    · rename_i z
      obtain ⟨c, hc, ex⟩ := inE z
      rw [ex]
      obtain ⟨f1, f2⟩ := edF m h1 h2 c hc
      split
      · rename_i z2
        obtain ⟨f3, f4, f5, f6⟩ := f2 z2
        rw [f3]
        exact gEd_ne j (a + 1) _ f4 f5 (by
          have : 0 < 2 ^ (c + 1) := Nat.two_pow_pos _
          omega)
      · exact fun z => h3 (nI_inj (b := 0) (by omega) (by omega) z)
    · exact fun z => h3 (nI_inj (b := 0) (by omega) (by omega) z)
theorem lp_edges {d rc rs b n : Nat} {ch : Nat → Int32} {σ : XH} {Q : XV → XH → Prop} (hd : 2 ≤ d) (hM : MI σ) : ∀ (j a m : Nat) (S : SS), m < 32 → m % 2 = 0 → pcE m + j = 4 → PT S b n a ch → S 12 31 = nI m →
    ((gEd ch n j a (nI m)).1 = true → ¬ inP (gN ch n (gEd ch n j a (nI m)).2.1) 49 52 → ∀ S', SA (tl []) (tl [31, 42]) S S' → PT S' b n (gEd ch n j a (nI m)).2.1 ch → S' 12 31 = (gEd ch n j a (nI m)).2.2 → Q (vI 1) (up σ S')) →
    ((gEd ch n j a (nI m)).1 = false ∨ inP (gN ch n (gEd ch n j a (nI m)).2.1) 49 52 → ∀ S', SA (tl []) (tl [31, 42]) S S' → PT S' b n (gEd ch n j a (nI m)).2.1 ch → Q (vI 0) (up σ S')) → Ex d rc rs m_X11_takesEdges 22 [vR (some (12, 0))] [] (up σ S) Q := by
  intro j
  have hno : ∀ (a : Nat) (S : SS), PT S b n a ch → ¬ inP (gN ch n a) 49 52 → (Q (vI 1) (up σ S)) → Ex d rc rs m_X11_takesEdges 22 [vR (some (12, 0))] [] (up σ S) Q := fun a S hP c hQ => by
    refine sX11_takesEdges_22 ⟨by omega, sp_X11_next hM hP ⟨by omega, sp_X11_in (by omega) (fun z => absurd z c) (fun _ => br_t rfl ⟨Or.inr rfl, hQ⟩)⟩⟩
  have hdup : ∀ (a m : Nat) (S : SS) (c : Nat), m < 32 → m % 2 = 0 → c < 4 → gN ch n a = nI (c + 49) → PT S b n a ch → S 12 31 = nI m → ¬ nI m &&& (1 <<< ((nI (c + 49) - 48) &&& 31)) = 0 → (Q (vI 0) (up σ S)) → Ex d rc rs m_X11_takesEdges 22 [vR (some (12, 0))] [] (up σ S) Q := fun a m S c hm h2 hc ex hP e31 hdup hQ => by
    have hin : inP (gN ch n a) 49 52 := by
      rw [ex]
      have : ∀ c, c < 4 → inP (nI (c + 49)) 49 52 := by decide +kernel
      exact this c hc
    refine sX11_takesEdges_22 ⟨by omega, sp_X11_next hM hP ⟨by omega, sp_X11_in (by omega) (fun _ => br_f (by decide) ⟨by omega, sp_X11_next hM hP ?_⟩) (fun z => absurd hin z)⟩⟩
    have e31' : hi (up σ S) 12 0 31 = nI m := e31
    dsimp only [kI]
    rw [e31', ex]
    exact ⟨fun _ => ⟨Or.inl rfl, hQ⟩, fun z => absurd ((edF m hm h2 c hc).1.mpr hdup) z⟩
  induction j with
  | zero =>
    intro a m S hm h2 hpc hP e31 hs hf
    have em := ed4 m hm h2 (by omega)
    by_cases c : inP (gN ch n a) 49 52
    · obtain ⟨x, hx, ex⟩ := inE c
      exact hdup a m S x hm h2 hx ex hP e31 (by rw [em]; exact ed30 x hx) (hf (Or.inr c) S (SA.rf _ _ S) hP)
    · exact hno a S hP c (hs rfl c S (SA.rf _ _ S) hP e31)
  | succ j ih =>
    intro a m S hm h2 hpc hP e31 hs hf
    by_cases c : inP (gN ch n a) 49 52
    · obtain ⟨x, hx, ex⟩ := inE c
      have hlt : a < n := gN_lt (c := gN ch n a) rfl (fun y => by
        rw [y] at c
        exact absurd c (by decide))
      obtain ⟨f1, f2⟩ := edF m hm h2 x hx
      by_cases c2 : nI m &&& (1 <<< ((nI (x + 49) - 48) &&& 31)) = 0
      · obtain ⟨f3, f4, f5, f6⟩ := f2 c2
        have eg : gEd ch n (j + 1) a (nI m) = gEd ch n j (a + 1) (nI (m + 2 ^ (x + 1))) := by
          show (if inP (gN ch n a) 49 52 then (if nI m &&& (1 <<< ((gN ch n a - 48) &&& 31)) = 0 then gEd ch n j (a + 1) (nI m ||| (1 <<< ((gN ch n a - 48) &&& 31))) else (false, a, nI m)) else (true, a, nI m)) = _
          rw [if_pos c, ex, if_pos c2, f3]
        rw [eg] at hs hf
        have e31' : hi (up σ S) 12 0 31 = nI m := e31
        refine sX11_takesEdges_22 ⟨by omega, sp_X11_next hM hP ⟨by omega, sp_X11_in (by omega) (fun _ => br_f (by decide) ⟨by omega, sp_X11_next hM hP ?_⟩) (fun z => absurd c z)⟩⟩
        dsimp only [kI]
        rw [e31', ex]
        refine ⟨fun z => absurd c2 (f1.mp z), fun _ => ⟨by omega, sp_X11_next hM hP ?_⟩⟩
        dsimp only [kI]
        rw [ex, f3]
        intro g e
        rw [wI_up _ _ rfl] at e
        rw [e]
        refine sX11_takesEdges_75 ?_
        intro g2 e2
        rw [hi_up _ _ rfl, up2_k _ _ _ (show 42 ≠ 31 by decide), hP.2.2.1, nI_1, wI_up _ _ rfl] at e2
        rw [e2]
        have sa : SA (tl []) (tl [31]) S (up2 S 12 31 (nI (m + 2 ^ (x + 1)))) := (SA.rf _ _ S).wk _ _ rfl
        have sb : SA (tl []) (tl [31, 42]) S (adv (up2 S 12 31 (nI (m + 2 ^ (x + 1)))) (a + 1)) := ((SA.rf _ _ S).wk 31 _ rfl).wk 42 _ rfl
        refine ih (a + 1) (m + 2 ^ (x + 1)) (adv (up2 S 12 31 (nI (m + 2 ^ (x + 1)))) (a + 1)) f4 f5 (by omega) ((hP.sa sa rfl (by decide)).adv hlt) ?_ (fun h1 h2 S' k1 k2 k3 => hs h1 h2 S' (sb.trans k1) k2 k3) (fun h1 S' k1 k2 => hf h1 S' (sb.trans k1) k2)
        unfold adv
        rw [up2_k _ _ _ (by decide), up2_eq]
      · have eg : gEd ch n (j + 1) a (nI m) = (false, a, nI m) := by
          show (if inP (gN ch n a) 49 52 then (if nI m &&& (1 <<< ((gN ch n a - 48) &&& 31)) = 0 then gEd ch n j (a + 1) (nI m ||| (1 <<< ((gN ch n a - 48) &&& 31))) else (false, a, nI m)) else (true, a, nI m)) = _
          rw [if_pos c, ex, if_neg c2]
        rw [eg] at hf
        exact hdup a m S x hm h2 hx ex hP e31 c2 (hf (Or.inl rfl) S (SA.rf _ _ S) hP)
    · have eg : gEd ch n (j + 1) a (nI m) = (true, a, nI m) := if_neg c
      rw [eg] at hs
      exact hno a S hP c (hs rfl c S (SA.rf _ _ S) hP e31)
theorem sp_X11_takesEdges {d b n a : Nat} {ch : Nat → Int32} {R : RT} {σ : XH} {S : SS} {Q : XV → XH → Prop} (hd : 2 ≤ d) (hM : MI σ) (hP : PT S b n a ch)
    (h1 : (gEdges ch n a R).1 = true → ∀ S', SA (tl []) (tl [31, 42]) S S' → PT S' b n (gEdges ch n a R).2.1 ch → S' 12 31 = (gEd ch n 4 a 0).2.2 → Q (vI 1) (up σ S'))
    (h0 : (gEdges ch n a R).1 = false ∨ inP (gN ch n (gEdges ch n a R).2.1) 49 52 → ∀ S', SA (tl []) (tl [31, 42]) S S' → PT S' b n (gEdges ch n a R).2.1 ch → Q (vI 0) (up σ S')) : Ec d 0 0 m_X11_takesEdges [vR (some (12, 0))] (up σ S) Q := by
  refine Ec_of mo_X11_takesEdges.1 (Nat.le_of_ble_eq_true rfl) ?_
  refine sX11_takesEdges_0 ?_
  intro g e
  rw [wI_up _ _ rfl] at e
  rw [e]
  have sa : SA (tl []) (tl [31]) S (up2 S 12 31 0) := (SA.rf _ _ S).wk _ _ rfl
  have sb : SA (tl []) (tl [31, 42]) S (up2 S 12 31 0) := (SA.rf _ _ S).wk _ _ rfl
  have hP1 : PT (up2 S 12 31 0) b n a ch := hP.sa sa rfl (by decide)
  refine ⟨by omega, sp_X11_next hM hP1 ⟨by omega, sp_X11_in (by omega) (fun c => br_f (by decide) ?_) (fun c => br_t rfl ⟨Or.inl rfl, ?_⟩)⟩⟩
  · refine lp_edges hd hM 4 a 0 (up2 S 12 31 0) (by decide) (by decide) (by decide) hP1 (up2_eq _ _ _ _) (fun k1 k2 S' t1 p1 e1 => ?_) (fun k1 S' t1 p1 => ?_)
    · refine h1 ?_ S' (sb.trans t1) p1 e1
      show ((gEd ch n 4 a 0).1 && decide (¬ (gEd ch n 4 a 0).2.2 = 0)) = true
      have k1' : (gEd ch n 4 a 0).1 = true := k1
      rw [k1', Bool.true_and]
      refine decide_eq_true ?_
      obtain ⟨x, hx, ex⟩ := inE c
      obtain ⟨f1, f2⟩ := edF 0 (by decide) (by decide) x hx
      have z0 : nI 0 &&& (1 <<< ((nI (x + 49) - 48) &&& 31)) = 0 := by
        have : ∀ x, x < 4 → nI 0 &&& (1 <<< ((nI (x + 49) - 48) &&& 31)) = 0 := by decide +kernel
        exact this x hx
      obtain ⟨f3, f4, f5, f6⟩ := f2 z0
      have eg : gEd ch n 4 a (nI 0) = gEd ch n 3 (a + 1) (nI (0 + 2 ^ (x + 1))) := by
        show (if inP (gN ch n a) 49 52 then (if nI 0 &&& (1 <<< ((gN ch n a - 48) &&& 31)) = 0 then gEd ch n 3 (a + 1) (nI 0 ||| (1 <<< ((gN ch n a - 48) &&& 31))) else (false, a, nI 0)) else (true, a, nI 0)) = _
        rw [if_pos c, ex, if_pos z0, f3]
      have eg' : gEd ch n 4 a 0 = gEd ch n 3 (a + 1) (nI (0 + 2 ^ (x + 1))) := eg
      rw [eg']
      refine gEd_ne 3 (a + 1) _ f4 f5 ?_
      have : 0 < 2 ^ (x + 1) := Nat.two_pow_pos _
      omega
    · refine h0 ?_ S' (sb.trans t1) p1
      rcases k1 with k1 | k1
      · left
        show ((gEd ch n 4 a 0).1 && decide (¬ (gEd ch n 4 a 0).2.2 = 0)) = false
        have k1' : (gEd ch n 4 a 0).1 = false := k1
        rw [k1', Bool.false_and]
      · exact Or.inr k1
  · have eg : gEd ch n 4 a 0 = (true, a, 0) := if_neg c
    have eg2 : gEdges ch n a R = (false, a, rset R 31 0) := by
      unfold gEdges
      rw [eg]
      rfl
    rw [eg2] at h0
    exact h0 (Or.inl rfl) _ sb hP1
