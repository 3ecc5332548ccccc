/-! ===== the fewest blunders ===== -/
def clK (S : SS) (h d out p most : Int32) (L : List Nat) : Nat → Bool
  | 0 => true
  | k + 1 => clK S h d out p most L k && (loP out k || decide (¬ most < abI (rsF S h d (L.getD k 0) p)))
def clB (S : SS) (h d out : Int32) : Bool := if 0 < (smA S h d out).2 then clK S h d out (dsF (smA S h d out).1 (smA S h d out).2) ((ctR S h d).1 33) (CL S h d) (CL S h d).length else true
theorem clK_dn {S : SS} {h d out p most : Int32} {L : List Nat} : ∀ (n k : Nat), k ≤ n → clK S h d out p most L n = true → clK S h d out p most L k = true
  | 0, k, hk, h => by
    have : k = 0 := by omega
    rw [this]
    exact h
  | n + 1, k, hk, h' => by
    rcases Nat.lt_or_ge n k with c | c
    · have : k = n + 1 := by omega
      rw [this]
      exact h'
    · unfold clK at h'
      rw [Bool.and_eq_true] at h'
      exact clK_dn n k c h'.1
theorem sp_X11_abs {d : Nat} {a : Int32} {σ : XH} {Q : XV → XH → Prop} (hQ : Q (vI (abI a)) σ) : Ec d 0 0 m_X11_abs [vR (some (12, 0)), vI a] σ Q := by
  unfold abI at hQ
  refine Ec_of mo_X11_abs.1 (Nat.le_of_ble_eq_true rfl) ?_
  refine sX11_abs_0 ⟨fun z => sX11_abs_10 ?_, fun z => sX11_abs_10 ?_⟩
  · rw [if_pos z] at hQ; exact hQ
  · rw [if_neg z] at hQ; exact hQ
theorem sp_X11_isClean {d : Nat} {h dd out : Int32} {σ : XH} {S T : SS} {Q : XV → XH → Prop} (hd : 3 ≤ d) (hM : MI σ) (hI : SInv S) (hF : FS S T) (hY : RY T S h dd (CL S h dd)) (hn : (CL S h dd).length ≤ 12) (h33 : T 12 33 = (ctR S h dd).1 33)
    (hQ : ∀ σ', Fi (tl [12]) σ σ' → Q (vI (bI (clB S h dd out))) (up σ' T)) : Ec d 0 0 m_X11_isClean [vR (some (12, 0)), vI out] (up σ T) Q := by
  refine Ec_of mo_X11_isClean.1 (Nat.le_of_ble_eq_true rfl) ?_
  have hq := hQ _ (LW_fi σ (smA S h dd out).1 (smA S h dd out).2)
  unfold clB at hq
  refine sX11_isClean_0 ⟨by omega, sp_X11_findSum (by omega) hM hI hF hY (Or.inr hn) (fun z => br_f (by decide) ⟨by omega, sp_X11_distanceOf (by omega) z ?_⟩) (fun z => br_t rfl ⟨Or.inr rfl, ?_⟩)⟩
  · rw [if_pos z] at hq
    have hM2 : MI (LW σ (smA S h dd out).1 (smA S h dd out).2) := hM.LW _ _
    generalize dsF (smA S h dd out).1 (smA S h dd out).2 = p at *
    generalize LW σ (smA S h dd out).1 (smA S h dd out).2 = σ2 at *
    have e49 : hi (up σ2 T) 12 0 49 = nI (CL S h dd).length := hY.1
    have lp : ∀ (m k : Nat), k + m = (CL S h dd).length → clK S h dd out p ((ctR S h dd).1 33) (CL S h dd) k = true → Ex d 0 0 m_X11_isClean 17 [vR (some (12, 0)), vI out, vI p, vI (nI k)] [] (up σ2 T) Q := by
      intro m
      induction m with
      | zero =>
        intro k hkm hc
        have ek : k = (CL S h dd).length := by omega
        refine sX11_isClean_17 ?_
        unfold bX11_isClean_17
        rw [e49, ek]
        refine ⟨fun q => ?_, fun _ => ⟨Or.inr rfl, ?_⟩⟩
        · have := (c_lt (by omega) (by omega)).mp q
          omega
        · rw [ek] at hc
          rw [hc] at hq
          exact hq
      | succ m ih =>
        intro k hkm hc
        have hk : k < (CL S h dd).length := by omega
        have ec : clK S h dd out p ((ctR S h dd).1 33) (CL S h dd) (k + 1) = (clK S h dd out p ((ctR S h dd).1 33) (CL S h dd) k && (loP out k || decide (¬ (ctR S h dd).1 33 < abI (rsF S h dd ((CL S h dd).getD k 0) p)))) := rfl
        have f52 : (loP out k || decide (¬ (ctR S h dd).1 33 < abI (rsF S h dd ((CL S h dd).getD k 0) p))) = true → Ex d 0 0 m_X11_isClean 52 [vR (some (12, 0)), vI out, vI p, vI (nI k)] [] (up σ2 T) Q := fun y => by
          refine sX11_isClean_52 ?_
          unfold bX11_isClean_52
          rw [nI_1]
          exact ih (k + 1) (by omega) (by rw [ec, hc, y]; rfl)
        refine sX11_isClean_17 ?_
        unfold bX11_isClean_17
        rw [e49]
        refine ⟨fun _ => ⟨fun q => ⟨by omega, sp_X11_restOf (by omega) hM2 hI hF hY hk ⟨by omega, sp_X11_abs ?_⟩⟩, fun q => f52 ?_⟩, fun q => absurd ((c_lt (by omega) (by omega)).mpr hk) q⟩
        · have elo : loP out k = false := by
            unfold loP
            rw [decide_eq_false (fun y : (out >>> (nI k &&& 31)) &&& 1 = 1 => by
              rw [q] at y
              exact absurd y (by decide)), Bool.and_false]
          have e33 : hi (up σ2 T) 12 0 33 = (ctR S h dd).1 33 := h33
          dsimp only [kI]
          rw [e33]
          refine ⟨fun y => ⟨Or.inl rfl, ?_⟩, fun y => f52 (by rw [elo, decide_eq_true y]; rfl)⟩
          have ef : clK S h dd out p ((ctR S h dd).1 33) (CL S h dd) (CL S h dd).length = false := by
            cases hcl : clK S h dd out p ((ctR S h dd).1 33) (CL S h dd) (CL S h dd).length
            · rfl
            · have := clK_dn (CL S h dd).length (k + 1) hk hcl
              rw [ec, elo, decide_eq_false (fun z => z y), Bool.or_false, Bool.and_false] at this
              exact Bool.noConfusion this
          rw [ef] at hq
          exact hq
        · have elo : loP out k = true := by
            unfold loP
            rw [decide_eq_true ((and1 _).resolve_left q), decide_eq_true (by omega)]
            rfl
          rw [elo]
          rfl
    exact lp (CL S h dd).length 0 (by omega) rfl
  · rw [if_neg z] at hq
    exact hq
/-- from the sets below such a bound: the first with the fewest that is clean, or full -/
def upB (cl : Nat → Bool) (full : Nat) : Nat → Nat
  | 0 => full
  | s + 1 => if bcE (nI s) < bcE (nI (upB cl full s)) ∧ cl s = true then s else upB cl full s
def dnB (cl : Nat → Bool) : Nat → Nat → Nat
  | best, 0 => best
  | best, s + 1 => dnB cl (if ¬ bcE (nI best) < bcE (nI s) ∧ cl s = true then s else best) s
theorem upB_ok {cl : Nat → Bool} {full : Nat} : ∀ n, (upB cl full n = full ∧ ∀ s, s < n → cl s = true → ¬ (bcE (nI s)).toInt < (bcE (nI full)).toInt) ∨ (upB cl full n < n ∧ cl (upB cl full n) = true ∧ (bcE (nI (upB cl full n))).toInt < (bcE (nI full)).toInt ∧ (∀ s, s < n → cl s = true → (bcE (nI (upB cl full n))).toInt ≤ (bcE (nI s)).toInt) ∧ ∀ s, s < upB cl full n → cl s = true → (bcE (nI (upB cl full n))).toInt < (bcE (nI s)).toInt)
  | 0 => Or.inl ⟨rfl, fun s hs => absurd hs (Nat.not_lt_zero s)⟩
  | n + 1 => by
    have ih := upB_ok (cl := cl) (full := full) n
    unfold upB
    generalize upB cl full n = u at ih
    by_cases c : bcE (nI n) < bcE (nI u) ∧ cl n = true
    · rw [if_pos c]
      obtain ⟨c1, c2⟩ := c
      rw [fa_lt] at c1
      right
      rcases ih with ⟨i1, i2⟩ | ⟨i1, i2, i3, i4, i5⟩
      · subst i1
        refine ⟨Nat.lt_succ_self n, c2, c1, fun s hs hc => ?_, fun s hs hc => ?_⟩
        · rcases Nat.lt_or_ge s n with q | q
          · have := i2 s q hc
            omega
          · have : s = n := by omega
            rw [this]
            exact Int.le_refl _
        · have := i2 s hs hc
          omega
      · refine ⟨Nat.lt_succ_self n, c2, by omega, fun s hs hc => ?_, fun s hs hc => ?_⟩
        · rcases Nat.lt_or_ge s n with q | q
          · have := i4 s q hc
            omega
          · have : s = n := by omega
            rw [this]
            exact Int.le_refl _
        · have := i4 s hs hc
          omega
    · rw [if_neg c]
      have c' : cl n = true → ¬ (bcE (nI n)).toInt < (bcE (nI u)).toInt := fun y z => c ⟨by rw [fa_lt]; exact z, y⟩
      rcases ih with ⟨i1, i2⟩ | ⟨i1, i2, i3, i4, i5⟩
      · subst i1
        refine Or.inl ⟨rfl, fun s hs hc => ?_⟩
        rcases Nat.lt_or_ge s n with q | q
        · exact i2 s q hc
        · have : s = n := by omega
          rw [this] at hc ⊢
          exact c' hc
      · refine Or.inr ⟨by omega, i2, i3, fun s hs hc => ?_, i5⟩
        rcases Nat.lt_or_ge s n with q | q
        · exact i4 s q hc
        · have : s = n := by omega
          rw [this] at hc ⊢
          have := c' hc
          omega
theorem dnB_ok {cl : Nat → Bool} : ∀ n best, (dnB cl best n = best ∧ ∀ t, t < n → cl t = true → (bcE (nI best)).toInt < (bcE (nI t)).toInt) ∨ (dnB cl best n < n ∧ cl (dnB cl best n) = true ∧ (bcE (nI (dnB cl best n))).toInt ≤ (bcE (nI best)).toInt ∧ ∀ t, t < n → cl t = true → (bcE (nI (dnB cl best n))).toInt ≤ (bcE (nI t)).toInt ∧ (t < dnB cl best n → (bcE (nI (dnB cl best n))).toInt < (bcE (nI t)).toInt))
  | 0, best => Or.inl ⟨rfl, fun t ht => absurd ht (Nat.not_lt_zero t)⟩
  | n + 1, best => by
    show (dnB cl (if ¬ bcE (nI best) < bcE (nI n) ∧ cl n = true then n else best) n = best ∧ _) ∨ (dnB cl (if ¬ bcE (nI best) < bcE (nI n) ∧ cl n = true then n else best) n < n + 1 ∧ cl (dnB cl (if ¬ bcE (nI best) < bcE (nI n) ∧ cl n = true then n else best) n) = true ∧ (bcE (nI (dnB cl (if ¬ bcE (nI best) < bcE (nI n) ∧ cl n = true then n else best) n))).toInt ≤ (bcE (nI best)).toInt ∧ ∀ t, t < n + 1 → cl t = true → (bcE (nI (dnB cl (if ¬ bcE (nI best) < bcE (nI n) ∧ cl n = true then n else best) n))).toInt ≤ (bcE (nI t)).toInt ∧ (t < dnB cl (if ¬ bcE (nI best) < bcE (nI n) ∧ cl n = true then n else best) n → (bcE (nI (dnB cl (if ¬ bcE (nI best) < bcE (nI n) ∧ cl n = true then n else best) n))).toInt < (bcE (nI t)).toInt))
    by_cases c : ¬ bcE (nI best) < bcE (nI n) ∧ cl n = true
    · rw [if_pos c]
      have ih := dnB_ok (cl := cl) n n
      obtain ⟨c1, c2⟩ := c
      rw [fa_lt] at c1
      generalize dnB cl n n = r at *
      right
      rcases ih with ⟨i1, i2⟩ | ⟨i1, i2, i3, i4⟩
      · subst i1
        refine ⟨Nat.lt_succ_self _, c2, by omega, fun t ht hc => ?_⟩
        rcases Nat.lt_or_ge t r with q | q
        · have := i2 t q hc
          exact ⟨by omega, fun _ => this⟩
        · have : t = r := by omega
          rw [this]
          exact ⟨Int.le_refl _, fun y => absurd y (Nat.lt_irrefl _)⟩
      · refine ⟨by omega, i2, by omega, fun t ht hc => ?_⟩
        rcases Nat.lt_or_ge t n with q | q
        · exact i4 t q hc
        · have : t = n := by omega
          rw [this]
          exact ⟨by omega, fun y => by omega⟩
    · rw [if_neg c]
      have ih := dnB_ok (cl := cl) n best
      have c' : cl n = true → (bcE (nI best)).toInt < (bcE (nI n)).toInt := fun y => Classical.byContradiction fun z => c ⟨by rw [fa_lt]; exact z, y⟩
      generalize dnB cl best n = r at *
      rcases ih with ⟨i1, i2⟩ | ⟨i1, i2, i3, i4⟩
      · refine Or.inl ⟨i1, fun t ht hc => ?_⟩
        rcases Nat.lt_or_ge t n with q | q
        · exact i2 t q hc
        · have : t = n := by omega
          rw [this] at hc ⊢
          exact c' hc
      · refine Or.inr ⟨by omega, i2, i3, fun t ht hc => ?_⟩
        rcases Nat.lt_or_ge t n with q | q
        · exact i4 t q hc
        · have e : t = n := by omega
          rw [e] at hc ⊢
          have := c' hc
          exact ⟨by omega, fun y => by omega⟩
def bcT (n : Nat) : Bool := allB (fun s => decide (s = 2 ^ n - 1) || decide ((bcE (nI s)).toInt < (bcE (nI (2 ^ n - 1))).toInt)) n 0
theorem bcT_all : bcT 0 = true ∧ bcT 1 = true ∧ bcT 2 = true ∧ bcT 3 = true ∧ bcT 4 = true ∧ bcT 5 = true ∧ bcT 6 = true ∧ bcT 7 = true ∧ bcT 8 = true ∧ bcT 9 = true ∧ bcT 10 = true ∧ bcT 11 = true ∧ bcT 12 = true := by decide +kernel
theorem bc_full {n s : Nat} (hn : n ≤ 12) (hs : s < 2 ^ n) (hne : ¬ s = 2 ^ n - 1) : (bcE (nI s)).toInt < (bcE (nI (2 ^ n - 1))).toInt := by
  have key : bcT n = true := by
    obtain ⟨b0, b1, b2, b3, b4, b5, b6, b7, b8, b9, b10, b11, b12⟩ := bcT_all
    match n, hn with
    | 0, _ => exact b0
    | 1, _ => exact b1
    | 2, _ => exact b2
    | 3, _ => exact b3
    | 4, _ => exact b4
    | 5, _ => exact b5
    | 6, _ => exact b6
    | 7, _ => exact b7
    | 8, _ => exact b8
    | 9, _ => exact b9
    | 10, _ => exact b10
    | 11, _ => exact b11
    | 12, _ => exact b12
  have := allB_ok n 0 key s hs
  rw [Nat.zero_add, decide_eq_false hne, Bool.false_or] at this
  exact of_decide_eq_true this
theorem up_dn {cl : Nat → Bool} {n : Nat} (hn : n ≤ 12) (hc : cl (2 ^ n - 1) = true) : dnB cl (2 ^ n - 1) (2 ^ n) = upB cl (2 ^ n - 1) (2 ^ n) := by
  have hpos : 0 < 2 ^ n := Nat.two_pow_pos n
  have h1 := upB_ok (cl := cl) (full := 2 ^ n - 1) (2 ^ n)
  have h2 := dnB_ok (cl := cl) (2 ^ n) (2 ^ n - 1)
  have hf := fun s (hs : s < 2 ^ n) (hne : ¬ s = 2 ^ n - 1) => bc_full hn hs hne
  generalize upB cl (2 ^ n - 1) (2 ^ n) = u at *
  generalize dnB cl (2 ^ n - 1) (2 ^ n) = r at *
  rcases h2 with ⟨i1, i2⟩ | ⟨i1, i2, i3, i4⟩
  · have := i2 (2 ^ n - 1) (by omega) hc
    omega
  · rcases h1 with ⟨j1, j2⟩ | ⟨j1, j2, j3, j4, j5⟩
    · rw [j1]
      rcases Nat.decEq r (2 ^ n - 1) with q | q
      · have := hf r i1 q
        exact absurd this (j2 r i1 i2)
      · exact q
    · have a1 := j4 r i1 i2
      have a2 := (i4 u j1 j2).1
      rcases Nat.lt_trichotomy u r with q | q | q
      · have := (i4 u j1 j2).2 q
        omega
      · exact q.symm
      · have := j5 r q i2
        omega
theorem shl1_n : ∀ n, n ≤ 12 → (1 : Int32) <<< (nI n &&& 31) = nI (2 ^ n) ∧ (1 : Int32) <<< (nI n &&& 31) - 1 = nI (2 ^ n - 1) ∧ 2 ^ n ≤ 4096 := by decide +kernel
abbrev blC (S : SS) (h d : Int32) (s : Nat) : Bool := clB S h d (nI s)
def blundersG (S : SS) (h d : Int32) : Int32 := if ¬ inP h 0 2 then -1 else if ¬ inP d 0 9999 then -2 else if 12 < (CL S h d).length then -3 else nI (upB (blC S h d) (2 ^ (CL S h d).length - 1) (2 ^ (CL S h d).length))
theorem smF_full {S : SS} {h d out : Int32} {L : List Nat} : ∀ k, (∀ j, j < k → loP out j = true) → smF S h d L out k = (0, 0)
  | 0, _ => rfl
  | k + 1, hk => by
    unfold smF
    rw [if_pos (hk k (Nat.lt_succ_self k))]
    exact smF_full k (fun j hj => hk j (Nat.lt_succ_of_lt hj))
theorem lo_full : ∀ n, n ≤ 12 → ∀ j, j < n → loP (nI (2 ^ n - 1)) j = true := by decide +kernel
theorem cl_full {S : SS} {h d : Int32} (hn : (CL S h d).length ≤ 12) : blC S h d (2 ^ (CL S h d).length - 1) = true := by
  show clB S h d (nI (2 ^ (CL S h d).length - 1)) = true
  unfold clB
  have e : smA S h d (nI (2 ^ (CL S h d).length - 1)) = (0, 0) := smF_full _ (fun j hj => lo_full _ hn j hj)
  rw [e, if_neg (by decide)]
theorem sp_X11_blunders {d : Nat} {h dd : Int32} {σ : XH} {S : SS} {Q : XV → XH → Prop} (hd : 13 ≤ d) (hM : MI σ) (hI : SInv S) (hU : RuI S) (hQ : ∀ T σ', FS S T → Fi (tl [12]) σ σ' → Q (vI (blundersG S h dd)) (up σ' T)) : Ec d 0 0 m_X11_blunders [vR (some (12, 0)), vI h, vI dd] (up σ S) Q := by
  have hl := CL_len hI h dd
  unfold blundersG at hQ
  refine Ec_of mo_X11_blunders.1 (Nat.le_of_ble_eq_true rfl) ?_
  refine sX11_blunders_0 ⟨by omega, sp_X11_isHouse (by omega) (fun c1 => br_f (by decide) ⟨by omega, sp_X11_isDay (by omega) (fun c2 => br_f (by decide) ⟨by omega, sp_X11_findCounted (by omega) hM hI hU (fun T hF hY h6 => ?_)⟩) (fun c2 => br_t rfl ?_)⟩) (fun c1 => br_t rfl ?_)⟩
  · have hq := fun σ' => hQ T σ' hF
    rw [if_neg (fun y => y c1), if_neg (fun y => y c2)] at hq
    have e49 : ∀ σ', hi (up σ' T) 12 0 49 = nI (CL S h dd).length := fun _ => hY.1
    dsimp only [kU]
    rw [e49]
    refine ⟨fun z => ?_, fun z => ?_⟩
    · have := (c_lt (n := 12) (N := (CL S h dd).length) (by omega) (by omega)).mp z
      rw [if_pos this] at hq
      exact hq σ (Fi.rf _ _)
    · have hn : ¬ 12 < (CL S h dd).length := fun q => z ((c_lt (n := 12) (N := (CL S h dd).length) (by omega) (by omega)).mpr q)
      have hn' : (CL S h dd).length ≤ 12 := by omega
      rw [if_neg hn] at hq
      obtain ⟨s1, s2, s3⟩ := shl1_n _ hn'
      have hpos : 0 < 2 ^ (CL S h dd).length := Nat.two_pow_pos _
      rw [s2]
      have hfin := up_dn hn' (cl_full hn')
      have lp : ∀ (m best : Nat) (σ' : XH), best < 4096 → m ≤ 4096 → Fi (tl [12]) σ σ' → dnB (blC S h dd) best m = upB (blC S h dd) (2 ^ (CL S h dd).length - 1) (2 ^ (CL S h dd).length) → Ex d 0 0 m_X11_blunders 51 [vR (some (12, 0)), vU, vU, vI (nI best), vI (nI m - 1)] [] (up σ' T) Q := by
        intro m
        induction m with
        | zero =>
          intro best σ' hb hm hf he
          refine sX11_blunders_51 ⟨fun _ => ?_, fun y => absurd (by decide) y⟩
          have := hq σ' hf
          rw [← he] at this
          exact this
        | succ m ih =>
          intro best σ' hb hm hf he
          rw [nI_pred]
          have hnn : ¬ nI m < 0 := by
            rw [fa_lt, nI_toInt (by omega)]
            have e0 : (0 : Int32).toInt = 0 := by decide
            omega
          have f82 : ∀ b' σ'', b' < 4096 → Fi (tl [12]) σ σ'' → dnB (blC S h dd) b' m = upB (blC S h dd) (2 ^ (CL S h dd).length - 1) (2 ^ (CL S h dd).length) → Ex d 0 0 m_X11_blunders 82 [vR (some (12, 0)), vU, vU, vI (nI b'), vI (nI m)] [] (up σ'' T) Q := fun b' σ'' h1 h2 h3 => by
            refine sX11_blunders_82 ?_
            unfold bX11_blunders_82
            rw [show nI m + (-1) = nI m - 1 from (Int32.sub_eq_add_neg _ _).symm]
            exact ih b' σ'' h1 (by omega) h2 h3
          have no : ¬ (¬ bcE (nI best) < bcE (nI m) ∧ blC S h dd m = true) → dnB (blC S h dd) best m = upB (blC S h dd) (2 ^ (CL S h dd).length - 1) (2 ^ (CL S h dd).length) := fun y => by
            have e : dnB (blC S h dd) best (m + 1) = dnB (blC S h dd) (if ¬ bcE (nI best) < bcE (nI m) ∧ blC S h dd m = true then m else best) m := rfl
            rw [if_neg y] at e
            rw [← e]
            exact he
          refine sX11_blunders_51 ⟨fun y => absurd y hnn, fun _ => ⟨by omega, sp_X11_ones (by omega) ⟨by omega, sp_X11_ones hb ?_⟩⟩⟩
          have hM' : MI σ' := hM.of (by rw [hf.r]) (by rw [hf.n])
          refine ⟨fun y => f82 best σ' hb hf (no (fun z => z.1 y)), fun y => ⟨by omega, sp_X11_isClean (by omega) hM' hI hF hY hn' (h6 33 (by decide)) (fun σ'' k1 => ?_)⟩⟩
          have e : dnB (blC S h dd) best (m + 1) = dnB (blC S h dd) (if ¬ bcE (nI best) < bcE (nI m) ∧ blC S h dd m = true then m else best) m := rfl
          cases hcl : clB S h dd (nI m) with
          | false => exact br_t rfl (f82 best σ'' hb (hf.trans k1) (no (fun z => by
              have z2 : clB S h dd (nI m) = true := z.2
              rw [hcl] at z2
              exact Bool.noConfusion z2)))
          | true =>
            refine br_f (by decide) (f82 m σ'' (by omega) (hf.trans k1) ?_)
            rw [if_pos ⟨y, hcl⟩] at e
            rw [← e]
            exact he
      have := lp (2 ^ (CL S h dd).length) (2 ^ (CL S h dd).length - 1) σ (by omega) s3 (Fi.rf _ _) hfin
      have e1 : nI (2 ^ (CL S h dd).length) - 1 = nI (2 ^ (CL S h dd).length - 1) := by
        have : 2 ^ (CL S h dd).length = (2 ^ (CL S h dd).length - 1) + 1 := by omega
        rw [this, nI_pred]
        rfl
      rw [e1] at this
      exact this
  · rw [if_neg (fun y => y c1), if_pos c2] at hQ
    exact hQ S σ (FS.rf S) (Fi.rf _ _)
  · rw [if_pos c1] at hQ
    exact hQ S σ (FS.rf S) (Fi.rf _ _)
