/-! ===== the text of a rule; how the reference reads it ===== -/
/-- the byte in view at place a of a text of n bytes, or -1 -/
def gN (ch : Nat → Int32) (n a : Nat) : Int32 := if a < n then ch a else -1
/-- a word, byte after byte -/
def gW (ch : Nat → Int32) (n : Nat) : List Int32 → Nat → Bool × Nat
  | [], a => (true, a)
  | c :: l, a => if gN ch n a = c then gW ch n l (a + 1) else (false, a)
/-- digits, so many at most -/
def gD (ch : Nat → Int32) (n : Nat) : Nat → Nat → Int32 → Nat × Int32
  | 0, a, v => (a, v)
  | m + 1, a, v => if inP (gN ch n a) 48 57 then gD ch n m (a + 1) (10 * v + gN ch n a - 48) else (a, v)
theorem gN_lt {ch : Nat → Int32} {n a : Nat} {c : Int32} (h : gN ch n a = c) (hc : ¬ c = -1) : a < n := by
  unfold gN at h
  split at h
  · assumption
  · exact absurd h.symm hc
/-- the reference stands at place a of the text ch of n bytes, laid from b on -/
def PT (S : SS) (b n a : Nat) (ch : Nat → Int32) : Prop := S 12 40 = nI b ∧ S 12 41 = nI n ∧ S 12 42 = nI a ∧ b + n ≤ 1820 ∧ n ≤ 140 ∧ a ≤ n ∧ ∀ k, k < n → S 136 (b + k) = ch k
def adv (S : SS) (a : Nat) : SS := up2 S 12 42 (nI a)
theorem up2_up2 (S : SS) (s k : Nat) (x y : Int32) : up2 (up2 S s k x) s k y = up2 S s k y := funext fun t => funext fun j => by
  unfold up2
  split <;> rfl
theorem up2_same (S : SS) {s k : Nat} {x : Int32} (h : S s k = x) : up2 S s k x = S := funext fun t => funext fun j => by
  unfold up2
  split
  · rename_i c
    rw [c.1, c.2, h]
  · rfl
theorem up2_comm (S : SS) {s k t j : Nat} (x y : Int32) (h : ¬ (s = t ∧ k = j)) : up2 (up2 S s k x) t j y = up2 (up2 S t j y) s k x := funext fun p => funext fun q => by
  unfold up2
  by_cases c1 : p = t ∧ q = j
  · have c2 : ¬ (p = s ∧ q = k) := fun y => h ⟨y.1.symm.trans c1.1, y.2.symm.trans c1.2⟩
    rw [if_pos c1, if_neg c2, if_pos c1]
  · rw [if_neg c1]
    split <;> rfl
theorem adv_adv (S : SS) (a a' : Nat) : adv (adv S a) a' = adv S a' := up2_up2 S 12 42 _ _
theorem PT.adv {S : SS} {b n a a' : Nat} {ch : Nat → Int32} (h : PT S b n a ch) (ha : a' ≤ n) : PT (adv S a') b n a' ch := by
  obtain ⟨h1, h2, h3, h4, h5, h6, h7⟩ := h
  unfold CSpotTimersLaw_law_r3327_87c8ce.adv
  refine ⟨by rw [up2_k _ _ _ (by decide)]; exact h1, by rw [up2_k _ _ _ (by decide)]; exact h2, up2_eq _ _ _ _, h4, h5, ha, fun k hk => ?_⟩
  rw [up2_s _ _ _ (by decide)]
  exact h7 k hk
theorem PT.adv0 {S : SS} {b n a : Nat} {ch : Nat → Int32} (h : PT S b n a ch) : CSpotTimersLaw_law_r3327_87c8ce.adv S a = S := up2_same S h.2.2.1
/-- what stands elsewhere does not matter to the text -/
theorem PT.sa {S S' : SS} {b n a : Nat} {ch : Nat → Int32} {A K : Nat → Bool} (h : PT S b n a ch) (sa : SA A K S S') (hA : A 136 = false) (k : ∀ j, j ∈ [40, 41, 42] → K j = false) : PT S' b n a ch := by
  unfold PT
  rw [sa.k (k 40 (by decide)), sa.k (k 41 (by decide)), sa.k (k 42 (by decide)), sa.a (s := 136) (by decide) hA]
  exact h
theorem sp_X11_next {d b n a : Nat} {ch : Nat → Int32} {σ : XH} {S : SS} {Q : XV → XH → Prop} (hM : MI σ) (hP : PT S b n a ch) (h : Q (vI (gN ch n a)) (up σ S)) : Ec d 0 0 m_X11_next [vR (some (12, 0))] (up σ S) Q := by
  obtain ⟨h1, h2, h3, h4, h5, h6, h7⟩ := hP
  unfold gN at h
  refine Ec_of mo_X11_next.1 (Nat.le_of_ble_eq_true rfl) ?_
  refine sX11_next_0 ?_
  unfold bX11_next_0
  simp only [hu_12, h1, h2, h3, nI_add]
  refine ⟨fun c => ⟨hM.r136, ?_, ?_⟩, fun c => sX11_next_29 ?_⟩
  · have hlt := (c_lt (by omega) (by omega)).mp c
    exact vp_at hM.n136 (vp_in_nI (by omega) (by omega))
  · have hlt := (c_lt (by omega) (by omega)).mp c
    refine sX11_next_29 ?_
    rw [nI_clamp (by omega)]
    rw [if_pos hlt] at h
    have e : hi (up σ S) 136 0 (b + a) = ch a := h7 a hlt
    show Q (vI (hi (up σ S) 136 0 (b + a))) (up σ S)
    rw [e]
    exact h
  · have hlt := mt (c_lt (n := a) (N := n) (by omega) (by omega)).mpr c
    rw [if_neg hlt] at h
    exact h
theorem sp_X11_takes {d b n a : Nat} {c : Int32} {ch : Nat → Int32} {σ : XH} {S : SS} {Q : XV → XH → Prop} (hd : 1 ≤ d) (hM : MI σ) (hP : PT S b n a ch) (h1 : gN ch n a = c → Q (vI 1) (up σ (adv S (a + 1)))) (h0 : ¬ gN ch n a = c → Q (vI 0) (up σ S)) : Ec d 0 0 m_X11_takes [vR (some (12, 0)), vI c] (up σ S) Q := by
  refine Ec_of mo_X11_takes.1 (Nat.le_of_ble_eq_true rfl) ?_
  refine sX11_takes_0 ?_
  unfold bX11_takes_0
  refine ⟨by omega, sp_X11_next hM hP ⟨fun e => ?_, fun e => ⟨Or.inl rfl, h0 e⟩⟩⟩
  intro g eg
  rw [eg, hi_up σ S rfl, hP.2.2.1, nI_1, wI_up σ S rfl]
  exact ⟨Or.inr rfl, h1 e⟩
theorem sp_X11_isDigit {d b n a : Nat} {ch : Nat → Int32} {σ : XH} {S : SS} {Q : XV → XH → Prop} (hd : 1 ≤ d) (hM : MI σ) (hP : PT S b n a ch) (h1 : inP (gN ch n a) 48 57 → Q (vI 1) (up σ S)) (h0 : ¬ inP (gN ch n a) 48 57 → Q (vI 0) (up σ S)) : Ec d 0 0 m_X11_isDigit [vR (some (12, 0))] (up σ S) Q := by
  refine Ec_of mo_X11_isDigit.1 (Nat.le_of_ble_eq_true rfl) ?_
  refine sX11_isDigit_0 ?_
  unfold bX11_isDigit_0
  refine ⟨by omega, sp_X11_next hM hP ⟨by omega, sp_X11_in (by omega) (fun z => ⟨Or.inr rfl, h1 z⟩) (fun z => ⟨Or.inl rfl, h0 z⟩)⟩⟩
/-- the k-th letter from the right of a packed word -/
def wd (L : Int64) (k : Nat) : Int32 := 96 + (((L >>> ((5 * nI k).toInt64 &&& 63)) &&& 31).toInt32)
def wl (L : Int64) : Nat → List Int32
  | 0 => []
  | k + 1 => wd L k :: wl L k
theorem lp_word {d rc rs b n : Nat} {L : Int64} {ch : Nat → Int32} {σ : XH} {Q : XV → XH → Prop} (hd : 2 ≤ d) (hM : MI σ) : ∀ (k a : Nat) (S : SS), k < 1000 → (∀ j, j < k → ¬ wd L j = -1) → PT S b n a ch → ((gW ch n (wl L k) a).1 = true → Q (vI 1) (up σ (adv S (gW ch n (wl L k) a).2))) → ((gW ch n (wl L k) a).1 = false → Q (vI 0) (up σ (adv S (gW ch n (wl L k) a).2))) → Ex d rc rs m_X11_takesWord 5 [vR (some (12, 0)), vL L, vU, vU, vI (nI k - 1)] [] (up σ S) Q
  | 0, a, S, hk, hw, hP, h1, h0 => by
    refine sX11_takesWord_5 ⟨fun _ => ⟨Or.inr rfl, ?_⟩, fun z => absurd (show (nI 0 - 1 : Int32) < 0 by decide) z⟩
    have := h1 rfl
    show Q (vI 1) (up σ S)
    rw [show adv S (gW ch n (wl L 0) a).2 = S from hP.adv0] at this
    exact this
  | k + 1, a, S, hk, hw, hP, h1, h0 => by
    rw [nI_pred]
    refine sX11_takesWord_5 ⟨fun z => absurd z (neg_nn (by omega)), fun _ => ⟨by omega, ?_⟩⟩
    refine sp_X11_takes (by omega) hM hP (fun e => br_f (by decide) ?_) (fun e => br_t rfl ⟨Or.inl rfl, ?_⟩)
    · have e' : gN ch n a = wd L k := e
      have hlt := gN_lt e' (hw k (by omega))
      have eg : gW ch n (wl L (k + 1)) a = gW ch n (wl L k) (a + 1) := if_pos e'
      rw [eg] at h1 h0
      rw [show nI k + (-1) = nI k - 1 from (Int32.sub_eq_add_neg _ _).symm]
      exact lp_word hd hM k (a + 1) _ (by omega) (fun j hj => hw j (by omega)) (hP.adv (by omega)) (fun y => by rw [adv_adv]; exact h1 y) (fun y => by rw [adv_adv]; exact h0 y)
    · have e' : ¬ gN ch n a = wd L k := e
      have eg : gW ch n (wl L (k + 1)) a = (false, a) := if_neg e'
      rw [eg] at h0
      have := h0 rfl
      rw [hP.adv0] at this
      exact this
theorem sp_X11_takesWord {d b n a k : Nat} {L : Int64} {l : List Int32} {ch : Nat → Int32} {σ : XH} {S : SS} {Q : XV → XH → Prop} (hd : 2 ≤ d) (hM : MI σ) (hk : k < 1000) (hl : wl L k = l) (hw : ∀ j, j < k → ¬ wd L j = -1) (hP : PT S b n a ch) (h1 : (gW ch n l a).1 = true → Q (vI 1) (up σ (adv S (gW ch n l a).2))) (h0 : (gW ch n l a).1 = false → Q (vI 0) (up σ (adv S (gW ch n l a).2))) : Ec d 0 0 m_X11_takesWord [vR (some (12, 0)), vL L, vI (nI k)] (up σ S) Q := by
  refine Ec_of mo_X11_takesWord.1 (Nat.le_of_ble_eq_true rfl) ?_
  refine sX11_takesWord_0 ?_
  unfold bX11_takesWord_0
  subst hl
  exact lp_word hd hM k a S hk hw hP h1 h0
theorem w_blur : wl 78514 4 = [98, 108, 117, 114] := by decide +kernel
theorem w_copied : wl 116925604 6 = [99, 111, 112, 105, 101, 100] := by decide +kernel
theorem w_edges : wl 5381299 5 = [101, 100, 103, 101, 115] := by decide +kernel
theorem w_rest : wl 595572 4 = [114, 101, 115, 116] := by decide +kernel
theorem w_strike : wl 659105125 6 = [115, 116, 114, 105, 107, 101] := by decide +kernel
theorem w_ithdrawn : wl 330985703150 8 = [105, 116, 104, 100, 114, 97, 119, 110] := by decide +kernel
theorem w_eigh : wl 173288 4 = [101, 105, 103, 104] := by decide +kernel
/-- number and place are set -/
def nset (S : SS) (v : Int32) (a : Nat) : SS := adv (up2 S 12 43 v) a
theorem nset_nset (S : SS) (v v' : Int32) (a a' : Nat) : nset (nset S v a) v' a' = nset S v' a' := by
  unfold nset adv
  rw [up2_comm (up2 S 12 43 v) (nI a) v' (by decide), up2_up2, up2_up2]
theorem PT.nset {S : SS} {b n a a' : Nat} {ch : Nat → Int32} (h : PT S b n a ch) (v : Int32) (ha : a' ≤ n) : PT (CSpotTimersLaw_law_r3327_87c8ce.nset S v a') b n a' ch := by
  have sa : SA (tl []) (tl [43]) S (up2 S 12 43 v) := (SA.rf _ _ S).wk _ _ rfl
  exact (h.sa sa rfl (by decide)).adv ha
theorem lp_num {d rc rs b n m : Nat} {ch : Nat → Int32} {σ : XH} {S : SS} {Q : XV → XH → Prop} (hd : 2 ≤ d) (hM : MI σ) (hm : m < 1000) (hP0 : ∀ v a, a ≤ n → PT (nset S v a) b n a ch) : ∀ (j i a : Nat) (v : Int32), i + j = m → a ≤ n → Q (vI 1) (up σ (nset S (gD ch n j a v).2 (gD ch n j a v).1)) → Ex d rc rs m_X11_takesNumber 16 [vR (some (12, 0)), vI (nI m), vI (nI i)] [] (up σ (nset S v a)) Q
  | 0, i, a, v, hij, ha, hQ => by
    refine sX11_takesNumber_16 ⟨fun y => ?_, fun _ => ?_⟩
    · have := (c_lt (by omega) (by omega)).mp y
      omega
    · exact sX11_takesNumber_63 ⟨Or.inr rfl, hQ⟩
  | j + 1, i, a, v, hij, ha, hQ => by
    have hP := hP0 v a ha
    refine sX11_takesNumber_16 ⟨fun _ => ⟨by omega, ?_⟩, fun y => absurd ((c_lt (by omega) (by omega)).mpr (by omega)) y⟩
    refine sp_X11_isDigit (by omega) hM hP (fun z => br_f (by decide) ⟨by omega, ?_⟩) (fun z => br_t rfl ?_)
    · refine sp_X11_next hM hP ?_
      dsimp only [kI]
      have e43 : hi (up σ (nset S v a)) 12 0 43 = v := by
        rw [hi_up _ _ rfl]
        unfold nset adv
        rw [up2_k _ _ _ (by decide), up2_eq]
      rw [e43]
      intro g1 e1 g2 e2
      rw [wI_up _ _ rfl] at e1
      rw [e1, hi_up _ _ rfl, up2_k _ _ _ (show 42 ≠ 43 by decide), hP.2.2.1, nI_1, wI_up _ _ rfl] at e2
      have es : up2 (up2 (nset S v a) 12 43 (10 * v + gN ch n a - 48)) 12 42 (nI (a + 1)) = nset S (10 * v + gN ch n a - 48) (a + 1) := nset_nset S v _ a (a + 1)
      rw [es] at e2
      have hlt : a < n := by
        refine gN_lt (c := gN ch n a) rfl (fun y => ?_)
        rw [y] at z
        exact absurd z (by decide)
      rw [e2, nI_1]
      have eg : gD ch n (j + 1) a v = gD ch n j (a + 1) (10 * v + gN ch n a - 48) := if_pos z
      rw [eg] at hQ
      exact lp_num hd hM hm hP0 j (i + 1) (a + 1) _ (by omega) (by omega) hQ
    · refine sX11_takesNumber_63 ⟨Or.inr rfl, ?_⟩
      have eg : gD ch n (j + 1) a v = (a, v) := if_neg z
      rw [eg] at hQ
      exact hQ
theorem sp_X11_takesNumber {d b n a m : Nat} {ch : Nat → Int32} {σ : XH} {S : SS} {Q : XV → XH → Prop} (hd : 3 ≤ d) (hM : MI σ) (hm : m < 1000) (hP : PT S b n a ch) (h1 : inP (gN ch n a) 48 57 → Q (vI 1) (up σ (nset S (gD ch n m a 0).2 (gD ch n m a 0).1))) (h0 : ¬ inP (gN ch n a) 48 57 → Q (vI 0) (up σ S)) : Ec d 0 0 m_X11_takesNumber [vR (some (12, 0)), vI (nI m)] (up σ S) Q := by
  refine Ec_of mo_X11_takesNumber.1 (Nat.le_of_ble_eq_true rfl) ?_
  refine sX11_takesNumber_0 ?_
  unfold bX11_takesNumber_0
  refine ⟨by omega, sp_X11_isDigit (by omega) hM hP (fun z => br_f (by decide) ?_) (fun z => br_t rfl ⟨Or.inl rfl, h0 z⟩)⟩
  intro g e
  have es : up2 S 12 43 0 = nset S 0 a := (up2_same (up2 S 12 43 0) (by rw [up2_k _ _ _ (by decide)]; exact hP.2.2.1)).symm
  rw [wI_up _ _ rfl, es] at e
  rw [e]
  exact lp_num (by omega) hM hm (fun v a' ha => hP.nset v ha) m 0 a 0 (by omega) hP.2.2.2.2.2.1 (h1 z)
