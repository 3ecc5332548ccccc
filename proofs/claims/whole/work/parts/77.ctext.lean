/-! ===== the text of a rule; how the class reads it ===== -/
/-- the class's reader stands at place a of the text ch of n bytes -/
def PC (σ : XH) (n a : Nat) (ch : Nat → Int32) : Prop := CFX σ ∧ hi σ 7 0 1 = nI n ∧ hi σ 7 0 2 = nI a ∧ n ≤ 140 ∧ a ≤ n ∧ ∀ k, k < n → hi σ 200 0 k &&& 255 = ch k
def cadv (σ : XH) (a : Nat) : XH := wI σ 7 0 2 (nI a)
theorem wI_wI (σ : XH) (s i k : Nat) (x y : Int32) : wI (wI σ s i k x) s i k y = wI σ s i k y := by
  refine Prod.ext rfl (Prod.ext rfl (Prod.ext ?_ rfl))
  refine funext fun t => funext fun p => funext fun j => ?_
  show hi (wI (wI σ s i k x) s i k y) t p j = hi (wI σ s i k y) t p j
  by_cases e : t = s
  · rw [e, hi_wI_at, hi_wI_at, hi_wI_at]
    split <;> rfl
  · rw [hi_wI_ne _ _ _ _ e, hi_wI_ne _ _ _ _ e, hi_wI_ne _ _ _ _ e]
theorem cadv_cadv (σ : XH) (a a' : Nat) : cadv (cadv σ a) a' = cadv σ a' := wI_wI σ 7 0 2 _ _
theorem PC.cadv {σ : XH} {n a a' : Nat} {ch : Nat → Int32} (h : PC σ n a ch) (ha : a' ≤ n) : PC (cadv σ a') n a' ch := by
  obtain ⟨h1, h2, h3, h4, h5, h6⟩ := h
  refine ⟨h1.fi (T := tl [7]) (Fi.wI (Fi.rf _ _) rfl _ _ _) rfl rfl rfl, ?_, ?_, h4, ha, fun k hk => ?_⟩
  · show hi (wI σ 7 0 2 (nI a')) 7 0 1 = _
    rw [hi_wI_at, if_neg (fun y => absurd y.2 (by decide))]
    exact h2
  · show hi (wI σ 7 0 2 (nI a')) 7 0 2 = _
    rw [hi_wI_at, if_pos ⟨rfl, rfl⟩]
  · show hi (wI σ 7 0 2 (nI a')) 200 0 k &&& 255 = _
    rw [hi_wI_ne _ _ _ _ (by decide)]
    exact h6 k hk
theorem PC.cadv0 {σ : XH} {n a : Nat} {ch : Nat → Int32} (h : PC σ n a ch) : CSpotTimersLaw_law_r3327_87c8ce.cadv σ a = σ := wI_id σ h.2.2.1
theorem sp_X6_next {d n a : Nat} {ch : Nat → Int32} {σ : XH} {Q : XV → XH → Prop} (hP : PC σ n a ch) (h : Q (vI (gN ch n a)) σ) : Ec d 0 0 m_X6_next [vR (some (7, 0))] σ Q := by
  obtain ⟨hX, h2, h3, h4, h5, h6⟩ := hP
  unfold gN at h
  refine Ec_of mo_X6_next.1 (Nat.le_of_ble_eq_true rfl) ?_
  refine sX6_next_0 ?_
  unfold bX6_next_0
  rw [h2, h3, hX.n200, nI_clamp (by omega)]
  refine ⟨fun c => ⟨hX.k7_0, fun _ => ⟨hX.k7_0, ?_, ?_⟩, fun c2 => ?_⟩, fun c => ?_⟩
  · have hlt := (c_lt (by omega) (by omega)).mp c
    exact vp_in_nI (by omega) (by omega)
  · have hlt := (c_lt (by omega) (by omega)).mp c
    refine sX6_next_40 ?_
    rw [if_pos hlt] at h
    show Q (vI (hi σ 200 0 a &&& 255)) σ
    rw [h6 a hlt]
    exact h
  · have hlt := (c_lt (by omega) (by omega)).mp c
    exact absurd ((c_lt (n := a) (N := 140) (by omega) (by omega)).mpr (by omega)) c2
  · have hlt := mt (c_lt (n := a) (N := n) (by omega) (by omega)).mpr c
    rw [if_neg hlt] at h
    exact sX6_next_39 (sX6_next_40 h)
theorem strC_ok : ∀ l, l ∈ strC → ∀ c, c ∈ l → ((c &&& 255).toUInt32 % 65536).toInt32 = c ∧ c.toUInt32.toUInt16.toUInt32.toInt32 = c := by decide +kernel
theorem strC_no : ∀ l, l ∈ strC → l.length < 100 ∧ ∀ c, c ∈ l → ¬ c = -1 := by decide +kernel
theorem gW_le {ch : Nat → Int32} {n : Nat} : ∀ (l : List Int32) (a : Nat), a ≤ n → (∀ c, c ∈ l → ¬ c = -1) → (gW ch n l a).2 ≤ n
  | [], a, ha, _ => ha
  | c :: l, a, ha, hc => by
    unfold gW
    split
    · rename_i e
      exact gW_le l (a + 1) (gN_lt e (hc c (List.mem_cons_self ..))) (fun c' h => hc c' (List.mem_cons_of_mem _ h))
    · exact ha
theorem lp_takes {d rc rs n t : Nat} {w : List Int32} {ch : Nat → Int32} {Q : XV → XH → Prop} (hd : 5 ≤ d) (ht : t < 12) (hw : strC[t]? = some w) (hw2 : w.length < 100) (hw1 : ∀ c, c ∈ w → ¬ c = -1) : ∀ (l : List Int32) (i a : Nat) (σ : XH), w.drop i = l → i ≤ w.length → PC σ n a ch → ((gW ch n l a).1 = true → Q (vI 1) (cadv σ (gW ch n l a).2)) → ((gW ch n l a).1 = false → Q (vI 0) (cadv σ (gW ch n l a).2)) → Ex d rc rs m_X6_takes 2 [vR (some (7, 0)), vR (some (512, t)), vI (nI i)] [] σ Q
  | [], i, a, σ, hl, hi_, hP, h1, h0 => by
    have hs := hP.1.2.2.2.2.2.2 t w hw
    refine sX6_takes_2 (drf_of rfl ⟨ht, by omega, sp_length (by omega) ht ?_⟩)
    rw [hs.1]
    have hz : w.length ≤ i := by
      have : (w.drop i).length = 0 := by rw [hl]; rfl
      rw [List.length_drop] at this
      omega
    refine ⟨fun y => ?_, fun _ => ⟨Or.inr rfl, ?_⟩⟩
    · have := (c_lt (n := i) (N := w.length) (by omega) (by omega)).mp y
      omega
    · have := h1 rfl
      rw [show cadv σ (gW ch n [] a).2 = σ from hP.cadv0] at this
      exact this
  | c :: l, i, a, σ, hl, hi_, hP, h1, h0 => by
    have hs := hP.1.2.2.2.2.2.2 t w hw
    have hlt : i < w.length := by
      have : (w.drop i).length = l.length + 1 := by rw [hl]; rfl
      rw [List.length_drop] at this
      omega
    have hci : w[i]? = some c := by
      have e : (w.drop i)[0]? = some c := by rw [hl]; rfl
      rw [List.getElem?_drop] at e
      exact e
    have hdl : w.drop (i + 1) = l := by
      have : (w.drop i).drop 1 = l := by rw [hl]; rfl
      rw [List.drop_drop] at this
      exact this
    have hcw : c ∈ w := List.mem_of_getElem? hci
    refine sX6_takes_2 (drf_of rfl ⟨ht, by omega, sp_length (by omega) ht ?_⟩)
    rw [hs.1]
    refine ⟨fun _ => ⟨by omega, ?_⟩, fun y => absurd ((c_lt (n := i) (N := w.length) (by omega) (by omega)).mpr hlt) y⟩
    refine sp_X6_next hP ?_
    dsimp only [kI]
    refine drf_of rfl ⟨ht, by omega, ?_⟩
    have hok := strC_ok w (List.mem_of_getElem? hw) c hcw
    refine sp_charAt (v := c) (by omega) ht (neg_nn (by omega)) (by rw [hs.1]; exact (c_lt (n := i) (N := w.length) (by omega) (by omega)).mpr hlt) (by rw [hs.1]; exact vp_in_nI hlt (by omega)) (by rw [nI_clamp (by omega)]; exact hs.2 i c hci) hok.1 hok.2 ?_
    refine ⟨fun e => ?_, fun e => ⟨Or.inl rfl, ?_⟩⟩
    · intro g eg
      rw [hP.2.2.1, nI_1] at eg
      have ha := gN_lt e (hw1 c hcw)
      have eq : gW ch n (c :: l) a = gW ch n l (a + 1) := if_pos e
      rw [eq] at h1 h0
      rw [eg, nI_1]
      exact lp_takes hd ht hw hw2 hw1 l (i + 1) (a + 1) (cadv σ (a + 1)) hdl (by omega) (hP.cadv (by omega)) (fun y => by rw [cadv_cadv]; exact h1 y) (fun y => by rw [cadv_cadv]; exact h0 y)
    · have eq : gW ch n (c :: l) a = (false, a) := if_neg e
      rw [eq] at h0
      have := h0 rfl
      rw [hP.cadv0] at this
      exact this
theorem sp_X6_takes {d n t a : Nat} {w : List Int32} {ch : Nat → Int32} {σ : XH} {Q : XV → XH → Prop} (hd : 5 ≤ d) (ht : t < 12) (hw : strC[t]? = some w) (hw2 : w.length < 100) (hw1 : ∀ c, c ∈ w → ¬ c = -1) (hP : PC σ n a ch) (h1 : (gW ch n w a).1 = true → Q (vI 1) (cadv σ (gW ch n w a).2)) (h0 : (gW ch n w a).1 = false → Q (vI 0) (cadv σ (gW ch n w a).2)) : Ec d 0 0 m_X6_takes [vR (some (7, 0)), vR (some (512, t))] σ Q := by
  refine Ec_of mo_X6_takes.1 (Nat.le_of_ble_eq_true rfl) ?_
  refine sX6_takes_0 ?_
  unfold bX6_takes_0
  exact lp_takes hd ht hw hw2 hw1 w 0 a σ rfl (by omega) hP h1 h0
