/-! ===== numbers and steps, as the class takes them ===== -/
/-- as the class reckons digits -/
def cD (ch : Nat → Int32) (n : Nat) : Nat → Nat → Int32 → Nat × Int32
  | 0, a, v => (a, v)
  | m + 1, a, v => if inP (gN ch n a) 48 57 then cD ch n m (a + 1) (mxI 0 v * 10 + gN ch n a - 48) else (a, v)
theorem dig_rng {x : Int32} (h : inP x 48 57) : 48 ≤ x.toInt ∧ x.toInt ≤ 57 := by
  have e0 : (48 : Int32).toInt = 48 := by decide
  have e1 : (57 : Int32).toInt = 57 := by decide
  rw [inP_iff, fa_lt, fa_lt, e0, e1] at h
  omega
theorem num_step {v x : Int32} {i : Nat} (h0 : 0 ≤ v.toInt) (h1 : v.toInt < ((10 ^ i : Nat) : Int)) (hi6 : i < 6) (hx : inP x 48 57) : mxI 0 v * 10 + x - 48 = 10 * v + x - 48 ∧ 0 ≤ (10 * v + x - 48).toInt ∧ (10 * v + x - 48).toInt < ((10 ^ (i + 1) : Nat) : Int) := by
  have r := dig_rng hx
  have e10 : (10 : Int32).toInt = 10 := by decide
  have e48 : (48 : Int32).toInt = 48 := by decide
  have e0 : (0 : Int32).toInt = 0 := by decide
  have em : mxI 0 v = v := by
    apply Int32.toInt_inj.mp
    rw [mx_toInt, e0]
    omega
  have ec : v * 10 = 10 * v := Int32.mul_comm _ _
  have p1 : 10 ^ (i + 1) = 10 ^ i * 10 := Nat.pow_succ 10 i
  have p2 : 10 ^ (i + 1) ≤ 10 ^ 6 := Nat.pow_le_pow_right (by omega) (by omega)
  have p3 : (10 : Nat) ^ 6 = 1000000 := by decide
  rw [p3] at p2
  generalize 10 ^ (i + 1) = q at *
  generalize 10 ^ i = p at *
  have b1 : (10 * v).toInt = 10 * v.toInt := by rw [fb_mulI (by rw [e10]; omega) (by rw [e10]; omega), e10]
  have b2 : (10 * v + x).toInt = 10 * v.toInt + x.toInt := by rw [fb_addI (by rw [b1]; omega) (by rw [b1]; omega), b1]
  have b3 : (10 * v + x - 48).toInt = 10 * v.toInt + x.toInt - 48 := by rw [fb_subI (by rw [b2, e48]; omega) (by rw [b2, e48]; omega), b2, e48]
  rw [em, ec]
  refine ⟨rfl, ?_, ?_⟩
  · rw [b3]; omega
  · rw [b3]; omega
theorem cD_gD {ch : Nat → Int32} {n : Nat} : ∀ (j i a : Nat) (v : Int32), i + j ≤ 6 → 0 ≤ v.toInt → v.toInt < ((10 ^ i : Nat) : Int) → cD ch n j a v = gD ch n j a v ∧ 0 ≤ (gD ch n j a v).2.toInt
  | 0, i, a, v, _, h0, _ => ⟨rfl, h0⟩
  | j + 1, i, a, v, h6, h0, h1 => by
    unfold cD gD
    by_cases z : inP (gN ch n a) 48 57
    · rw [if_pos z, if_pos z]
      obtain ⟨s1, s2, s3⟩ := num_step h0 h1 (by omega) z
      rw [s1]
      exact cD_gD j (i + 1) (a + 1) _ (by omega) s2 s3
    · rw [if_neg z, if_neg z]
      exact ⟨rfl, h0⟩
/-- a number of the class: -1 if there is no digit -/
theorem cD_all {ch : Nat → Int32} {n m a : Nat} (hm : m < 6) : cD ch n (m + 1) a (-1) = (if inP (gN ch n a) 48 57 then gD ch n (m + 1) a 0 else (a, -1)) ∧ (inP (gN ch n a) 48 57 → 0 ≤ (gD ch n (m + 1) a 0).2.toInt) := by
  have e0 : (0 : Int32).toInt = 0 := by decide
  by_cases z : inP (gN ch n a) 48 57
  · have em : mxI 0 (-1) = mxI 0 0 := by decide
    obtain ⟨s1, s2, s3⟩ := num_step (v := 0) (i := 0) (by decide) (by decide) (by omega) z
    have ec : cD ch n (m + 1) a (-1) = cD ch n m (a + 1) (mxI 0 (-1) * 10 + gN ch n a - 48) := if_pos z
    have eg : gD ch n (m + 1) a 0 = gD ch n m (a + 1) (10 * 0 + gN ch n a - 48) := if_pos z
    rw [ec, eg, em, s1, if_pos z]
    have h := cD_gD (ch := ch) (n := n) m 1 (a + 1) _ (by omega) s2 s3
    exact ⟨h.1, fun _ => h.2⟩
  · rw [if_neg z]
    exact ⟨if_neg z, fun y => absurd y z⟩
theorem cD_le {ch : Nat → Int32} {n : Nat} : ∀ (j a : Nat) (v : Int32), a ≤ n → (cD ch n j a v).1 ≤ n
  | 0, a, v, ha => ha
  | j + 1, a, v, ha => by
    unfold cD
    split
    · rename_i z
      have hlt : a < n := by
        refine gN_lt (c := gN ch n a) rfl (fun y => ?_)
        rw [y] at z
        exact absurd z (by decide)
      exact cD_le j (a + 1) _ hlt
    · exact ha
theorem lp_digits {d rc rs n m : Nat} {ch : Nat → Int32} {Q : XV → XH → Prop} (hd : 1 ≤ d) (hm : m < 100) : ∀ (j i a : Nat) (v : Int32) (σ : XH), i + j = m → PC σ n a ch → Q (vI (cD ch n j a v).2) (cadv σ (cD ch n j a v).1) → Ex d rc rs m_X6_takesDigits 4 [vR (some (7, 0)), vI (nI m), vI v, vI (nI i)] [] σ Q
  | 0, i, a, v, σ, hij, hP, hQ => by
    refine sX6_takesDigits_4 ⟨fun y => ?_, fun _ => ?_⟩
    · have := (c_lt (by omega) (by omega)).mp y
      omega
    · refine sX6_takesDigits_60 ?_
      rw [show cadv σ (cD ch n 0 a v).1 = σ from hP.cadv0] at hQ
      exact hQ
  | j + 1, i, a, v, σ, hij, hP, hQ => by
    have no : ¬ inP (gN ch n a) 48 57 → Ex d rc rs m_X6_takesDigits 60 [vU, vU, vI v, vU] [] σ Q := fun z => by
      refine sX6_takesDigits_60 ?_
      have e : cD ch n (j + 1) a v = (a, v) := if_neg z
      rw [e, hP.cadv0] at hQ
      exact hQ
    refine sX6_takesDigits_4 ⟨fun _ => ⟨by omega, ?_⟩, fun y => absurd ((c_lt (by omega) (by omega)).mpr (by omega)) y⟩
    refine sp_X6_next hP ⟨fun c => no (fun z => ?_), fun c => ⟨by omega, ?_⟩⟩
    · rw [inP_iff] at z
      exact z.1 c
    refine sp_X6_next hP ⟨fun c2 => no (fun z => ?_), fun c2 => ⟨by omega, ?_⟩⟩
    · rw [inP_iff] at z
      exact z.2 c2
    refine sp_maxI ?_
    dsimp only [kI]
    refine ⟨by omega, sp_X6_next hP ?_⟩
    have z : inP (gN ch n a) 48 57 := (inP_iff _ _ _).mpr ⟨c, c2⟩
    have hlt : a < n := by
      refine gN_lt (c := gN ch n a) rfl (fun y => ?_)
      rw [y] at z
      exact absurd z (by decide)
    refine sX6_takesDigits_44 ?_
    intro g e
    rw [hP.2.2.1, nI_1] at e
    have e2 : cD ch n (j + 1) a v = cD ch n j (a + 1) (mxI 0 v * 10 + gN ch n a - 48) := if_pos z
    rw [e2] at hQ
    rw [e, nI_1]
    exact lp_digits hd hm j (i + 1) (a + 1) _ (cadv σ (a + 1)) (by omega) (hP.cadv hlt) (by rw [cadv_cadv]; exact hQ)
theorem sp_X6_takesDigits {d n m a : Nat} {ch : Nat → Int32} {σ : XH} {Q : XV → XH → Prop} (hd : 1 ≤ d) (hm : m < 6) (hP : PC σ n a ch) (h1 : inP (gN ch n a) 48 57 → Q (vI (gD ch n (m + 1) a 0).2) (cadv σ (gD ch n (m + 1) a 0).1)) (h0 : ¬ inP (gN ch n a) 48 57 → Q (vI (-1)) σ) : Ec d 0 0 m_X6_takesDigits [vR (some (7, 0)), vI (nI (m + 1))] σ Q := by
  refine Ec_of mo_X6_takesDigits.1 (Nat.le_of_ble_eq_true rfl) ?_
  refine sX6_takesDigits_0 ?_
  unfold bX6_takesDigits_0
  refine lp_digits hd (by omega) (m + 1) 0 a (-1) σ (by omega) hP ?_
  rw [(cD_all hm).1]
  by_cases z : inP (gN ch n a) 48 57
  · rw [if_pos z]
    exact h1 z
  · rw [if_neg z]
    show Q (vI (-1)) (cadv σ a)
    rw [hP.cadv0]
    exact h0 z
/-- the steps of a rule's cell -/
def RU (σ : XH) (t room : Nat) (L : List (Int32 × Int32)) : Prop := hr σ 6 t 4 = some (104, t) ∧ hr σ 6 t 5 = some (105, t) ∧ hn σ 104 t = room ∧ hn σ 105 t = room ∧ room ≤ 140 ∧ L.length ≤ room ∧ hi σ 6 t 6 = nI L.length ∧ ∀ k x, L[k]? = some x → hi σ 104 t k = x.1 ∧ hi σ 105 t k = x.2
theorem sp_X5_addStep {d t room : Nat} {L : List (Int32 × Int32)} {x y : Int32} {σ : XH} {Q : XV → XH → Prop} (hR : RU σ t room L) (hlt : L.length < room) (hQ : ∀ σ', Fi (tl [6, 104, 105]) σ σ' → (∀ s i, i ≠ t → hi σ' s i = hi σ s i) → (∀ j, j ≠ 6 → hi σ' 6 t j = hi σ 6 t j) → RU σ' t room (L ++ [(x, y)]) → Q vU σ') : Ec d 0 0 m_X5_addStep [vR (some (6, t)), vI x, vI y] σ Q := by
  obtain ⟨r1, r2, n1, n2, r140, hL, h6, hk⟩ := hR
  refine Ec_of mo_X5_addStep.1 (Nat.le_of_ble_eq_true rfl) ?_
  refine sX5_addStep_0 ?_
  unfold bX5_addStep_0
  rw [h6, n1, n2, nI_clamp (by omega)]
  have clt : nI L.length < Int32.ofNat room := (c_lt (n := L.length) (N := room) (by omega) (by omega)).mpr hlt
  refine ⟨r1, fun _ => ⟨r2, fun _ => ⟨r1, vp_in_nI hlt (by omega), ?_⟩, fun z => absurd clt z⟩, fun z => absurd clt z⟩
  intro g1 e1
  have a6 : hi g1 6 t 6 = nI L.length := by rw [e1, hi_wI_ne _ _ _ _ (by decide)]; exact h6
  rw [a6, nI_clamp (by omega)]
  refine ⟨by rw [e1]; exact r2, by rw [e1]; exact vp_at n2 (vp_in_nI hlt (by omega)), ?_⟩
  intro g2 e2
  have b6 : hi g2 6 t 6 = nI L.length := by rw [e2, hi_wI_ne _ _ _ _ (by decide)]; exact a6
  rw [b6, nI_1]
  intro g3 e3
  refine sX5_addStep_54 ?_
  have hF : Fi (tl [6, 104, 105]) σ g3 := by
    rw [e3, e2, e1]
    exact Fi.wI (Fi.wI (Fi.wI (Fi.rf _ _) (by decide) _ _ _) (by decide) _ _ _) (by decide) _ _ _
  have i104 : ∀ p j, hi g3 104 p j = if p = t ∧ j = L.length then x else hi σ 104 p j := fun p j => by
    rw [e3, hi_wI_ne _ _ _ _ (by decide), e2, hi_wI_ne _ _ _ _ (by decide), e1, hi_wI_at]
  have i105 : ∀ p j, hi g3 105 p j = if p = t ∧ j = L.length then y else hi σ 105 p j := fun p j => by
    rw [e3, hi_wI_ne _ _ _ _ (by decide), e2, hi_wI_at, e1, hi_wI_ne _ _ _ _ (by decide)]
  have i6 : ∀ p j, hi g3 6 p j = if p = t ∧ j = 6 then nI (L.length + 1) else hi σ 6 p j := fun p j => by
    rw [e3, hi_wI_at, e2, hi_wI_ne _ _ _ _ (by decide), e1, hi_wI_ne _ _ _ _ (by decide)]
  refine hQ g3 hF (fun s i hit => ?_) (fun j hj => ?_) ?_
  · funext j
    by_cases c1 : s = 6
    · rw [c1, i6, if_neg (fun q => hit q.1)]
    · by_cases c2 : s = 104
      · rw [c2, i104, if_neg (fun q => hit q.1)]
      · by_cases c3 : s = 105
        · rw [c3, i105, if_neg (fun q => hit q.1)]
        · rw [e3, hi_wI_ne _ _ _ _ c1, e2, hi_wI_ne _ _ _ _ c3, e1, hi_wI_ne _ _ _ _ c2]
  · rw [i6, if_neg (fun q => hj q.2)]
  · have el : (L ++ [(x, y)]).length = L.length + 1 := by simp
    refine ⟨by rw [hF.r]; exact r1, by rw [hF.r]; exact r2, by rw [hF.n]; exact n1, by rw [hF.n]; exact n2, r140, by rw [el]; omega, by rw [i6, if_pos ⟨rfl, rfl⟩, el], fun k z hz => ?_⟩
    rw [i104, i105]
    by_cases c : k = L.length
    · subst c
      rw [List.getElem?_append_right (Nat.le_refl _), Nat.sub_self] at hz
      have : (x, y) = z := by simpa using hz
      rw [if_pos ⟨rfl, rfl⟩, if_pos ⟨rfl, rfl⟩, ← this]
      exact ⟨rfl, rfl⟩
    · rw [if_neg (fun q => c q.2), if_neg (fun q => c q.2)]
      have hlk : k < (L ++ [(x, y)]).length := (List.getElem?_eq_some_iff.mp hz).1
      rw [el] at hlk
      rw [List.getElem?_append_left (by omega)] at hz
      exact hk k z hz
