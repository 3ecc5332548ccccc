/-! ===== sum, distance, rest: the reference ===== -/
abbrev FARi : Int64 := -9223372036854775808
def sumG (S : SS) (h d w : Int32) : Int64 :=
  if ¬ inP h 0 2 ∨ ¬ inP d 0 9999 ∨ ¬ inP w 0 1 then FARi else if ¬ 0 < (smA S h d 0).2 then FARi
  else if w = 0 then (smA S h d 0).1 / gcL (smA S h d 0).1 (smA S h d 0).2 else (smA S h d 0).2 / gcL (smA S h d 0).1 (smA S h d 0).2
theorem smA_bd {S : SS} (hI : SInv S) (hU : RuI S) (hS : StI S) (hT : TbI S) (h d out : Int32) : (-700000000000000 ≤ (smA S h d out).1.toInt ∧ (smA S h d out).1.toInt ≤ 700000000000000) ∧ (0 ≤ (smA S h d out).2.toInt ∧ (smA S h d out).2.toInt ≤ 100000000) := by
  have hl := CL_len hI h d
  have := smF_bd hI hU hS hT (h := h) (d := d) (out := out) (CL S h d).length (Nat.le_refl _)
  show (-700000000000000 ≤ (smF S h d (CL S h d) out (CL S h d).length).1.toInt ∧ (smF S h d (CL S h d) out (CL S h d).length).1.toInt ≤ 700000000000000) ∧ (0 ≤ (smF S h d (CL S h d) out (CL S h d).length).2.toInt ∧ (smF S h d (CL S h d) out (CL S h d).length).2.toInt ≤ 100000000)
  constructor <;> omega
theorem pos64 {B : Int64} : 0 < B ↔ 0 < B.toInt := by
  rw [fa_lt64]
  have e0 : (0 : Int64).toInt = 0 := by decide
  rw [e0]
theorem sp_X11_sum {d : Nat} {h dd w : Int32} {σ : XH} {S : SS} {Q : XV → XH → Prop} (hd : 13 ≤ d) (hM : MI σ) (hI : SInv S) (hU : RuI S) (hS : StI S) (hT : TbI S) (hQ : ∀ T σ', FS S T → Fi (tl [12]) σ σ' → Q (vL (sumG S h dd w)) (up σ' T)) : Ec d 0 0 m_X11_sum [vR (some (12, 0)), vI h, vI dd, vI w] (up σ S) Q := by
  have hb := smA_bd hI hU hS hT h dd 0
  unfold sumG at hQ
  refine Ec_of mo_X11_sum.1 (Nat.le_of_ble_eq_true rfl) ?_
  refine sX11_sum_0 ⟨by omega, sp_X11_isHouse (by omega) (fun c1 => br_f (by decide) ⟨by omega, sp_X11_isDay (by omega) (fun c2 => br_f (by decide) ⟨by omega, sp_X11_in (by omega) (fun c3 => br_f (by decide) ⟨by omega, sp_X11_findCounted (by omega) hM hI hU (fun T hF hY _ => ⟨by omega, sp_X11_findSum (by omega) hM hI hF hY (Or.inl rfl) (fun z => br_f (by decide) ?_) (fun z => br_t rfl ?_)⟩)⟩) (fun c3 => br_t rfl (sX11_sum_26 ?_))⟩) (fun c2 => br_t rfl (sX11_sum_26 ?_))⟩) (fun c1 => br_t rfl (sX11_sum_26 ?_))⟩
  · have hq := hQ T _ hF (LW_fi σ (smA S h dd 0).1 (smA S h dd 0).2)
    rw [if_neg (fun q => q.elim (fun y => y c1) (fun q => q.elim (fun y => y c2) (fun y => y c3))), if_neg (fun y => y z)] at hq
    have f63 : ∀ x : Int64, Q (vL (x / gcL (smA S h dd 0).1 (smA S h dd 0).2)) (up (LW σ (smA S h dd 0).1 (smA S h dd 0).2) T) → Ex d 0 0 m_X11_sum 63 [vR (some (12, 0)), vU, vU, vU] [vL x] (up (LW σ (smA S h dd 0).1 (smA S h dd 0).2) T) Q := fun x hx => by
      refine sX11_sum_63 ?_
      unfold bX11_sum_63
      rw [hl_up, LW_57, LW_58]
      refine ⟨by omega, sp_X11_common (by omega) (pos64.mp z) ?_⟩
      exact ⟨fun y => by
        have := gcL_pos (A := (smA S h dd 0).1) (pos64.mp z)
        rw [y] at this
        exact absurd this (by decide), hx⟩
    rw [hl_up, LW_57, LW_58]
    refine ⟨fun y => f63 _ ?_, fun y => f63 _ ?_⟩
    · rw [if_pos y] at hq; exact hq
    · rw [if_neg y] at hq; exact hq
  · have hq := hQ T _ hF (LW_fi σ (smA S h dd 0).1 (smA S h dd 0).2)
    rw [if_neg (fun q => q.elim (fun y => y c1) (fun q => q.elim (fun y => y c2) (fun y => y c3))), if_pos z] at hq
    exact hq
  · rw [if_pos (Or.inr (Or.inr c3))] at hQ
    exact hQ S σ (FS.rf S) (Fi.rf _ _)
  · rw [if_pos (Or.inr (Or.inl c2))] at hQ
    exact hQ S σ (FS.rf S) (Fi.rf _ _)
  · rw [if_pos (Or.inl c1)] at hQ
    exact hQ S σ (FS.rf S) (Fi.rf _ _)
/-- weight times the square of the rests, together -/
def tgF (S : SS) (h d p : Int32) (L : List Nat) : Nat → Int64
  | 0 => 0
  | k + 1 => tgF S h d p L k + ((wtF S h d (L.getD k 0)).toInt64 * (rsF S h d (L.getD k 0) p).toInt64) * (rsF S h d (L.getD k 0) p).toInt64
def distanceG (S : SS) (h d w : Int32) : Int32 :=
  if ¬ inP h 0 2 ∨ ¬ inP d 0 9999 ∨ ¬ inP w 0 1 then -5 else if ¬ 0 < (smA S h d 0).2 then -5
  else if w = 0 then dsF (smA S h d 0).1 (smA S h d 0).2
  else (tgF S h d (dsF (smA S h d 0).1 (smA S h d 0).2) (CL S h d) (CL S h d).length - tgF S h d (dsF (smA S h d 0).1 (smA S h d 0).2) (CL S h d) (CL S h d).length / 1000000007 * 1000000007).toInt32
theorem sp_X11_distance {d : Nat} {h dd w : Int32} {σ : XH} {S : SS} {Q : XV → XH → Prop} (hd : 13 ≤ d) (hM : MI σ) (hI : SInv S) (hU : RuI S) (hQ : ∀ T σ', FS S T → Fi (tl [12]) σ σ' → Q (vI (distanceG S h dd w)) (up σ' T)) : Ec d 0 0 m_X11_distance [vR (some (12, 0)), vI h, vI dd, vI w] (up σ S) Q := by
  have hl := CL_len hI h dd
  unfold distanceG at hQ
  refine Ec_of mo_X11_distance.1 (Nat.le_of_ble_eq_true rfl) ?_
  refine sX11_distance_0 ⟨by omega, sp_X11_isHouse (by omega) (fun c1 => br_f (by decide) ⟨by omega, sp_X11_isDay (by omega) (fun c2 => br_f (by decide) ⟨by omega, sp_X11_in (by omega) (fun c3 => br_f (by decide) ⟨by omega, sp_X11_findCounted (by omega) hM hI hU (fun T hF hY _ => ⟨by omega, sp_X11_findSum (by omega) hM hI hF hY (Or.inl rfl) (fun z => br_f (by decide) ⟨by omega, sp_X11_distanceOf (by omega) z ?_⟩) (fun z => br_t rfl ?_)⟩)⟩) (fun c3 => br_t rfl (sX11_distance_26 ?_))⟩) (fun c2 => br_t rfl (sX11_distance_26 ?_))⟩) (fun c1 => br_t rfl (sX11_distance_26 ?_))⟩
  · have hq := hQ T _ hF (LW_fi σ (smA S h dd 0).1 (smA S h dd 0).2)
    rw [if_neg (fun q => q.elim (fun y => y c1) (fun q => q.elim (fun y => y c2) (fun y => y c3))), if_neg (fun y => y z)] at hq
    have hM2 : MI (LW σ (smA S h dd 0).1 (smA S h dd 0).2) := hM.LW _ _
    generalize LW σ (smA S h dd 0).1 (smA S h dd 0).2 = σ2 at *
    generalize dsF (smA S h dd 0).1 (smA S h dd 0).2 = p at *
    refine ⟨fun y => ?_, fun y => ?_⟩
    · rw [if_pos y] at hq; exact hq
    · rw [if_neg y] at hq
      have lp : ∀ (m k : Nat), k + m = (CL S h dd).length → Ex d 0 0 m_X11_distance 65 [vR (some (12, 0)), vU, vU, vU, vI p, vL (tgF S h dd p (CL S h dd) k), vU, vI (nI k)] [] (up σ2 T) Q := by
        intro m
        have e49 : hi (up σ2 T) 12 0 49 = nI (CL S h dd).length := hY.1
        induction m with
        | zero =>
          intro k hkm
          have ek : k = (CL S h dd).length := by omega
          refine sX11_distance_65 ?_
          unfold bX11_distance_65
          rw [e49, ek]
          refine ⟨fun q => ?_, fun _ => ⟨by decide, hq⟩⟩
          have := (c_lt (by omega) (by omega)).mp q
          omega
        | succ m ih =>
          intro k hkm
          have hk : k < (CL S h dd).length := by omega
          have x142 : hi (up σ2 T) 142 0 k = wtF S h dd ((CL S h dd).getD k 0) := (hY.2 k _ (getD_at hk)).2.1
          refine sX11_distance_65 ?_
          unfold bX11_distance_65
          rw [e49, nI_clamp (by omega), x142]
          refine ⟨fun _ => ⟨hM2.r142, vp_at hM2.n142 (vp_in_nI (by omega) (by omega)), by omega, sp_X11_restOf (by omega) hM2 hI hF hY hk ⟨by omega, sp_X11_restOf (by omega) hM2 hI hF hY hk ?_⟩⟩, fun q => absurd ((c_lt (by omega) (by omega)).mpr hk) q⟩
          dsimp only [kI]
          rw [nI_1]
          exact ih (k + 1) (by omega)
      exact lp (CL S h dd).length 0 (by omega)
  · have hq := hQ T _ hF (LW_fi σ (smA S h dd 0).1 (smA S h dd 0).2)
    rw [if_neg (fun q => q.elim (fun y => y c1) (fun q => q.elim (fun y => y c2) (fun y => y c3))), if_pos z] at hq
    exact hq
  · rw [if_pos (Or.inr (Or.inr c3))] at hQ
    exact hQ S σ (FS.rf S) (Fi.rf _ _)
  · rw [if_pos (Or.inr (Or.inl c2))] at hQ
    exact hQ S σ (FS.rf S) (Fi.rf _ _)
  · rw [if_pos (Or.inl c1)] at hQ
    exact hQ S σ (FS.rf S) (Fi.rf _ _)
def restG (S : SS) (h d x p : Int32) : Int32 := if ¬ inP h 0 2 ∨ ¬ inP d 0 9999 ∨ ¬ inP p 0 99999 then NOi else if plL (CL S h d) 0 x < 0 then NOi else rsF S h d ((CL S h d).getD (plL (CL S h d) 0 x).toNatClampNeg 0) p
theorem sp_X11_rest {d : Nat} {h dd x p : Int32} {σ : XH} {S : SS} {Q : XV → XH → Prop} (hd : 13 ≤ d) (hM : MI σ) (hI : SInv S) (hU : RuI S) (hQ : ∀ T, FS S T → Q (vI (restG S h dd x p)) (up σ T)) : Ec d 0 0 m_X11_rest [vR (some (12, 0)), vI h, vI dd, vI x, vI p] (up σ S) Q := by
  have hl := CL_len hI h dd
  unfold restG at hQ
  refine Ec_of mo_X11_rest.1 (Nat.le_of_ble_eq_true rfl) ?_
  refine sX11_rest_0 ⟨by omega, sp_X11_isHouse (by omega) (fun c1 => br_f (by decide) ⟨by omega, sp_X11_isDay (by omega) (fun c2 => br_f (by decide) ⟨by omega, sp_X11_isReading (by omega) (fun c3 => br_f (by decide) ⟨by omega, sp_X11_in (by omega) (fun c4 => br_f (by decide) ⟨by omega, sp_X11_findCounted (by omega) hM hI hU (fun T hF hY _ => ⟨by omega, sp_X11_placeOf hM hY hl ?_⟩)⟩) (fun c4 => br_t rfl (sX11_rest_36 ?_))⟩) (fun c3 => br_t rfl (sX11_rest_36 ?_))⟩) (fun c2 => br_t rfl (sX11_rest_36 ?_))⟩) (fun c1 => br_t rfl (sX11_rest_36 ?_))⟩
  · have hq := hQ T hF
    rw [if_neg (fun q => q.elim (fun y => y c1) (fun q => q.elim (fun y => y c2) (fun y => y c4)))] at hq
    refine ⟨fun z => sX11_rest_71 ?_, fun z => ⟨by omega, sp_X11_placeOf hM hY hl ⟨by omega, ?_⟩⟩⟩
    · rw [if_pos z] at hq; exact hq
    · rw [if_neg z] at hq
      rcases plL_in (CL S h dd) 0 x with e | ⟨j, r, p1, p2, p3⟩
      · rw [e] at z
        exact absurd (by decide) z
      · rw [Nat.zero_add] at p3
        rw [p3] at hq ⊢
        have hj := (List.getElem?_eq_some_iff.mp p1).1
        rw [nI_clamp (by omega)] at hq
        exact sp_X11_restOf (by omega) hM hI hF hY hj (sX11_rest_71 hq)
  · rw [if_pos (Or.inr (Or.inr c4))] at hQ
    exact hQ S (FS.rf S)
  · by_cases c4 : inP p 0 99999
    · rw [if_neg (fun q => q.elim (fun y => y c1) (fun q => q.elim (fun y => y c2) (fun y => y c4))), pl_rd hI c3, if_pos (by decide)] at hQ
      exact hQ S (FS.rf S)
    · rw [if_pos (Or.inr (Or.inr c4))] at hQ
      exact hQ S (FS.rf S)
  · rw [if_pos (Or.inr (Or.inl c2))] at hQ
    exact hQ S (FS.rf S)
  · rw [if_pos (Or.inl c1)] at hQ
    exact hQ S (FS.rf S)
/-! ===== the class: the sum ===== -/
def TW (σ : XH) (A B : Int64) : XH := wL (wL σ 9 0 8 A) 9 0 9 B
theorem TW_fi (σ : XH) (A B : Int64) : Fi (tl [9]) σ (TW σ A B) := Fi.wL (Fi.wL (Fi.rf _ _) rfl _ _ _) rfl _ _ _
theorem TW_i (σ : XH) (A B : Int64) : hi (TW σ A B) = hi σ := rfl
theorem TW_8 (σ : XH) (A B : Int64) : hl (TW σ A B) 9 0 8 = A := by
  show hl (wL (wL σ 9 0 8 A) 9 0 9 B) 9 0 8 = A
  rw [hl_wL_k _ _ _ _ _ (by decide), hl_wL_eq]
theorem TW_9 (σ : XH) (A B : Int64) : hl (TW σ A B) 9 0 9 = B := hl_wL_eq _ _ _ _ _
theorem TW_a (σ : XH) (A B A' : Int64) : wL (TW σ A B) 9 0 8 A' = TW σ A' B := by
  refine Prod.ext rfl (Prod.ext rfl (Prod.ext rfl (Prod.ext ?_ rfl)))
  refine funext fun t => funext fun p => funext fun j => ?_
  show (if t = 9 ∧ p = 0 ∧ j = 8 then A' else if t = 9 ∧ p = 0 ∧ j = 9 then B else if t = 9 ∧ p = 0 ∧ j = 8 then A else hl σ t p j) = (if t = 9 ∧ p = 0 ∧ j = 9 then B else if t = 9 ∧ p = 0 ∧ j = 8 then A' else hl σ t p j)
  by_cases c1 : t = 9 ∧ p = 0 ∧ j = 8
  · have c2 : ¬ (t = 9 ∧ p = 0 ∧ j = 9) := fun z => by omega
    simp only [if_pos c1, if_neg c2]
  · simp only [if_neg c1]
theorem TW_b (σ : XH) (A B B' : Int64) : wL (TW σ A B) 9 0 9 B' = TW σ A B' := by
  refine Prod.ext rfl (Prod.ext rfl (Prod.ext rfl (Prod.ext ?_ rfl)))
  refine funext fun t => funext fun p => funext fun j => ?_
  show (if t = 9 ∧ p = 0 ∧ j = 9 then B' else if t = 9 ∧ p = 0 ∧ j = 9 then B else if t = 9 ∧ p = 0 ∧ j = 8 then A else hl σ t p j) = (if t = 9 ∧ p = 0 ∧ j = 9 then B' else if t = 9 ∧ p = 0 ∧ j = 8 then A else hl σ t p j)
  by_cases c1 : t = 9 ∧ p = 0 ∧ j = 9
  · simp only [if_pos c1]
  · simp only [if_neg c1]
theorem TW_TW (σ : XH) (A B A' B' : Int64) : TW (TW σ A B) A' B' = TW σ A' B' := by
  show wL (wL (TW σ A B) 9 0 8 A') 9 0 9 B' = _
  rw [TW_a, TW_b]
theorem CFX.TW {σ : XH} (h : CFX σ) (A B : Int64) : CFX (CSpotTimersLaw_law_r3327_87c8ce.TW σ A B) := h.fi (TW_fi σ A B) rfl rfl rfl
theorem TY.TW {σ : XH} {S : SS} {h d : Int32} {L : List Nat} (hY : TY σ S h d L) (A B : Int64) : TY (CSpotTimersLaw_law_r3327_87c8ce.TW σ A B) S h d L := hY
theorem sp_X8_isLeftOut {d k : Nat} {out : Int32} {σ : XH} {Q : XV → XH → Prop} (hk : k < 1000) (h1 : loP out k = true → Q (vI 1) σ) (h0 : loP out k = false → Q (vI 0) σ) : Ec d 0 0 m_X8_isLeftOut [vI out, vI (nI k)] σ Q := by
  refine Ec_of mo_X8_isLeftOut.1 (Nat.le_of_ble_eq_true rfl) ?_
  have f19 : loP out k = false → Ex d 0 0 m_X8_isLeftOut 19 [vU, vU] [] σ Q := fun z => sX8_isLeftOut_19 (sX8_isLeftOut_20 ⟨Or.inl rfl, h0 z⟩)
  refine sX8_isLeftOut_0 ⟨fun c => ⟨fun z => sX8_isLeftOut_20 ⟨Or.inr rfl, h1 ?_⟩, fun z => f19 ?_⟩, fun c => f19 ?_⟩
  · unfold loP
    rw [decide_eq_true z, decide_eq_true ((c_lt (n := k) (N := 12) (by omega) (by omega)).mp c)]
    rfl
  · unfold loP
    rw [decide_eq_false z, Bool.and_false]
  · unfold loP
    rw [decide_eq_false (fun q => c ((c_lt (n := k) (N := 12) (by omega) (by omega)).mpr q)), Bool.false_and]
theorem lp_solves {d rc rs : Nat} {h dd out : Int32} {σ : XH} {S : SS} {Q : XV → XH → Prop} (hd : 1 ≤ d) (hX : CFX σ) (hI : SInv S) (hY : TY σ S h dd (CL S h dd))
    (h1 : 0 < (smA S h dd out).2 → Q (vI 1) (TW σ (smA S h dd out).1 (smA S h dd out).2)) (h0 : ¬ 0 < (smA S h dd out).2 → Q (vI 0) (TW σ (smA S h dd out).1 (smA S h dd out).2)) :
    ∀ (m k : Nat), k + m = (CL S h dd).length → Ex d rc rs m_X8_solves 12 [vR (some (9, 0)), vI out, vI (nI k), vU, vU] [] (TW σ (smF S h dd (CL S h dd) out k).1 (smF S h dd (CL S h dd) out k).2) Q := by
  have hl_ := CL_len hI h dd
  intro m
  induction m with
  | zero =>
    intro k hkm
    have ek : k = (CL S h dd).length := by omega
    refine sX8_solves_12 ?_
    unfold bX8_solves_12
    rw [TW_i, hY.1, TW_9, lgc_gt, ek]
    refine ⟨fun z => ?_, fun _ => ⟨fun z => sX8_solves_104 ⟨Or.inr rfl, h1 z⟩, fun z => sX8_solves_104 ⟨Or.inl rfl, h0 z⟩⟩⟩
    have := (c_lt (by omega) (by omega)).mp z
    omega
  | succ m ih =>
    intro k hkm
    have hk : k < (CL S h dd).length := by omega
    have f84 : ∀ A B, (A, B) = smF S h dd (CL S h dd) out (k + 1) → Ex d rc rs m_X8_solves 84 [vR (some (9, 0)), vI out, vI (nI k), vU, vU] [] (TW σ A B) Q := fun A B e => by
      refine sX8_solves_84 ?_
      unfold bX8_solves_84
      have := ih (k + 1) (by omega)
      rw [← e] at this
      rw [nI_1]
      exact this
    obtain ⟨y1, y2, y3, y4, y5⟩ := hY.2 k _ (getD_at hk)
    have hX2 := hX.TW (smF S h dd (CL S h dd) out k).1 (smF S h dd (CL S h dd) out k).2
    refine sX8_solves_12 ?_
    unfold bX8_solves_12
    rw [TW_i, hY.1]
    refine ⟨fun _ => ⟨hd, sp_X8_isLeftOut (by omega) (fun z => br_f (by decide) (f84 _ _ ?_)) (fun z => br_t rfl ?_)⟩, fun z => absurd ((c_lt (by omega) (by omega)).mpr hk) z⟩
    · show _ = (if loP out k = true then _ else _)
      rw [if_pos z]
    · refine ⟨hX2.k9_2, vp_at hX2.n109 (vp_in_nI (by omega) (by omega)), hX2.k9_3, vp_at hX2.n110 (vp_in_nI (by omega) (by omega)), hX2.k9_4, vp_at hX2.n111 (vp_in_nI (by omega) (by omega)), ?_⟩
      intro g1 e1
      rw [TW_i, nI_clamp (by omega), y3, y4, y5, TW_8, TW_a] at e1
      have eh : hi g1 = hi σ := by rw [e1]; rfl
      have er : hr g1 = hr σ := by rw [e1]; rfl
      have en : hn g1 = hn σ := by rw [e1]; rfl
      have e9 : hl g1 9 0 9 = (smF S h dd (CL S h dd) out k).2 := by rw [e1]; exact TW_9 _ _ _
      refine ⟨by rw [er]; exact hX.k9_3, by rw [en]; exact vp_at hX.n110 (vp_in_nI (by omega) (by omega)), ?_⟩
      intro g2 e2
      rw [TW_i, eh, nI_clamp (by omega), y3, y4, e9, e1, TW_b] at e2
      rw [e2]
      refine f84 _ _ ?_
      show _ = (if loP out k = true then _ else _)
      rw [if_neg (by rw [z]; decide)]
      have ea : (100 : Int64) * ((wtF S h dd ((CL S h dd).getD k 0)).toInt64 * (lvF S ((CL S h dd).getD k 0)).toInt64) = (100 * (wtF S h dd ((CL S h dd).getD k 0)).toInt64) * (lvF S ((CL S h dd).getD k 0)).toInt64 := (Int64.mul_assoc _ _ _).symm
      rw [ea]
      rfl
theorem sp_X8_solves {d : Nat} {h dd out : Int32} {σ : XH} {S : SS} {Q : XV → XH → Prop} (hd : 1 ≤ d) (hX : CFX σ) (hI : SInv S) (hY : TY σ S h dd (CL S h dd))
    (h1 : 0 < (smA S h dd out).2 → Q (vI 1) (TW σ (smA S h dd out).1 (smA S h dd out).2)) (h0 : ¬ 0 < (smA S h dd out).2 → Q (vI 0) (TW σ (smA S h dd out).1 (smA S h dd out).2)) : Ec d 0 0 m_X8_solves [vR (some (9, 0)), vI out] σ Q := by
  refine Ec_of mo_X8_solves.1 (Nat.le_of_ble_eq_true rfl) ?_
  refine sX8_solves_0 ?_
  intro g1 e1 g2 e2
  rw [e1] at e2
  have e2' : g2 = TW σ 0 0 := e2
  rw [e2']
  exact lp_solves hd hX hI hY h1 h0 (CL S h dd).length 0 (by omega)
theorem ds_cl {A B : Int64} (hB : 0 < B) : (mxL 0 (mnL 99999 (fdL A B))).toInt32 = dsF A B := by
  rw [fdL_dwn (pos64.mp hB)]
  unfold dsF mxL mnL
  have e0 : (0 : Int64).toInt = 0 := by decide
  have e9 : (99999 : Int64).toInt = 99999 := by decide
  by_cases c1 : dwn A B < 0
  · have c2 : dwn A B < 99999 := by
      rw [fa_lt64] at *
      omega
    have c3 : ¬ (0 : Int64) < dwn A B := by
      rw [fa_lt64] at *
      omega
    rw [if_pos c1, if_pos c2, if_neg c3]
    decide
  · rw [if_neg c1]
    by_cases c4 : 99999 < dwn A B
    · have c2 : ¬ dwn A B < 99999 := by
        rw [fa_lt64] at *
        omega
      rw [if_pos c4, if_neg c2]
      decide
    · rw [if_neg c4]
      by_cases c2 : dwn A B < 99999
      · rw [if_pos c2]
        by_cases c3 : (0 : Int64) < dwn A B
        · rw [if_pos c3]
        · rw [if_neg c3]
          have : dwn A B = 0 := by
            rw [fa_lt64] at c1 c3
            rw [fa_eq64]
            omega
          rw [this]
      · rw [if_neg c2]
        have : dwn A B = 99999 := by
          rw [fa_lt64] at c2 c4
          rw [fa_eq64]
          omega
        rw [this]
        decide
theorem sp_X8_bestDistance {d : Nat} {A B : Int64} {σ : XH} {Q : XV → XH → Prop} (hd : 1 ≤ d) (hB : 0 < B) (hQ : Q (vI (dsF A B)) (TW σ A B)) : Ec d 0 0 m_X8_bestDistance [vR (some (9, 0))] (TW σ A B) Q := by
  refine Ec_of mo_X8_bestDistance.1 (Nat.le_of_ble_eq_true rfl) ?_
  refine sX8_bestDistance_0 ?_
  unfold bX8_bestDistance_0
  rw [TW_8, TW_9, lgc_gt]
  refine ⟨fun _ => ⟨hd, sp_floorDivL (pos_ne hB) ⟨hd, sp_minL ⟨hd, sp_maxL ?_⟩⟩⟩, fun z => absurd hB z⟩
  dsimp only [kL]
  rw [ds_cl hB]
  exact hQ
theorem rs_eq {lv p : Int32} (hl : -99 ≤ lv.toInt ∧ lv.toInt ≤ 99) (hp : 0 ≤ p.toInt ∧ p.toInt ≤ 99999) : fdI (lv * p) 100 = (dwn (lv.toInt64 * p.toInt64) 100).toInt32 := by
  have b := mul_bd (x := lv.toInt) (y := p.toInt) (a := 99) (b := 99999) hl (by omega) (by omega) (by omega)
  have e1 : (100 : Int32).toInt = 100 := by decide
  have e2 : (100 : Int64).toInt = 100 := by decide
  apply Int32.toInt_inj.mp
  have m1 : (lv * p).toInt = lv.toInt * p.toInt := fb_mulI (by omega) (by omega)
  have m2 : (lv.toInt64 * p.toInt64).toInt = lv.toInt * p.toInt := by
    rw [fb_mulL (by rw [Int32.toInt_toInt64, Int32.toInt_toInt64]; omega) (by rw [Int32.toInt_toInt64, Int32.toInt_toInt64]; omega), Int32.toInt_toInt64, Int32.toInt_toInt64]
  rw [fd_floor (by rw [e1]; omega), e1, m1, Int64.toInt_toInt32, dwn_floor (by rw [e2]; omega), e2, m2, fb_bmod (by omega) (by omega)]
theorem ds_rng (A B : Int64) : 0 ≤ (dsF A B).toInt ∧ (dsF A B).toInt ≤ 99999 := by
  have e0 : (0 : Int64).toInt = 0 := by decide
  have e9 : (99999 : Int64).toInt = 99999 := by decide
  unfold dsF
  split
  · decide
  · split
    · decide
    · rename_i c1 c2
      rw [fa_lt64, e0] at c1
      rw [fa_lt64, e9] at c2
      rw [Int64.toInt_toInt32, fb_bmod (by omega) (by omega)]
      omega
theorem sp_X8_restAt {d k : Nat} {h dd p : Int32} {σ : XH} {S : SS} {Q : XV → XH → Prop} (hd : 1 ≤ d) (hX : CFX σ) (hI : SInv S) (hS : StI S) (hY : TY σ S h dd (CL S h dd)) (hk : k < (CL S h dd).length) (hp : 0 ≤ p.toInt ∧ p.toInt ≤ 99999) (hQ : Q (vI (rsF S h dd ((CL S h dd).getD k 0) p)) σ) : Ec d 0 0 m_X8_restAt [vR (some (9, 0)), vI (nI k), vI p] σ Q := by
  have hl := CL_len hI h dd
  have hg := getD_at hk
  generalize hr : (CL S h dd).getD k 0 = r at hg hQ
  obtain ⟨y1, y2, y3, y4, y5⟩ := hY.2 k r hg
  have hrd := CL_rd hg
  have hsk := (ctL_good _ _ (List.mem_of_getElem? hg)).1
  refine Ec_of mo_X8_restAt.1 (Nat.le_of_ble_eq_true rfl) ?_
  refine sX8_restAt_0 ?_
  unfold bX8_restAt_0
  rw [hY.1, nI_clamp (by omega), y4, y5]
  refine ⟨fun z => absurd z (neg_nn (by omega)), fun _ => ⟨fun _ => ⟨hX.k9_4, vp_at hX.n111 (vp_in_nI (by omega) (by omega)), hX.k9_3, vp_at hX.n110 (vp_in_nI (by omega) (by omega)), hd, sp_floorDivI (by decide) (sX8_restAt_37 ?_)⟩, fun z => absurd ((c_lt (by omega) (by omega)).mpr hk) z⟩⟩
  rw [rs_eq (lv_bd hI hS hrd hsk) hp]
  exact hQ
