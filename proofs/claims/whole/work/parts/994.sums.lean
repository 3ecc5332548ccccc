/-! ===== the sum, pure; how the reference finds it ===== -/
def ltF (S : SS) (h d : Int32) (r : Nat) : Int32 := vlF S h d r - S 145 (nuF S r).toNatClampNeg
def loP (out : Int32) (k : Nat) : Bool := decide (k < 12) && decide ((out >>> (nI k &&& 31)) &&& 1 = 1)
/-- the sum's two parts over the first so many of a list, without those left out -/
def smF (S : SS) (h d : Int32) (L : List Nat) (out : Int32) : Nat → Int64 × Int64
  | 0 => (0, 0)
  | k + 1 => if loP out k = true then smF S h d L out k else ((smF S h d L out k).1 + ((100 * (wtF S h d (L.getD k 0)).toInt64) * (lvF S (L.getD k 0)).toInt64) * (ltF S h d (L.getD k 0)).toInt64, (smF S h d L out k).2 + ((wtF S h d (L.getD k 0)).toInt64 * (lvF S (L.getD k 0)).toInt64) * (lvF S (L.getD k 0)).toInt64)
theorem shr0 : ∀ k, k < 90 → ¬ (((0 : Int32) >>> (nI k &&& 31)) &&& 1 = 1) := by decide +kernel
/-- a heap whose two long cells of the sum are such -/
def LW (σ : XH) (A B : Int64) : XH := wL (wL σ 12 0 57 A) 12 0 58 B
theorem LW_LW (σ : XH) (A B A' B' : Int64) : LW (LW σ A B) A' B' = LW σ A' B' := by
  refine Prod.ext rfl (Prod.ext rfl (Prod.ext rfl (Prod.ext ?_ rfl)))
  refine funext fun t => funext fun p => funext fun j => ?_
  show (if t = 12 ∧ p = 0 ∧ j = 58 then B' else if t = 12 ∧ p = 0 ∧ j = 57 then A' else if t = 12 ∧ p = 0 ∧ j = 58 then B else if t = 12 ∧ p = 0 ∧ j = 57 then A else hl σ t p j) = (if t = 12 ∧ p = 0 ∧ j = 58 then B' else if t = 12 ∧ p = 0 ∧ j = 57 then A' else hl σ t p j)
  by_cases c1 : t = 12 ∧ p = 0 ∧ j = 58
  · rw [if_pos c1, if_pos c1]
  · by_cases c2 : t = 12 ∧ p = 0 ∧ j = 57
    · simp only [if_neg c1, if_pos c2]
    · simp only [if_neg c1, if_neg c2]
theorem LW_a (σ : XH) (A B A' : Int64) : wL (LW σ A B) 12 0 57 A' = LW σ A' B := by
  refine Prod.ext rfl (Prod.ext rfl (Prod.ext rfl (Prod.ext ?_ rfl)))
  refine funext fun t => funext fun p => funext fun j => ?_
  show (if t = 12 ∧ p = 0 ∧ j = 57 then A' else if t = 12 ∧ p = 0 ∧ j = 58 then B else if t = 12 ∧ p = 0 ∧ j = 57 then A else hl σ t p j) = (if t = 12 ∧ p = 0 ∧ j = 58 then B else if t = 12 ∧ p = 0 ∧ j = 57 then A' else hl σ t p j)
  by_cases c1 : t = 12 ∧ p = 0 ∧ j = 57
  · have c2 : ¬ (t = 12 ∧ p = 0 ∧ j = 58) := fun z => by omega
    rw [if_pos c1, if_neg c2, if_pos c1]
  · rw [if_neg c1, if_neg c1, if_neg c1]
theorem LW_b (σ : XH) (A B B' : Int64) : wL (LW σ A B) 12 0 58 B' = LW σ A B' := by
  refine Prod.ext rfl (Prod.ext rfl (Prod.ext rfl (Prod.ext ?_ rfl)))
  refine funext fun t => funext fun p => funext fun j => ?_
  show (if t = 12 ∧ p = 0 ∧ j = 58 then B' else if t = 12 ∧ p = 0 ∧ j = 58 then B else if t = 12 ∧ p = 0 ∧ j = 57 then A else hl σ t p j) = (if t = 12 ∧ p = 0 ∧ j = 58 then B' else if t = 12 ∧ p = 0 ∧ j = 57 then A else hl σ t p j)
  by_cases c1 : t = 12 ∧ p = 0 ∧ j = 58
  · rw [if_pos c1, if_pos c1]
  · rw [if_neg c1, if_neg c1, if_neg c1]
theorem LW_57 (σ : XH) (A B : Int64) : hl (LW σ A B) 12 0 57 = A := by
  show hl (wL (wL σ 12 0 57 A) 12 0 58 B) 12 0 57 = A
  rw [hl_wL_k _ _ _ _ _ (by decide), hl_wL_eq]
theorem LW_58 (σ : XH) (A B : Int64) : hl (LW σ A B) 12 0 58 = B := hl_wL_eq _ _ _ _ _
theorem LW_fi (σ : XH) (A B : Int64) : Fi (tl [12]) σ (LW σ A B) := Fi.wL (Fi.wL (Fi.rf _ _) rfl _ _ _) rfl _ _ _
theorem MI.LW {σ : XH} (h : MI σ) (A B : Int64) : MI (CSpotTimersLaw_law_r3327_87c8ce.LW σ A B) := h
theorem LW_up (σ : XH) (S : SS) (A B : Int64) : CSpotTimersLaw_law_r3327_87c8ce.up (LW σ A B) S = LW (CSpotTimersLaw_law_r3327_87c8ce.up σ S) A B := rfl
/-- the numbers of the counted, at a state that holds them -/
theorem RY.num {S T : SS} {h d : Int32} {L : List Nat} (hI : SInv S) (hF : FS S T) (hY : RY T S h d L) {k r : Nat} (hk : L[k]? = some r) (hr : r < nRd S) : T 141 k = nI r ∧ numF T (nI r) = nuF S r ∧ vp_in (nI r) 90 ∧ (gS T 120 (nI r) = 6 → vp_in (gS T 127 (nI r)) 90) := by
  have hrT : r < nRd T := by
    have : nRd T = nRd S := by unfold nRd; rw [SA.k hF (j := 8) rfl]
    omega
  have rv := rd_vp (hF.inv hI) hrT
  refine ⟨(hY.2 k r hk).1, ?_, rv.1, rv.2⟩
  rw [numF_nu (hF.inv hI) hrT]
  unfold nuF oN
  rw [hF.a (s := 125) (by decide) rfl, hF.a (s := 120) (by decide) rfl, hF.a (s := 127) (by decide) rfl]
theorem CL_rd {S : SS} {h d : Int32} {k r : Nat} (hk : (CL S h d)[k]? = some r) : r < nRd S := ctL_lt _ _ (List.mem_of_getElem? hk)
/-- those counted are of an edge -/
theorem ctL_good {S : SS} {h d : Int32} : ∀ n r, r ∈ ctL S h d n → isSk (S 120 (oN S r)) ∧ ¬ wtF S h d r = 0 ∧ ¬ vlF S h d r = NOi
  | 0, r, hr => by cases hr
  | n + 1, r, hr => by
    unfold ctL at hr
    split at hr
    · rename_i g
      rcases List.mem_append.mp hr with e | e
      · exact ctL_good n r e
      · rw [List.mem_singleton] at e
        rw [e]
        exact ⟨g.2.1, g.2.2.2.2.2.1, g.2.2.2.2.2.2.1⟩
    · exact ctL_good n r hr
theorem lp_fsum {d rc rs : Nat} {h dd out : Int32} {σ : XH} {S T : SS} {Q : XV → XH → Prop} (hd : 1 ≤ d) (hM : MI σ) (hI : SInv S) (hF : FS S T) (hY : RY T S h dd (CL S h dd)) (ho : out = 0 ∨ (CL S h dd).length ≤ 12)
    (h1 : 0 < (smF S h dd (CL S h dd) out (CL S h dd).length).2 → Q (vI 1) (up (LW σ (smF S h dd (CL S h dd) out (CL S h dd).length).1 (smF S h dd (CL S h dd) out (CL S h dd).length).2) T))
    (h0 : ¬ 0 < (smF S h dd (CL S h dd) out (CL S h dd).length).2 → Q (vI 0) (up (LW σ (smF S h dd (CL S h dd) out (CL S h dd).length).1 (smF S h dd (CL S h dd) out (CL S h dd).length).2) T)) :
    ∀ (m k : Nat), k + m = (CL S h dd).length → Ex d rc rs m_X11_findSum 12 [vR (some (12, 0)), vI out, vI (nI k)] [] (up (LW σ (smF S h dd (CL S h dd) out k).1 (smF S h dd (CL S h dd) out k).2) T) Q := by
  have hl := CL_len hI h dd
  intro m
  induction m with
  | zero =>
    intro k hkm
    have ek : k = (CL S h dd).length := by omega
    refine sX11_findSum_12 ?_
    unfold bX11_findSum_12
    have e49 : ∀ σ', hi (up σ' T) 12 0 49 = nI (CL S h dd).length := fun _ => hY.1
    rw [e49, hl_up, LW_58, lgc_gt, ek]
    refine ⟨fun z => ?_, fun _ => ⟨fun z => sX11_findSum_142 ⟨Or.inr rfl, h1 z⟩, fun z => sX11_findSum_142 ⟨Or.inl rfl, h0 z⟩⟩⟩
    have := (c_lt (by omega) (by omega)).mp z
    omega
  | succ m ih =>
    intro k hkm
    have hk : k < (CL S h dd).length := by omega
    have e49 : ∀ σ', hi (up σ' T) 12 0 49 = nI (CL S h dd).length := fun _ => hY.1
    have f122 : ∀ A B, (A, B) = smF S h dd (CL S h dd) out (k + 1) → Ex d rc rs m_X11_findSum 122 [vR (some (12, 0)), vI out, vI (nI k)] [] (up (LW σ A B) T) Q := fun A B e => by
      refine sX11_findSum_122 ?_
      unfold bX11_findSum_122
      have := ih (k + 1) (by omega)
      rw [← e] at this
      rw [nI_1]
      exact this
    refine sX11_findSum_12 ?_
    unfold bX11_findSum_12
    rw [e49]
    have f38 : loP out k = false → Ex d rc rs m_X11_findSum 38 [vR (some (12, 0)), vI out, vI (nI k)] [] (up (LW σ (smF S h dd (CL S h dd) out k).1 (smF S h dd (CL S h dd) out k).2) T) Q := fun z => by
      have hg := getD_at hk
      generalize hr : (CL S h dd).getD k 0 = r at hg
      have hrd := CL_rd hg
      obtain ⟨y1, y2, y3, y4⟩ := hY.2 k r hg
      obtain ⟨n1, n2, n3, n4⟩ := hY.num hI hF hg hrd
      have hsk := (ctL_good _ _ (List.mem_of_getElem? hg)).1
      obtain ⟨nn, nn1, nn4, en, enn⟩ := nu_at hI hrd hsk
      have x141 : ∀ σ', hi (up σ' T) 141 0 k = nI r := fun _ => y1
      have x142 : ∀ σ', hi (up σ' T) 142 0 k = wtF S h dd r := fun _ => y2
      have x143 : ∀ σ', hi (up σ' T) 143 0 k = vlF S h dd r := fun _ => y3
      have x144 : ∀ σ', hi (up σ' T) 144 0 k = lvF S r := fun _ => y4
      have x145 : ∀ σ', hi (up σ' T) 145 0 (nuF S r).toNatClampNeg = S 145 (nuF S r).toNatClampNeg := fun _ => by
        rw [hi_up _ _ rfl, hF.a (by decide) rfl]
      have es : smF S h dd (CL S h dd) out (k + 1) = ((smF S h dd (CL S h dd) out k).1 + ((100 * (wtF S h dd r).toInt64) * (lvF S r).toInt64) * (ltF S h dd r).toInt64, (smF S h dd (CL S h dd) out k).2 + ((wtF S h dd r).toInt64 * (lvF S r).toInt64) * (lvF S r).toInt64) := by
        show (if loP out k = true then _ else _) = _
        rw [if_neg (by rw [z]; decide), hr]
      refine sX11_findSum_38 ?_
      unfold bX11_findSum_38
      rw [nI_clamp (by omega), x141]
      refine ⟨hM.r142, vp_at hM.n142 (vp_in_nI (by omega) (by omega)), hM.r144, vp_at hM.n144 (vp_in_nI (by omega) (by omega)), hM.r143, vp_at hM.n143 (vp_in_nI (by omega) (by omega)), hM.r145, hM.r141, vp_at hM.n141 (vp_in_nI (by omega) (by omega)), hd, sp_X11_numberFor (by omega) (hM.LW _ _) n3 n4 ?_⟩
      rw [n2]
      dsimp only [kI]
      rw [x142, x143, x144, x145, hl_up, LW_57]
      refine ⟨vp_at hM.n145 (by rw [en]; exact vp_in_nI (by omega) (by omega)), ?_⟩
      intro g1 e1
      rw [wL_up, LW_a] at e1
      rw [e1]
      rw [x142, x144, hl_up, LW_58]
      refine ⟨hM.r142, vp_at hM.n142 (vp_in_nI (by omega) (by omega)), hM.r144, vp_at hM.n144 (vp_in_nI (by omega) (by omega)), hM.r144, vp_at hM.n144 (vp_in_nI (by omega) (by omega)), ?_⟩
      intro g2 e2
      rw [wL_up, LW_b] at e2
      rw [e2]
      exact f122 _ _ es.symm
    have nob : ¬ k < 12 → ¬ (out >>> (nI k &&& 31)) &&& 1 = 1 := fun q => by
      rcases ho with e | e
      · rw [e]
        exact shr0 k (by omega)
      · omega
    have lo0 : ¬ (out >>> (nI k &&& 31)) &&& 1 = 1 → loP out k = false := fun z => by
      unfold loP
      rw [decide_eq_false z, Bool.and_false]
    refine ⟨fun _ => ⟨fun _ => ⟨fun z => ?_, fun z => f38 (lo0 z)⟩, fun c => f38 (lo0 (nob (fun q => c ((c_lt (n := k) (N := 31) (by omega) (by omega)).mpr (by omega)))))⟩, fun z => absurd ((c_lt (by omega) (by omega)).mpr hk) z⟩
    have hk12 : k < 12 := Classical.byContradiction fun q => nob q z
    refine f122 _ _ ?_
    have e : loP out k = true := by
      unfold loP
      rw [decide_eq_true z, decide_eq_true hk12]
      rfl
    show _ = (if loP out k = true then _ else _)
    rw [if_pos e]
abbrev smA (S : SS) (h d out : Int32) : Int64 × Int64 := smF S h d (CL S h d) out (CL S h d).length
theorem sp_X11_findSum {d : Nat} {h dd out : Int32} {σ : XH} {S T : SS} {Q : XV → XH → Prop} (hd : 1 ≤ d) (hM : MI σ) (hI : SInv S) (hF : FS S T) (hY : RY T S h dd (CL S h dd)) (ho : out = 0 ∨ (CL S h dd).length ≤ 12)
    (h1 : 0 < (smA S h dd out).2 → Q (vI 1) (up (LW σ (smA S h dd out).1 (smA S h dd out).2) T))
    (h0 : ¬ 0 < (smA S h dd out).2 → Q (vI 0) (up (LW σ (smA S h dd out).1 (smA S h dd out).2) T)) : Ec d 0 0 m_X11_findSum [vR (some (12, 0)), vI out] (up σ T) Q := by
  refine Ec_of mo_X11_findSum.1 (Nat.le_of_ble_eq_true rfl) ?_
  refine sX11_findSum_0 ?_
  intro g1 e1 g2 e2
  rw [e1] at e2
  have e2' : g2 = up (LW σ 0 0) T := e2
  rw [e2']
  exact lp_fsum hd hM hI hF hY ho h1 h0 (CL S h dd).length 0 (by omega)
/-- the distance out of the sum's parts -/
def dsF (A B : Int64) : Int32 := if dwn A B < 0 then 0 else if 99999 < dwn A B then 99999 else (dwn A B).toInt32
theorem pos_ne {B : Int64} (h : 0 < B) : ¬ B = 0 := fun z => by
  rw [z] at h
  exact absurd h (by decide)
theorem sp_X11_distanceOf {d : Nat} {A B : Int64} {σ : XH} {T : SS} {Q : XV → XH → Prop} (hd : 1 ≤ d) (hB : 0 < B) (hQ : Q (vI (dsF A B)) (up (LW σ A B) T)) : Ec d 0 0 m_X11_distanceOf [vR (some (12, 0))] (up (LW σ A B) T) Q := by
  unfold dsF at hQ
  refine Ec_of mo_X11_distanceOf.1 (Nat.le_of_ble_eq_true rfl) ?_
  refine sX11_distanceOf_0 ?_
  unfold bX11_distanceOf_0
  rw [hl_up, LW_57, LW_58]
  refine ⟨hd, sp_X11_down (by omega) (pos_ne hB) ?_⟩
  dsimp only [kL]
  rw [lgc_lt, lgc_gt]
  refine ⟨fun z => sX11_distanceOf_38 ?_, fun z => ⟨fun z2 => sX11_distanceOf_38 ?_, fun z2 => sX11_distanceOf_38 ?_⟩⟩
  · rw [if_pos z] at hQ; exact hQ
  · rw [if_neg z, if_pos z2] at hQ; exact hQ
  · rw [if_neg z, if_neg z2] at hQ; exact hQ
/-- the rest of a counted one for a distance -/
def rsF (S : SS) (h d : Int32) (r : Nat) (p : Int32) : Int32 := ltF S h d r - (dwn ((lvF S r).toInt64 * p.toInt64) 100).toInt32
theorem sp_X11_restOf {d k : Nat} {h dd p : Int32} {σ : XH} {S T : SS} {Q : XV → XH → Prop} (hd : 1 ≤ d) (hM : MI σ) (hI : SInv S) (hF : FS S T) (hY : RY T S h dd (CL S h dd)) (hk : k < (CL S h dd).length) (hQ : Q (vI (rsF S h dd ((CL S h dd).getD k 0) p)) (up σ T)) : Ec d 0 0 m_X11_restOf [vR (some (12, 0)), vI (nI k), vI p] (up σ T) Q := by
  have hl := CL_len hI h dd
  have hg := getD_at hk
  generalize hr : (CL S h dd).getD k 0 = r at hg hQ
  have hrd := CL_rd hg
  obtain ⟨y1, y2, y3, y4⟩ := hY.2 k r hg
  obtain ⟨n1, n2, n3, n4⟩ := hY.num hI hF hg hrd
  have hsk := (ctL_good _ _ (List.mem_of_getElem? hg)).1
  obtain ⟨nn, nn1, nn4, en, enn⟩ := nu_at hI hrd hsk
  have x141 : hi (up σ T) 141 0 k = nI r := y1
  have x143 : hi (up σ T) 143 0 k = vlF S h dd r := y3
  have x144 : hi (up σ T) 144 0 k = lvF S r := y4
  have x145 : hi (up σ T) 145 0 (nuF S r).toNatClampNeg = S 145 (nuF S r).toNatClampNeg := by
    rw [hi_up _ _ rfl, hF.a (by decide) rfl]
  refine Ec_of mo_X11_restOf.1 (Nat.le_of_ble_eq_true rfl) ?_
  refine sX11_restOf_0 ?_
  unfold bX11_restOf_0
  rw [nI_clamp (by omega), x141]
  refine ⟨hM.r143, vp_at hM.n143 (vp_in_nI (by omega) (by omega)), hM.r145, hM.r141, vp_at hM.n141 (vp_in_nI (by omega) (by omega)), hd, sp_X11_numberFor (by omega) hM n3 n4 ?_⟩
  rw [n2]
  dsimp only [kI]
  rw [x144]
  refine ⟨vp_at hM.n145 (by rw [en]; exact vp_in_nI (by omega) (by omega)), hM.r144, vp_at hM.n144 (vp_in_nI (by omega) (by omega)), hd, sp_X11_down (by omega) (by decide) ?_⟩
  dsimp only [kL]
  rw [x143, x145]
  exact hQ
