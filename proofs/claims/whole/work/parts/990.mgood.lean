/-! ===== what a house counts on a day, pure; how the reference finds it ===== -/
abbrev ctX (S : SS) (h d : Int32) : Int32 := ruF S h d (nRu S)
abbrev ctR (S : SS) (h d : Int32) : RT := ruR S (ctX S h d)
def vlF (S : SS) (h d : Int32) (r : Nat) : Int32 := asO S ((ctR S h d).1 32) (nI r)
def wtF (S : SS) (h d : Int32) (r : Nat) : Int32 := (ctR S h d).1 (100 + (S 122 r).toNatClampNeg)
def nuF (S : SS) (r : Nat) : Int32 := S 125 (oN S r)
def stF (S : SS) (r : Nat) : Nat := (S 118 (S 121 r).toNatClampNeg).toNatClampNeg
def lvF (S : SS) (r : Nat) : Int32 := S 146 (4 * stF S r + (nuF S r).toNatClampNeg - 1)
abbrev goodP (S : SS) (h d : Int32) (L : List Nat) (r : Nat) : Prop := ¬ hasF S h (nI r) d (nLe S) = 0 ∧ isSk (S 120 (oN S r)) ∧ ¬ (hasF S h (nI r) d (nLe S) = 2 ∧ (ctR S h d).1 36 = 0) ∧ ¬ (S 120 r = 6 ∧ ((ctR S h d).1 35 = 0 ∨ (S 127 r).toNatClampNeg ∈ L)) ∧ ¬ (((ctR S h d).1 31 >>> (nuF S r &&& 31)) &&& 1 = 0) ∧ ¬ wtF S h d r = 0 ∧ ¬ vlF S h d r = NOi ∧ struck (evF (fcF S r (vlF S h d r))) (ctR S h d).2 = false
/-- those counted of the first so many readings -/
def ctL (S : SS) (h d : Int32) : Nat → List Nat
  | 0 => []
  | r + 1 => if goodP S h d (ctL S h d r) r then ctL S h d r ++ [r] else ctL S h d r
theorem ctL_lt {S : SS} {h d : Int32} : ∀ n r, r ∈ ctL S h d n → r < n
  | 0, r, hr => by cases hr
  | n + 1, r, hr => by
    unfold ctL at hr
    split at hr
    · rcases List.mem_append.mp hr with e | e
      · have := ctL_lt n r e
        omega
      · rw [List.mem_singleton] at e
        omega
    · have := ctL_lt n r hr
      omega
theorem ctL_len {S : SS} {h d : Int32} : ∀ n, (ctL S h d n).length ≤ n
  | 0 => Nat.le_refl 0
  | n + 1 => by
    have := ctL_len (S := S) (h := h) (d := d) n
    unfold ctL
    split
    · rw [List.length_append]
      show _ + 1 ≤ n + 1
      omega
    · omega
def FS (S T : SS) : Prop := SA (tl [138, 139, 140, 141, 142, 143, 144, 300, 301]) (tl [31, 32, 33, 34, 35, 36, 37, 40, 41, 42, 43, 46, 47, 48, 49]) S T
def JS (S T : SS) : Prop := SA (tl [138, 139, 140, 300]) (tl [31, 32, 33, 34, 35, 36, 37, 40, 41, 42, 43, 46, 47, 48]) S T
theorem FS.rf (S : SS) : FS S S := SA.rf _ _ S
theorem HS.js {S T : SS} (h : HS S T) : JS S T := SA.sub h (tl_sub (by decide)) (fun _ h => h)
theorem JS.fs {S T : SS} (h : JS S T) : FS S T := SA.sub h (tl_sub (by decide)) (tl_sub (by decide))
theorem FS.trans {a b c : SS} (h : FS a b) (k : FS b c) : FS a c := SA.trans h k
theorem hasF_cg {S S' : SS} (h : ∀ s, s ∈ [118, 121, 128, 129, 130, 131, 132, 133] → S' s = S s) (a r d : Int32) : ∀ k, hasF S' a r d k = hasF S a r d k
  | 0 => rfl
  | k + 1 => by
    unfold hasF
    rw [hasF_cg h a r d k]
    simp only [gS, h 118 (by decide), h 121 (by decide), h 128 (by decide), h 129 (by decide), h 130 (by decide), h 131 (by decide), h 132 (by decide), h 133 (by decide)]
theorem asO_cg {S S' : SS} (h : ∀ s, s ∈ [116, 117, 118, 119, 120, 121, 123, 124, 127, 129] → S' s = S s) (h8 : S' 12 8 = S 12 8) (b r : Int32) : asO S' b r = asO S b r := by
  unfold asO
  simp only [gS, seO_cg h h8, h 120 (by decide)]
theorem FS.a {S T : SS} (h : FS S T) {s : Nat} (h1 : s ≠ 12) (h2 : tl [138, 139, 140, 141, 142, 143, 144, 300, 301] s = false) : T s = S s := SA.a h h1 h2
theorem FS.has {S T : SS} (h : FS S T) (a r d : Int32) : hasF T a r d (nLe T) = hasF S a r d (nLe S) := by
  have e : nLe T = nLe S := by unfold nLe; rw [SA.k h (j := 20) rfl]
  rw [e]
  refine hasF_cg (fun s hs => ?_) a r d _
  exact h.a (by revert hs; revert s; decide) (by revert hs; revert s; decide)
theorem FS.as {S T : SS} (h : FS S T) (b r : Int32) : asO T b r = asO S b r := by
  refine asO_cg (fun s hs => ?_) (SA.k h (j := 8) rfl) b r
  exact h.a (by revert hs; revert s; decide) (by revert hs; revert s; decide)
theorem FS.inv {S T : SS} (h : FS S T) (hI : SInv S) : SInv T := hI.sa h (by decide) (by decide)
theorem FS.rui {S T : SS} (h : FS S T) (hU : RuI S) : RuI T := by
  have a136 : T 136 = S 136 := h.a (by decide) rfl
  have a137 : T 137 = S 137 := h.a (by decide) rfl
  have e : nRu T = nRu S := by unfold nRu; rw [SA.k h (j := 25) rfl]
  unfold RuI
  unfold tx nTx
  rw [e, a136, a137]
  exact hU
theorem FS.rur {S T : SS} (h : FS S T) (x : Int32) : ruR T x = ruR S x := by
  have a136 : T 136 = S 136 := h.a (by decide) rfl
  have a137 : T 137 = S 137 := h.a (by decide) rfl
  unfold ruR tx nTx
  rw [a136, a137]
theorem evF_cg {f g : Nat → Int32} (h : ∀ k, k < 5 → f k = g k) : evF f = evF g := funext fun sg => funext fun v => by
  unfold evF
  rw [h 0 (by omega), h 1 (by omega), h 2 (by omega), h 3 (by omega), h 4 (by omega)]
theorem numF_nu {S : SS} (hI : SInv S) {r : Nat} (hr : r < nRd S) : numF S (nI r) = nuF S r := by
  have h90 := hI.l8
  show (if gS S 120 (nI r) = 6 then gS S 125 (gS S 127 (nI r)) else gS S 125 (nI r)) = S 125 (if S 120 r = 6 then (S 127 r).toNatClampNeg else r)
  rw [gS_nI S 120 (by omega), gS_nI S 127 (by omega), gS_nI S 125 (by omega)]
  split
  · rfl
  · rfl
/-- of a reading, for counting -/
theorem rd_vp {S : SS} (hI : SInv S) {r : Nat} (hr : r < nRd S) : vp_in (nI r) 90 ∧ (gS S 120 (nI r) = 6 → vp_in (gS S 127 (nI r)) 90) := by
  have h90 := hI.l8
  refine ⟨vp_in_nI (by omega) (by omega), fun h6 => ?_⟩
  rw [gS_nI S 120 (by omega)] at h6
  rw [gS_nI S 127 (by omega)]
  exact vp_mono ((hI.r hr).2.2.2.2.1 h6).1 (by omega)
theorem sp_X11_isGood {d r : Nat} {h dd : Int32} {L : List Nat} {σ : XH} {S T : SS} {Q : XV → XH → Prop} (hd : 11 ≤ d) (hM : MI σ) (hI : SInv S) (hU : RuI S) (hr : r < nRd S) (hF : FS S T) (hL : T 12 49 = nI L.length) (hL90 : L.length < 90) (h301 : ∀ q, q < r → (T 301 q = 0 ↔ ¬ q ∈ L))
    (q1 : goodP S h dd L r → ∀ T', FS S T' → T' 12 49 = nI L.length → T' 301 = T 301 → (∀ k, k < L.length → T' 141 k = T 141 k ∧ T' 142 k = T 142 k ∧ T' 143 k = T 143 k ∧ T' 144 k = T 144 k) → T' 141 L.length = nI r → T' 142 L.length = wtF S h dd r → T' 143 L.length = vlF S h dd r → T' 144 L.length = lvF S r → Q (vI 1) (up σ T'))
    (q0 : ¬ goodP S h dd L r → ∀ T', JS T T' → Q (vI 0) (up σ T')) : Ec d 0 0 m_X11_isGood [vR (some (12, 0)), vI h, vI dd, vI (nI r), vI (ctX S h dd)] (up σ T) Q := by
  have h90 := hI.l8
  have hIT := hF.inv hI
  have hUT := hF.rui hU
  have hrT : r < nRd T := by
    have : nRd T = nRd S := by unfold nRd; rw [SA.k hF (j := 8) rfl]
    omega
  have vr : vp_in (nI r) (nRd T) := vp_in_nI hrT (by have := hIT.l8; omega)
  have hxx : ctX S h dd = -1 ∨ ∃ j, j < nRu S ∧ ctX S h dd = nI j := ruF_in S h dd (nRu S) (by have := hI.l25; omega)
  have eru : ∀ {T' : SS}, FS S T' → nRu T' = nRu S := fun {T'} f => by unfold nRu; rw [SA.k f (j := 25) rfl]
  have v120 : vp_in (nI r) (hn (up σ T) 120 0) := vp_at hM.n120 (vp_in_nI (by omega) (by omega))
  have x120 : ∀ {T' : SS}, FS S T' → hi (up σ T') 120 0 (nI r).toNatClampNeg = S 120 r := fun {T'} f => by
    rw [nI_clamp (by omega), hi_up _ _ rfl, f.a (by decide) rfl]
  have f38 : ¬ goodP S h dd L r → Ex d 0 0 m_X11_isGood 38 [vU, vU, vU, vU, vU, vU, vU] [] (up σ T) Q := fun z => sX11_isGood_38 ⟨Or.inl rfl, q0 z T (SA.rf _ _ T)⟩
  refine Ec_of mo_X11_isGood.1 (Nat.le_of_ble_eq_true rfl) ?_
  refine sX11_isGood_0 ?_
  unfold bX11_isGood_0
  refine ⟨by omega, sp_X11_hasIt hM hIT vr ?_⟩
  rw [hF.has]
  refine ⟨fun z => f38 (fun g => g.1 z), fun hh0 => ⟨hM.r120, v120, by omega, ?_⟩⟩
  rw [x120 hF]
  -- behind the first test
  have f40 : (isSk (S 120 r) ∨ S 120 r = 6) → Ex d 0 0 m_X11_isGood 40 [vR (some (12, 0)), vU, vU, vI (nI r), vI (ctX S h dd), vI (hasF S h (nI r) dd (nLe S)), vU] [] (up σ T) Q := fun hk => by
    refine sX11_isGood_40 ⟨by omega, sp_X11_look (ev := evT T) (by omega) hM hIT hUT (by rw [eru hF]; exact hxx) rfl (fun T1 t1 m1 => ?_)⟩
    rw [hF.rur] at m1
    have hF1 : FS S T1 := hF.trans t1.js.fs
    have j1 : JS T T1 := t1.js
    have hI1 := hF1.inv hI
    obtain ⟨k1, k2, k3⟩ := id m1
    have y36 : hi (up σ T1) 12 0 36 = (ctR S h dd).1 36 := k1 36 (by decide)
    have y35 : hi (up σ T1) 12 0 35 = (ctR S h dd).1 35 := k1 35 (by decide)
    have y31 : hi (up σ T1) 12 0 31 = (ctR S h dd).1 31 := k1 31 (by decide)
    have f91 : ¬ goodP S h dd L r → Ex d 0 0 m_X11_isGood 91 [vU, vU, vU, vU, vU, vU, vU] [] (up σ T1) Q := fun z => sX11_isGood_91 ⟨Or.inl rfl, q0 z T1 j1⟩
    have f131 : ¬ goodP S h dd L r → Ex d 0 0 m_X11_isGood 131 [vU, vU, vU, vU, vU, vU, vU] [] (up σ T1) Q := fun z => sX11_isGood_131 ⟨Or.inl rfl, q0 z T1 j1⟩
    have rv := rd_vp hI1 (r := r) (by
      have : nRd T1 = nRd S := by unfold nRd; rw [SA.k hF1 (j := 8) rfl]
      omega)
    have enum : numF T1 (nI r) = nuF S r := by
      rw [numF_nu hI1 (by
        have : nRd T1 = nRd S := by unfold nRd; rw [SA.k hF1 (j := 8) rfl]
        omega)]
      unfold nuF oN
      rw [hF1.a (s := 125) (by decide) rfl, hF1.a (s := 120) (by decide) rfl, hF1.a (s := 127) (by decide) rfl]
    -- behind the second
    have f93 : ¬ (hasF S h (nI r) dd (nLe S) = 2 ∧ (ctR S h dd).1 36 = 0) → ¬ (S 120 r = 6 ∧ ((ctR S h dd).1 35 = 0 ∨ (S 127 r).toNatClampNeg ∈ L)) → Ex d 0 0 m_X11_isGood 93 [vR (some (12, 0)), vU, vU, vI (nI r), vI (ctX S h dd), vU, vU] [] (up σ T1) Q := fun p1 p2 => by
      refine sX11_isGood_93 ⟨by omega, sp_X11_numberFor (by omega) hM rv.1 rv.2 ?_⟩
      rw [enum]
      have hsk : ¬ nuF S r < 1 ↔ isSk (S 120 (oN S r)) := by
        have hoN := oN_lt hI hr
        have hro := hI.r hoN
        constructor
        · intro z
          rcases Classical.em (isSk (S 120 (oN S r))) with q | q
          · exact q
          · exfalso
            apply z
            have := hro.2.2.2.2.2.2.2.2.2.1 q
            show S 125 (oN S r) < 1
            rw [this]
            decide
        · intro q z
          have := hro.2.2.2.2.2.2.2.2.1 q
          have z' : S 125 (oN S r) < 1 := z
          rw [inP_iff] at this
          exact this.1 z'
      refine ⟨fun z => f131 (fun g => hsk.mpr g.2.1 z), fun z => ⟨by omega, sp_X11_numberFor (by omega) hM rv.1 rv.2 ?_⟩⟩
      have hsk' := hsk.mp z
      rw [enum]
      dsimp only [kI]
      rw [y31]
      refine ⟨fun z2 => f131 (fun g => g.2.2.2.2.1 z2), fun z2 => ?_⟩
      have x122 : hi (up σ T1) 122 0 (nI r).toNatClampNeg = S 122 r := by
        rw [nI_clamp (by omega), hi_up _ _ rfl, hF1.a (by decide) rfl]
      have hh := (hI.r hr).2.2.1
      have vh : vp_in (S 122 r) 6 := inP_c hh (by decide) (by decide)
      have hlt6 := vp_lt vh
      have x138 : hi (up σ T1) 138 0 (S 122 r).toNatClampNeg = wtF S h dd r := k2 _ hlt6
      have v122 : vp_in (nI r) (hn (up σ T1) 122 0) := vp_at hM.n122 (vp_in_nI (by omega) (by omega))
      rw [x122, x138]
      refine ⟨hM.r138, hM.r122, v122, vp_at hM.n138 vh, fun z3 => f131 (fun g => g.2.2.2.2.2.1 z3), fun z3 => ⟨by omega, ?_⟩⟩
      have vr1 : vp_in (nI r) (nRd T1) := vp_in_nI (by
        have : nRd T1 = nRd S := by unfold nRd; rw [SA.k hF1 (j := 8) rfl]
        omega) (by have := hI1.l8; omega)
      refine sp_X11_asOf (by omega) hM hI1 vr1 ?_
      have e32 : T1 12 32 = (ctR S h dd).1 32 := k1 32 (by decide)
      rw [e32, hF1.as]
      have ev : asO S ((ctR S h dd).1 32) (nI r) = vlF S h dd r := rfl
      rw [ev]
      refine ⟨fun z4 => ⟨Or.inl rfl, q0 (fun g => g.2.2.2.2.2.2.1 z4) T1 j1⟩, fun z4 => ?_⟩
      refine ⟨hM.r139, hM.r122, v122, vp_at hM.n139 (vp_in_nI (n := 0) (by omega) (by omega)), ?_⟩
      intro g1 e1
      rw [x122, wI_up _ _ rfl] at e1
      have e1' : g1 = up σ (up2 T1 139 0 (S 122 r)) := e1
      rw [e1']
      have a121 : ∀ X : SS, (up2 X 139 0 (S 122 r)) 121 = X 121 := fun X => up2_s _ _ _ (by decide)
      have a118 : ∀ X : SS, (up2 X 139 0 (S 122 r)) 118 = X 118 := fun X => up2_s _ _ _ (by decide)
      have x121 : hi (up σ (up2 T1 139 0 (S 122 r))) 121 0 (nI r).toNatClampNeg = S 121 r := by
        rw [nI_clamp (by omega), hi_up _ _ rfl, a121, hF1.a (by decide) rfl]
      have hcl := (hI.r hr).2.1
      have hcl12 := vp_mono hcl (show nCl S ≤ 12 from hI.l2)
      have x118 : hi (up σ (up2 T1 139 0 (S 122 r))) 118 0 (S 121 r).toNatClampNeg = S 118 (S 121 r).toNatClampNeg := by
        rw [hi_up _ _ rfl, a118, hF1.a (by decide) rfl]
      rw [x121, x118]
      refine ⟨hM.r139, hM.r118, hM.r121, vp_at hM.n121 (vp_in_nI (by omega) (by omega)), vp_at hM.n118 hcl12, vp_at hM.n139 (vp_in_nI (n := 1) (by omega) (by omega)), ?_⟩
      intro g2 e2
      rw [wI_up _ _ rfl] at e2
      have e2' : g2 = up σ (up2 (up2 T1 139 0 (S 122 r)) 139 1 (S 118 (S 121 r).toNatClampNeg)) := e2
      rw [e2']
      have hF2 : FS S (up2 (up2 T1 139 0 (S 122 r)) 139 1 (S 118 (S 121 r).toNatClampNeg)) := SA.wa (SA.wa hF1 0 _ (by decide) rfl) 1 _ (by decide) rfl
      have hJ2 : JS T (up2 (up2 T1 139 0 (S 122 r)) 139 1 (S 118 (S 121 r).toNatClampNeg)) := SA.wa (SA.wa j1 0 _ (by decide) rfl) 1 _ (by decide) rfl
      have w2 : ∀ k, (up2 (up2 T1 139 0 (S 122 r)) 139 1 (S 118 (S 121 r).toNatClampNeg)) 139 k = if k = 1 then S 118 (S 121 r).toNatClampNeg else if k = 0 then S 122 r else T1 139 k := fun k => by rw [up2_at, up2_at]
      generalize up2 (up2 T1 139 0 (S 122 r)) 139 1 (S 118 (S 121 r).toNatClampNeg) = T2 at *
      have rv2 := rd_vp (hF2.inv hI) (r := r) (by
        have : nRd T2 = nRd S := by unfold nRd; rw [SA.k hF2 (j := 8) rfl]
        omega)
      have enum2 : numF T2 (nI r) = nuF S r := by
        rw [numF_nu (hF2.inv hI) (by
          have : nRd T2 = nRd S := by unfold nRd; rw [SA.k hF2 (j := 8) rfl]
          omega)]
        unfold nuF oN
        rw [hF2.a (s := 125) (by decide) rfl, hF2.a (s := 120) (by decide) rfl, hF2.a (s := 127) (by decide) rfl]
      refine ⟨hM.r139, by omega, sp_X11_numberFor (by omega) hM rv2.1 rv2.2 ?_⟩
      rw [enum2]
      refine ⟨vp_at hM.n139 (vp_in_nI (n := 2) (by omega) (by omega)), ?_⟩
      intro g3 e3
      rw [wI_up _ _ rfl] at e3
      have e3' : g3 = up σ (up2 T2 139 2 (nuF S r)) := e3
      rw [e3']
      have hF3 : FS S (up2 T2 139 2 (nuF S r)) := SA.wa hF2 2 _ (by decide) rfl
      rw [x120 hF3]
      refine ⟨hM.r139, hM.r120, vp_at hM.n120 (vp_in_nI (by omega) (by omega)), vp_at hM.n139 (vp_in_nI (n := 3) (by omega) (by omega)), ?_⟩
      intro g4 e4
      rw [wI_up _ _ rfl] at e4
      have e4' : g4 = up σ (up2 (up2 T2 139 2 (nuF S r)) 139 3 (S 120 r)) := e4
      rw [e4']
      refine sX11_isGood_202 ⟨hM.r139, vp_at hM.n139 (vp_in_nI (n := 4) (by omega) (by omega)), ?_⟩
      intro g5 e5
      rw [wI_up _ _ rfl] at e5
      have e5' : g5 = up σ (up2 (up2 (up2 T2 139 2 (nuF S r)) 139 3 (S 120 r)) 139 4 (vlF S h dd r)) := e5
      rw [e5']
      have hF5 : FS S (up2 (up2 (up2 T2 139 2 (nuF S r)) 139 3 (S 120 r)) 139 4 (vlF S h dd r)) := SA.wa (SA.wa (SA.wa hF2 2 _ (by decide) rfl) 3 _ (by decide) rfl) 4 _ (by decide) rfl
      have hJ5 : JS T (up2 (up2 (up2 T2 139 2 (nuF S r)) 139 3 (S 120 r)) 139 4 (vlF S h dd r)) := SA.wa (SA.wa (SA.wa hJ2 2 _ (by decide) rfl) 3 _ (by decide) rfl) 4 _ (by decide) rfl
      have w5 : ∀ k, k < 5 → (up2 (up2 (up2 T2 139 2 (nuF S r)) 139 3 (S 120 r)) 139 4 (vlF S h dd r)) 139 k = fcF S r (vlF S h dd r) k := fun k hk => by
        rw [up2_at, up2_at, up2_at, w2]
        match k, hk with
        | 0, _ => rfl
        | 1, _ => rfl
        | 2, _ => rfl
        | 3, _ => rfl
        | 4, _ => rfl
      have hev : evT (up2 (up2 (up2 T2 139 2 (nuF S r)) 139 3 (S 120 r)) 139 4 (vlF S h dd r)) = evF (fcF S r (vlF S h dd r)) := evF_cg w5
      generalize up2 (up2 (up2 T2 139 2 (nuF S r)) 139 3 (S 120 r)) 139 4 (vlF S h dd r) = T5 at *
      refine ⟨by omega, sp_X11_look (ev := evF (fcF S r (vlF S h dd r))) (by omega) hM (hF5.inv hI) (hF5.rui hU) (by rw [eru hF5]; exact hxx) hev (fun T6 t6 m6 => ?_)⟩
      rw [hF5.rur] at m6
      have hF6 : FS S T6 := hF5.trans t6.js.fs
      have hJ6 : JS T T6 := SA.trans hJ5 t6.js
      obtain ⟨n1, n2, n3⟩ := m6
      have z37 : hi (up σ T6) 12 0 37 = bI (struck (evF (fcF S r (vlF S h dd r))) (ctR S h dd).2) := n3
      have z139 : T6 139 = T5 139 := SA.a t6 (by decide) rfl
      have z49 : T6 12 49 = nI L.length := (SA.k hJ6 (j := 49) rfl).trans hL
      dsimp only [kU]
      rw [z37]
      refine ⟨fun z5 => ?_, fun z5 => ⟨Or.inl rfl, q0 (fun g => ?_) T6 hJ6⟩⟩
      · have hst : struck (evF (fcF S r (vlF S h dd r))) (ctR S h dd).2 = false := by
          cases hb : struck (evF (fcF S r (vlF S h dd r))) (ctR S h dd).2
          · rfl
          · rw [hb] at z5
            exact absurd z5 (by decide)
        have hgood : goodP S h dd L r := ⟨hh0, hsk', p1, p2, z2, z3, z4, hst⟩
        have y49 : hi (up σ T6) 12 0 49 = nI L.length := z49
        rw [y49]
        refine ⟨hM.r141, vp_at hM.n141 (vp_in_nI hL90 (by omega)), ?_⟩
        intro g7 e7
        rw [nI_clamp (by omega), wI_up _ _ rfl] at e7
        rw [e7]
        have s7_12 : ∀ X : SS, (up2 X 141 L.length (nI r)) 12 = X 12 := fun X => up2_s _ _ _ (by decide)
        have y49' : hi (up σ (up2 T6 141 L.length (nI r))) 12 0 49 = nI L.length := by
          rw [hi_up _ _ rfl, s7_12]; exact z49
        have x122' : hi (up σ (up2 T6 141 L.length (nI r))) 122 0 (nI r).toNatClampNeg = S 122 r := by
          rw [nI_clamp (by omega), hi_up _ _ rfl, up2_s _ _ _ (show 122 ≠ 141 by decide), hF6.a (by decide) rfl]
        have x138' : hi (up σ (up2 T6 141 L.length (nI r))) 138 0 (S 122 r).toNatClampNeg = wtF S h dd r := by
          rw [hi_up _ _ rfl, up2_s _ _ _ (show 138 ≠ 141 by decide)]
          exact n2 _ hlt6
        rw [y49', x122', x138']
        refine ⟨hM.r142, hM.r138, hM.r122, vp_at hM.n122 (vp_in_nI (by omega) (by omega)), vp_at hM.n138 vh, vp_at hM.n142 (vp_in_nI hL90 (by omega)), ?_⟩
        intro g8 e8
        rw [nI_clamp (by omega), wI_up _ _ rfl] at e8
        rw [e8]
        have y49'' : hi (up σ (up2 (up2 T6 141 L.length (nI r)) 142 L.length (wtF S h dd r))) 12 0 49 = nI L.length := by
          rw [hi_up _ _ rfl, up2_s _ _ _ (show 12 ≠ 142 by decide), s7_12]; exact z49
        rw [y49'']
        refine ⟨hM.r143, vp_at hM.n143 (vp_in_nI hL90 (by omega)), ?_⟩
        intro g9 e9
        rw [nI_clamp (by omega), wI_up _ _ rfl] at e9
        rw [e9]
        have hF9 : FS S (up2 (up2 (up2 T6 141 L.length (nI r)) 142 L.length (wtF S h dd r)) 143 L.length (vlF S h dd r)) := SA.wa (SA.wa (SA.wa hF6 _ _ (by decide) rfl) _ _ (by decide) rfl) _ _ (by decide) rfl
        have u49 : (up2 (up2 (up2 T6 141 L.length (nI r)) 142 L.length (wtF S h dd r)) 143 L.length (vlF S h dd r)) 12 49 = nI L.length := by
          rw [up2_s _ _ _ (show 12 ≠ 143 by decide), up2_s _ _ _ (show 12 ≠ 142 by decide), s7_12]; exact z49
        have u139 : (up2 (up2 (up2 T6 141 L.length (nI r)) 142 L.length (wtF S h dd r)) 143 L.length (vlF S h dd r)) 139 1 = S 118 (S 121 r).toNatClampNeg := by
          rw [up2_s _ _ _ (show 139 ≠ 143 by decide), up2_s _ _ _ (show 139 ≠ 142 by decide), up2_s _ _ _ (show 139 ≠ 141 by decide), z139, w5 1 (by omega)]
          rfl
        have u301 : (up2 (up2 (up2 T6 141 L.length (nI r)) 142 L.length (wtF S h dd r)) 143 L.length (vlF S h dd r)) 301 = T 301 := by
          rw [up2_s _ _ _ (show 301 ≠ 143 by decide), up2_s _ _ _ (show 301 ≠ 142 by decide), up2_s _ _ _ (show 301 ≠ 141 by decide)]
          exact SA.a hJ6 (by decide) rfl
        have j141 : T6 141 = T 141 := SA.a hJ6 (by decide) rfl
        have j142 : T6 142 = T 142 := SA.a hJ6 (by decide) rfl
        have j143 : T6 143 = T 143 := SA.a hJ6 (by decide) rfl
        have j144 : T6 144 = T 144 := SA.a hJ6 (by decide) rfl
        have u141 : ∀ k, (up2 (up2 (up2 T6 141 L.length (nI r)) 142 L.length (wtF S h dd r)) 143 L.length (vlF S h dd r)) 141 k = if k = L.length then nI r else T 141 k := fun k => by
          rw [up2_s _ _ _ (show 141 ≠ 143 by decide), up2_s _ _ _ (show 141 ≠ 142 by decide), up2_at, j141]
        have u142 : ∀ k, (up2 (up2 (up2 T6 141 L.length (nI r)) 142 L.length (wtF S h dd r)) 143 L.length (vlF S h dd r)) 142 k = if k = L.length then wtF S h dd r else T 142 k := fun k => by
          rw [up2_s _ _ _ (show 142 ≠ 143 by decide), up2_at]
          split
          · rfl
          · rw [up2_s _ _ _ (show 142 ≠ 141 by decide), j142]
        have u143 : ∀ k, (up2 (up2 (up2 T6 141 L.length (nI r)) 142 L.length (wtF S h dd r)) 143 L.length (vlF S h dd r)) 143 k = if k = L.length then vlF S h dd r else T 143 k := fun k => by
          rw [up2_at]
          split
          · rfl
          · rw [up2_s _ _ _ (show 143 ≠ 142 by decide), up2_s _ _ _ (show 143 ≠ 141 by decide), j143]
        have u144 : (up2 (up2 (up2 T6 141 L.length (nI r)) 142 L.length (wtF S h dd r)) 143 L.length (vlF S h dd r)) 144 = T 144 := by
          rw [up2_s _ _ _ (show 144 ≠ 143 by decide), up2_s _ _ _ (show 144 ≠ 142 by decide), up2_s _ _ _ (show 144 ≠ 141 by decide), j144]
        generalize up2 (up2 (up2 T6 141 L.length (nI r)) 142 L.length (wtF S h dd r)) 143 L.length (vlF S h dd r) = T9 at *
        have rv9 := rd_vp (hF9.inv hI) (r := r) (by
          have : nRd T9 = nRd S := by unfold nRd; rw [SA.k hF9 (j := 8) rfl]
          omega)
        have enum9 : numF T9 (nI r) = nuF S r := by
          rw [numF_nu (hF9.inv hI) (by
            have : nRd T9 = nRd S := by unfold nRd; rw [SA.k hF9 (j := 8) rfl]
            omega)]
          unfold nuF oN
          rw [hF9.a (s := 125) (by decide) rfl, hF9.a (s := 120) (by decide) rfl, hF9.a (s := 127) (by decide) rfl]
        refine ⟨hM.r144, hM.r146, hM.r139, vp_at hM.n139 (vp_in_nI (n := 1) (by omega) (by omega)), by omega, sp_X11_numberFor (by omega) hM rv9.1 rv9.2 ?_⟩
        dsimp only [kI]
        have y139 : hi (up σ T9) 139 0 (1 : Int32).toNatClampNeg = S 118 (S 121 r).toNatClampNeg := u139
        have y49 : hi (up σ T9) 12 0 49 = nI L.length := u49
        rw [enum9, y139, y49]
        have hst11 : stF S r < 11 := by
          have := vp_lt (hI.2.2.2.2.2.2.2.2.1 (S 121 r) hcl).1
          have h11 := hI.l1
          show (S 118 (S 121 r).toNatClampNeg).toNatClampNeg < 11
          have e : (gS S 118 (S 121 r)).toNatClampNeg = (S 118 (S 121 r).toNatClampNeg).toNatClampNeg := rfl
          omega
        have est : S 118 (S 121 r).toNatClampNeg = nI (stF S r) := by
          have := (hI.2.2.2.2.2.2.2.2.1 (S 121 r) hcl).1
          exact nI_of_nn (fun z => this (Or.inl z))
        have hnu := (hI.r (oN_lt hI hr)).2.2.2.2.2.2.2.2.1 hsk'
        have hnu4 : ∃ j, 1 ≤ j ∧ j ≤ 4 ∧ nuF S r = nI j := by
          have e : inP (nuF S r) 1 4 := hnu
          rw [inP_iff] at e
          have e1 : (1 : Int32).toInt = 1 := by decide
          have e2 : (4 : Int32).toInt = 4 := by decide
          rw [fa_lt, fa_lt, e1, e2] at e
          refine ⟨(nuF S r).toInt.toNat, by omega, by omega, ?_⟩
          apply Int32.toInt_inj.mp
          rw [nI_toInt (by omega)]
          omega
        obtain ⟨j, hj1, hj4, ej⟩ := hnu4
        have e4s : ∀ s, s < 11 → ∀ j, j < 5 → 1 ≤ j → (4 : Int32) * nI s + nI j - 1 = nI (4 * s + j - 1) := by decide +kernel
        have eix : (4 : Int32) * S 118 (S 121 r).toNatClampNeg + nuF S r - 1 = nI (4 * stF S r + j - 1) := by
          rw [est, ej]
          have ess : (nI (stF S r)).toNatClampNeg = stF S r := nI_clamp (by omega)
          exact e4s _ hst11 j (by omega) hj1
        rw [eix, nI_clamp (by omega), nI_clamp (by omega)]
        have x146 : hi (up σ T9) 146 0 (4 * stF S r + j - 1) = lvF S r := by
          rw [hi_up _ _ rfl, hF9.a (by decide) rfl]
          unfold lvF
          rw [ej, nI_clamp (by omega)]
        rw [x146]
        refine ⟨vp_at hM.n146 (vp_in_nI (by omega) (by omega)), vp_at hM.n144 (vp_in_nI hL90 (by omega)), ?_⟩
        intro g10 e10
        rw [wI_up _ _ rfl] at e10
        rw [e10]
        refine sX11_isGood_296 ⟨Or.inr rfl, ?_⟩
        refine q1 hgood _ (SA.wa hF9 _ _ (by decide) rfl) ?_ ?_ (fun k hk => ⟨?_, ?_, ?_, ?_⟩) ?_ ?_ ?_ (up2_eq _ _ _ _)
        · rw [up2_s _ _ _ (show 12 ≠ 144 by decide)]; exact u49
        · rw [up2_s _ _ _ (show 301 ≠ 144 by decide)]; exact u301
        · rw [up2_s _ _ _ (show 141 ≠ 144 by decide), u141, if_neg (by omega)]
        · rw [up2_s _ _ _ (show 142 ≠ 144 by decide), u142, if_neg (by omega)]
        · rw [up2_s _ _ _ (show 143 ≠ 144 by decide), u143, if_neg (by omega)]
        · rw [up2_at, if_neg (by omega), u144]
        · rw [up2_s _ _ _ (show 141 ≠ 144 by decide), u141, if_pos rfl]
        · rw [up2_s _ _ _ (show 142 ≠ 144 by decide), u142, if_pos rfl]
        · rw [up2_s _ _ _ (show 143 ≠ 144 by decide), u143, if_pos rfl]
      · have := g.2.2.2.2.2.2.2
        rw [this] at z5
        exact z5 rfl
    have f59 : ¬ (hasF S h (nI r) dd (nLe S) = 2 ∧ (ctR S h dd).1 36 = 0) → Ex d 0 0 m_X11_isGood 59 [vR (some (12, 0)), vU, vU, vI (nI r), vI (ctX S h dd), vU, vU] [] (up σ T1) Q := fun p1 => by
      refine sX11_isGood_59 ⟨hM.r120, vp_at hM.n120 (vp_in_nI (by omega) (by omega)), ?_⟩
      rw [x120 hF1, y35]
      refine ⟨fun z6 => ⟨fun z => f91 (fun g => g.2.2.2.1 ⟨z6, Or.inl z⟩), fun z => ⟨hM.r301, hM.r127, vp_at hM.n127 (vp_in_nI (by omega) (by omega)), ?_⟩⟩, fun z6 => f93 p1 (fun q => z6 q.1)⟩
      have x127 : hi (up σ T1) 127 0 (nI r).toNatClampNeg = S 127 r := by
        rw [nI_clamp (by omega), hi_up _ _ rfl, hF1.a (by decide) rfl]
      rw [x127]
      have hsr := ((hI.r hr).2.2.2.2.1 z6).1
      have hsl := vp_lt hsr
      have x301 : hi (up σ T1) 301 0 (S 127 r).toNatClampNeg = T 301 (S 127 r).toNatClampNeg := by
        rw [hi_up _ _ rfl, SA.a j1 (by decide) rfl]
      rw [x301]
      refine ⟨vp_at hM.n301 (vp_mono hsr (by omega)), fun z7 => f93 p1 (fun q => q.2.elim z ((h301 _ hsl).mp z7)), fun z7 => f91 (fun g => ?_)⟩
      exact g.2.2.2.1 ⟨z6, Or.inr (Classical.byContradiction fun q => z7 ((h301 _ hsl).mpr q))⟩
    dsimp only [kU]
    rw [y36]
    exact ⟨fun e2 => ⟨fun z => f91 (fun g => g.2.2.1 ⟨e2, z⟩), fun z => f59 (fun q => z q.2)⟩, fun e2 => f59 (fun q => e2 q.1)⟩
  have nok : ¬ (isSk (S 120 r) ∨ S 120 r = 6) → ¬ goodP S h dd L r := fun z g => by
    have := g.2.1
    unfold oN at this
    rw [if_neg (fun q => z (Or.inr q))] at this
    exact z (Or.inl this)
  refine sp_X11_isSeenKind (by omega) (fun z => br_f (by decide) (f40 (Or.inl z))) (fun z => br_t rfl ⟨hM.r120, v120, ?_⟩)
  rw [x120 hF]
  exact ⟨fun z6 => f40 (Or.inr z6), fun z6 => f38 (nok (fun q => q.elim z z6))⟩
