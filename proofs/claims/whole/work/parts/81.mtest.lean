/-! ===== a test; how the reference takes it ===== -/
def gTn (ch : Nat → Int32) (n m b : Nat) (sg : Int32) : Bool × Nat × Int32 × Int32 := if inP (gN ch n b) 48 57 then (true, (gD ch n m b 0).1, sg, (gD ch n m b 0).2) else (false, b, 0, 0)
/-- a test at place a: whether it is whole, the place behind it or of the fault, its sign and its number -/
def gT (ch : Nat → Int32) (n a : Nat) : Bool × Nat × Int32 × Int32 :=
  if gN ch n a = 104 ∨ gN ch n a = 115 ∨ gN ch n a = 101 ∨ gN ch n a = 107 then (if gN ch n (a + 1) = 61 then gTn ch n 4 (a + 2) (gN ch n a) else (false, a + 1, 0, 0))
  else if gN ch n a = 116 then (if gN ch n (a + 1) = 60 ∨ gN ch n (a + 1) = 62 then gTn ch n 6 (a + 2) (gN ch n (a + 1)) else (false, a + 1, 0, 0))
  else (false, a, 0, 0)
/-- whether a test holds of the facts -/
def evT (S : SS) (sg v : Int32) : Bool :=
  if sg = 104 then decide (S 139 0 = v) else if sg = 115 then decide (S 139 1 = v) else if sg = 101 then decide (S 139 2 = v) else if sg = 107 then decide (S 139 3 = v)
  else if sg = 60 then decide (S 139 4 < v) else decide (v < S 139 4)
theorem gD_le {ch : Nat → Int32} {n : Nat} : ∀ (j a : Nat) (v : Int32), a ≤ n → (gD ch n j a v).1 ≤ n
  | 0, a, v, ha => ha
  | j + 1, a, v, ha => by
    unfold gD
    split
    · rename_i z
      have hlt : a < n := by
        refine gN_lt (c := gN ch n a) rfl (fun y => ?_)
        rw [y] at z
        exact absurd z (by decide)
      exact gD_le j (a + 1) _ hlt
    · exact ha
theorem PS.sa {S S' : SS} {W : List Int32} {V : List Bool} {A K : Nat → Bool} (h : PS S W V) (sa : SA A K S S') (a1 : A 140 = false) (a2 : A 300 = false) (k : ∀ j, j ∈ [46, 47, 48] → K j = false) : PS S' W V := by
  obtain ⟨h1, h2, h3, h4, h5, h6, h7⟩ := h
  refine ⟨by rw [sa.k (k 46 (by decide))]; exact h1, by rw [sa.k (k 47 (by decide))]; exact h2, by rw [sa.k (k 48 (by decide))]; exact h3, h4, h5, layW_cg W (fun j _ => by rw [sa.a (s := 140) (by decide) a1]) h6, layV_cg V (fun j _ => by rw [sa.a (s := 300) (by decide) a2]) h7⟩
/-- what a test may change -/
def TS (S S' : SS) : Prop := SA (tl [300]) (tl [42, 43, 46, 47, 48]) S S'
theorem sp_X11_takesTest {d b n a : Nat} {ch : Nat → Int32} {W : List Int32} {V : List Bool} {σ : XH} {S : SS} {Q : XV → XH → Prop} (hd : 4 ≤ d) (hM : MI σ) (hP : PT S b n a ch) (hS : PS S W V) (hV : V.length < 140)
    (h1 : (gT ch n a).1 = true → ∀ S', TS S S' → PT S' b n (gT ch n a).2.1 ch → PS S' (psh W (evT S (gT ch n a).2.2.1 (gT ch n a).2.2.2)).1 ((psh W (evT S (gT ch n a).2.2.1 (gT ch n a).2.2.2)).2 :: V) → Q (vI 1) (up σ S'))
    (h0 : (gT ch n a).1 = false → ∀ S', TS S S' → PT S' b n (gT ch n a).2.1 ch → Q (vI 0) (up σ S')) : Ec d 0 0 m_X11_takesTest [vR (some (12, 0))] (up σ S) Q := by
  have sadv : ∀ a', SA (tl [300]) (tl [42, 43, 46, 47, 48]) S (adv S a') := fun a' => (SA.rf _ _ S).wk _ _ rfl
  have sset : ∀ v a', SA (tl []) (tl [42, 43]) S (nset S v a') := fun v a' => ((SA.rf _ _ S).wk _ _ rfl).wk _ _ rfl
  -- the value is pushed
  have f209 : ∀ (sg v : Int32) (a' : Nat) (e : Bool), a' ≤ n → gT ch n a = (true, a', sg, v) → e = evT S sg v → Ex d 0 0 m_X11_takesTest 209 [vU, vU, vU, vU] [vI (bI e), vR (some (12, 0))] (up σ (nset S v a')) Q := fun sg v a' e ha' eg ev => by
    rw [eg] at h1
    refine sX11_takesTest_209 ⟨by omega, sp_X11_push hM (hS.sa (sset v a') rfl rfl (by decide)) hV (fun S' k1 k2 => ⟨Or.inr rfl, ?_⟩)⟩
    refine h1 rfl S' (((sset v a').sub (tl_sub (by decide)) (tl_sub (by decide))).trans (k1.sub (fun _ h => h) (tl_sub (by decide)))) ((hP.nset v ha').sa k1 rfl (by decide)) ?_
    rw [← ev]
    exact k2
  -- the number
  have f128 : ∀ (m : Nat) (q sgc sg : Int32), m < 100 → (gT ch n a = gTn ch n m (a + 2) sg) → a + 2 ≤ n → ((sgc = 61 ∧ ∃ k : Nat, k < 4 ∧ q = nI k ∧ ∀ v, evT S sg v = decide (S 139 k = v)) ∨ (q = 4 ∧ (sgc = 60 ∨ sgc = 62) ∧ sg = sgc)) → Ex d 0 0 m_X11_takesTest 128 [vR (some (12, 0)), vU, vI q, vI sgc] [vI (nI m), vR (some (12, 0))] (up σ (adv S (a + 2))) Q := fun m q sgc sg hm eg ha2 hc => by
    unfold gTn at eg
    refine sX11_takesTest_128 ⟨by omega, sp_X11_takesNumber (by omega) hM (by omega) (hP.adv ha2) (fun z => br_f (by decide) ?_) (fun z => br_t rfl ⟨Or.inl rfl, ?_⟩)⟩
    · rw [if_pos z] at eg
      have hle := gD_le (ch := ch) m (a + 2) 0 ha2
      have ens : nset (adv S (a + 2)) (gD ch n m (a + 2) 0).2 (gD ch n m (a + 2) 0).1 = nset S (gD ch n m (a + 2) 0).2 (gD ch n m (a + 2) 0).1 := by
        unfold nset adv
        rw [up2_comm S (nI (a + 2)) _ (by decide), up2_up2]
      rw [ens]
      have go := fun e => f209 sg _ _ e hle eg
      have e43 : hi (up σ (nset S (gD ch n m (a + 2) 0).2 (gD ch n m (a + 2) 0).1)) 12 0 43 = (gD ch n m (a + 2) 0).2 := by
        rw [hi_up _ _ rfl]
        unfold nset adv
        rw [up2_k _ _ _ (by decide), up2_eq]
      have e139 : ∀ k, hi (up σ (nset S (gD ch n m (a + 2) 0).2 (gD ch n m (a + 2) 0).1)) 139 0 k = S 139 k := fun k => by
        rw [hi_up _ _ rfl]
        unfold nset adv
        rw [up2_s _ _ _ (by decide), up2_s _ _ _ (by decide)]
      rw [e43]
      generalize (gD ch n m (a + 2) 0).2 = v at *
      generalize (gD ch n m (a + 2) 0).1 = a' at *
      rcases hc with ⟨c1, k, hk, eq, ev⟩ | ⟨eq, c1, es⟩
      · refine ⟨fun _ => ⟨hM.r139, vp_at hM.n139 (by rw [eq]; exact vp_in_nI (by omega) (by omega)), ?_⟩, fun y => absurd c1 y⟩
        rw [eq, nI_clamp (by omega), e139]
        refine ⟨fun y => ?_, fun y => ?_⟩
        · exact go true (by rw [ev, decide_eq_true y])
        · exact go false (by rw [ev, decide_eq_false y])
      · refine ⟨fun y => ?_, fun _ => ⟨fun y => ⟨hM.r139, vp_at hM.n139 (by rw [eq]; exact vp_in_nI (n := 4) (by omega) (by omega)), ?_⟩, fun y => ⟨hM.r139, vp_at hM.n139 (by rw [eq]; exact vp_in_nI (n := 4) (by omega) (by omega)), ?_⟩⟩⟩
        · rw [y] at c1
          exact absurd c1 (by decide)
        · rw [eq, show (4 : Int32).toNatClampNeg = 4 from rfl, e139]
          have ev : evT S sg v = decide (S 139 4 < v) := by
            rw [es, y]
            rfl
          exact ⟨fun w => go true (by rw [ev, decide_eq_true w]), fun w => go false (by rw [ev, decide_eq_false w])⟩
        · rw [eq, show (4 : Int32).toNatClampNeg = 4 from rfl, e139]
          have y2 := c1.resolve_left y
          have ev : evT S sg v = decide (v < S 139 4) := by
            rw [es, y2]
            rfl
          exact ⟨fun w => go true (by rw [ev, decide_eq_true w]), fun w => go false (by rw [ev, decide_eq_false w])⟩
    · rw [if_neg z] at eg
      rw [eg] at h0
      exact h0 rfl _ (sadv (a + 2)) (hP.adv ha2)
  have f104 : gT ch n a = (false, a + 1, 0, 0) → a + 1 ≤ n → Ex d 0 0 m_X11_takesTest 104 [vU, vU, vU, vU] [] (up σ (adv S (a + 1))) Q := fun eg ha => by
    rw [eg] at h0
    exact sX11_takesTest_104 ⟨Or.inl rfl, h0 rfl _ (sadv (a + 1)) (hP.adv ha)⟩
  have e2 : adv (adv S (a + 1)) (a + 2) = adv S (a + 2) := adv_adv S _ _
  have f106 : ∀ (m : Nat) (q sgc sg : Int32), m = (if q < 4 then 4 else 6) → (gT ch n a = gTn ch n m (a + 2) sg) → a + 2 ≤ n → ((sgc = 61 ∧ ∃ k : Nat, k < 4 ∧ q = nI k ∧ ∀ v, evT S sg v = decide (S 139 k = v)) ∨ (q = 4 ∧ (sgc = 60 ∨ sgc = 62) ∧ sg = sgc)) → Ex d 0 0 m_X11_takesTest 106 [vR (some (12, 0)), vU, vI q, vI sgc] [] (up σ (adv S (a + 1))) Q := fun m q sgc sg em eg ha2 hc => by
    refine sX11_takesTest_106 ?_
    intro g e
    rw [hi_up _ _ rfl, (hP.adv (a' := a + 1) (by omega)).2.2.1, nI_1, wI_up _ _ rfl] at e
    have e' : g = up σ (adv (adv S (a + 1)) (a + 2)) := e
    rw [e', e2]
    refine ⟨fun c => ?_, fun c => ?_⟩
    · rw [if_pos c] at em
      subst em
      exact f128 4 q sgc sg (by omega) eg ha2 hc
    · rw [if_neg c] at em
      subst em
      exact f128 6 q sgc sg (by omega) eg ha2 hc
  have pre : ∀ g, g = wI (up σ S) 12 0 42 (nI (a + 1)) → g = up σ (adv S (a + 1)) := fun g e => by
    rw [e, wI_up _ _ rfl]
    rfl
  have fk : ∀ k : Nat, k < 4 → (gN ch n a = 104 ∨ gN ch n a = 115 ∨ gN ch n a = 101 ∨ gN ch n a = 107) → (∀ v, evT S (gN ch n a) v = decide (S 139 k = v)) → Ex d 0 0 m_X11_takesTest 56 [vR (some (12, 0)), vU, vU, vU] [vI (nI k)] (up σ S) Q := fun k hk hc ev => by
    have hlt : a < n := gN_lt (c := gN ch n a) rfl (fun y => by
      rw [y] at hc
      exact absurd hc (by decide))
    refine sX11_takesTest_56 ⟨fun y => absurd y (neg_nn (by omega)), fun _ => ?_⟩
    intro g e
    rw [hi_up _ _ rfl, hP.2.2.1, nI_1] at e
    rw [pre g e]
    refine ⟨by omega, sp_X11_next hM (hP.adv (by omega)) ⟨fun _ => ⟨fun c => ?_, fun c => ?_⟩, fun y => absurd ((c_lt (n := k) (N := 4) (by omega) (by omega)).mpr hk) y⟩⟩
    · have hlt2 : a + 1 < n := gN_lt c (by decide)
      have eg : gT ch n a = gTn ch n 4 (a + 2) (gN ch n a) := by
        unfold gT
        rw [if_pos hc, if_pos c]
      exact f106 4 (nI k) _ (gN ch n a) (by rw [if_pos (show nI k < 4 from (c_lt (n := k) (N := 4) (by omega) (by omega)).mpr hk)]) eg (by omega) (Or.inl ⟨c, k, hk, rfl, ev⟩)
    · exact f104 (by unfold gT; rw [if_pos hc, if_neg c]) (by omega)
  refine Ec_of mo_X11_takesTest.1 (Nat.le_of_ble_eq_true rfl) ?_
  refine sX11_takesTest_0 ?_
  unfold bX11_takesTest_0
  refine ⟨by omega, sp_X11_next hM hP ⟨fun c1 => ?_, fun c1 => ⟨fun c2 => ?_, fun c2 => ⟨fun c3 => ?_, fun c3 => ⟨fun c4 => ?_, fun c4 => ⟨fun c5 => ?_, fun c5 => ?_⟩⟩⟩⟩⟩⟩
  · exact fk 0 (by omega) (Or.inl c1) (fun v => by rw [c1]; rfl)
  · exact fk 1 (by omega) (Or.inr (Or.inl c2)) (fun v => by rw [c2]; rfl)
  · exact fk 2 (by omega) (Or.inr (Or.inr (Or.inl c3))) (fun v => by rw [c3]; rfl)
  · exact fk 3 (by omega) (Or.inr (Or.inr (Or.inr c4))) (fun v => by rw [c4]; rfl)
  · have hlt : a < n := gN_lt c5 (by decide)
    have nn : ¬ (gN ch n a = 104 ∨ gN ch n a = 115 ∨ gN ch n a = 101 ∨ gN ch n a = 107) := fun q => by
      rcases q with q | q | q | q
      · exact c1 q
      · exact c2 q
      · exact c3 q
      · exact c4 q
    refine sX11_takesTest_56 ⟨fun y => absurd y (by decide), fun _ => ?_⟩
    intro g e
    rw [hi_up _ _ rfl, hP.2.2.1, nI_1] at e
    rw [pre g e]
    have ok : ∀ c, (c = 60 ∨ c = 62) → gN ch n (a + 1) = c → Ex d 0 0 m_X11_takesTest 106 [vR (some (12, 0)), vU, vI 4, vI (gN ch n (a + 1))] [] (up σ (adv S (a + 1))) Q := fun c hc ec => by
      have hc' : gN ch n (a + 1) = 60 ∨ gN ch n (a + 1) = 62 := by rw [ec]; exact hc
      have hlt2 : a + 1 < n := gN_lt (c := gN ch n (a + 1)) rfl (fun y => by
        rw [y] at hc'
        exact absurd hc' (by decide))
      have eg : gT ch n a = gTn ch n 6 (a + 2) (gN ch n (a + 1)) := by
        unfold gT
        rw [if_neg nn, if_pos c5, if_pos hc']
      exact f106 6 4 _ _ (by rw [if_neg (by decide)]) eg (by omega) (Or.inr ⟨rfl, hc', rfl⟩)
    refine ⟨by omega, sp_X11_next hM (hP.adv (by omega)) ⟨fun y => absurd y (by decide), fun _ => ⟨fun c => ok 60 (Or.inl rfl) c, fun c => ⟨fun c' => ok 62 (Or.inr rfl) c', fun c' => ?_⟩⟩⟩⟩
    exact f104 (by unfold gT; rw [if_neg nn, if_pos c5, if_neg (fun q => q.elim c c')]) (by omega)
  · have nn : ¬ (gN ch n a = 104 ∨ gN ch n a = 115 ∨ gN ch n a = 101 ∨ gN ch n a = 107) := fun q => by
      rcases q with q | q | q | q
      · exact c1 q
      · exact c2 q
      · exact c3 q
      · exact c4 q
    have eg : gT ch n a = (false, a, 0, 0) := by
      unfold gT
      rw [if_neg nn, if_neg c5]
    rw [eg] at h0
    refine sX11_takesTest_56 ⟨fun _ => ⟨Or.inl rfl, h0 rfl S (SA.rf _ _ S) hP⟩, fun y => absurd (by decide) y⟩
