/-! ===== the reference and the grammar, mode by mode ===== -/
theorem vl0_not {ev : Int32 → Int32 → Bool} {l : List Sst} (h : ∃ v, ∀ st, evs ev l st = v :: st) : vl0 ev (l ++ ([(33, 0)] ++ [])) = !vl0 ev l := by
  show (evs ev (l ++ ([(33, 0)] ++ [])) []).headD false = _
  rw [evs_app, vl0_of h]
  rfl
theorem vl0_seq {ev : Int32 → Int32 → Bool} {l : List Sst} (h : ∃ v, ∀ st, evs ev l st = v :: st) (l' : List Sst) : vl0 ev (l ++ ([] ++ l')) = vl1 ev l' (vl0 ev l) := by
  show (evs ev (l ++ ([] ++ l')) []).headD false = _
  rw [evs_app, vl0_of h]
  rfl
theorem vl0_par (ev : Int32 → Int32 → Bool) (l : List Sst) : vl0 ev (l ++ ([] ++ [])) = vl0 ev l := by
  rw [List.append_nil, List.append_nil]
theorem vl1_and {ev : Int32 → Int32 → Bool} {l : List Sst} (h : ∃ v, ∀ st, evs ev l st = v :: st) (l' : List Sst) (x : Bool) : vl1 ev (l ++ ([(38, 0)] ++ l')) x = vl1 ev l' (x && vl0 ev l) := by
  show (evs ev (l ++ ([(38, 0)] ++ l')) [x]).headD false = _
  rw [evs_app, vl0_of h]
  rfl
theorem vl1_or {ev : Int32 → Int32 → Bool} {l : List Sst} (h : ∃ v, ∀ st, evs ev l st = v :: st) (l' : List Sst) (x : Bool) : vl1 ev (l ++ ([(124, 0)] ++ l')) x = vl1 ev l' (x || vl0 ev l) := by
  show (evs ev (l ++ ([(124, 0)] ++ l')) [x]).headD false = _
  rw [evs_app, vl0_of h]
  rfl
theorem vl0_one {ev : Int32 → Int32 → Bool} {ch : Nat → Int32} {n a : Nat} (h : (gT ch n a).1 = true) : vl0 ev [((gT ch n a).2.2.1, (gT ch n a).2.2.2)] = ev (gT ch n a).2.2.1 (gT ch n a).2.2.2 := by
  obtain ⟨s1, s2, s3⟩ := gT_sg h
  show (ev1 ev ((gT ch n a).2.2.1, (gT ch n a).2.2.2) []).headD false = _
  unfold ev1
  rw [if_neg s1, if_neg s2, if_neg s3]
  rfl
abbrev mE17 (d rc rs : Nat) (σ : XH) (Q : XV → XH → Prop) (w : Int32) (S : SS) : Prop := Ex d rc rs m_X11_takesE 17 [vR (some (12, 0)), vI w, vU] [] (up σ S) Q
/-- what is left of a state is either gone through or refused at the fault -/
def mFl (b n : Nat) (ch : Nat → Int32) (σ : XH) (Q : XV → XH → Prop) (S : SS) (r : GR) : Prop := r.1 = false → ∀ S', TE S S' → PT S' b n r.2.1 ch → Q (vI 0) (up σ S')
def mG0 (d rc rs b n : Nat) (ch : Nat → Int32) (σ : XH) (Q : XV → XH → Prop) (ev : Int32 → Int32 → Bool) (k dep a : Nat) : Prop := ∀ (S : SS) (W : List Int32) (V : List Bool), PT S b n a ch → PS S W V → evT S = ev → bin W = V.length → V.length < a → W.length ≤ a → cnt W + dep = 5 →
  ((gX ch n k 0 dep a).1 = true → ∀ S', TE S S' → PT S' b n (gX ch n k 0 dep a).2.1 ch → PS S' (psh W (vl0 ev (gX ch n k 0 dep a).2.2)).1 ((psh W (vl0 ev (gX ch n k 0 dep a).2.2)).2 :: V) → mE17 d rc rs σ Q 0 S') →
  mFl b n ch σ Q S (gX ch n k 0 dep a) → mE17 d rc rs σ Q 1 S
def mG1 (d rc rs b n : Nat) (ch : Nat → Int32) (σ : XH) (Q : XV → XH → Prop) (ev : Int32 → Int32 → Bool) (k dep a : Nat) : Prop := ∀ (S : SS) (W Wp : List Int32) (V Vp : List Bool) (x : Bool), PT S b n a ch → PS S Wp Vp → evT S = ev → stl 38 Wp Vp = (W, x :: V) → stl 124 Wp Vp = stl 124 W (x :: V) → ¬ hd0 W = 38 → ¬ hd0 W = 33 → bin W = V.length → bin Wp < Vp.length → V.length + 1 < a → W.length ≤ a → cnt W + dep = 5 →
  ((gX ch n k 1 dep a).1 = true → ∀ S' Wp' Vp', TE S S' → PT S' b n (gX ch n k 1 dep a).2.1 ch → PS S' Wp' Vp' → stl 124 Wp' Vp' = stl 124 W (vl1 ev (gX ch n k 1 dep a).2.2 x :: V) → bin Wp' < Vp'.length → ¬ gN ch n (gX ch n k 1 dep a).2.1 = 38 → mE17 d rc rs σ Q 0 S') →
  mFl b n ch σ Q S (gX ch n k 1 dep a) → mE17 d rc rs σ Q 0 S
def mG2 (d rc rs b n : Nat) (ch : Nat → Int32) (σ : XH) (Q : XV → XH → Prop) (ev : Int32 → Int32 → Bool) (k dep a : Nat) : Prop := ∀ (S : SS) (W Wp : List Int32) (V Vp : List Bool) (x : Bool), PT S b n a ch → PS S Wp Vp → evT S = ev → stl 124 Wp Vp = (W, x :: V) → bin Wp < Vp.length → ¬ hd0 W = 38 → ¬ hd0 W = 33 → ¬ hd0 W = 124 → bin W = V.length → V.length + 1 < a → W.length ≤ a → ¬ gN ch n a = 38 → cnt W + dep = 5 →
  ((gX ch n k 2 dep a).1 = true → ∀ S' Wp' Vp', TE S S' → PT S' b n (gX ch n k 2 dep a).2.1 ch → PS S' Wp' Vp' → stl 124 Wp' Vp' = (W, vl1 ev (gX ch n k 2 dep a).2.2 x :: V) → bin Wp' < Vp'.length → ¬ gN ch n (gX ch n k 2 dep a).2.1 = 38 → ¬ gN ch n (gX ch n k 2 dep a).2.1 = 124 → mE17 d rc rs σ Q 0 S') →
  mFl b n ch σ Q S (gX ch n k 2 dep a) → mE17 d rc rs σ Q 0 S
def mG3 (d rc rs b n : Nat) (ch : Nat → Int32) (σ : XH) (Q : XV → XH → Prop) (ev : Int32 → Int32 → Bool) (k dep a : Nat) : Prop := ∀ (S : SS) (W : List Int32) (V : List Bool), PT S b n a ch → PS S W V → evT S = ev → ¬ hd0 W = 38 → ¬ hd0 W = 33 → bin W = V.length → V.length < a → W.length ≤ a → cnt W + dep = 5 →
  ((gX ch n k 3 dep a).1 = true → ∀ S' Wp' Vp', TE S S' → PT S' b n (gX ch n k 3 dep a).2.1 ch → PS S' Wp' Vp' → stl 124 Wp' Vp' = stl 124 W (vl0 ev (gX ch n k 3 dep a).2.2 :: V) → bin Wp' < Vp'.length → ¬ gN ch n (gX ch n k 3 dep a).2.1 = 38 → mE17 d rc rs σ Q 0 S') →
  mFl b n ch σ Q S (gX ch n k 3 dep a) → mE17 d rc rs σ Q 1 S
def mG4 (d rc rs b n : Nat) (ch : Nat → Int32) (σ : XH) (Q : XV → XH → Prop) (ev : Int32 → Int32 → Bool) (k dep a : Nat) : Prop := ∀ (S : SS) (W : List Int32) (V : List Bool), PT S b n a ch → PS S W V → evT S = ev → ¬ hd0 W = 38 → ¬ hd0 W = 33 → ¬ hd0 W = 124 → bin W = V.length → V.length < a → W.length ≤ a → cnt W + dep = 5 →
  ((gX ch n k 4 dep a).1 = true → ∀ S' Wp' Vp', TE S S' → PT S' b n (gX ch n k 4 dep a).2.1 ch → PS S' Wp' Vp' → stl 124 Wp' Vp' = (W, vl0 ev (gX ch n k 4 dep a).2.2 :: V) → bin Wp' < Vp'.length → ¬ gN ch n (gX ch n k 4 dep a).2.1 = 38 → ¬ gN ch n (gX ch n k 4 dep a).2.1 = 124 → mE17 d rc rs σ Q 0 S') →
  mFl b n ch σ Q S (gX ch n k 4 dep a) → mE17 d rc rs σ Q 1 S
theorem mFl.te {b n : Nat} {ch : Nat → Int32} {σ : XH} {Q : XV → XH → Prop} {S S' : SS} {r : GR} (h : mFl b n ch σ Q S r) (t : TE S S') : mFl b n ch σ Q S' r := fun e S2 k1 k2 => h e S2 (t.trans k1) k2
theorem mFl.at {b n : Nat} {ch : Nat → Int32} {σ : XH} {Q : XV → XH → Prop} {S : SS} {r r' : GR} (h : mFl b n ch σ Q S r) (e : r'.1 = false → r.1 = false ∧ r'.2.1 = r.2.1) : mFl b n ch σ Q S r' := fun e' S2 k1 k2 => by
  obtain ⟨e1, e2⟩ := e e'
  rw [e2] at k2
  exact h e1 S2 k1 k2
theorem thn_fl {r : GR} {s : List Sst} {f : Nat → GR} (h : r.1 = false) : (thn r s f).1 = false ∧ r.2.1 = (thn r s f).2.1 := by
  rw [thn_f s f h]
  exact ⟨rfl, rfl⟩
theorem thn_fr {r : GR} {s : List Sst} {f : Nat → GR} (h : r.1 = true) (hf : (f r.2.1).1 = false) : (thn r s f).1 = false ∧ (f r.2.1).2.1 = (thn r s f).2.1 := by
  rw [thn_t s f h]
  exact ⟨hf, rfl⟩
theorem hd0_ne {c x : Int32} (W : List Int32) (h : ¬ c = x) : ¬ hd0 (c :: W) = x := h
theorem cnt_in (c : Int32) (W : List Int32) (h : c = 33 ∨ c = 40) : cnt (c :: W) = cnt W + 1 := by
  show cnt W + (if c = 33 ∨ c = 40 then 1 else 0) = cnt W + 1
  rw [if_pos h]
theorem cnt_op (c : Int32) (W : List Int32) (h : ¬ (c = 33 ∨ c = 40)) : cnt (c :: W) = cnt W := by
  show cnt W + (if c = 33 ∨ c = 40 then 1 else 0) = cnt W
  rw [if_neg h]
  rfl
theorem bin_in (c : Int32) (W : List Int32) (h : ¬ (c = 38 ∨ c = 124)) : bin (c :: W) = bin W := by
  show bin W + (if c = 38 ∨ c = 124 then 1 else 0) = bin W
  rw [if_neg h]
  rfl
theorem bin_op (c : Int32) (W : List Int32) (h : c = 38 ∨ c = 124) : bin (c :: W) = bin W + 1 := by
  show bin W + (if c = 38 ∨ c = 124 then 1 else 0) = bin W + 1
  rw [if_pos h]
theorem mG_all {d rc rs b n : Nat} {ch : Nat → Int32} {σ : XH} {Q : XV → XH → Prop} {ev : Int32 → Int32 → Bool} (hd : 5 ≤ d) (hM : MI σ) (hn : n ≤ 140) : ∀ (k dep a : Nat), a ≤ n →
    (4 * (n - a) + 1 ≤ k → mG0 d rc rs b n ch σ Q ev k dep a) ∧ (4 * (n - a) + 1 ≤ k → mG1 d rc rs b n ch σ Q ev k dep a) ∧ (4 * (n - a) + 1 ≤ k → mG2 d rc rs b n ch σ Q ev k dep a) ∧ (4 * (n - a) + 2 ≤ k → mG3 d rc rs b n ch σ Q ev k dep a) ∧ (4 * (n - a) + 3 ≤ k → mG4 d rc rs b n ch σ Q ev k dep a)
  | 0, dep, a, han => ⟨fun h => absurd h (by omega), fun h => absurd h (by omega), fun h => absurd h (by omega), fun h => absurd h (by omega), fun h => absurd h (by omega)⟩
  | k + 1, dep, a, han => by
    have ih := mG_all (d := d) (rc := rc) (rs := rs) (b := b) (n := n) (ch := ch) (σ := σ) (Q := Q) (ev := ev) hd hM hn k
    refine ⟨fun hk => ?_, fun hk => ?_, fun hk => ?_, fun hk => ?_, fun hk => ?_⟩
    · -- an F
      intro S W V hP hS he hb hV hW hc hs hf
      have hcn := cnt_le W
      refine sX11_takesE_17 ⟨by omega, sp_X11_next hM hP ⟨fun z => absurd z (by decide), fun _ => ⟨fun c => ?_, fun c => ⟨fun c1 => ?_, fun c1 => ⟨by omega, ?_⟩⟩⟩⟩⟩
      · have hlt : a < n := gN_lt c (by decide)
        rw [gX0, if_pos c] at hs hf
        rw [c]
        refine mE_in hM (Or.inl rfl) hP hS hlt (by omega) (fun c5 => ?_) (fun c5 S1 t1 p1 q1 => ?_)
        · have hd0 : dep = 0 := by omega
          rw [if_pos hd0] at hf
          exact hf rfl S (TE.rf S) hP
        · have hd0 : ¬ dep = 0 := by omega
          rw [if_neg hd0] at hs hf
          refine (ih (dep - 1) (a + 1) hlt).1 (by omega) S1 (33 :: W) V p1 q1 (t1.ev he) (by rw [bin_in _ _ (by decide)]; exact hb) (by omega) (by show W.length + 1 ≤ a + 1; omega) (by rw [cnt_in _ _ (Or.inl rfl)]; omega) (fun r S' t2 p2 q2 => ?_) ((hf.te t1).at fun z => thn_fl z)
          rw [thn_t _ _ r] at hs
          rw [vl0_not ((gX_ev ev _ _ _ _ r).1 (by omega))] at hs
          rw [psh_33] at q2
          exact hs rfl S' (t1.trans t2) p2 q2
      · have hlt : a < n := gN_lt c1 (by decide)
        rw [gX0, if_neg c, if_pos c1] at hs hf
        rw [c1]
        refine mE_in hM (Or.inr rfl) hP hS hlt (by omega) (fun c5 => ?_) (fun c5 S1 t1 p1 q1 => ?_)
        · have hd0 : dep = 0 := by omega
          rw [if_pos hd0] at hf
          exact hf rfl S (TE.rf S) hP
        · have hd0 : ¬ dep = 0 := by omega
          rw [if_neg hd0] at hs hf
          refine (ih (dep - 1) (a + 1) hlt).2.2.2.2 (by omega) S1 (40 :: W) V p1 q1 (t1.ev he) (hd0_ne W (by decide)) (hd0_ne W (by decide)) (hd0_ne W (by decide)) (by rw [bin_in _ _ (by decide)]; exact hb) (by omega) (by show W.length + 1 ≤ a + 1; omega) (by rw [cnt_in _ _ (Or.inr rfl)]; omega) (fun r S' Wp Vp t2 p2 q2 e2 b2 n38 n124 => ?_) ((hf.te t1).at fun z => thn_fl z)
          rw [thn_t _ _ r] at hs
          have hfr := fun z => thn_fr (s := []) (f := fun a' => if gN ch n a' = 41 then (true, a' + 1, []) else ((false, a', []) : GR)) r z
          refine mE_end (by omega) hM p2 q2 b2 e2 n38 n124 (fun z => absurd z (by simp)) (fun _ c41 S3 t3 p3 q3 => ?_) (fun _ c41 S3 t3 p3 => ?_)
          · have hlt2 := gN_lt c41 (by decide)
            rw [if_pos c41] at hs
            refine mE_close (by omega) hM p3 q3 hlt2 (fun S4 t4 p4 q4 => ?_)
            have := hs rfl S4 (t1.trans (t2.trans (t3.trans t4))) p4
            rw [vl0_par] at this
            exact this q4
          · obtain ⟨z1, z2⟩ := hfr (by rw [if_neg c41])
            rw [if_neg c41] at z2
            refine hf z1 S3 (t1.trans (t2.trans t3)) ?_
            rw [← z2]
            exact p3
      · rw [gX0, if_neg c, if_neg c1] at hs hf
        refine sp_X11_takesTest (by omega) hM hP hS (by omega) (fun ht S' k1 k2 k3 => br_f (by decide) ?_) (fun ht S' k1 k2 => br_t rfl ⟨Or.inl rfl, ?_⟩)
        · refine hs ht S' k1.te k2 ?_
          show PS S' (psh W (vl0 ev [((gT ch n a).2.2.1, (gT ch n a).2.2.2)])).1 ((psh W (vl0 ev [((gT ch n a).2.2.1, (gT ch n a).2.2.2)])).2 :: V)
          rw [vl0_one ht, ← he]
          exact k3
        · exact hf ht S' k1.te k2
    · -- what follows an F
      intro S W Wp V Vp x hP hS he e38 e124 h38 h33 hb hbp hV hW hc hs hf
      rw [gX1] at hs hf
      by_cases c : gN ch n a = 38
      · have hlt : a < n := gN_lt c (by decide)
        rw [if_pos c] at hs hf
        refine sX11_takesE_17 ⟨by omega, sp_X11_next hM hP ⟨fun _ => ⟨fun _ => ?_, fun z => absurd c z⟩, fun z => absurd rfl z⟩⟩
        rw [c]
        refine mE_op (by omega) hM (Or.inl rfl) hP hS hbp hlt e38 (by omega) (fun S1 t1 p1 q1 => ?_)
        refine (ih dep (a + 1) hlt).1 (by omega) S1 (38 :: W) (x :: V) p1 q1 (t1.ev he) (by rw [bin_op _ _ (Or.inl rfl), hb]; rfl) (by show V.length + 1 < a + 1; omega) (by show W.length + 1 ≤ a + 1; omega) (by rw [cnt_op _ _ (by decide)]; exact hc) (fun r S2 t2 p2 q2 => ?_) ((hf.te t1).at fun z => thn_fl z)
        obtain ⟨b1, b2, b3⟩ := gX_bd (ch := ch) k 0 dep (a + 1) hlt
        rw [psh_no _ (hd0_ne W (by decide))] at q2
        have hev := (gX_ev ev _ _ _ _ r).1 (by omega)
        refine (ih dep _ b2).2.1 (by omega) S2 W (38 :: W) V _ (x && vl0 ev (gX ch n k 0 dep (a + 1)).2.2) p2 q2 (t2.ev (t1.ev he)) ?_ ?_ h38 h33 hb ?_ (by omega) (by omega) hc (fun r2 S3 Wq Vq t3 p3 q3 e3 b3 n3 => ?_) ((hf.te (t1.trans t2)).at fun z => thn_fr r z)
        · rw [stl_38, stl_no _ h38 (fun _ => rfl)]
        · rw [stl_38]
        · rw [bin_op _ _ (Or.inl rfl), hb]
          exact Nat.lt_succ_self _
        · rw [thn_t _ _ r] at hs
          refine hs r2 S3 Wq Vq (t1.trans (t2.trans t3)) p3 q3 ?_ b3 n3
          rw [vl1_and hev]
          exact e3
      · rw [if_neg c] at hs
        exact hs rfl S Wp Vp (TE.rf S) hP hS e124 hbp c
    · -- what follows a T
      intro S W Wp V Vp x hP hS he e124 hbp h38 h33 h124 hb hV hW n38 hc hs hf
      rw [gX2] at hs hf
      by_cases c : gN ch n a = 124
      · have hlt : a < n := gN_lt c (by decide)
        rw [if_pos c] at hs hf
        refine sX11_takesE_17 ⟨by omega, sp_X11_next hM hP ⟨fun _ => ⟨fun z => absurd z n38, fun _ => ⟨fun _ => ?_, fun z => absurd c z⟩⟩, fun z => absurd rfl z⟩⟩
        rw [c]
        refine mE_op (by omega) hM (Or.inr rfl) hP hS hbp hlt e124 (by omega) (fun S1 t1 p1 q1 => ?_)
        refine (ih dep (a + 1) hlt).2.2.2.1 (by omega) S1 (124 :: W) (x :: V) p1 q1 (t1.ev he) (hd0_ne W (by decide)) (hd0_ne W (by decide)) (by rw [bin_op _ _ (Or.inr rfl), hb]; rfl) (by show V.length + 1 < a + 1; omega) (by show W.length + 1 ≤ a + 1; omega) (by rw [cnt_op _ _ (by decide)]; exact hc) (fun r S2 Wq Vq t2 p2 q2 e2 bq n2 => ?_) ((hf.te t1).at fun z => thn_fl z)
        obtain ⟨b1, b2, b3⟩ := gX_bd (ch := ch) k 3 dep (a + 1) hlt
        have hev := (gX_ev ev _ _ _ _ r).1 (by omega)
        rw [stl_124, stl_no _ h38 (fun z => absurd z h124)] at e2
        refine (ih dep _ b2).2.2.1 (by omega) S2 W Wq V Vq (x || vl0 ev (gX ch n k 3 dep (a + 1)).2.2) p2 q2 (t2.ev (t1.ev he)) e2 bq h38 h33 h124 hb (by omega) (by omega) n2 hc (fun r2 S3 Wr Vr t3 p3 q3 e3 b3 n3 m3 => ?_) ((hf.te (t1.trans t2)).at fun z => thn_fr r z)
        rw [thn_t _ _ r] at hs
        refine hs r2 S3 Wr Vr (t1.trans (t2.trans t3)) p3 q3 ?_ b3 n3 m3
        rw [vl1_or hev]
        exact e3
      · rw [if_neg c] at hs
        exact hs rfl S Wp Vp (TE.rf S) hP hS e124 hbp n38 c
    · -- a T
      intro S W V hP hS he h38 h33 hb hV hW hc hs hf
      rw [gX3] at hs hf
      refine (ih dep a han).1 (by omega) S W V hP hS he hb hV hW hc (fun r S1 t1 p1 q1 => ?_) (hf.at fun z => thn_fl z)
      obtain ⟨b1, b2, b3⟩ := gX_bd (ch := ch) k 0 dep a han
      have hev := (gX_ev ev _ _ _ _ r).1 (by omega)
      have b4 := (b3 r).1
      have b5 := (b3 r).2 (by omega) (by omega)
      rw [psh_no _ h33] at q1
      refine (ih dep _ b2).2.1 (by omega) S1 W W V _ (vl0 ev (gX ch n k 0 dep a).2.2) p1 q1 (t1.ev he) (stl_no _ h38 (fun _ => rfl)) rfl h38 h33 hb (by rw [hb]; exact Nat.lt_succ_self _) (by omega) (by omega) hc (fun r2 S2 Wq Vq t2 p2 q2 e2 bq n2 => ?_) ((hf.te t1).at fun z => thn_fr r z)
      rw [thn_t _ _ r] at hs
      refine hs r2 S2 Wq Vq (t1.trans t2) p2 q2 ?_ bq n2
      rw [vl0_seq hev]
      exact e2
    · -- an E
      intro S W V hP hS he h38 h33 h124 hb hV hW hc hs hf
      rw [gX4] at hs hf
      refine (ih dep a han).2.2.2.1 (by omega) S W V hP hS he h38 h33 hb hV hW hc (fun r S1 Wp Vp t1 p1 q1 e1 bp n1 => ?_) (hf.at fun z => thn_fl z)
      obtain ⟨b1, b2, b3⟩ := gX_bd (ch := ch) k 3 dep a han
      have hev := (gX_ev ev _ _ _ _ r).1 (by omega)
      have b4 := (b3 r).1
      have b5 := (b3 r).2 (by omega) (by omega)
      rw [stl_no _ h38 (fun z => absurd z h124)] at e1
      refine (ih dep _ b2).2.2.1 (by omega) S1 W Wp V Vp (vl0 ev (gX ch n k 3 dep a).2.2) p1 q1 (t1.ev he) e1 bp h38 h33 h124 hb (by omega) (by omega) n1 hc (fun r2 S2 Wq Vq t2 p2 q2 e2 bq n2 m2 => ?_) ((hf.te t1).at fun z => thn_fr r z)
      rw [thn_t _ _ r] at hs
      refine hs r2 S2 Wq Vq (t1.trans t2) p2 q2 ?_ bq n2 m2
      rw [vl0_seq hev]
      exact e2
/-- the whole E of a strike -/
def gE (ch : Nat → Int32) (n a : Nat) : GR := gX ch n (4 * (n - a) + 3) 4 5 a
theorem sp_X11_takesE {d b n a : Nat} {ch : Nat → Int32} {ev : Int32 → Int32 → Bool} {x : Bool} {z : Int32} {σ : XH} {S : SS} {Q : XV → XH → Prop} (hd : 5 ≤ d) (hM : MI σ) (hP : PT S b n a ch) (ha : 0 < a) (he : evT S = ev) (h37 : S 12 37 = bI x) (h34 : S 12 34 = z)
    (h1 : (gE ch n a).1 = true → ∀ S', SA (tl [140, 300]) (tl [34, 37, 42, 43, 46, 47, 48]) S S' → PT S' b n (gE ch n a).2.1 ch → S' 12 34 = z + 1 → S' 12 37 = bI (x || vl0 ev (gE ch n a).2.2) → Q (vI 1) (up σ S'))
    (h0 : (gE ch n a).1 = false → ∀ S', SA (tl [140, 300]) (tl [34, 37, 42, 43, 46, 47, 48]) S S' → PT S' b n (gE ch n a).2.1 ch → Q (vI 0) (up σ S')) : Ec d 0 0 m_X11_takesE [vR (some (12, 0))] (up σ S) Q := by
  refine Ec_of mo_X11_takesE.1 (Nat.le_of_ble_eq_true rfl) ?_
  refine sX11_takesE_0 ?_
  intro g1 e1 g2 e2 g3 e3
  rw [wI_up _ _ rfl] at e1
  rw [e1, wI_up _ _ rfl] at e2
  rw [e2, wI_up _ _ rfl] at e3
  have t0 : TE S (up2 (up2 (up2 S 12 46 0) 12 47 0) 12 48 0) := (((SA.rf _ _ S).wk _ _ rfl).wk _ _ rfl).wk _ _ rfl
  have sa0 : SA (tl []) (tl [46, 47, 48]) S (up2 (up2 (up2 S 12 46 0) 12 47 0) 12 48 0) := (((SA.rf _ _ S).wk _ _ rfl).wk _ _ rfl).wk _ _ rfl
  have q0 : PS (up2 (up2 (up2 S 12 46 0) 12 47 0) 12 48 0) [] [] := ⟨by rw [up2_k _ _ _ (by decide), up2_k _ _ _ (by decide), up2_eq]; rfl, by rw [up2_k _ _ _ (by decide), up2_eq]; rfl, by rw [up2_eq]; rfl, Nat.zero_le _, Nat.zero_le _, trivial, trivial⟩
  have hn : n ≤ 140 := hP.2.2.2.2.1
  have han : a ≤ n := hP.2.2.2.2.2.1
  have wk : ∀ {S S' : SS}, TE S S' → SA (tl [140, 300]) (tl [34, 37, 42, 43, 46, 47, 48]) S S' := fun t => SA.sub t (fun _ h => h) (tl_sub (by decide))
  rw [e3]
  refine (mG_all (rc := 0) (rs := 0) (Q := Q) (ev := ev) hd hM hn (4 * (n - a) + 3) 5 a han).2.2.2.2 (Nat.le_refl _) _ [] [] (hP.sa sa0 rfl (by decide)) q0 (t0.ev he) (by decide) (by decide) (by decide) rfl ha (Nat.zero_le _) rfl (fun r S1 Wp Vp t1 p1 q1 e1 b1 n1 m1 => ?_) (fun r S1 t1 p1 => h0 r S1 (wk (t0.trans t1)) p1)
  refine mE_end (by omega) hM p1 q1 b1 e1 n1 m1 (fun _ S2 t2 p2 q2 => ?_) (fun z => absurd rfl z) (fun z => absurd rfl z)
  intro g4 e4
  have tt := t0.trans (t1.trans t2)
  have a34 : S2 12 34 = z := (SA.k tt (j := 34) rfl).trans h34
  have a37 : S2 12 37 = bI x := (SA.k tt (j := 37) rfl).trans h37
  rw [hi_up _ _ rfl, a34, wI_up _ _ rfl] at e4
  have v0 : S2 300 0 = bI (vl0 ev (gE ch n a).2.2) := q2.2.2.2.2.2.2.1
  have fin : ∀ y : Bool, y = (x || vl0 ev (gE ch n a).2.2) → Ex d 0 0 m_X11_takesE 269 [vU, vU, vU] [vI (bI y), vR (some (12, 0))] (up σ (up2 S2 12 34 (z + 1))) Q := fun y ey => by
    refine sX11_takesE_269 ⟨by cases y <;> decide, ?_⟩
    intro g5 e5
    rw [wI_up _ _ rfl] at e5
    rw [e5]
    have sf : SA (tl []) (tl [34, 37]) S2 (up2 (up2 S2 12 34 (z + 1)) 12 37 (bI y)) := ((SA.rf _ _ S2).wk _ _ rfl).wk _ _ rfl
    refine ⟨Or.inr rfl, h1 r _ ((wk tt).trans (SA.sub sf (tl_sub (by decide)) (tl_sub (by decide)))) (p2.sa sf rfl (by decide)) ?_ ?_⟩
    · rw [up2_k _ _ _ (by decide), up2_eq]
    · rw [up2_eq, ey]
  have e37 : hi (up σ (up2 S2 12 34 (z + 1))) 12 0 37 = bI x := by
    rw [hi_up _ _ rfl, up2_k _ _ _ (by decide)]
    exact a37
  have e300 : hi (up σ (up2 S2 12 34 (z + 1))) 300 0 0 = bI (vl0 ev (gE ch n a).2.2) := by
    rw [hi_up _ _ rfl, up2_s _ _ _ (by decide)]
    exact v0
  rw [e4, e37]
  refine ⟨fun c => ⟨hM.r300, vp_at hM.n300 (vp_in_nI (n := 0) (by omega) (by omega)), ?_⟩, fun c => ?_⟩
  · have ex : x = false := by
      cases x
      · rfl
      · exact absurd c (by decide)
    rw [show (0 : Int32).toNatClampNeg = 0 by decide, e300]
    refine ⟨fun c2 => ?_, fun c2 => ?_⟩
    · have ev0 : vl0 ev (gE ch n a).2.2 = false := by
        cases h : vl0 ev (gE ch n a).2.2
        · rfl
        · rw [h] at c2
          exact absurd c2 (by decide)
      exact fin false (by rw [ex, ev0]; rfl)
    · have ev0 : vl0 ev (gE ch n a).2.2 = true := by
        cases h : vl0 ev (gE ch n a).2.2
        · rw [h] at c2
          exact absurd rfl c2
        · rfl
      exact sX11_takesE_264 (fin true (by rw [ev0, Bool.or_true]))
  · have ex : x = true := by
      cases x
      · exact absurd rfl c
      · rfl
    exact sX11_takesE_264 (fin true (by rw [ex, Bool.true_or]))
