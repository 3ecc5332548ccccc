/-! ===== the reference finds the counted ones; counted, counts ===== -/
def RY (T S : SS) (h d : Int32) (L : List Nat) : Prop := T 12 49 = nI L.length ∧ ∀ k r, L[k]? = some r → T 141 k = nI r ∧ T 142 k = wtF S h d r ∧ T 143 k = vlF S h d r ∧ T 144 k = lvF S r
abbrev CL (S : SS) (h d : Int32) : List Nat := ctL S h d (nRd S)
theorem RY.cg {T T' S : SS} {h d : Int32} {L : List Nat} (hY : RY T S h d L) (k : T' 12 49 = T 12 49) (a : ∀ s, s ∈ [141, 142, 143, 144] → T' s = T s) : RY T' S h d L := by
  unfold RY
  rw [k, a 141 (by decide), a 142 (by decide), a 143 (by decide), a 144 (by decide)]
  exact hY
theorem lp_find {d rc rs : Nat} {h dd : Int32} {σ : XH} {S : SS} {Q : XV → XH → Prop} (hd : 12 ≤ d) (hM : MI σ) (hI : SInv S) (hU : RuI S) (hQ : ∀ T, FS S T → RY T S h dd (CL S h dd) → (∀ j, j ∈ [31, 32, 33, 34, 35, 36] → T 12 j = (ctR S h dd).1 j) → Q vU (up σ T)) :
    ∀ (m r : Nat) (T : SS), r + m = nRd S → FS S T → RY T S h dd (ctL S h dd r) → (∀ q, q < r → (T 301 q = 0 ↔ ¬ q ∈ ctL S h dd r)) → Ex d rc rs m_X11_findCounted 15 [vR (some (12, 0)), vI h, vI dd, vI (ctX S h dd), vI (nI r)] [] (up σ T) Q := by
  have h90 := hI.l8
  have hxx : ctX S h dd = -1 ∨ ∃ j, j < nRu S ∧ ctX S h dd = nI j := ruF_in S h dd (nRu S) (by have := hI.l25; omega)
  intro m
  induction m with
  | zero =>
    intro r T hrm hF hY h301
    have er : r = nRd S := by omega
    have e8 : hi (up σ T) 12 0 8 = nI (nRd S) := (SA.k hF (j := 8) rfl).trans hI.n8
    refine sX11_findCounted_15 ?_
    unfold bX11_findCounted_15
    rw [e8]
    refine ⟨fun z => ?_, fun _ => ⟨by omega, ?_⟩⟩
    · have := (c_lt (by omega) (by omega)).mp z
      omega
    · have enr : nRu T = nRu S := by unfold nRu; rw [SA.k hF (j := 25) rfl]
      refine sp_X11_look (ev := evT T) (by omega) hM (hF.inv hI) (hF.rui hU) (by rw [enr]; exact hxx) rfl (fun T1 t1 m1 => ?_)
      rw [hF.rur] at m1
      refine hQ T1 (hF.trans t1.js.fs) ?_ m1.1
      rw [er] at hY
      exact hY.cg (SA.k t1.js (j := 49) rfl) (fun s hs => SA.a t1.js (by revert hs; revert s; decide) (by revert hs; revert s; decide))
  | succ m ih =>
    intro r T hrm hF hY h301
    have hr : r < nRd S := by omega
    have e8 : hi (up σ T) 12 0 8 = nI (nRd S) := (SA.k hF (j := 8) rfl).trans hI.n8
    have hlen := ctL_len (S := S) (h := h) (d := dd) r
    refine sX11_findCounted_15 ?_
    unfold bX11_findCounted_15
    rw [e8]
    refine ⟨fun _ => ⟨hM.r301, vp_at hM.n301 (vp_in_nI (by omega) (by omega)), ?_⟩, fun z => absurd ((c_lt (n := r) (N := nRd S) (by omega) (by omega)).mpr hr) z⟩
    intro g1 e1
    rw [nI_clamp (by omega), show vp_nar .boolean 0 = bI false from boolN false, wI_up _ _ rfl] at e1
    rw [e1]
    have hF1 : FS S (up2 T 301 r (bI false)) := SA.wa hF _ _ (by decide) rfl
    have y301 : ∀ q, (up2 T 301 r (bI false)) 301 q = if q = r then 0 else T 301 q := fun q => by
      rw [up2_at]
      rfl
    have hY1 : RY (up2 T 301 r (bI false)) S h dd (ctL S h dd r) := hY.cg (by rw [up2_s _ _ _ (show 12 ≠ 301 by decide)]) (fun s hs => up2_s _ _ _ (by revert hs; revert s; decide))
    have f65 : ∀ T', FS S T' → RY T' S h dd (ctL S h dd (r + 1)) → (∀ q, q < r + 1 → (T' 301 q = 0 ↔ ¬ q ∈ ctL S h dd (r + 1))) → Ex d rc rs m_X11_findCounted 65 [vR (some (12, 0)), vI h, vI dd, vI (ctX S h dd), vI (nI r)] [] (up σ T') Q := fun T' k1 k2 k3 => by
      refine sX11_findCounted_65 ?_
      unfold bX11_findCounted_65
      rw [nI_1]
      exact ih (r + 1) T' (by omega) k1 k2 k3
    have hnr : ¬ r ∈ ctL S h dd r := fun z => Nat.lt_irrefl r (ctL_lt r r z)
    refine ⟨by omega, sp_X11_isGood (L := ctL S h dd r) (by omega) hM hI hU hr hF1 hY1.1 (by omega) (fun q hq => by rw [y301, if_neg (by omega)]; exact h301 q hq) (fun hg T' k1 k2 k3 k4 k5 k6 k7 k8 => br_f (by decide) ⟨hM.r301, vp_at hM.n301 (vp_in_nI (by omega) (by omega)), ?_⟩) (fun hg T' k1 => br_t rfl ?_)⟩
    · have ec : ctL S h dd (r + 1) = ctL S h dd r ++ [r] := if_pos hg
      intro g2 e2 g3 e3
      rw [nI_clamp (by omega), show vp_nar .boolean 1 = bI true from boolN true, wI_up _ _ rfl] at e2
      rw [e2, hi_up _ _ rfl, up2_s _ _ _ (show 12 ≠ 301 by decide), k2, nI_1, wI_up _ _ rfl] at e3
      rw [e3]
      have l1 : ∀ s, s ∈ [141, 142, 143, 144] → (up2 (up2 T' 301 r (bI true)) 12 49 (nI ((ctL S h dd r).length + 1))) s = T' s := fun s hs => by
        have h2 : s ≠ 301 := by revert hs; revert s; decide
        have h1 : s ≠ 12 := by clear h2; revert hs; revert s; decide
        rw [up2_s _ _ _ h1, up2_s _ _ _ h2]
      refine f65 _ (SA.wk (SA.wa k1 _ _ (by decide) rfl) 49 _ rfl) ?_ (fun q hq => ?_)
      · rw [ec]
        refine ⟨by rw [up2_eq, List.length_append]; rfl, fun k q hk => ?_⟩
        rw [l1 141 (by decide), l1 142 (by decide), l1 143 (by decide), l1 144 (by decide)]
        rcases Nat.lt_or_ge k (ctL S h dd r).length with c | c
        · rw [List.getElem?_append_left c] at hk
          obtain ⟨b1, b2, b3, b4⟩ := k4 k c
          obtain ⟨d1, d2, d3, d4⟩ := hY1.2 k q hk
          exact ⟨b1.trans d1, b2.trans d2, b3.trans d3, b4.trans d4⟩
        · rw [List.getElem?_append_right c] at hk
          have hk1 := (List.getElem?_eq_some_iff.mp hk).1
          have e0 : ([r] : List Nat).length = 1 := rfl
          have ek : k = (ctL S h dd r).length := by omega
          rw [ek, Nat.sub_self] at hk
          have : some r = some q := hk
          have eq : q = r := (Option.some.inj this).symm
          rw [ek, eq]
          exact ⟨k5, k6, k7, k8⟩
      · rw [up2_s _ _ _ (show 301 ≠ 12 by decide), up2_at, ec, List.mem_append, List.mem_singleton]
        by_cases c : q = r
        · rw [if_pos c]
          exact ⟨fun z => absurd z (by decide), fun z => absurd (Or.inr c) z⟩
        · rw [if_neg c, k3, y301, if_neg c, h301 q (by omega)]
          exact ⟨fun z y => y.elim z c, fun z y => z (Or.inl y)⟩
    · have ec : ctL S h dd (r + 1) = ctL S h dd r := if_neg hg
      refine f65 T' (hF1.trans k1.fs) ?_ (fun q hq => ?_)
      · rw [ec]
        exact hY1.cg (SA.k k1 (j := 49) rfl) (fun s hs => SA.a k1 (by revert hs; revert s; decide) (by revert hs; revert s; decide))
      · rw [SA.a k1 (s := 301) (by decide) rfl, y301, ec]
        by_cases c : q = r
        · rw [if_pos c, c]
          exact ⟨fun _ => hnr, fun _ => rfl⟩
        · rw [if_neg c]
          exact h301 q (by omega)
theorem sp_X11_findCounted {d : Nat} {h dd : Int32} {σ : XH} {S : SS} {Q : XV → XH → Prop} (hd : 12 ≤ d) (hM : MI σ) (hI : SInv S) (hU : RuI S) (hQ : ∀ T, FS S T → RY T S h dd (CL S h dd) → (∀ j, j ∈ [31, 32, 33, 34, 35, 36] → T 12 j = (ctR S h dd).1 j) → Q vU (up σ T)) : Ec d 0 0 m_X11_findCounted [vR (some (12, 0)), vI h, vI dd] (up σ S) Q := by
  refine Ec_of mo_X11_findCounted.1 (Nat.le_of_ble_eq_true rfl) ?_
  refine sX11_findCounted_0 ?_
  refine ⟨by omega, sp_X11_ruleOn hM hI ?_⟩
  dsimp only [kI]
  intro g e
  rw [wI_up _ _ rfl] at e
  rw [e]
  exact lp_find hd hM hI hU hQ (nRd S) 0 _ (by omega) (SA.wk (SA.rf _ _ S) 49 0 rfl) ⟨up2_eq _ _ _ _, fun k r hk => by cases hk⟩ (fun q hq => absurd hq (Nat.not_lt_zero q))
/-- the place of a reading in a list, from k on; -1: none -/
def plL : List Nat → Nat → Int32 → Int32
  | [], _, _ => -1
  | r :: l, k, x => if nI r = x then nI k else plL l (k + 1) x
theorem plL_in : ∀ (L : List Nat) (k : Nat) (x : Int32), plL L k x = -1 ∨ ∃ j r, L[j]? = some r ∧ nI r = x ∧ plL L k x = nI (k + j)
  | [], _, _ => Or.inl rfl
  | r :: l, k, x => by
    unfold plL
    split
    · rename_i e
      exact Or.inr ⟨0, r, rfl, e, rfl⟩
    · rcases plL_in l (k + 1) x with e | ⟨j, q, h1, h2, h3⟩
      · exact Or.inl e
      · exact Or.inr ⟨j + 1, q, h1, h2, by rw [h3]; congr 1; omega⟩
theorem sp_X11_placeOf {d : Nat} {x h dd : Int32} {L : List Nat} {σ : XH} {S T : SS} {Q : XV → XH → Prop} (hM : MI σ) (hY : RY T S h dd L) (hL : L.length ≤ 90) (hQ : Q (vI (plL L 0 x)) (up σ T)) : Ec d 0 0 m_X11_placeOf [vR (some (12, 0)), vI x] (up σ T) Q := by
  have e49 : hi (up σ T) 12 0 49 = nI L.length := hY.1
  have lp : ∀ (l : List Nat) (i : Nat), L.drop i = l → i ≤ L.length → plL l i x = plL L 0 x → Ex d 0 0 m_X11_placeOf 2 [vR (some (12, 0)), vI x, vI (nI i)] [] (up σ T) Q := by
    intro l
    induction l with
    | nil =>
      intro i hl hi_ hp
      have hz : L.length ≤ i := by
        have : (L.drop i).length = 0 := by rw [hl]; rfl
        rw [List.length_drop] at this
        omega
      refine sX11_placeOf_2 ?_
      unfold bX11_placeOf_2
      rw [e49]
      refine ⟨fun z => ?_, fun _ => ?_⟩
      · have := (c_lt (by omega) (by omega)).mp z
        omega
      · rw [← hp] at hQ
        exact hQ
    | cons r l ih =>
      intro i hl hi_ hp
      have hlt : i < L.length := by
        have : (L.drop i).length = l.length + 1 := by rw [hl]; rfl
        rw [List.length_drop] at this
        omega
      have hci : L[i]? = some r := by
        have e : (L.drop i)[0]? = some r := by rw [hl]; rfl
        rw [List.getElem?_drop] at e
        exact e
      have hdl : L.drop (i + 1) = l := by
        have : (L.drop i).drop 1 = l := by rw [hl]; rfl
        rw [List.drop_drop] at this
        exact this
      have x141 : hi (up σ T) 141 0 (nI i).toNatClampNeg = nI r := by
        rw [nI_clamp (by omega)]
        exact (hY.2 i r hci).1
      refine sX11_placeOf_2 ?_
      unfold bX11_placeOf_2
      rw [e49, x141, nI_1]
      refine ⟨fun _ => ⟨hM.r141, vp_at hM.n141 (vp_in_nI (by omega) (by omega)), fun z => ?_, fun z => ?_⟩, fun z => absurd ((c_lt (n := i) (N := L.length) (by omega) (by omega)).mpr hlt) z⟩
      · have : plL (r :: l) i x = nI i := if_pos z
        rw [this] at hp
        rw [← hp] at hQ
        exact hQ
      · have : plL (r :: l) i x = plL l (i + 1) x := if_neg z
        rw [this] at hp
        exact ih (i + 1) hdl (by omega) hp
  refine Ec_of mo_X11_placeOf.1 (Nat.le_of_ble_eq_true rfl) ?_
  refine sX11_placeOf_0 ?_
  unfold bX11_placeOf_0
  exact lp L 0 rfl (Nat.zero_le _) rfl
def countedG (S : SS) (h d w : Int32) : Int32 :=
  if ¬ inP h 0 2 ∨ w < -1 then -1 else if ¬ inP d 0 9999 then -2 else if w = -1 then nI (CL S h d).length
  else if w < nI (CL S h d).length then nI ((CL S h d).getD w.toNatClampNeg 0) else -1
theorem CL_len {S : SS} (hI : SInv S) (h d : Int32) : (CL S h d).length ≤ 90 := by
  have := ctL_len (S := S) (h := h) (d := d) (nRd S)
  have := hI.l8
  show (ctL S h d (nRd S)).length ≤ 90
  omega
theorem getD_at {L : List Nat} {k : Nat} (hk : k < L.length) : L[k]? = some (L.getD k 0) := by
  rw [List.getD_eq_getElem?_getD, List.getElem?_eq_getElem hk]
  rfl
theorem w_at {w : Int32} {n : Nat} (h1 : ¬ w < -1) (h2 : ¬ w = -1) (h3 : w < nI n) (hn : n < 1000) : ∃ k, k < n ∧ w = nI k := by
  have e1 : (-1 : Int32).toInt = -1 := by decide
  rw [fa_lt, e1] at h1
  rw [fa_eq, e1] at h2
  rw [fa_lt, nI_toInt (by omega)] at h3
  refine ⟨w.toInt.toNat, by omega, ?_⟩
  apply Int32.toInt_inj.mp
  rw [nI_toInt (by omega)]
  omega
theorem sp_X11_counted {d : Nat} {h dd w : Int32} {σ : XH} {S : SS} {Q : XV → XH → Prop} (hd : 13 ≤ d) (hM : MI σ) (hI : SInv S) (hU : RuI S) (hQ : ∀ T, FS S T → Q (vI (countedG S h dd w)) (up σ T)) : Ec d 0 0 m_X11_counted [vR (some (12, 0)), vI h, vI dd, vI w] (up σ S) Q := by
  have hl := CL_len hI h dd
  unfold countedG at hQ
  refine Ec_of mo_X11_counted.1 (Nat.le_of_ble_eq_true rfl) ?_
  refine sX11_counted_0 ⟨by omega, sp_X11_isHouse (by omega) (fun c1 => br_f (by decide) ⟨fun c2 => sX11_counted_13 ?_, fun c2 => ⟨by omega, sp_X11_isDay (by omega) (fun c3 => br_f (by decide) ⟨by omega, sp_X11_findCounted (by omega) hM hI hU (fun T hF hY _ => ?_)⟩) (fun c3 => br_t rfl ?_)⟩⟩) (fun c1 => br_t rfl (sX11_counted_13 ?_))⟩
  · rw [if_pos (Or.inr c2)] at hQ
    exact hQ S (FS.rf S)
  · have hq := hQ T hF
    rw [if_neg (fun z => z.elim (fun y => y c1) c2), if_neg (fun z => z c3)] at hq
    have e49 : hi (up σ T) 12 0 49 = nI (CL S h dd).length := hY.1
    dsimp only [kU]
    rw [e49]
    refine ⟨fun z => sX11_counted_62 ?_, fun z => ⟨fun z2 => ?_, fun z2 => sX11_counted_62 ?_⟩⟩
    · rw [if_pos z] at hq; exact hq
    · obtain ⟨k, hk, ek⟩ := w_at c2 z z2 (by omega)
      rw [if_neg z, if_pos z2] at hq
      rw [ek] at hq ⊢
      rw [nI_clamp (by omega)] at hq ⊢
      have x141 : hi (up σ T) 141 0 k = nI ((CL S h dd).getD k 0) := (hY.2 k _ (getD_at hk)).1
      rw [x141]
      exact ⟨hM.r141, vp_at hM.n141 (vp_in_nI (by omega) (by omega)), sX11_counted_62 hq⟩
    · rw [if_neg z, if_neg z2] at hq; exact hq
  · rw [if_neg (fun z => z.elim (fun y => y c1) c2), if_pos c3] at hQ
    exact hQ S (FS.rf S)
  · rw [if_pos (Or.inl c1)] at hQ
    exact hQ S (FS.rf S)
def countsG (S : SS) (h d x : Int32) : Int32 := if ¬ inP h 0 2 ∨ ¬ inP d 0 9999 then NOi else if plL (CL S h d) 0 x < 0 then NOi else vlF S h d ((CL S h d).getD (plL (CL S h d) 0 x).toNatClampNeg 0)
theorem pl_rd {S : SS} (hI : SInv S) {h d x : Int32} (hx : ¬ isRd S x) : plL (CL S h d) 0 x = -1 := by
  rcases plL_in (CL S h d) 0 x with e | ⟨j, r, h1, h2, h3⟩
  · exact e
  · exfalso
    have hm : r ∈ CL S h d := List.mem_of_getElem? h1
    have hr := ctL_lt _ _ hm
    have h90 := hI.l8
    apply hx
    show inP x 0 (S 12 8 - 1)
    rw [hI.n8, ← h2]
    exact (inP_nI (by omega)).mpr (vp_in_nI hr (by omega))
theorem sp_X11_counts {d : Nat} {h dd x : Int32} {σ : XH} {S : SS} {Q : XV → XH → Prop} (hd : 13 ≤ d) (hM : MI σ) (hI : SInv S) (hU : RuI S) (hQ : ∀ T, FS S T → Q (vI (countsG S h dd x)) (up σ T)) : Ec d 0 0 m_X11_counts [vR (some (12, 0)), vI h, vI dd, vI x] (up σ S) Q := by
  have hl := CL_len hI h dd
  unfold countsG at hQ
  refine Ec_of mo_X11_counts.1 (Nat.le_of_ble_eq_true rfl) ?_
  refine sX11_counts_0 ⟨by omega, sp_X11_isHouse (by omega) (fun c1 => br_f (by decide) ⟨by omega, sp_X11_isDay (by omega) (fun c2 => br_f (by decide) ⟨by omega, sp_X11_isReading (by omega) (fun c3 => br_f (by decide) ⟨by omega, sp_X11_findCounted (by omega) hM hI hU (fun T hF hY _ => ⟨by omega, sp_X11_placeOf hM hY hl ?_⟩)⟩) (fun c3 => br_t rfl (sX11_counts_24 ?_))⟩) (fun c2 => br_t rfl (sX11_counts_24 ?_))⟩) (fun c1 => br_t rfl (sX11_counts_24 ?_))⟩
  · have hq := hQ T hF
    rw [if_neg (fun z => z.elim (fun y => y c1) (fun y => y c2))] at hq
    refine ⟨fun z => sX11_counts_58 ?_, fun z => ⟨hM.r143, by omega, sp_X11_placeOf hM hY hl ?_⟩⟩
    · rw [if_pos z] at hq; exact hq
    · rw [if_neg z] at hq
      rcases plL_in (CL S h dd) 0 x with e | ⟨j, r, p1, p2, p3⟩
      · rw [e] at z
        exact absurd (by decide) z
      · rw [Nat.zero_add] at p3
        rw [p3] at hq ⊢
        have hj := (List.getElem?_eq_some_iff.mp p1).1
        rw [nI_clamp (by omega)] at hq
        have x143 : hi (up σ T) 143 0 (nI j).toNatClampNeg = vlF S h dd ((CL S h dd).getD j 0) := by
          rw [nI_clamp (by omega)]
          exact (hY.2 j _ (getD_at hj)).2.2.1
        refine ⟨vp_at hM.n143 (vp_in_nI (by omega) (by omega)), ?_⟩
        rw [x143]
        exact sX11_counts_58 hq
  · rw [if_neg (fun z => z.elim (fun y => y c1) (fun y => y c2)), pl_rd hI c3, if_pos (by decide)] at hQ
    exact hQ S (FS.rf S)
  · rw [if_pos (Or.inr c2)] at hQ
    exact hQ S (FS.rf S)
  · rw [if_pos (Or.inl c1)] at hQ
    exact hQ S (FS.rf S)
