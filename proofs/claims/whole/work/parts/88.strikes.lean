/-! ===== whether a strike's steps hold of a reading ===== -/
/-- what the tests ask of a reading -/
def fcF (S : SS) (r : Nat) (v : Int32) : Nat → Int32 := fun k => if k = 0 then S 122 r else if k = 1 then S 118 (S 121 r).toNatClampNeg else if k = 2 then S 125 (oN S r) else if k = 3 then S 120 r else v
theorem sp_X5_holds {d r : Nat} {sg w v : Int32} {S : SS} {σ : XH} {Q : XV → XH → Prop} (hd : 1 ≤ d) (ho : okT sg) (hI : SInv S) (hS : CSt σ S) (hC : CCl σ S) (hR : CRd σ S) (hr : r < nRd S) (hk : isSk (S 120 (oN S r))) (h : Q (vI (bI (evF (fcF S r v) sg w))) σ) : Ec d 0 0 m_X5_holds [vI sg, vI w, vR (some (5, r)), vI v] σ Q := by
  obtain ⟨g0, g1, g2, g3, g4, g5, g6, g7, g8, g9, g10⟩ := hR.2 r hr
  have hoN := oN_lt hI hr
  obtain ⟨o0, o1, o2, o3, o4, o5, o6, o7, o8, o9, o10⟩ := hR.2 _ hoN
  have hcl := vp_lt (hI.r hr).2.1
  obtain ⟨c0, c1, c2, c3, c4, c5, c6, c7⟩ := hC.2.2.2 _ hcl
  have hst : (S 118 (S 121 r).toNatClampNeg).toNatClampNeg < nSt S := by
    have := (hI.2.2.2.2.2.2.2.2.1 (S 121 r) (hI.r hr).2.1).1
    exact vp_lt this
  obtain ⟨s0, s1⟩ := hS.2.2 _ hst
  have hstn : nI (S 118 (S 121 r).toNatClampNeg).toNatClampNeg = S 118 (S 121 r).toNatClampNeg := by
    have := (hI.2.2.2.2.2.2.2.2.1 (S 121 r) (hI.r hr).2.1).1
    refine (nI_of_nn (fun z => this (Or.inl z))).symm
  have e125 : ¬ S 125 (oN S r) = -1 := by
    have := (hI.r hoN).2.2.2.2.2.2.2.2.1 hk
    intro z
    rw [z] at this
    exact absurd this (by decide)
  refine Ec_of mo_X5_holds.1 (Nat.le_of_ble_eq_true rfl) ?_
  refine sX5_holds_0 ?_
  unfold bX5_holds_0
  have bt_ : ∀ {p : Prop} [Decidable p], p → bI (decide p) = 1 := fun {p} _ hp => by rw [decide_eq_true hp]; rfl
  have bf_ : ∀ {p : Prop} [Decidable p], ¬ p → bI (decide p) = 0 := fun {p} _ hp => by rw [decide_eq_false hp]; rfl
  unfold evF at h
  refine ⟨fun c => ?_, fun n60 => ⟨fun c => ?_, fun n62 => ⟨fun c => ?_, fun n101 => ⟨fun c => ?_, fun n104 => ⟨fun c => ?_, fun n107 => ⟨fun c => ?_, fun n115 => ?_⟩⟩⟩⟩⟩⟩
  · rw [if_neg (by rw [c]; decide), if_neg (by rw [c]; decide), if_neg (by rw [c]; decide), if_neg (by rw [c]; decide), if_pos c] at h
    refine ⟨fun q => sX5_holds_135 ⟨Or.inr rfl, ?_⟩, fun q => sX5_holds_135 ⟨Or.inl rfl, ?_⟩⟩
    · rw [bt_ (show fcF S r v 4 < w from q)] at h; exact h
    · rw [bf_ (show ¬ fcF S r v 4 < w from q)] at h; exact h
  · rw [if_neg (by rw [c]; decide), if_neg (by rw [c]; decide), if_neg (by rw [c]; decide), if_neg (by rw [c]; decide), if_neg (by rw [c]; decide)] at h
    refine ⟨fun q => sX5_holds_146 ⟨Or.inr rfl, ?_⟩, fun q => sX5_holds_146 ⟨Or.inl rfl, ?_⟩⟩
    · rw [bt_ (show w < fcF S r v 4 from q)] at h; exact h
    · rw [bf_ (show ¬ w < fcF S r v 4 from q)] at h; exact h
  · rw [if_neg (by rw [c]; decide), if_neg (by rw [c]; decide), if_pos c] at h
    refine drf_of rfl ⟨hd, sp_X4_origin hR hr ?_⟩
    dsimp only [kR]
    refine drf_of rfl ?_
    rw [o7, if_neg e125]
    refine ⟨fun q => sX5_holds_110 ⟨Or.inr rfl, ?_⟩, fun q => sX5_holds_110 ⟨Or.inl rfl, ?_⟩⟩
    · rw [bt_ (show fcF S r v 2 = w from q)] at h; exact h
    · rw [bf_ (show ¬ fcF S r v 2 = w from q)] at h; exact h
  · rw [if_pos c] at h
    refine drf_of rfl ?_
    rw [g3]
    refine ⟨fun q => sX5_holds_73 ⟨Or.inr rfl, ?_⟩, fun q => sX5_holds_73 ⟨Or.inl rfl, ?_⟩⟩
    · rw [bt_ (show fcF S r v 0 = w from q)] at h; exact h
    · rw [bf_ (show ¬ fcF S r v 0 = w from q)] at h; exact h
  · rw [if_neg (by rw [c]; decide), if_neg (by rw [c]; decide), if_neg (by rw [c]; decide), if_pos c] at h
    refine drf_of rfl ?_
    rw [g1]
    refine ⟨fun q => sX5_holds_124 ⟨Or.inr rfl, ?_⟩, fun q => sX5_holds_124 ⟨Or.inl rfl, ?_⟩⟩
    · rw [bt_ (show fcF S r v 3 = w from q)] at h; exact h
    · rw [bf_ (show ¬ fcF S r v 3 = w from q)] at h; exact h
  · rw [if_neg (by rw [c]; decide), if_pos c] at h
    refine drf_of rfl (drf_of g2 (drf_of c1 ?_))
    rw [s0, hstn]
    refine ⟨fun q => sX5_holds_93 ⟨Or.inr rfl, ?_⟩, fun q => sX5_holds_93 ⟨Or.inl rfl, ?_⟩⟩
    · rw [bt_ (show fcF S r v 1 = w from q)] at h; exact h
    · rw [bf_ (show ¬ fcF S r v 1 = w from q)] at h; exact h
  · exfalso
    rcases ho with q | q | q | q | q | q
    · exact n104 q
    · exact n115 q
    · exact n101 q
    · exact n107 q
    · exact n60 q
    · exact n62 q
theorem lp_strikes {d rc rs t room : Nat} {L : List Sst} {rd : Option XO} {v : Int32} {ev : Int32 → Int32 → Bool} {σ : XH} {Q : XV → XH → Prop} (hd : 2 ≤ d) (hR : RU σ t room L)
    (hH : ∀ (sg w : Int32) (Q' : XV → XH → Prop), okT sg → Q' (vI (bI (ev sg w))) σ → Ec (d - 1) 0 0 m_X5_holds [vI sg, vI w, vR rd, vI v] σ Q') : ∀ (l : List Sst) (i : Nat) (w : Int64), L.drop i = l → i ≤ L.length → (∀ s, s ∈ l → okG s.1) → Q (vI (bI (bt (rnB ev l w) 0))) σ → Ex d rc rs m_X5_strikesOut 5 [vR (some (6, t)), vR rd, vI v, vL w, vU, vI (nI i)] [] σ Q
  | [], i, w, hl, hi_, hs, hQ => by
    obtain ⟨r1, r2, n1, n2, r140, hL, h6, hk⟩ := hR
    have hz : L.length ≤ i := by
      have : (L.drop i).length = 0 := by rw [hl]; rfl
      rw [List.length_drop] at this
      omega
    refine sX5_strikesOut_5 ?_
    unfold bX5_strikesOut_5
    rw [h6]
    refine ⟨fun c => ?_, fun _ => ⟨fun c => sX5_strikesOut_139 ⟨Or.inr rfl, ?_⟩, fun c => sX5_strikesOut_139 ⟨Or.inl rfl, ?_⟩⟩⟩
    · have := (c_lt (n := i) (N := L.length) (by omega) (by omega)).mp c
      omega
    · have e : bt (rnB ev [] w) 0 = true := bt_low.mp c
      rw [e] at hQ
      exact hQ
    · have e : bt (rnB ev [] w) 0 = false := by
        have := mt bt_low.mpr c
        show bt w 0 = false
        simpa using this
      rw [e] at hQ
      exact hQ
  | s :: l, i, w, hl, hi_, hs, hQ => by
    obtain ⟨r1, r2, n1, n2, r140, hL, h6, hk⟩ := id hR
    have hlt : i < L.length := by
      have : (L.drop i).length = l.length + 1 := by rw [hl]; rfl
      rw [List.length_drop] at this
      omega
    have hci : L[i]? = some s := by
      have e : (L.drop i)[0]? = some s := by rw [hl]; rfl
      rw [List.getElem?_drop] at e
      exact e
    have hdl : L.drop (i + 1) = l := by
      have : (L.drop i).drop 1 = l := by rw [hl]; rfl
      rw [List.drop_drop] at this
      exact this
    obtain ⟨x1, x2⟩ := hk i s hci
    have hok := hs s List.mem_cons_self
    have go := fun w' (e : stB ev w s = w') => lp_strikes hd hR hH l (i + 1) w' hdl (by omega) (fun s' hs' => hs s' (List.mem_cons_of_mem _ hs')) (rc := rc) (rs := rs) (Q := Q) (by rw [← e]; exact hQ)
    have f120 : ∀ w', stB ev w s = w' → Ex d rc rs m_X5_strikesOut 120 [vR (some (6, t)), vR rd, vI v, vL w', vU, vI (nI i)] [] σ Q := fun w' e => by
      refine sX5_strikesOut_120 ?_
      unfold bX5_strikesOut_120
      rw [nI_1]
      exact go w' e
    refine sX5_strikesOut_5 ?_
    unfold bX5_strikesOut_5
    rw [h6, nI_clamp (by omega), x1, x2]
    have v4 : vp_in (nI i) (hn σ 104 t) := vp_at n1 (vp_in_nI (by omega) (by omega))
    have v5 : vp_in (nI i) (hn σ 105 t) := vp_at n2 (vp_in_nI (by omega) (by omega))
    refine ⟨fun _ => ⟨r1, v4, fun c => f120 _ ?_, fun c1 => ⟨fun c => f120 _ ?_, fun c2 => ⟨fun c => f120 _ ?_, fun c3 => ⟨r1, v4, r2, v5, by omega, ?_⟩⟩⟩⟩, fun z => absurd ((c_lt (n := i) (N := L.length) (by omega) (by omega)).mpr hlt) z⟩
    · unfold stB; rw [if_pos c]
    · unfold stB; rw [if_neg c1, if_pos c]; rfl
    · unfold stB; rw [if_neg c1, if_neg c2, if_pos c]; rfl
    · have ho : okT s.1 := by
        rcases hok with q | q | q | q
        · exact absurd q c1
        · exact absurd q c2
        · exact absurd q c3
        · exact q
      have es : stB ev w s = shl1 w ||| (bI (ev s.1 s.2)).toInt64 := by
        unfold stB
        rw [if_neg c1, if_neg c2, if_neg c3]
      refine hH s.1 s.2 _ ho ?_
      have f117 : ∀ q : Int32, q = bI (ev s.1 s.2) → Ex d rc rs m_X5_strikesOut 117 [vR (some (6, t)), vR rd, vI v, vU, vU, vI (nI i)] [vI q, vL (w <<< ((1 : Int32).toInt64 &&& 63))] σ Q := fun q eq => by
        refine sX5_strikesOut_117 ?_
        unfold bX5_strikesOut_117
        refine f120 _ ?_
        rw [es, eq]
        rfl
      cases hb : ev s.1 s.2
      · exact br_t rfl (f117 0 (by rw [hb]; rfl))
      · exact br_f (by decide) (f117 1 (by rw [hb]; rfl))
def struck (ev : Int32 → Int32 → Bool) (L : List Sst) : Bool := (evs ev L [false]).headD false
theorem BR_0 : BR 0 [false] := by
  refine ⟨by decide, fun i => ?_⟩
  have e : bt 0 i = false := by
    unfold bt
    show (0#64).getLsbD i = false
    exact BitVec.getLsbD_zero
  rw [e]
  cases i <;> rfl
theorem struck_bt {ev : Int32 → Int32 → Bool} {L : List Sst} (h : hOK L 1) : bt (rnB ev L 0) 0 = struck ev L := by
  have := (BR_run (ev := ev) L 0 [false] BR_0 h).2 0
  rw [this]
  unfold struck
  cases evs ev L [false] <;> rfl
theorem sp_X5_strikesOut {d t r room : Nat} {L : List Sst} {v : Int32} {S : SS} {σ : XH} {Q : XV → XH → Prop} (hd : 2 ≤ d) (hU : RU σ t room L) (hL : hOK L 1) (hI : SInv S) (hS : CSt σ S) (hC : CCl σ S) (hR : CRd σ S) (hr : r < nRd S) (hk : isSk (S 120 (oN S r))) (h : Q (vI (bI (struck (evF (fcF S r v)) L))) σ) : Ec d 0 0 m_X5_strikesOut [vR (some (6, t)), vR (some (5, r)), vI v] σ Q := by
  refine Ec_of mo_X5_strikesOut.1 (Nat.le_of_ble_eq_true rfl) ?_
  refine sX5_strikesOut_0 ?_
  unfold bX5_strikesOut_0
  refine lp_strikes (ev := evF (fcF S r v)) hd hU (fun sg w Q' ho hQ => sp_X5_holds (by omega) ho hI hS hC hR hr hk hQ) L 0 0 rfl (Nat.zero_le _) (hOK_mem L 1 hL) ?_
  rw [struck_bt hL]
  exact h
