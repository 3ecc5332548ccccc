/-! ===== the reference: methods that write ===== -/
theorem gd1 : inB 99999 (-43200) 43200 = false := by decide
theorem gd2 : inB 3 1 5 = true := by decide
theorem gd3 : inB 4 1 5 = true := by decide
theorem gd4 : inB 5 1 5 = true := by decide
theorem gd5 : inB 3 0 7 = true := by decide
theorem gd6 : ((3 : Int32) = 0) = False := by decide
theorem gd7 : ((3 : Int32) = 4) = False := by decide
abbrev RS : Type := Int32 × SS
def passF (S : SS) (n : Int32) : RS := if inP n 1 400 ∧ ¬ 9999 < S 12 0 + n then (S 12 0 + n, up2 S 12 0 (S 12 0 + n)) else (-2, S)
def stationF (S : SS) (l h : Int32) : RS := if (inP l (-43200) 43200 ∨ l = 99999) ∧ inP h 0 4000 then (if S 12 1 = 11 then (-4, S) else (S 12 1 + 1 - 1, up2 (up2 (up2 S 116 (S 12 1).toNatClampNeg l) 117 (S 12 1).toNatClampNeg h) 12 1 (S 12 1 + 1))) else (-2, S)
def clockF (S : SS) (s : Int32) : RS := if isSt S s then (if S 12 2 = 12 then (-4, S) else (S 12 2 + 1 - 1, up2 (up2 (up2 S 118 (S 12 2).toNatClampNeg s) 119 (S 12 2).toNatClampNeg (-1)) 12 2 (S 12 2 + 1))) else (-1, S)
def stopF (S : SS) (c t : Int32) : RS := if isCl S c then (if inP t 0 999999 then (if gS S 119 c < 0 then (1, up2 S 119 c.toNatClampNeg t) else (-3, S)) else (-2, S)) else (-1, S)
theorem sp_X11_pass {d : Nat} {n : Int32} {σ : XH} {S : SS} {Q : XV → XH → Prop} (hd : 1 ≤ d) (hM : MI σ)  (h : Q (vI (passF S n).1) (up σ (passF S n).2)) : Ec d 0 0 m_X11_pass [vR (some (12, 0)), vI n] (up σ S) Q := by
  refine Ec_of mo_X11_pass.1 (Nat.le_of_ble_eq_true rfl) ?_
  refine sX11_pass_0 ?_
  unfold bX11_pass_0
  refine ⟨by omega, ?_⟩
  refine sp_X11_in (by omega) (fun c6 => ?_) (fun c6 => ?_)
  · refine br_f (by decide) ?_
    refine ⟨fun c21 => ?_, fun c21 => ?_⟩
    · refine sX11_pass_24 ?_
      unfold bX11_pass_24
      (try simp only [inP, isCl, isSt, isRd, gS, hu_12, up2_eq, up2_at, up2_s, up2_k, ne_eq, not_false_eq_true, Nat.reduceEqDiff, wL_up, hl_up, hr_up, hn_up] at *)
      first | (simp only [passF, inP, isCl, isSt, isRd, gS, gd1, gd2, gd3, gd4, gd5, gd6, gd7, if_true, if_false, true_and, and_true, false_and, and_false, true_or, or_true, false_or, or_false, not_true, not_false_iff, and_self, Classical.not_not, eq_self, ite_self, reduceIte, *] at h; first | exact h | (simp only [*]; done)) | (simp [passF, *] at h; exact h) | (unfold passF at h; simp_all [inP, isCl, isSt, isRd, gS, gd1, gd2, gd3, gd4, gd5, gd6, gd7]; done) | skip
    · intro h34 e34
      simp only [wu_12] at e34
      subst e34
      (try simp only [inP, isCl, isSt, isRd, gS, hu_12, up2_eq, up2_at, up2_s, up2_k, ne_eq, not_false_eq_true, Nat.reduceEqDiff, wL_up, hl_up, hr_up, hn_up] at *)
      first | (simp only [passF, inP, isCl, isSt, isRd, gS, gd1, gd2, gd3, gd4, gd5, gd6, gd7, if_true, if_false, true_and, and_true, false_and, and_false, true_or, or_true, false_or, or_false, not_true, not_false_iff, and_self, Classical.not_not, eq_self, ite_self, reduceIte, *] at h; first | exact h | (simp only [*]; done)) | (simp [passF, *] at h; exact h) | (unfold passF at h; simp_all [inP, isCl, isSt, isRd, gS, gd1, gd2, gd3, gd4, gd5, gd6, gd7]; done) | skip
  · refine br_t (rfl) ?_
    refine sX11_pass_24 ?_
    unfold bX11_pass_24
    (try simp only [inP, isCl, isSt, isRd, gS, hu_12, up2_eq, up2_at, up2_s, up2_k, ne_eq, not_false_eq_true, Nat.reduceEqDiff, wL_up, hl_up, hr_up, hn_up] at *)
    first | (simp only [passF, inP, isCl, isSt, isRd, gS, gd1, gd2, gd3, gd4, gd5, gd6, gd7, if_true, if_false, true_and, and_true, false_and, and_false, true_or, or_true, false_or, or_false, not_true, not_false_iff, and_self, Classical.not_not, eq_self, ite_self, reduceIte, *] at h; first | exact h | (simp only [*]; done)) | (simp [passF, *] at h; exact h) | (unfold passF at h; simp_all [inP, isCl, isSt, isRd, gS, gd1, gd2, gd3, gd4, gd5, gd6, gd7]; done) | skip
theorem sp_X11_station {d : Nat} {l b : Int32} {σ : XH} {S : SS} {Q : XV → XH → Prop} (hd : 1 ≤ d) (hM : MI σ) (v : ¬ S 12 1 = 11 → vp_in (S 12 1) 11) (h : Q (vI (stationF S l b).1) (up σ (stationF S l b).2)) : Ec d 0 0 m_X11_station [vR (some (12, 0)), vI l, vI b] (up σ S) Q := by
  refine Ec_of mo_X11_station.1 (Nat.le_of_ble_eq_true rfl) ?_
  refine sX11_station_0 ?_
  unfold bX11_station_0
  refine ⟨by omega, ?_⟩
  refine sp_X11_in (by omega) (fun c6 => ?_) (fun c6 => ?_)
  · refine br_f (by decide) ?_
    refine sX11_station_18 ?_
    unfold bX11_station_18
    refine ⟨by omega, ?_⟩
    refine sp_X11_in (by omega) (fun c24 => ?_) (fun c24 => ?_)
    · refine br_f (by decide) ?_
      refine ⟨fun c39 => ?_, fun c39 => ?_⟩
      · (try simp only [inP, isCl, isSt, isRd, gS, hu_12, hu_116, hu_117, up2_eq, up2_at, up2_s, up2_k, ne_eq, not_false_eq_true, Nat.reduceEqDiff, wL_up, hl_up, hr_up, hn_up] at *)
        first | (simp only [stationF, inP, isCl, isSt, isRd, gS, gd1, gd2, gd3, gd4, gd5, gd6, gd7, if_true, if_false, true_and, and_true, false_and, and_false, true_or, or_true, false_or, or_false, not_true, not_false_iff, and_self, Classical.not_not, eq_self, ite_self, reduceIte, *] at h; first | exact h | (simp only [*]; done)) | (simp [stationF, *] at h; exact h) | (unfold stationF at h; simp_all [inP, isCl, isSt, isRd, gS, gd1, gd2, gd3, gd4, gd5, gd6, gd7]; done) | skip
      · refine ⟨hM.r116, ?_⟩
        refine ⟨vp_at hM.n116 (by (try simp only [hu_12, hu_116, hu_117, up2_eq, up2_at, up2_s, up2_k, ne_eq, not_false_eq_true, Nat.reduceEqDiff, wL_up, hl_up, hr_up, hn_up]); first | assumption | exact v (by assumption)), ?_⟩
        intro h54 e54
        simp only [wu_12, wu_116, wu_117] at e54
        subst e54
        refine ⟨hM.r117, ?_⟩
        refine ⟨vp_at hM.n117 (by (try simp only [hu_12, hu_116, hu_117, up2_eq, up2_at, up2_s, up2_k, ne_eq, not_false_eq_true, Nat.reduceEqDiff, wL_up, hl_up, hr_up, hn_up]); first | assumption | exact v (by assumption)), ?_⟩
        intro h64 e64
        simp only [wu_12, wu_116, wu_117] at e64
        subst e64
        intro h72 e72
        simp only [wu_12, wu_116, wu_117] at e72
        subst e72
        (try simp only [inP, isCl, isSt, isRd, gS, hu_12, hu_116, hu_117, up2_eq, up2_at, up2_s, up2_k, ne_eq, not_false_eq_true, Nat.reduceEqDiff, wL_up, hl_up, hr_up, hn_up] at *)
        first | (simp only [stationF, inP, isCl, isSt, isRd, gS, gd1, gd2, gd3, gd4, gd5, gd6, gd7, if_true, if_false, true_and, and_true, false_and, and_false, true_or, or_true, false_or, or_false, not_true, not_false_iff, and_self, Classical.not_not, eq_self, ite_self, reduceIte, *] at h; first | exact h | (simp only [*]; done)) | (simp [stationF, *] at h; exact h) | (unfold stationF at h; simp_all [inP, isCl, isSt, isRd, gS, gd1, gd2, gd3, gd4, gd5, gd6, gd7]; done) | skip
    · refine br_t (rfl) ?_
      refine sX11_station_30 ?_
      unfold bX11_station_30
      (try simp only [inP, isCl, isSt, isRd, gS, hu_12, hu_116, hu_117, up2_eq, up2_at, up2_s, up2_k, ne_eq, not_false_eq_true, Nat.reduceEqDiff, wL_up, hl_up, hr_up, hn_up] at *)
      first | (simp only [stationF, inP, isCl, isSt, isRd, gS, gd1, gd2, gd3, gd4, gd5, gd6, gd7, if_true, if_false, true_and, and_true, false_and, and_false, true_or, or_true, false_or, or_false, not_true, not_false_iff, and_self, Classical.not_not, eq_self, ite_self, reduceIte, *] at h; first | exact h | (simp only [*]; done)) | (simp [stationF, *] at h; exact h) | (unfold stationF at h; simp_all [inP, isCl, isSt, isRd, gS, gd1, gd2, gd3, gd4, gd5, gd6, gd7]; done) | skip
  · refine br_t (rfl) ?_
    refine ⟨fun c15 => ?_, fun c15 => ?_⟩
    · refine sX11_station_18 ?_
      unfold bX11_station_18
      refine ⟨by omega, ?_⟩
      refine sp_X11_in (by omega) (fun c24 => ?_) (fun c24 => ?_)
      · refine br_f (by decide) ?_
        refine ⟨fun c39 => ?_, fun c39 => ?_⟩
        · (try simp only [inP, isCl, isSt, isRd, gS, hu_12, hu_116, hu_117, up2_eq, up2_at, up2_s, up2_k, ne_eq, not_false_eq_true, Nat.reduceEqDiff, wL_up, hl_up, hr_up, hn_up] at *)
          first | (simp only [stationF, inP, isCl, isSt, isRd, gS, gd1, gd2, gd3, gd4, gd5, gd6, gd7, if_true, if_false, true_and, and_true, false_and, and_false, true_or, or_true, false_or, or_false, not_true, not_false_iff, and_self, Classical.not_not, eq_self, ite_self, reduceIte, *] at h; first | exact h | (simp only [*]; done)) | (simp [stationF, *] at h; exact h) | (unfold stationF at h; simp_all [inP, isCl, isSt, isRd, gS, gd1, gd2, gd3, gd4, gd5, gd6, gd7]; done) | skip
        · refine ⟨hM.r116, ?_⟩
          refine ⟨vp_at hM.n116 (by (try simp only [hu_12, hu_116, hu_117, up2_eq, up2_at, up2_s, up2_k, ne_eq, not_false_eq_true, Nat.reduceEqDiff, wL_up, hl_up, hr_up, hn_up]); first | assumption | exact v (by assumption)), ?_⟩
          intro h54 e54
          simp only [wu_12, wu_116, wu_117] at e54
          subst e54
          refine ⟨hM.r117, ?_⟩
          refine ⟨vp_at hM.n117 (by (try simp only [hu_12, hu_116, hu_117, up2_eq, up2_at, up2_s, up2_k, ne_eq, not_false_eq_true, Nat.reduceEqDiff, wL_up, hl_up, hr_up, hn_up]); first | assumption | exact v (by assumption)), ?_⟩
          intro h64 e64
          simp only [wu_12, wu_116, wu_117] at e64
          subst e64
          intro h72 e72
          simp only [wu_12, wu_116, wu_117] at e72
          subst e72
          (try simp only [inP, isCl, isSt, isRd, gS, hu_12, hu_116, hu_117, up2_eq, up2_at, up2_s, up2_k, ne_eq, not_false_eq_true, Nat.reduceEqDiff, wL_up, hl_up, hr_up, hn_up] at *)
          first | (simp only [stationF, inP, isCl, isSt, isRd, gS, gd1, gd2, gd3, gd4, gd5, gd6, gd7, if_true, if_false, true_and, and_true, false_and, and_false, true_or, or_true, false_or, or_false, not_true, not_false_iff, and_self, Classical.not_not, eq_self, ite_self, reduceIte, *] at h; first | exact h | (simp only [*]; done)) | (simp [stationF, *] at h; exact h) | (unfold stationF at h; simp_all [inP, isCl, isSt, isRd, gS, gd1, gd2, gd3, gd4, gd5, gd6, gd7]; done) | skip
      · refine br_t (rfl) ?_
        refine sX11_station_30 ?_
        unfold bX11_station_30
        (try simp only [inP, isCl, isSt, isRd, gS, hu_12, hu_116, hu_117, up2_eq, up2_at, up2_s, up2_k, ne_eq, not_false_eq_true, Nat.reduceEqDiff, wL_up, hl_up, hr_up, hn_up] at *)
        first | (simp only [stationF, inP, isCl, isSt, isRd, gS, gd1, gd2, gd3, gd4, gd5, gd6, gd7, if_true, if_false, true_and, and_true, false_and, and_false, true_or, or_true, false_or, or_false, not_true, not_false_iff, and_self, Classical.not_not, eq_self, ite_self, reduceIte, *] at h; first | exact h | (simp only [*]; done)) | (simp [stationF, *] at h; exact h) | (unfold stationF at h; simp_all [inP, isCl, isSt, isRd, gS, gd1, gd2, gd3, gd4, gd5, gd6, gd7]; done) | skip
    · refine sX11_station_30 ?_
      unfold bX11_station_30
      (try simp only [inP, isCl, isSt, isRd, gS, hu_12, hu_116, hu_117, up2_eq, up2_at, up2_s, up2_k, ne_eq, not_false_eq_true, Nat.reduceEqDiff, wL_up, hl_up, hr_up, hn_up] at *)
      first | (simp only [stationF, inP, isCl, isSt, isRd, gS, gd1, gd2, gd3, gd4, gd5, gd6, gd7, if_true, if_false, true_and, and_true, false_and, and_false, true_or, or_true, false_or, or_false, not_true, not_false_iff, and_self, Classical.not_not, eq_self, ite_self, reduceIte, *] at h; first | exact h | (simp only [*]; done)) | (simp [stationF, *] at h; exact h) | (unfold stationF at h; simp_all [inP, isCl, isSt, isRd, gS, gd1, gd2, gd3, gd4, gd5, gd6, gd7]; done) | skip
theorem sp_X11_clock {d : Nat} {s : Int32} {σ : XH} {S : SS} {Q : XV → XH → Prop} (hd : 2 ≤ d) (hM : MI σ) (v : ¬ S 12 2 = 12 → vp_in (S 12 2) 12) (h : Q (vI (clockF S s).1) (up σ (clockF S s).2)) : Ec d 0 0 m_X11_clock [vR (some (12, 0)), vI s] (up σ S) Q := by
  refine Ec_of mo_X11_clock.1 (Nat.le_of_ble_eq_true rfl) ?_
  refine sX11_clock_0 ?_
  unfold bX11_clock_0
  refine ⟨by omega, ?_⟩
  refine sp_X11_isStation (by omega) (fun c2 => ?_) (fun c2 => ?_)
  · refine br_f (by decide) ?_
    refine ⟨fun c16 => ?_, fun c16 => ?_⟩
    · (try simp only [inP, isCl, isSt, isRd, gS, hu_12, hu_118, hu_119, up2_eq, up2_at, up2_s, up2_k, ne_eq, not_false_eq_true, Nat.reduceEqDiff, wL_up, hl_up, hr_up, hn_up] at *)
      first | (simp only [clockF, inP, isCl, isSt, isRd, gS, gd1, gd2, gd3, gd4, gd5, gd6, gd7, if_true, if_false, true_and, and_true, false_and, and_false, true_or, or_true, false_or, or_false, not_true, not_false_iff, and_self, Classical.not_not, eq_self, ite_self, reduceIte, *] at h; first | exact h | (simp only [*]; done)) | (simp [clockF, *] at h; exact h) | (unfold clockF at h; simp_all [inP, isCl, isSt, isRd, gS, gd1, gd2, gd3, gd4, gd5, gd6, gd7]; done) | skip
    · refine ⟨hM.r118, ?_⟩
      refine ⟨vp_at hM.n118 (by (try simp only [hu_12, hu_118, hu_119, up2_eq, up2_at, up2_s, up2_k, ne_eq, not_false_eq_true, Nat.reduceEqDiff, wL_up, hl_up, hr_up, hn_up]); first | assumption | exact v (by assumption)), ?_⟩
      intro h31 e31
      simp only [wu_12, wu_118, wu_119] at e31
      subst e31
      refine ⟨hM.r119, ?_⟩
      refine ⟨vp_at hM.n119 (by (try simp only [hu_12, hu_118, hu_119, up2_eq, up2_at, up2_s, up2_k, ne_eq, not_false_eq_true, Nat.reduceEqDiff, wL_up, hl_up, hr_up, hn_up]); first | assumption | exact v (by assumption)), ?_⟩
      intro h41 e41
      simp only [wu_12, wu_118, wu_119] at e41
      subst e41
      intro h49 e49
      simp only [wu_12, wu_118, wu_119] at e49
      subst e49
      (try simp only [inP, isCl, isSt, isRd, gS, hu_12, hu_118, hu_119, up2_eq, up2_at, up2_s, up2_k, ne_eq, not_false_eq_true, Nat.reduceEqDiff, wL_up, hl_up, hr_up, hn_up] at *)
      first | (simp only [clockF, inP, isCl, isSt, isRd, gS, gd1, gd2, gd3, gd4, gd5, gd6, gd7, if_true, if_false, true_and, and_true, false_and, and_false, true_or, or_true, false_or, or_false, not_true, not_false_iff, and_self, Classical.not_not, eq_self, ite_self, reduceIte, *] at h; first | exact h | (simp only [*]; done)) | (simp [clockF, *] at h; exact h) | (unfold clockF at h; simp_all [inP, isCl, isSt, isRd, gS, gd1, gd2, gd3, gd4, gd5, gd6, gd7]; done) | skip
  · refine br_t (rfl) ?_
    (try simp only [inP, isCl, isSt, isRd, gS, hu_12, hu_118, hu_119, up2_eq, up2_at, up2_s, up2_k, ne_eq, not_false_eq_true, Nat.reduceEqDiff, wL_up, hl_up, hr_up, hn_up] at *)
    first | (simp only [clockF, inP, isCl, isSt, isRd, gS, gd1, gd2, gd3, gd4, gd5, gd6, gd7, if_true, if_false, true_and, and_true, false_and, and_false, true_or, or_true, false_or, or_false, not_true, not_false_iff, and_self, Classical.not_not, eq_self, ite_self, reduceIte, *] at h; first | exact h | (simp only [*]; done)) | (simp [clockF, *] at h; exact h) | (unfold clockF at h; simp_all [inP, isCl, isSt, isRd, gS, gd1, gd2, gd3, gd4, gd5, gd6, gd7]; done) | skip
theorem sp_X11_stop {d : Nat} {c t : Int32} {σ : XH} {S : SS} {Q : XV → XH → Prop} (hd : 2 ≤ d) (hM : MI σ) (v : isCl S c → vp_in c 12) (h : Q (vI (stopF S c t).1) (up σ (stopF S c t).2)) : Ec d 0 0 m_X11_stop [vR (some (12, 0)), vI c, vI t] (up σ S) Q := by
  refine Ec_of mo_X11_stop.1 (Nat.le_of_ble_eq_true rfl) ?_
  refine sX11_stop_0 ?_
  unfold bX11_stop_0
  refine ⟨by omega, ?_⟩
  refine sp_X11_isClock (by omega) (fun c2 => ?_) (fun c2 => ?_)
  · refine br_f (by decide) ?_
    refine ⟨by omega, ?_⟩
    refine sp_X11_isTime (by omega) (fun c12 => ?_) (fun c12 => ?_)
    · refine br_f (by decide) ?_
      refine ⟨hM.r119, ?_⟩
      refine ⟨vp_at hM.n119 (by (try simp only [hu_12, hu_119, up2_eq, up2_at, up2_s, up2_k, ne_eq, not_false_eq_true, Nat.reduceEqDiff, wL_up, hl_up, hr_up, hn_up]); first | assumption | exact v (by assumption)), ?_⟩
      refine ⟨fun c27 => ?_, fun c27 => ?_⟩
      · refine ⟨hM.r119, ?_⟩
        refine ⟨vp_at hM.n119 (by (try simp only [hu_12, hu_119, up2_eq, up2_at, up2_s, up2_k, ne_eq, not_false_eq_true, Nat.reduceEqDiff, wL_up, hl_up, hr_up, hn_up]); first | assumption | exact v (by assumption)), ?_⟩
        intro h39 e39
        simp only [wu_12, wu_119] at e39
        subst e39
        (try simp only [inP, isCl, isSt, isRd, gS, hu_12, hu_119, up2_eq, up2_at, up2_s, up2_k, ne_eq, not_false_eq_true, Nat.reduceEqDiff, wL_up, hl_up, hr_up, hn_up] at *)
        first | (simp only [stopF, inP, isCl, isSt, isRd, gS, gd1, gd2, gd3, gd4, gd5, gd6, gd7, if_true, if_false, true_and, and_true, false_and, and_false, true_or, or_true, false_or, or_false, not_true, not_false_iff, and_self, Classical.not_not, eq_self, ite_self, reduceIte, *] at h; first | exact h | (simp only [*]; done)) | (simp [stopF, *] at h; exact h) | (unfold stopF at h; simp_all [inP, isCl, isSt, isRd, gS, gd1, gd2, gd3, gd4, gd5, gd6, gd7]; done) | skip
      · (try simp only [inP, isCl, isSt, isRd, gS, hu_12, hu_119, up2_eq, up2_at, up2_s, up2_k, ne_eq, not_false_eq_true, Nat.reduceEqDiff, wL_up, hl_up, hr_up, hn_up] at *)
        first | (simp only [stopF, inP, isCl, isSt, isRd, gS, gd1, gd2, gd3, gd4, gd5, gd6, gd7, if_true, if_false, true_and, and_true, false_and, and_false, true_or, or_true, false_or, or_false, not_true, not_false_iff, and_self, Classical.not_not, eq_self, ite_self, reduceIte, *] at h; first | exact h | (simp only [*]; done)) | (simp [stopF, *] at h; exact h) | (unfold stopF at h; simp_all [inP, isCl, isSt, isRd, gS, gd1, gd2, gd3, gd4, gd5, gd6, gd7]; done) | skip
    · refine br_t (rfl) ?_
      (try simp only [inP, isCl, isSt, isRd, gS, hu_12, hu_119, up2_eq, up2_at, up2_s, up2_k, ne_eq, not_false_eq_true, Nat.reduceEqDiff, wL_up, hl_up, hr_up, hn_up] at *)
      first | (simp only [stopF, inP, isCl, isSt, isRd, gS, gd1, gd2, gd3, gd4, gd5, gd6, gd7, if_true, if_false, true_and, and_true, false_and, and_false, true_or, or_true, false_or, or_false, not_true, not_false_iff, and_self, Classical.not_not, eq_self, ite_self, reduceIte, *] at h; first | exact h | (simp only [*]; done)) | (simp [stopF, *] at h; exact h) | (unfold stopF at h; simp_all [inP, isCl, isSt, isRd, gS, gd1, gd2, gd3, gd4, gd5, gd6, gd7]; done) | skip
  · refine br_t (rfl) ?_
    (try simp only [inP, isCl, isSt, isRd, gS, hu_12, hu_119, up2_eq, up2_at, up2_s, up2_k, ne_eq, not_false_eq_true, Nat.reduceEqDiff, wL_up, hl_up, hr_up, hn_up] at *)
    first | (simp only [stopF, inP, isCl, isSt, isRd, gS, gd1, gd2, gd3, gd4, gd5, gd6, gd7, if_true, if_false, true_and, and_true, false_and, and_false, true_or, or_true, false_or, or_false, not_true, not_false_iff, and_self, Classical.not_not, eq_self, ite_self, reduceIte, *] at h; first | exact h | (simp only [*]; done)) | (simp [stopF, *] at h; exact h) | (unfold stopF at h; simp_all [inP, isCl, isSt, isRd, gS, gd1, gd2, gd3, gd4, gd5, gd6, gd7]; done) | skip
abbrev moreP (k s m : Int32) : Prop := if k = 3 then inP m 1 4 else if k = 4 then inP m s 999999 else if k = 5 then inP m 1000 4999 ∧ inP ((m - m / 1000 * 1000)) 401 599 else inP m 0 999999
def addF (S : SS) (k c h s m n q : Int32) : RS := (S 12 8 + 1 - 1, up2 (up2 (up2 (up2 (up2 (up2 (up2 (up2 (up2 (up2 (up2 (up2 S 120 (S 12 8).toNatClampNeg k) 121 (S 12 8).toNatClampNeg c) 122 (S 12 8).toNatClampNeg h) 123 (S 12 8).toNatClampNeg s) 124 (S 12 8).toNatClampNeg m) 125 (S 12 8).toNatClampNeg n) 126 (S 12 8).toNatClampNeg (S 12 0)) 127 (S 12 8).toNatClampNeg q) 12 3 (S 12 3 + 1)) 128 (S 12 8).toNatClampNeg (S 12 3 + 1)) 129 (S 12 8).toNatClampNeg 0) 12 8 (S 12 8 + 1))
def readingF (S : SS) (k c h s m : Int32) : RS := if isCl S c ∧ inP h 0 5 then (if inP k 1 5 ∧ inP s 0 999999 ∧ moreP k s m then (if S 12 8 = 90 then (-4, S) else addF S k c h s (if k = 5 then (m - m / 1000 * 1000) - 500 else m) (if k = 3 then m else if k = 4 then 1 else if k = 5 then m / 1000 else -1) (-1)) else (-2, S)) else (-1, S)
def numberF (S : SS) (r n : Int32) : RS := if isRd S r then (if kNow S r = 4 then (if inP n 1 4 then (gS S 125 r, up2 S 125 r.toNatClampNeg n) else (-2, S)) else (-12, S)) else (-1, S)
def copiedF (S : SS) (r s : Int32) : RS := if isRd S r then (if inP s 0 999999 then (if gS S 120 r = 6 then (-3, S) else if S 12 8 = 90 then (-4, S) else addF S 6 (gS S 121 r) (gS S 122 r) s 0 (-1) r) else (-2, S)) else (-1, S)
def withdrawF (S : SS) (r : Int32) : RS := if isRd S r then (if 0 < gS S 129 r then (-3, S) else (1, up2 (up2 S 12 3 (S 12 3 + 1)) 129 r.toNatClampNeg (S 12 3 + 1))) else (-1, S)
def ofF (S : SS) (r w : Int32) : RS := (if isRd S r then (if w = 0 then kNow S r else if w = 1 then gS S 120 r else if w = 2 then gS S 121 r else if w = 3 then gS S 122 r else if w = 4 then gS S 123 r else if w = 5 then numF S r else if w = 6 then gS S 126 r else if w = 7 then gS S 127 r else NOi) else NOi, S)
def likeF (S : SS) (r : Int32) : RS := (if isRd S r then (if gS S 120 r = 6 then (if gS S 123 r = gS S 123 (gS S 127 r) then 1 else 0) else -12) else -1, S)
def endedF (S : SS) : RS := (if S 12 19 < 0 then -3 else S 12 19, S)
def letterF (S : SS) (s h n : Int32) : RS := if isSt S s ∧ inP h 0 2 then (if inP n 0 400 then (if S 12 20 = 60 then (-4, S) else (S 12 20 + 1, up2 (up2 (up2 (up2 (up2 (up2 S 130 (S 12 20).toNatClampNeg s) 131 (S 12 20).toNatClampNeg h) 132 (S 12 20).toNatClampNeg (S 12 0 + n)) 12 3 (S 12 3 + 1)) 133 (S 12 20).toNatClampNeg (S 12 3 + 1)) 12 20 (S 12 20 + 1))) else (-2, S)) else (-1, S)
def tableF (S : SS) (n t : Int32) : RS := if inP n 1 4 then (if inP t 0 999999 then (gS S 145 n, up2 S 145 n.toNatClampNeg t) else (-2, S)) else (-1, S)
def leverF (S : SS) (s n v : Int32) : RS := if isSt S s ∧ inP n 1 4 ∧ inP v (-99) 99 then (gS S 146 (4 * s + n - 1), up2 S 146 (4 * s + n - 1).toNatClampNeg v) else (-100, S)
def placeF (S : SS) (l c q : Int32) : RS := if inP l (-99) 99 ∧ inP c 0 100 ∧ inP q 0 99 then (if S 12 59 = 9 then (-4, S) else (S 12 59 + 1 - 1, up2 (up2 (up2 (up2 S 147 (S 12 59).toNatClampNeg l) 148 (S 12 59).toNatClampNeg c) 149 (S 12 59).toNatClampNeg q) 12 59 (S 12 59 + 1))) else (-2, S)
abbrev isGoP (s m : Int32) : Prop := inP s 1 5 ∧ inP m 0 400
def traceF (S : SS) (i : Int32) : RS := (if inP i 0 19 ∧ i < S 12 63 then gS S 150 i else -1, S)
def takenF (S : SS) (r k : Int32) : RS := (if inP k 0 7 then (if isRd S r then (if k = 0 ∨ kNow S r = k ∨ k = 3 ∧ kNow S r = 4 then kNow S r else -12) else -11) else -2, S)
def countF (S : SS) (w : Int32) : RS := (if w = 0 then S 12 0 else if w = 1 then S 12 1 else if w = 2 then S 12 2 else if w = 3 then S 12 8 else if w = 4 then S 12 20 else if w = 5 then S 12 25 else if w = 6 then S 12 26 else if w = 7 then S 12 59 else if w = 8 then S 12 63 else -2, S)
def itemF (S : SS) (t i v : Int32) : RS := if inP t 0 5 then (if gS S 151 t < 0 then (-11, S) else if inP i 0 (gS S 152 t - 1) then (if gS S 151 t = 3 ∧ ¬ inP v (-8000000) 8000000 then (-2, S) else (1, up2 S 153 (60 * t + i).toNatClampNeg (if gS S 151 t = 0 then v.toInt8.toInt32 else if gS S 151 t = 1 then v.toInt16.toInt32 else v))) else (-13, S)) else (-1, S)
def blankF (S : SS) (t i : Int32) : RS := if inP t 0 5 then (if gS S 151 t < 0 then (-11, S) else if gS S 151 t = 3 then (if inP i 0 (gS S 152 t - 1) then (1, up2 S 153 (60 * t + i).toNatClampNeg 999999999) else (-13, S)) else (-12, S)) else (-1, S)
def readF (S : SS) (t i : Int32) : RS := (if inP t 0 5 ∧ ¬ gS S 151 t < 0 ∧ inP i 0 (gS S 152 t - 1) then gS S 153 (60 * t + i) else NOi, S)
theorem sp_X11_isMore {d : Nat} {a b c : Int32} {σ : XH} {Q : XV → XH → Prop} (hd : 2 ≤ d) (h1 : moreP a b c → Q (vI 1) σ) (h0 : ¬ (moreP a b c) → Q (vI 0) σ) : Ec d 0 0 m_X11_isMore [vR (some (12, 0)), vI a, vI b, vI c] σ Q := by
  refine Ec_of mo_X11_isMore.1 (Nat.le_of_ble_eq_true rfl) ?_
  refine sX11_isMore_0 ?_
  unfold bX11_isMore_0
  refine ⟨fun c2 => ?_, fun c2 => ?_⟩
  · refine ⟨by omega, ?_⟩
    refine sp_X11_in (by omega) (fun c => ?_) (fun c => ?_)
    · refine ⟨by simp, ?_⟩
      first | refine h1 ?_ | refine h0 ?_
      simp_all [inP, moreP]
    · refine ⟨by simp, ?_⟩
      first | refine h1 ?_ | refine h0 ?_
      simp_all [inP, moreP]
  · refine ⟨fun c15 => ?_, fun c15 => ?_⟩
    · refine ⟨by omega, ?_⟩
      refine sp_X11_in (by omega) (fun c => ?_) (fun c => ?_)
      · refine ⟨by simp, ?_⟩
        first | refine h1 ?_ | refine h0 ?_
        simp_all [inP, moreP]
      · refine ⟨by simp, ?_⟩
        first | refine h1 ?_ | refine h0 ?_
        simp_all [inP, moreP]
    · refine ⟨fun c29 => ?_, fun c29 => ?_⟩
      · refine ⟨by omega, ?_⟩
        refine sp_X11_in (by omega) (fun c => ?_) (fun c => ?_)
        · refine br_f (by decide) ?_
          refine ⟨by decide, ?_⟩
          refine ⟨by omega, ?_⟩
          refine sp_X11_in (by omega) (fun c => ?_) (fun c => ?_)
          · refine br_f (by decide) ?_
            refine sX11_isMore_64 ?_
            unfold bX11_isMore_64
            refine sX11_isMore_69 ?_
            unfold bX11_isMore_69
            refine ⟨by simp, ?_⟩
            first | refine h1 ?_ | refine h0 ?_
            simp_all [inP, moreP]
          · refine br_t (rfl) ?_
            refine sX11_isMore_68 ?_
            unfold bX11_isMore_68
            refine sX11_isMore_69 ?_
            unfold bX11_isMore_69
            refine ⟨by simp, ?_⟩
            first | refine h1 ?_ | refine h0 ?_
            simp_all [inP, moreP]
        · refine br_t (rfl) ?_
          refine sX11_isMore_68 ?_
          unfold bX11_isMore_68
          refine sX11_isMore_69 ?_
          unfold bX11_isMore_69
          refine ⟨by simp, ?_⟩
          first | refine h1 ?_ | refine h0 ?_
          simp_all [inP, moreP]
      · refine ⟨by omega, ?_⟩
        refine sp_X11_isTime (by omega) (fun c => ?_) (fun c => ?_)
        · refine ⟨by simp, ?_⟩
          first | refine h1 ?_ | refine h0 ?_
          simp_all [inP, moreP]
        · refine ⟨by simp, ?_⟩
          first | refine h1 ?_ | refine h0 ?_
          simp_all [inP, moreP]
theorem sp_X11_isGo {d : Nat} {a b : Int32} {σ : XH} {Q : XV → XH → Prop} (hd : 1 ≤ d) (h1 : isGoP a b → Q (vI 1) σ) (h0 : ¬ (isGoP a b) → Q (vI 0) σ) : Ec d 0 0 m_X11_isGo [vR (some (12, 0)), vI a, vI b] σ Q := by
  refine Ec_of mo_X11_isGo.1 (Nat.le_of_ble_eq_true rfl) ?_
  refine sX11_isGo_0 ?_
  unfold bX11_isGo_0
  refine ⟨by omega, ?_⟩
  refine sp_X11_in (by omega) (fun c4 => ?_) (fun c4 => ?_)
  · refine br_f (by decide) ?_
    refine ⟨by omega, ?_⟩
    refine sp_X11_in (by omega) (fun c16 => ?_) (fun c16 => ?_)
    · refine br_f (by decide) ?_
      refine sX11_isGo_27 ?_
      unfold bX11_isGo_27
      refine ⟨by simp, ?_⟩
      first | refine h1 ?_ | refine h0 ?_
      simp_all [inP, isGoP]
    · refine br_t (rfl) ?_
      refine sX11_isGo_26 ?_
      unfold bX11_isGo_26
      refine sX11_isGo_27 ?_
      unfold bX11_isGo_27
      refine ⟨by simp, ?_⟩
      first | refine h1 ?_ | refine h0 ?_
      simp_all [inP, isGoP]
  · refine br_t (rfl) ?_
    refine sX11_isGo_26 ?_
    unfold bX11_isGo_26
    refine sX11_isGo_27 ?_
    unfold bX11_isGo_27
    refine ⟨by simp, ?_⟩
    first | refine h1 ?_ | refine h0 ?_
    simp_all [inP, isGoP]
theorem sp_X11_add {d : Nat} {k c b s m n q : Int32} {σ : XH} {S : SS} {Q : XV → XH → Prop} (hd : 0 ≤ d) (hM : MI σ) (v : vp_in (S 12 8) 90) (h : Q (vI (addF S k c b s m n q).1) (up σ (addF S k c b s m n q).2)) : Ec d 0 0 m_X11_add [vR (some (12, 0)), vI k, vI c, vI b, vI s, vI m, vI n, vI q] (up σ S) Q := by
  refine Ec_of mo_X11_add.1 (Nat.le_of_ble_eq_true rfl) ?_
  refine sX11_add_0 ?_
  unfold bX11_add_0
  refine ⟨hM.r120, ?_⟩
  refine ⟨vp_at hM.n120 (by (try simp only [hu_12, hu_120, hu_121, hu_122, hu_123, hu_124, hu_125, hu_126, hu_127, hu_128, hu_129, up2_eq, up2_at, up2_s, up2_k, ne_eq, not_false_eq_true, Nat.reduceEqDiff, wL_up, hl_up, hr_up, hn_up]); first | assumption ), ?_⟩
  intro h9 e9
  simp only [wu_12, wu_120, wu_121, wu_122, wu_123, wu_124, wu_125, wu_126, wu_127, wu_128, wu_129] at e9
  subst e9
  refine ⟨hM.r121, ?_⟩
  refine ⟨vp_at hM.n121 (by (try simp only [hu_12, hu_120, hu_121, hu_122, hu_123, hu_124, hu_125, hu_126, hu_127, hu_128, hu_129, up2_eq, up2_at, up2_s, up2_k, ne_eq, not_false_eq_true, Nat.reduceEqDiff, wL_up, hl_up, hr_up, hn_up]); first | assumption ), ?_⟩
  intro h19 e19
  simp only [wu_12, wu_120, wu_121, wu_122, wu_123, wu_124, wu_125, wu_126, wu_127, wu_128, wu_129] at e19
  subst e19
  refine ⟨hM.r122, ?_⟩
  refine ⟨vp_at hM.n122 (by (try simp only [hu_12, hu_120, hu_121, hu_122, hu_123, hu_124, hu_125, hu_126, hu_127, hu_128, hu_129, up2_eq, up2_at, up2_s, up2_k, ne_eq, not_false_eq_true, Nat.reduceEqDiff, wL_up, hl_up, hr_up, hn_up]); first | assumption ), ?_⟩
  intro h29 e29
  simp only [wu_12, wu_120, wu_121, wu_122, wu_123, wu_124, wu_125, wu_126, wu_127, wu_128, wu_129] at e29
  subst e29
  refine ⟨hM.r123, ?_⟩
  refine ⟨vp_at hM.n123 (by (try simp only [hu_12, hu_120, hu_121, hu_122, hu_123, hu_124, hu_125, hu_126, hu_127, hu_128, hu_129, up2_eq, up2_at, up2_s, up2_k, ne_eq, not_false_eq_true, Nat.reduceEqDiff, wL_up, hl_up, hr_up, hn_up]); first | assumption ), ?_⟩
  intro h40 e40
  simp only [wu_12, wu_120, wu_121, wu_122, wu_123, wu_124, wu_125, wu_126, wu_127, wu_128, wu_129] at e40
  subst e40
  refine ⟨hM.r124, ?_⟩
  refine ⟨vp_at hM.n124 (by (try simp only [hu_12, hu_120, hu_121, hu_122, hu_123, hu_124, hu_125, hu_126, hu_127, hu_128, hu_129, up2_eq, up2_at, up2_s, up2_k, ne_eq, not_false_eq_true, Nat.reduceEqDiff, wL_up, hl_up, hr_up, hn_up]); first | assumption ), ?_⟩
  intro h51 e51
  simp only [wu_12, wu_120, wu_121, wu_122, wu_123, wu_124, wu_125, wu_126, wu_127, wu_128, wu_129] at e51
  subst e51
  refine ⟨hM.r125, ?_⟩
  refine ⟨vp_at hM.n125 (by (try simp only [hu_12, hu_120, hu_121, hu_122, hu_123, hu_124, hu_125, hu_126, hu_127, hu_128, hu_129, up2_eq, up2_at, up2_s, up2_k, ne_eq, not_false_eq_true, Nat.reduceEqDiff, wL_up, hl_up, hr_up, hn_up]); first | assumption ), ?_⟩
  intro h62 e62
  simp only [wu_12, wu_120, wu_121, wu_122, wu_123, wu_124, wu_125, wu_126, wu_127, wu_128, wu_129] at e62
  subst e62
  refine ⟨hM.r126, ?_⟩
  refine ⟨vp_at hM.n126 (by (try simp only [hu_12, hu_120, hu_121, hu_122, hu_123, hu_124, hu_125, hu_126, hu_127, hu_128, hu_129, up2_eq, up2_at, up2_s, up2_k, ne_eq, not_false_eq_true, Nat.reduceEqDiff, wL_up, hl_up, hr_up, hn_up]); first | assumption ), ?_⟩
  intro h75 e75
  simp only [wu_12, wu_120, wu_121, wu_122, wu_123, wu_124, wu_125, wu_126, wu_127, wu_128, wu_129] at e75
  subst e75
  refine ⟨hM.r127, ?_⟩
  refine ⟨vp_at hM.n127 (by (try simp only [hu_12, hu_120, hu_121, hu_122, hu_123, hu_124, hu_125, hu_126, hu_127, hu_128, hu_129, up2_eq, up2_at, up2_s, up2_k, ne_eq, not_false_eq_true, Nat.reduceEqDiff, wL_up, hl_up, hr_up, hn_up]); first | assumption ), ?_⟩
  intro h86 e86
  simp only [wu_12, wu_120, wu_121, wu_122, wu_123, wu_124, wu_125, wu_126, wu_127, wu_128, wu_129] at e86
  subst e86
  refine sX11_add_87 ?_
  unfold bX11_add_87
  intro h94 e94
  simp only [wu_12, wu_120, wu_121, wu_122, wu_123, wu_124, wu_125, wu_126, wu_127, wu_128, wu_129] at e94
  subst e94
  refine ⟨hM.r128, ?_⟩
  refine ⟨vp_at hM.n128 (by (try simp only [hu_12, hu_120, hu_121, hu_122, hu_123, hu_124, hu_125, hu_126, hu_127, hu_128, hu_129, up2_eq, up2_at, up2_s, up2_k, ne_eq, not_false_eq_true, Nat.reduceEqDiff, wL_up, hl_up, hr_up, hn_up]); first | assumption ), ?_⟩
  intro h109 e109
  simp only [wu_12, wu_120, wu_121, wu_122, wu_123, wu_124, wu_125, wu_126, wu_127, wu_128, wu_129] at e109
  subst e109
  refine ⟨hM.r129, ?_⟩
  refine ⟨vp_at hM.n129 (by (try simp only [hu_12, hu_120, hu_121, hu_122, hu_123, hu_124, hu_125, hu_126, hu_127, hu_128, hu_129, up2_eq, up2_at, up2_s, up2_k, ne_eq, not_false_eq_true, Nat.reduceEqDiff, wL_up, hl_up, hr_up, hn_up]); first | assumption ), ?_⟩
  intro h119 e119
  simp only [wu_12, wu_120, wu_121, wu_122, wu_123, wu_124, wu_125, wu_126, wu_127, wu_128, wu_129] at e119
  subst e119
  intro h127 e127
  simp only [wu_12, wu_120, wu_121, wu_122, wu_123, wu_124, wu_125, wu_126, wu_127, wu_128, wu_129] at e127
  subst e127
  (try simp only [inP, isCl, isSt, isRd, gS, hu_12, hu_120, hu_121, hu_122, hu_123, hu_124, hu_125, hu_126, hu_127, hu_128, hu_129, up2_eq, up2_at, up2_s, up2_k, ne_eq, not_false_eq_true, Nat.reduceEqDiff, wL_up, hl_up, hr_up, hn_up] at *)
  first | (simp only [addF, inP, isCl, isSt, isRd, gS, gd1, gd2, gd3, gd4, gd5, gd6, gd7, if_true, if_false, true_and, and_true, false_and, and_false, true_or, or_true, false_or, or_false, not_true, not_false_iff, and_self, Classical.not_not, eq_self, ite_self, reduceIte, *] at h; first | exact h | (simp only [*]; done)) | (simp [addF, *] at h; exact h) | (unfold addF at h; simp_all [inP, isCl, isSt, isRd, gS, gd1, gd2, gd3, gd4, gd5, gd6, gd7]; done) | skip
theorem sp_X11_reading {d : Nat} {k c b s m : Int32} {σ : XH} {S : SS} {Q : XV → XH → Prop} (hd : 3 ≤ d) (hM : MI σ) (v : ¬ S 12 8 = 90 → vp_in (S 12 8) 90) (h : Q (vI (readingF S k c b s m).1) (up σ (readingF S k c b s m).2)) : Ec d 0 0 m_X11_reading [vR (some (12, 0)), vI k, vI c, vI b, vI s, vI m] (up σ S) Q := by
  refine Ec_of mo_X11_reading.1 (Nat.le_of_ble_eq_true rfl) ?_
  refine sX11_reading_0 ?_
  unfold bX11_reading_0
  refine ⟨by omega, ?_⟩
  refine sp_X11_isClock (by omega) (fun c2 => ?_) (fun c2 => ?_)
  · refine br_f (by decide) ?_
    refine ⟨by omega, ?_⟩
    refine sp_X11_isHand (by omega) (fun c10 => ?_) (fun c10 => ?_)
    · refine br_f (by decide) ?_
      refine ⟨by omega, ?_⟩
      refine sp_X11_in (by omega) (fun c22 => ?_) (fun c22 => ?_)
      · refine br_f (by decide) ?_
        refine ⟨by omega, ?_⟩
        refine sp_X11_isTime (by omega) (fun c31 => ?_) (fun c31 => ?_)
        · refine br_f (by decide) ?_
          refine ⟨by omega, ?_⟩
          refine sp_X11_isMore (by omega) (fun c43 => ?_) (fun c43 => ?_)
          · refine br_f (by decide) ?_
            refine ⟨fun c58 => ?_, fun c58 => ?_⟩
            · (try simp only [inP, isCl, isSt, isRd, gS, hu_12, up2_eq, up2_at, up2_s, up2_k, ne_eq, not_false_eq_true, Nat.reduceEqDiff, wL_up, hl_up, hr_up, hn_up, moreP, kI] at *)
              first | (simp only [readingF, inP, isCl, isSt, isRd, gS, gd1, gd2, gd3, gd4, gd5, gd6, gd7, if_true, if_false, true_and, and_true, false_and, and_false, true_or, or_true, false_or, or_false, not_true, not_false_iff, and_self, Classical.not_not, eq_self, ite_self, reduceIte, *, moreP, kI] at h; first | exact h | (simp only [*]; done)) | (simp [readingF, *, moreP, kI] at h; exact h) | (unfold readingF at h; simp_all [inP, isCl, isSt, isRd, gS, gd1, gd2, gd3, gd4, gd5, gd6, gd7, moreP, kI]; done) | skip
            · refine ⟨fun c72 => ?_, fun c72 => ?_⟩
              · refine ⟨by decide, ?_⟩
                refine sX11_reading_90 ?_
                unfold bX11_reading_90
                refine ⟨fun c92 => ?_, fun c92 => ?_⟩
                · refine sX11_reading_124 ?_
                  unfold bX11_reading_124
                  refine ⟨by omega, ?_⟩
                  refine sp_X11_add (by omega) hM (v (by assumption)) ?_
                  (try simp only [inP, isCl, isSt, isRd, gS, hu_12, up2_eq, up2_at, up2_s, up2_k, ne_eq, not_false_eq_true, Nat.reduceEqDiff, wL_up, hl_up, hr_up, hn_up, moreP, kI] at *)
                  first | (simp only [readingF, inP, isCl, isSt, isRd, gS, gd1, gd2, gd3, gd4, gd5, gd6, gd7, if_true, if_false, true_and, and_true, false_and, and_false, true_or, or_true, false_or, or_false, not_true, not_false_iff, and_self, Classical.not_not, eq_self, ite_self, reduceIte, *, moreP, kI] at h; first | exact h | (simp only [*]; done)) | (simp [readingF, *, moreP, kI] at h; exact h) | (unfold readingF at h; simp_all [inP, isCl, isSt, isRd, gS, gd1, gd2, gd3, gd4, gd5, gd6, gd7, moreP, kI]; done) | skip
                · refine ⟨fun c102 => ?_, fun c102 => ?_⟩
                  · refine sX11_reading_124 ?_
                    unfold bX11_reading_124
                    refine ⟨by omega, ?_⟩
                    refine sp_X11_add (by omega) hM (v (by assumption)) ?_
                    (try simp only [inP, isCl, isSt, isRd, gS, hu_12, up2_eq, up2_at, up2_s, up2_k, ne_eq, not_false_eq_true, Nat.reduceEqDiff, wL_up, hl_up, hr_up, hn_up, moreP, kI] at *)
                    first | (simp only [readingF, inP, isCl, isSt, isRd, gS, gd1, gd2, gd3, gd4, gd5, gd6, gd7, if_true, if_false, true_and, and_true, false_and, and_false, true_or, or_true, false_or, or_false, not_true, not_false_iff, and_self, Classical.not_not, eq_self, ite_self, reduceIte, *, moreP, kI] at h; first | exact h | (simp only [*]; done)) | (simp [readingF, *, moreP, kI] at h; exact h) | (unfold readingF at h; simp_all [inP, isCl, isSt, isRd, gS, gd1, gd2, gd3, gd4, gd5, gd6, gd7, moreP, kI]; done) | skip
                  · refine ⟨fun c111 => ?_, fun c111 => ?_⟩
                    · refine ⟨by decide, ?_⟩
                      refine sX11_reading_124 ?_
                      unfold bX11_reading_124
                      refine ⟨by omega, ?_⟩
                      refine sp_X11_add (by omega) hM (v (by assumption)) ?_
                      (try simp only [inP, isCl, isSt, isRd, gS, hu_12, up2_eq, up2_at, up2_s, up2_k, ne_eq, not_false_eq_true, Nat.reduceEqDiff, wL_up, hl_up, hr_up, hn_up, moreP, kI] at *)
                      first | (simp only [readingF, inP, isCl, isSt, isRd, gS, gd1, gd2, gd3, gd4, gd5, gd6, gd7, if_true, if_false, true_and, and_true, false_and, and_false, true_or, or_true, false_or, or_false, not_true, not_false_iff, and_self, Classical.not_not, eq_self, ite_self, reduceIte, *, moreP, kI] at h; first | exact h | (simp only [*]; done)) | (simp [readingF, *, moreP, kI] at h; exact h) | (unfold readingF at h; simp_all [inP, isCl, isSt, isRd, gS, gd1, gd2, gd3, gd4, gd5, gd6, gd7, moreP, kI]; done) | skip
                    · refine sX11_reading_124 ?_
                      unfold bX11_reading_124
                      refine ⟨by omega, ?_⟩
                      refine sp_X11_add (by omega) hM (v (by assumption)) ?_
                      (try simp only [inP, isCl, isSt, isRd, gS, hu_12, up2_eq, up2_at, up2_s, up2_k, ne_eq, not_false_eq_true, Nat.reduceEqDiff, wL_up, hl_up, hr_up, hn_up, moreP, kI] at *)
                      first | (simp only [readingF, inP, isCl, isSt, isRd, gS, gd1, gd2, gd3, gd4, gd5, gd6, gd7, if_true, if_false, true_and, and_true, false_and, and_false, true_or, or_true, false_or, or_false, not_true, not_false_iff, and_self, Classical.not_not, eq_self, ite_self, reduceIte, *, moreP, kI] at h; first | exact h | (simp only [*]; done)) | (simp [readingF, *, moreP, kI] at h; exact h) | (unfold readingF at h; simp_all [inP, isCl, isSt, isRd, gS, gd1, gd2, gd3, gd4, gd5, gd6, gd7, moreP, kI]; done) | skip
              · refine sX11_reading_90 ?_
                unfold bX11_reading_90
                refine ⟨fun c92 => ?_, fun c92 => ?_⟩
                · refine sX11_reading_124 ?_
                  unfold bX11_reading_124
                  refine ⟨by omega, ?_⟩
                  refine sp_X11_add (by omega) hM (v (by assumption)) ?_
                  (try simp only [inP, isCl, isSt, isRd, gS, hu_12, up2_eq, up2_at, up2_s, up2_k, ne_eq, not_false_eq_true, Nat.reduceEqDiff, wL_up, hl_up, hr_up, hn_up, moreP, kI] at *)
                  first | (simp only [readingF, inP, isCl, isSt, isRd, gS, gd1, gd2, gd3, gd4, gd5, gd6, gd7, if_true, if_false, true_and, and_true, false_and, and_false, true_or, or_true, false_or, or_false, not_true, not_false_iff, and_self, Classical.not_not, eq_self, ite_self, reduceIte, *, moreP, kI] at h; first | exact h | (simp only [*]; done)) | (simp [readingF, *, moreP, kI] at h; exact h) | (unfold readingF at h; simp_all [inP, isCl, isSt, isRd, gS, gd1, gd2, gd3, gd4, gd5, gd6, gd7, moreP, kI]; done) | skip
                · refine ⟨fun c102 => ?_, fun c102 => ?_⟩
                  · refine sX11_reading_124 ?_
                    unfold bX11_reading_124
                    refine ⟨by omega, ?_⟩
                    refine sp_X11_add (by omega) hM (v (by assumption)) ?_
                    (try simp only [inP, isCl, isSt, isRd, gS, hu_12, up2_eq, up2_at, up2_s, up2_k, ne_eq, not_false_eq_true, Nat.reduceEqDiff, wL_up, hl_up, hr_up, hn_up, moreP, kI] at *)
                    first | (simp only [readingF, inP, isCl, isSt, isRd, gS, gd1, gd2, gd3, gd4, gd5, gd6, gd7, if_true, if_false, true_and, and_true, false_and, and_false, true_or, or_true, false_or, or_false, not_true, not_false_iff, and_self, Classical.not_not, eq_self, ite_self, reduceIte, *, moreP, kI] at h; first | exact h | (simp only [*]; done)) | (simp [readingF, *, moreP, kI] at h; exact h) | (unfold readingF at h; simp_all [inP, isCl, isSt, isRd, gS, gd1, gd2, gd3, gd4, gd5, gd6, gd7, moreP, kI]; done) | skip
                  · refine ⟨fun c111 => ?_, fun c111 => ?_⟩
                    · refine ⟨by decide, ?_⟩
                      refine sX11_reading_124 ?_
                      unfold bX11_reading_124
                      refine ⟨by omega, ?_⟩
                      refine sp_X11_add (by omega) hM (v (by assumption)) ?_
                      (try simp only [inP, isCl, isSt, isRd, gS, hu_12, up2_eq, up2_at, up2_s, up2_k, ne_eq, not_false_eq_true, Nat.reduceEqDiff, wL_up, hl_up, hr_up, hn_up, moreP, kI] at *)
                      first | (simp only [readingF, inP, isCl, isSt, isRd, gS, gd1, gd2, gd3, gd4, gd5, gd6, gd7, if_true, if_false, true_and, and_true, false_and, and_false, true_or, or_true, false_or, or_false, not_true, not_false_iff, and_self, Classical.not_not, eq_self, ite_self, reduceIte, *, moreP, kI] at h; first | exact h | (simp only [*]; done)) | (simp [readingF, *, moreP, kI] at h; exact h) | (unfold readingF at h; simp_all [inP, isCl, isSt, isRd, gS, gd1, gd2, gd3, gd4, gd5, gd6, gd7, moreP, kI]; done) | skip
                    · refine sX11_reading_124 ?_
                      unfold bX11_reading_124
                      refine ⟨by omega, ?_⟩
                      refine sp_X11_add (by omega) hM (v (by assumption)) ?_
                      (try simp only [inP, isCl, isSt, isRd, gS, hu_12, up2_eq, up2_at, up2_s, up2_k, ne_eq, not_false_eq_true, Nat.reduceEqDiff, wL_up, hl_up, hr_up, hn_up, moreP, kI] at *)
                      first | (simp only [readingF, inP, isCl, isSt, isRd, gS, gd1, gd2, gd3, gd4, gd5, gd6, gd7, if_true, if_false, true_and, and_true, false_and, and_false, true_or, or_true, false_or, or_false, not_true, not_false_iff, and_self, Classical.not_not, eq_self, ite_self, reduceIte, *, moreP, kI] at h; first | exact h | (simp only [*]; done)) | (simp [readingF, *, moreP, kI] at h; exact h) | (unfold readingF at h; simp_all [inP, isCl, isSt, isRd, gS, gd1, gd2, gd3, gd4, gd5, gd6, gd7, moreP, kI]; done) | skip
          · refine br_t (rfl) ?_
            refine sX11_reading_49 ?_
            unfold bX11_reading_49
            (try simp only [inP, isCl, isSt, isRd, gS, hu_12, up2_eq, up2_at, up2_s, up2_k, ne_eq, not_false_eq_true, Nat.reduceEqDiff, wL_up, hl_up, hr_up, hn_up, moreP, kI] at *)
            first | (simp only [readingF, inP, isCl, isSt, isRd, gS, gd1, gd2, gd3, gd4, gd5, gd6, gd7, if_true, if_false, true_and, and_true, false_and, and_false, true_or, or_true, false_or, or_false, not_true, not_false_iff, and_self, Classical.not_not, eq_self, ite_self, reduceIte, *, moreP, kI] at h; first | exact h | (simp only [*]; done)) | (simp [readingF, *, moreP, kI] at h; exact h) | (unfold readingF at h; simp_all [inP, isCl, isSt, isRd, gS, gd1, gd2, gd3, gd4, gd5, gd6, gd7, moreP, kI]; done) | skip
        · refine br_t (rfl) ?_
          refine sX11_reading_49 ?_
          unfold bX11_reading_49
          (try simp only [inP, isCl, isSt, isRd, gS, hu_12, up2_eq, up2_at, up2_s, up2_k, ne_eq, not_false_eq_true, Nat.reduceEqDiff, wL_up, hl_up, hr_up, hn_up, moreP, kI] at *)
          first | (simp only [readingF, inP, isCl, isSt, isRd, gS, gd1, gd2, gd3, gd4, gd5, gd6, gd7, if_true, if_false, true_and, and_true, false_and, and_false, true_or, or_true, false_or, or_false, not_true, not_false_iff, and_self, Classical.not_not, eq_self, ite_self, reduceIte, *, moreP, kI] at h; first | exact h | (simp only [*]; done)) | (simp [readingF, *, moreP, kI] at h; exact h) | (unfold readingF at h; simp_all [inP, isCl, isSt, isRd, gS, gd1, gd2, gd3, gd4, gd5, gd6, gd7, moreP, kI]; done) | skip
      · refine br_t (rfl) ?_
        refine sX11_reading_49 ?_
        unfold bX11_reading_49
        (try simp only [inP, isCl, isSt, isRd, gS, hu_12, up2_eq, up2_at, up2_s, up2_k, ne_eq, not_false_eq_true, Nat.reduceEqDiff, wL_up, hl_up, hr_up, hn_up, moreP, kI] at *)
        first | (simp only [readingF, inP, isCl, isSt, isRd, gS, gd1, gd2, gd3, gd4, gd5, gd6, gd7, if_true, if_false, true_and, and_true, false_and, and_false, true_or, or_true, false_or, or_false, not_true, not_false_iff, and_self, Classical.not_not, eq_self, ite_self, reduceIte, *, moreP, kI] at h; first | exact h | (simp only [*]; done)) | (simp [readingF, *, moreP, kI] at h; exact h) | (unfold readingF at h; simp_all [inP, isCl, isSt, isRd, gS, gd1, gd2, gd3, gd4, gd5, gd6, gd7, moreP, kI]; done) | skip
    · refine br_t (rfl) ?_
      refine sX11_reading_16 ?_
      unfold bX11_reading_16
      (try simp only [inP, isCl, isSt, isRd, gS, hu_12, up2_eq, up2_at, up2_s, up2_k, ne_eq, not_false_eq_true, Nat.reduceEqDiff, wL_up, hl_up, hr_up, hn_up, moreP, kI] at *)
      first | (simp only [readingF, inP, isCl, isSt, isRd, gS, gd1, gd2, gd3, gd4, gd5, gd6, gd7, if_true, if_false, true_and, and_true, false_and, and_false, true_or, or_true, false_or, or_false, not_true, not_false_iff, and_self, Classical.not_not, eq_self, ite_self, reduceIte, *, moreP, kI] at h; first | exact h | (simp only [*]; done)) | (simp [readingF, *, moreP, kI] at h; exact h) | (unfold readingF at h; simp_all [inP, isCl, isSt, isRd, gS, gd1, gd2, gd3, gd4, gd5, gd6, gd7, moreP, kI]; done) | skip
  · refine br_t (rfl) ?_
    refine sX11_reading_16 ?_
    unfold bX11_reading_16
    (try simp only [inP, isCl, isSt, isRd, gS, hu_12, up2_eq, up2_at, up2_s, up2_k, ne_eq, not_false_eq_true, Nat.reduceEqDiff, wL_up, hl_up, hr_up, hn_up, moreP, kI] at *)
    first | (simp only [readingF, inP, isCl, isSt, isRd, gS, gd1, gd2, gd3, gd4, gd5, gd6, gd7, if_true, if_false, true_and, and_true, false_and, and_false, true_or, or_true, false_or, or_false, not_true, not_false_iff, and_self, Classical.not_not, eq_self, ite_self, reduceIte, *, moreP, kI] at h; first | exact h | (simp only [*]; done)) | (simp [readingF, *, moreP, kI] at h; exact h) | (unfold readingF at h; simp_all [inP, isCl, isSt, isRd, gS, gd1, gd2, gd3, gd4, gd5, gd6, gd7, moreP, kI]; done) | skip
theorem sp_X11_number {d : Nat} {r n : Int32} {σ : XH} {S : SS} {Q : XV → XH → Prop} (hd : 2 ≤ d) (hM : MI σ) (v : isRd S r → vp_in r 90) (h : Q (vI (numberF S r n).1) (up σ (numberF S r n).2)) : Ec d 0 0 m_X11_number [vR (some (12, 0)), vI r, vI n] (up σ S) Q := by
  refine Ec_of mo_X11_number.1 (Nat.le_of_ble_eq_true rfl) ?_
  refine sX11_number_0 ?_
  unfold bX11_number_0
  refine ⟨by omega, ?_⟩
  refine sp_X11_isReading (by omega) (fun c2 => ?_) (fun c2 => ?_)
  · refine br_f (by decide) ?_
    refine ⟨by omega, ?_⟩
    refine sp_X11_nowKind (by omega) hM (v (by assumption)) ?_
    refine ⟨fun c16 => ?_, fun c16 => ?_⟩
    · refine ⟨by omega, ?_⟩
      refine sp_X11_in (by omega) (fun c26 => ?_) (fun c26 => ?_)
      · refine br_f (by decide) ?_
        refine ⟨hM.r125, ?_⟩
        refine ⟨vp_at hM.n125 (by (try simp only [hu_12, hu_125, up2_eq, up2_at, up2_s, up2_k, ne_eq, not_false_eq_true, Nat.reduceEqDiff, wL_up, hl_up, hr_up, hn_up]); first | assumption | exact v (by assumption)), ?_⟩
        refine ⟨hM.r125, ?_⟩
        refine ⟨vp_at hM.n125 (by (try simp only [hu_12, hu_125, up2_eq, up2_at, up2_s, up2_k, ne_eq, not_false_eq_true, Nat.reduceEqDiff, wL_up, hl_up, hr_up, hn_up]); first | assumption | exact v (by assumption)), ?_⟩
        intro h48 e48
        simp only [wu_12, wu_125] at e48
        subst e48
        (try simp only [inP, isCl, isSt, isRd, gS, hu_12, hu_125, up2_eq, up2_at, up2_s, up2_k, ne_eq, not_false_eq_true, Nat.reduceEqDiff, wL_up, hl_up, hr_up, hn_up, kI] at *)
        first | (simp only [numberF, inP, isCl, isSt, isRd, gS, gd1, gd2, gd3, gd4, gd5, gd6, gd7, if_true, if_false, true_and, and_true, false_and, and_false, true_or, or_true, false_or, or_false, not_true, not_false_iff, and_self, Classical.not_not, eq_self, ite_self, reduceIte, *, kI] at h; first | exact h | (simp only [*]; done)) | (simp [numberF, *, kI] at h; exact h) | (unfold numberF at h; simp_all [inP, isCl, isSt, isRd, gS, gd1, gd2, gd3, gd4, gd5, gd6, gd7, kI]; done) | skip
      · refine br_t (rfl) ?_
        (try simp only [inP, isCl, isSt, isRd, gS, hu_12, hu_125, up2_eq, up2_at, up2_s, up2_k, ne_eq, not_false_eq_true, Nat.reduceEqDiff, wL_up, hl_up, hr_up, hn_up, kI] at *)
        first | (simp only [numberF, inP, isCl, isSt, isRd, gS, gd1, gd2, gd3, gd4, gd5, gd6, gd7, if_true, if_false, true_and, and_true, false_and, and_false, true_or, or_true, false_or, or_false, not_true, not_false_iff, and_self, Classical.not_not, eq_self, ite_self, reduceIte, *, kI] at h; first | exact h | (simp only [*]; done)) | (simp [numberF, *, kI] at h; exact h) | (unfold numberF at h; simp_all [inP, isCl, isSt, isRd, gS, gd1, gd2, gd3, gd4, gd5, gd6, gd7, kI]; done) | skip
    · (try simp only [inP, isCl, isSt, isRd, gS, hu_12, hu_125, up2_eq, up2_at, up2_s, up2_k, ne_eq, not_false_eq_true, Nat.reduceEqDiff, wL_up, hl_up, hr_up, hn_up, kI] at *)
      first | (simp only [numberF, inP, isCl, isSt, isRd, gS, gd1, gd2, gd3, gd4, gd5, gd6, gd7, if_true, if_false, true_and, and_true, false_and, and_false, true_or, or_true, false_or, or_false, not_true, not_false_iff, and_self, Classical.not_not, eq_self, ite_self, reduceIte, *, kI] at h; first | exact h | (simp only [*]; done)) | (simp [numberF, *, kI] at h; exact h) | (unfold numberF at h; simp_all [inP, isCl, isSt, isRd, gS, gd1, gd2, gd3, gd4, gd5, gd6, gd7, kI]; done) | skip
  · refine br_t (rfl) ?_
    (try simp only [inP, isCl, isSt, isRd, gS, hu_12, hu_125, up2_eq, up2_at, up2_s, up2_k, ne_eq, not_false_eq_true, Nat.reduceEqDiff, wL_up, hl_up, hr_up, hn_up, kI] at *)
    first | (simp only [numberF, inP, isCl, isSt, isRd, gS, gd1, gd2, gd3, gd4, gd5, gd6, gd7, if_true, if_false, true_and, and_true, false_and, and_false, true_or, or_true, false_or, or_false, not_true, not_false_iff, and_self, Classical.not_not, eq_self, ite_self, reduceIte, *, kI] at h; first | exact h | (simp only [*]; done)) | (simp [numberF, *, kI] at h; exact h) | (unfold numberF at h; simp_all [inP, isCl, isSt, isRd, gS, gd1, gd2, gd3, gd4, gd5, gd6, gd7, kI]; done) | skip
theorem sp_X11_copied {d : Nat} {r s : Int32} {σ : XH} {S : SS} {Q : XV → XH → Prop} (hd : 2 ≤ d) (hM : MI σ) (v : isRd S r → vp_in r 90) (v3 : ¬ S 12 8 = 90 → vp_in (S 12 8) 90) (h : Q (vI (copiedF S r s).1) (up σ (copiedF S r s).2)) : Ec d 0 0 m_X11_copied [vR (some (12, 0)), vI r, vI s] (up σ S) Q := by
  refine Ec_of mo_X11_copied.1 (Nat.le_of_ble_eq_true rfl) ?_
  refine sX11_copied_0 ?_
  unfold bX11_copied_0
  refine ⟨by omega, ?_⟩
  refine sp_X11_isReading (by omega) (fun c2 => ?_) (fun c2 => ?_)
  · refine br_f (by decide) ?_
    refine ⟨by omega, ?_⟩
    refine sp_X11_isTime (by omega) (fun c12 => ?_) (fun c12 => ?_)
    · refine br_f (by decide) ?_
      refine ⟨hM.r120, ?_⟩
      refine ⟨vp_at hM.n120 (by (try simp only [hu_12, hu_120, hu_121, hu_122, up2_eq, up2_at, up2_s, up2_k, ne_eq, not_false_eq_true, Nat.reduceEqDiff, wL_up, hl_up, hr_up, hn_up]); first | assumption | exact v (by assumption)), ?_⟩
      refine ⟨fun c29 => ?_, fun c29 => ?_⟩
      · (try simp only [inP, isCl, isSt, isRd, gS, hu_12, hu_120, hu_121, hu_122, up2_eq, up2_at, up2_s, up2_k, ne_eq, not_false_eq_true, Nat.reduceEqDiff, wL_up, hl_up, hr_up, hn_up, kI] at *)
        first | (simp only [copiedF, inP, isCl, isSt, isRd, gS, gd1, gd2, gd3, gd4, gd5, gd6, gd7, if_true, if_false, true_and, and_true, false_and, and_false, true_or, or_true, false_or, or_false, not_true, not_false_iff, and_self, Classical.not_not, eq_self, ite_self, reduceIte, *, kI] at h; first | exact h | (simp only [*]; done)) | (simp [copiedF, *, kI] at h; exact h) | (unfold copiedF at h; simp_all [inP, isCl, isSt, isRd, gS, gd1, gd2, gd3, gd4, gd5, gd6, gd7, kI]; done) | skip
      · refine ⟨fun c41 => ?_, fun c41 => ?_⟩
        · (try simp only [inP, isCl, isSt, isRd, gS, hu_12, hu_120, hu_121, hu_122, up2_eq, up2_at, up2_s, up2_k, ne_eq, not_false_eq_true, Nat.reduceEqDiff, wL_up, hl_up, hr_up, hn_up, kI] at *)
          first | (simp only [copiedF, inP, isCl, isSt, isRd, gS, gd1, gd2, gd3, gd4, gd5, gd6, gd7, if_true, if_false, true_and, and_true, false_and, and_false, true_or, or_true, false_or, or_false, not_true, not_false_iff, and_self, Classical.not_not, eq_self, ite_self, reduceIte, *, kI] at h; first | exact h | (simp only [*]; done)) | (simp [copiedF, *, kI] at h; exact h) | (unfold copiedF at h; simp_all [inP, isCl, isSt, isRd, gS, gd1, gd2, gd3, gd4, gd5, gd6, gd7, kI]; done) | skip
        · refine ⟨hM.r121, ?_⟩
          refine ⟨vp_at hM.n121 (by (try simp only [hu_12, hu_120, hu_121, hu_122, up2_eq, up2_at, up2_s, up2_k, ne_eq, not_false_eq_true, Nat.reduceEqDiff, wL_up, hl_up, hr_up, hn_up]); first | assumption | exact v (by assumption)), ?_⟩
          refine ⟨hM.r122, ?_⟩
          refine ⟨vp_at hM.n122 (by (try simp only [hu_12, hu_120, hu_121, hu_122, up2_eq, up2_at, up2_s, up2_k, ne_eq, not_false_eq_true, Nat.reduceEqDiff, wL_up, hl_up, hr_up, hn_up]); first | assumption | exact v (by assumption)), ?_⟩
          refine ⟨by omega, ?_⟩
          refine sp_X11_add (by omega) hM (v3 (by assumption)) ?_
          (try simp only [inP, isCl, isSt, isRd, gS, hu_12, hu_120, hu_121, hu_122, up2_eq, up2_at, up2_s, up2_k, ne_eq, not_false_eq_true, Nat.reduceEqDiff, wL_up, hl_up, hr_up, hn_up, kI] at *)
          first | (simp only [copiedF, inP, isCl, isSt, isRd, gS, gd1, gd2, gd3, gd4, gd5, gd6, gd7, if_true, if_false, true_and, and_true, false_and, and_false, true_or, or_true, false_or, or_false, not_true, not_false_iff, and_self, Classical.not_not, eq_self, ite_self, reduceIte, *, kI] at h; first | exact h | (simp only [*]; done)) | (simp [copiedF, *, kI] at h; exact h) | (unfold copiedF at h; simp_all [inP, isCl, isSt, isRd, gS, gd1, gd2, gd3, gd4, gd5, gd6, gd7, kI]; done) | skip
    · refine br_t (rfl) ?_
      (try simp only [inP, isCl, isSt, isRd, gS, hu_12, hu_120, hu_121, hu_122, up2_eq, up2_at, up2_s, up2_k, ne_eq, not_false_eq_true, Nat.reduceEqDiff, wL_up, hl_up, hr_up, hn_up, kI] at *)
      first | (simp only [copiedF, inP, isCl, isSt, isRd, gS, gd1, gd2, gd3, gd4, gd5, gd6, gd7, if_true, if_false, true_and, and_true, false_and, and_false, true_or, or_true, false_or, or_false, not_true, not_false_iff, and_self, Classical.not_not, eq_self, ite_self, reduceIte, *, kI] at h; first | exact h | (simp only [*]; done)) | (simp [copiedF, *, kI] at h; exact h) | (unfold copiedF at h; simp_all [inP, isCl, isSt, isRd, gS, gd1, gd2, gd3, gd4, gd5, gd6, gd7, kI]; done) | skip
  · refine br_t (rfl) ?_
    (try simp only [inP, isCl, isSt, isRd, gS, hu_12, hu_120, hu_121, hu_122, up2_eq, up2_at, up2_s, up2_k, ne_eq, not_false_eq_true, Nat.reduceEqDiff, wL_up, hl_up, hr_up, hn_up, kI] at *)
    first | (simp only [copiedF, inP, isCl, isSt, isRd, gS, gd1, gd2, gd3, gd4, gd5, gd6, gd7, if_true, if_false, true_and, and_true, false_and, and_false, true_or, or_true, false_or, or_false, not_true, not_false_iff, and_self, Classical.not_not, eq_self, ite_self, reduceIte, *, kI] at h; first | exact h | (simp only [*]; done)) | (simp [copiedF, *, kI] at h; exact h) | (unfold copiedF at h; simp_all [inP, isCl, isSt, isRd, gS, gd1, gd2, gd3, gd4, gd5, gd6, gd7, kI]; done) | skip
theorem sp_X11_withdraw {d : Nat} {r : Int32} {σ : XH} {S : SS} {Q : XV → XH → Prop} (hd : 2 ≤ d) (hM : MI σ) (v : isRd S r → vp_in r 90) (h : Q (vI (withdrawF S r).1) (up σ (withdrawF S r).2)) : Ec d 0 0 m_X11_withdraw [vR (some (12, 0)), vI r] (up σ S) Q := by
  refine Ec_of mo_X11_withdraw.1 (Nat.le_of_ble_eq_true rfl) ?_
  refine sX11_withdraw_0 ?_
  unfold bX11_withdraw_0
  refine ⟨by omega, ?_⟩
  refine sp_X11_isReading (by omega) (fun c2 => ?_) (fun c2 => ?_)
  · refine br_f (by decide) ?_
    refine ⟨hM.r129, ?_⟩
    refine ⟨vp_at hM.n129 (by (try simp only [hu_12, hu_129, up2_eq, up2_at, up2_s, up2_k, ne_eq, not_false_eq_true, Nat.reduceEqDiff, wL_up, hl_up, hr_up, hn_up]); first | assumption | exact v (by assumption)), ?_⟩
    refine ⟨fun c16 => ?_, fun c16 => ?_⟩
    · (try simp only [inP, isCl, isSt, isRd, gS, hu_12, hu_129, up2_eq, up2_at, up2_s, up2_k, ne_eq, not_false_eq_true, Nat.reduceEqDiff, wL_up, hl_up, hr_up, hn_up] at *)
      first | (simp only [withdrawF, inP, isCl, isSt, isRd, gS, gd1, gd2, gd3, gd4, gd5, gd6, gd7, if_true, if_false, true_and, and_true, false_and, and_false, true_or, or_true, false_or, or_false, not_true, not_false_iff, and_self, Classical.not_not, eq_self, ite_self, reduceIte, *] at h; first | exact h | (simp only [*]; done)) | (simp [withdrawF, *] at h; exact h) | (unfold withdrawF at h; simp_all [inP, isCl, isSt, isRd, gS, gd1, gd2, gd3, gd4, gd5, gd6, gd7]; done) | skip
    · intro h29 e29
      simp only [wu_12, wu_129] at e29
      subst e29
      refine ⟨hM.r129, ?_⟩
      refine ⟨vp_at hM.n129 (by (try simp only [hu_12, hu_129, up2_eq, up2_at, up2_s, up2_k, ne_eq, not_false_eq_true, Nat.reduceEqDiff, wL_up, hl_up, hr_up, hn_up]); first | assumption | exact v (by assumption)), ?_⟩
      intro h41 e41
      simp only [wu_12, wu_129] at e41
      subst e41
      (try simp only [inP, isCl, isSt, isRd, gS, hu_12, hu_129, up2_eq, up2_at, up2_s, up2_k, ne_eq, not_false_eq_true, Nat.reduceEqDiff, wL_up, hl_up, hr_up, hn_up] at *)
      first | (simp only [withdrawF, inP, isCl, isSt, isRd, gS, gd1, gd2, gd3, gd4, gd5, gd6, gd7, if_true, if_false, true_and, and_true, false_and, and_false, true_or, or_true, false_or, or_false, not_true, not_false_iff, and_self, Classical.not_not, eq_self, ite_self, reduceIte, *] at h; first | exact h | (simp only [*]; done)) | (simp [withdrawF, *] at h; exact h) | (unfold withdrawF at h; simp_all [inP, isCl, isSt, isRd, gS, gd1, gd2, gd3, gd4, gd5, gd6, gd7]; done) | skip
  · refine br_t (rfl) ?_
    (try simp only [inP, isCl, isSt, isRd, gS, hu_12, hu_129, up2_eq, up2_at, up2_s, up2_k, ne_eq, not_false_eq_true, Nat.reduceEqDiff, wL_up, hl_up, hr_up, hn_up] at *)
    first | (simp only [withdrawF, inP, isCl, isSt, isRd, gS, gd1, gd2, gd3, gd4, gd5, gd6, gd7, if_true, if_false, true_and, and_true, false_and, and_false, true_or, or_true, false_or, or_false, not_true, not_false_iff, and_self, Classical.not_not, eq_self, ite_self, reduceIte, *] at h; first | exact h | (simp only [*]; done)) | (simp [withdrawF, *] at h; exact h) | (unfold withdrawF at h; simp_all [inP, isCl, isSt, isRd, gS, gd1, gd2, gd3, gd4, gd5, gd6, gd7]; done) | skip
theorem sp_X11_of {d : Nat} {r w : Int32} {σ : XH} {S : SS} {Q : XV → XH → Prop} (hd : 2 ≤ d) (hM : MI σ) (v : isRd S r → vp_in r 90) (v2 : isRd S r → gS S 120 r = 6 → vp_in (gS S 127 r) 90) (h : Q (vI (ofF S r w).1) (up σ (ofF S r w).2)) : Ec d 0 0 m_X11_of [vR (some (12, 0)), vI r, vI w] (up σ S) Q := by
  refine Ec_of mo_X11_of.1 (Nat.le_of_ble_eq_true rfl) ?_
  refine sX11_of_0 ?_
  unfold bX11_of_0
  refine ⟨by omega, ?_⟩
  refine sp_X11_isReading (by omega) (fun c2 => ?_) (fun c2 => ?_)
  · refine br_f (by decide) ?_
    refine ⟨fun e13_0 => ?_, fun e13_0 => ?_⟩
    · refine sX11_of_60 ?_
      unfold bX11_of_60
      refine ⟨by omega, ?_⟩
      refine sp_X11_nowKind (by omega) hM (v (by assumption)) ?_
      (try simp only [inP, isCl, isSt, isRd, gS, hu_12, hu_120, hu_121, hu_122, hu_123, hu_126, hu_127, up2_eq, up2_at, up2_s, up2_k, ne_eq, not_false_eq_true, Nat.reduceEqDiff, wL_up, hl_up, hr_up, hn_up, kI] at *)
      first | (simp only [ofF, inP, isCl, isSt, isRd, gS, gd1, gd2, gd3, gd4, gd5, gd6, gd7, if_true, if_false, true_and, and_true, false_and, and_false, true_or, or_true, false_or, or_false, not_true, not_false_iff, and_self, Classical.not_not, eq_self, ite_self, reduceIte, *, kI] at h; first | exact h | (simp only [*]; done)) | (simp [ofF, *, kI] at h; exact h) | (unfold ofF at h; simp_all [inP, isCl, isSt, isRd, gS, gd1, gd2, gd3, gd4, gd5, gd6, gd7, kI]; done) | skip
    · refine ⟨fun e13_1 => ?_, fun e13_1 => ?_⟩
      · refine sX11_of_66 ?_
        unfold bX11_of_66
        refine ⟨hM.r120, ?_⟩
        refine ⟨vp_at hM.n120 (by (try simp only [hu_12, hu_120, hu_121, hu_122, hu_123, hu_126, hu_127, up2_eq, up2_at, up2_s, up2_k, ne_eq, not_false_eq_true, Nat.reduceEqDiff, wL_up, hl_up, hr_up, hn_up]); first | assumption | exact v (by assumption) | exact v2 (by assumption) | exact v2 (by assumption) (by assumption)), ?_⟩
        (try simp only [inP, isCl, isSt, isRd, gS, hu_12, hu_120, hu_121, hu_122, hu_123, hu_126, hu_127, up2_eq, up2_at, up2_s, up2_k, ne_eq, not_false_eq_true, Nat.reduceEqDiff, wL_up, hl_up, hr_up, hn_up, kI] at *)
        first | (simp only [ofF, inP, isCl, isSt, isRd, gS, gd1, gd2, gd3, gd4, gd5, gd6, gd7, if_true, if_false, true_and, and_true, false_and, and_false, true_or, or_true, false_or, or_false, not_true, not_false_iff, and_self, Classical.not_not, eq_self, ite_self, reduceIte, *, kI] at h; first | exact h | (simp only [*]; done)) | (simp [ofF, *, kI] at h; exact h) | (unfold ofF at h; simp_all [inP, isCl, isSt, isRd, gS, gd1, gd2, gd3, gd4, gd5, gd6, gd7, kI]; done) | skip
      · refine ⟨fun e13_2 => ?_, fun e13_2 => ?_⟩
        · refine sX11_of_73 ?_
          unfold bX11_of_73
          refine ⟨hM.r121, ?_⟩
          refine ⟨vp_at hM.n121 (by (try simp only [hu_12, hu_120, hu_121, hu_122, hu_123, hu_126, hu_127, up2_eq, up2_at, up2_s, up2_k, ne_eq, not_false_eq_true, Nat.reduceEqDiff, wL_up, hl_up, hr_up, hn_up]); first | assumption | exact v (by assumption) | exact v2 (by assumption) | exact v2 (by assumption) (by assumption)), ?_⟩
          (try simp only [inP, isCl, isSt, isRd, gS, hu_12, hu_120, hu_121, hu_122, hu_123, hu_126, hu_127, up2_eq, up2_at, up2_s, up2_k, ne_eq, not_false_eq_true, Nat.reduceEqDiff, wL_up, hl_up, hr_up, hn_up, kI] at *)
          first | (simp only [ofF, inP, isCl, isSt, isRd, gS, gd1, gd2, gd3, gd4, gd5, gd6, gd7, if_true, if_false, true_and, and_true, false_and, and_false, true_or, or_true, false_or, or_false, not_true, not_false_iff, and_self, Classical.not_not, eq_self, ite_self, reduceIte, *, kI] at h; first | exact h | (simp only [*]; done)) | (simp [ofF, *, kI] at h; exact h) | (unfold ofF at h; simp_all [inP, isCl, isSt, isRd, gS, gd1, gd2, gd3, gd4, gd5, gd6, gd7, kI]; done) | skip
        · refine ⟨fun e13_3 => ?_, fun e13_3 => ?_⟩
          · refine sX11_of_80 ?_
            unfold bX11_of_80
            refine ⟨hM.r122, ?_⟩
            refine ⟨vp_at hM.n122 (by (try simp only [hu_12, hu_120, hu_121, hu_122, hu_123, hu_126, hu_127, up2_eq, up2_at, up2_s, up2_k, ne_eq, not_false_eq_true, Nat.reduceEqDiff, wL_up, hl_up, hr_up, hn_up]); first | assumption | exact v (by assumption) | exact v2 (by assumption) | exact v2 (by assumption) (by assumption)), ?_⟩
            (try simp only [inP, isCl, isSt, isRd, gS, hu_12, hu_120, hu_121, hu_122, hu_123, hu_126, hu_127, up2_eq, up2_at, up2_s, up2_k, ne_eq, not_false_eq_true, Nat.reduceEqDiff, wL_up, hl_up, hr_up, hn_up, kI] at *)
            first | (simp only [ofF, inP, isCl, isSt, isRd, gS, gd1, gd2, gd3, gd4, gd5, gd6, gd7, if_true, if_false, true_and, and_true, false_and, and_false, true_or, or_true, false_or, or_false, not_true, not_false_iff, and_self, Classical.not_not, eq_self, ite_self, reduceIte, *, kI] at h; first | exact h | (simp only [*]; done)) | (simp [ofF, *, kI] at h; exact h) | (unfold ofF at h; simp_all [inP, isCl, isSt, isRd, gS, gd1, gd2, gd3, gd4, gd5, gd6, gd7, kI]; done) | skip
          · refine ⟨fun e13_4 => ?_, fun e13_4 => ?_⟩
            · refine sX11_of_87 ?_
              unfold bX11_of_87
              refine ⟨hM.r123, ?_⟩
              refine ⟨vp_at hM.n123 (by (try simp only [hu_12, hu_120, hu_121, hu_122, hu_123, hu_126, hu_127, up2_eq, up2_at, up2_s, up2_k, ne_eq, not_false_eq_true, Nat.reduceEqDiff, wL_up, hl_up, hr_up, hn_up]); first | assumption | exact v (by assumption) | exact v2 (by assumption) | exact v2 (by assumption) (by assumption)), ?_⟩
              (try simp only [inP, isCl, isSt, isRd, gS, hu_12, hu_120, hu_121, hu_122, hu_123, hu_126, hu_127, up2_eq, up2_at, up2_s, up2_k, ne_eq, not_false_eq_true, Nat.reduceEqDiff, wL_up, hl_up, hr_up, hn_up, kI] at *)
              first | (simp only [ofF, inP, isCl, isSt, isRd, gS, gd1, gd2, gd3, gd4, gd5, gd6, gd7, if_true, if_false, true_and, and_true, false_and, and_false, true_or, or_true, false_or, or_false, not_true, not_false_iff, and_self, Classical.not_not, eq_self, ite_self, reduceIte, *, kI] at h; first | exact h | (simp only [*]; done)) | (simp [ofF, *, kI] at h; exact h) | (unfold ofF at h; simp_all [inP, isCl, isSt, isRd, gS, gd1, gd2, gd3, gd4, gd5, gd6, gd7, kI]; done) | skip
            · refine ⟨fun e13_5 => ?_, fun e13_5 => ?_⟩
              · refine sX11_of_94 ?_
                unfold bX11_of_94
                refine ⟨by omega, ?_⟩
                refine sp_X11_numberFor (by omega) hM (v (by assumption)) (v2 (by assumption)) ?_
                (try simp only [inP, isCl, isSt, isRd, gS, hu_12, hu_120, hu_121, hu_122, hu_123, hu_126, hu_127, up2_eq, up2_at, up2_s, up2_k, ne_eq, not_false_eq_true, Nat.reduceEqDiff, wL_up, hl_up, hr_up, hn_up, kI] at *)
                first | (simp only [ofF, inP, isCl, isSt, isRd, gS, gd1, gd2, gd3, gd4, gd5, gd6, gd7, if_true, if_false, true_and, and_true, false_and, and_false, true_or, or_true, false_or, or_false, not_true, not_false_iff, and_self, Classical.not_not, eq_self, ite_self, reduceIte, *, kI] at h; first | exact h | (simp only [*]; done)) | (simp [ofF, *, kI] at h; exact h) | (unfold ofF at h; simp_all [inP, isCl, isSt, isRd, gS, gd1, gd2, gd3, gd4, gd5, gd6, gd7, kI]; done) | skip
              · refine ⟨fun e13_6 => ?_, fun e13_6 => ?_⟩
                · refine sX11_of_100 ?_
                  unfold bX11_of_100
                  refine ⟨hM.r126, ?_⟩
                  refine ⟨vp_at hM.n126 (by (try simp only [hu_12, hu_120, hu_121, hu_122, hu_123, hu_126, hu_127, up2_eq, up2_at, up2_s, up2_k, ne_eq, not_false_eq_true, Nat.reduceEqDiff, wL_up, hl_up, hr_up, hn_up]); first | assumption | exact v (by assumption) | exact v2 (by assumption) | exact v2 (by assumption) (by assumption)), ?_⟩
                  (try simp only [inP, isCl, isSt, isRd, gS, hu_12, hu_120, hu_121, hu_122, hu_123, hu_126, hu_127, up2_eq, up2_at, up2_s, up2_k, ne_eq, not_false_eq_true, Nat.reduceEqDiff, wL_up, hl_up, hr_up, hn_up, kI] at *)
                  first | (simp only [ofF, inP, isCl, isSt, isRd, gS, gd1, gd2, gd3, gd4, gd5, gd6, gd7, if_true, if_false, true_and, and_true, false_and, and_false, true_or, or_true, false_or, or_false, not_true, not_false_iff, and_self, Classical.not_not, eq_self, ite_self, reduceIte, *, kI] at h; first | exact h | (simp only [*]; done)) | (simp [ofF, *, kI] at h; exact h) | (unfold ofF at h; simp_all [inP, isCl, isSt, isRd, gS, gd1, gd2, gd3, gd4, gd5, gd6, gd7, kI]; done) | skip
                · refine ⟨fun e13_7 => ?_, fun e13_7 => ?_⟩
                  · refine sX11_of_107 ?_
                    unfold bX11_of_107
                    refine ⟨hM.r127, ?_⟩
                    refine ⟨vp_at hM.n127 (by (try simp only [hu_12, hu_120, hu_121, hu_122, hu_123, hu_126, hu_127, up2_eq, up2_at, up2_s, up2_k, ne_eq, not_false_eq_true, Nat.reduceEqDiff, wL_up, hl_up, hr_up, hn_up]); first | assumption | exact v (by assumption) | exact v2 (by assumption) | exact v2 (by assumption) (by assumption)), ?_⟩
                    (try simp only [inP, isCl, isSt, isRd, gS, hu_12, hu_120, hu_121, hu_122, hu_123, hu_126, hu_127, up2_eq, up2_at, up2_s, up2_k, ne_eq, not_false_eq_true, Nat.reduceEqDiff, wL_up, hl_up, hr_up, hn_up, kI] at *)
                    first | (simp only [ofF, inP, isCl, isSt, isRd, gS, gd1, gd2, gd3, gd4, gd5, gd6, gd7, if_true, if_false, true_and, and_true, false_and, and_false, true_or, or_true, false_or, or_false, not_true, not_false_iff, and_self, Classical.not_not, eq_self, ite_self, reduceIte, *, kI] at h; first | exact h | (simp only [*]; done)) | (simp [ofF, *, kI] at h; exact h) | (unfold ofF at h; simp_all [inP, isCl, isSt, isRd, gS, gd1, gd2, gd3, gd4, gd5, gd6, gd7, kI]; done) | skip
                  · refine sX11_of_114 ?_
                    unfold bX11_of_114
                    (try simp only [inP, isCl, isSt, isRd, gS, hu_12, hu_120, hu_121, hu_122, hu_123, hu_126, hu_127, up2_eq, up2_at, up2_s, up2_k, ne_eq, not_false_eq_true, Nat.reduceEqDiff, wL_up, hl_up, hr_up, hn_up, kI] at *)
                    first | (simp only [ofF, inP, isCl, isSt, isRd, gS, gd1, gd2, gd3, gd4, gd5, gd6, gd7, if_true, if_false, true_and, and_true, false_and, and_false, true_or, or_true, false_or, or_false, not_true, not_false_iff, and_self, Classical.not_not, eq_self, ite_self, reduceIte, *, kI] at h; first | exact h | (simp only [*]; done)) | (simp [ofF, *, kI] at h; exact h) | (unfold ofF at h; simp_all [inP, isCl, isSt, isRd, gS, gd1, gd2, gd3, gd4, gd5, gd6, gd7, kI]; done) | skip
  · refine br_t (rfl) ?_
    (try simp only [inP, isCl, isSt, isRd, gS, hu_12, hu_120, hu_121, hu_122, hu_123, hu_126, hu_127, up2_eq, up2_at, up2_s, up2_k, ne_eq, not_false_eq_true, Nat.reduceEqDiff, wL_up, hl_up, hr_up, hn_up, kI] at *)
    first | (simp only [ofF, inP, isCl, isSt, isRd, gS, gd1, gd2, gd3, gd4, gd5, gd6, gd7, if_true, if_false, true_and, and_true, false_and, and_false, true_or, or_true, false_or, or_false, not_true, not_false_iff, and_self, Classical.not_not, eq_self, ite_self, reduceIte, *, kI] at h; first | exact h | (simp only [*]; done)) | (simp [ofF, *, kI] at h; exact h) | (unfold ofF at h; simp_all [inP, isCl, isSt, isRd, gS, gd1, gd2, gd3, gd4, gd5, gd6, gd7, kI]; done) | skip
theorem sp_X11_like {d : Nat} {r : Int32} {σ : XH} {S : SS} {Q : XV → XH → Prop} (hd : 2 ≤ d) (hM : MI σ) (v : isRd S r → vp_in r 90) (v2 : isRd S r → gS S 120 r = 6 → vp_in (gS S 127 r) 90) (h : Q (vI (likeF S r).1) (up σ (likeF S r).2)) : Ec d 0 0 m_X11_like [vR (some (12, 0)), vI r] (up σ S) Q := by
  refine Ec_of mo_X11_like.1 (Nat.le_of_ble_eq_true rfl) ?_
  refine sX11_like_0 ?_
  unfold bX11_like_0
  refine ⟨by omega, ?_⟩
  refine sp_X11_isReading (by omega) (fun c2 => ?_) (fun c2 => ?_)
  · refine br_f (by decide) ?_
    refine ⟨hM.r120, ?_⟩
    refine ⟨vp_at hM.n120 (by (try simp only [hu_12, hu_120, hu_123, hu_127, up2_eq, up2_at, up2_s, up2_k, ne_eq, not_false_eq_true, Nat.reduceEqDiff, wL_up, hl_up, hr_up, hn_up]); first | assumption | exact v (by assumption) | exact v2 (by assumption) | exact v2 (by assumption) (by assumption)), ?_⟩
    refine ⟨fun c18 => ?_, fun c18 => ?_⟩
    · refine ⟨hM.r123, ?_⟩
      refine ⟨vp_at hM.n123 (by (try simp only [hu_12, hu_120, hu_123, hu_127, up2_eq, up2_at, up2_s, up2_k, ne_eq, not_false_eq_true, Nat.reduceEqDiff, wL_up, hl_up, hr_up, hn_up]); first | assumption | exact v (by assumption) | exact v2 (by assumption) | exact v2 (by assumption) (by assumption)), ?_⟩
      refine ⟨hM.r123, ?_⟩
      refine ⟨hM.r127, ?_⟩
      refine ⟨vp_at hM.n127 (by (try simp only [hu_12, hu_120, hu_123, hu_127, up2_eq, up2_at, up2_s, up2_k, ne_eq, not_false_eq_true, Nat.reduceEqDiff, wL_up, hl_up, hr_up, hn_up]); first | assumption | exact v (by assumption) | exact v2 (by assumption) | exact v2 (by assumption) (by assumption)), ?_⟩
      refine ⟨vp_at hM.n123 (by (try simp only [hu_12, hu_120, hu_123, hu_127, up2_eq, up2_at, up2_s, up2_k, ne_eq, not_false_eq_true, Nat.reduceEqDiff, wL_up, hl_up, hr_up, hn_up]); first | assumption | exact v (by assumption) | exact v2 (by assumption) | exact v2 (by assumption) (by assumption)), ?_⟩
      refine ⟨fun c41 => ?_, fun c41 => ?_⟩
      · refine sX11_like_49 ?_
        unfold bX11_like_49
        (try simp only [inP, isCl, isSt, isRd, gS, hu_12, hu_120, hu_123, hu_127, up2_eq, up2_at, up2_s, up2_k, ne_eq, not_false_eq_true, Nat.reduceEqDiff, wL_up, hl_up, hr_up, hn_up] at *)
        first | (simp only [likeF, inP, isCl, isSt, isRd, gS, gd1, gd2, gd3, gd4, gd5, gd6, gd7, if_true, if_false, true_and, and_true, false_and, and_false, true_or, or_true, false_or, or_false, not_true, not_false_iff, and_self, Classical.not_not, eq_self, ite_self, reduceIte, *] at h; first | exact h | (simp only [*]; done)) | (simp [likeF, *] at h; exact h) | (unfold likeF at h; simp_all [inP, isCl, isSt, isRd, gS, gd1, gd2, gd3, gd4, gd5, gd6, gd7]; done) | skip
      · refine sX11_like_49 ?_
        unfold bX11_like_49
        (try simp only [inP, isCl, isSt, isRd, gS, hu_12, hu_120, hu_123, hu_127, up2_eq, up2_at, up2_s, up2_k, ne_eq, not_false_eq_true, Nat.reduceEqDiff, wL_up, hl_up, hr_up, hn_up] at *)
        first | (simp only [likeF, inP, isCl, isSt, isRd, gS, gd1, gd2, gd3, gd4, gd5, gd6, gd7, if_true, if_false, true_and, and_true, false_and, and_false, true_or, or_true, false_or, or_false, not_true, not_false_iff, and_self, Classical.not_not, eq_self, ite_self, reduceIte, *] at h; first | exact h | (simp only [*]; done)) | (simp [likeF, *] at h; exact h) | (unfold likeF at h; simp_all [inP, isCl, isSt, isRd, gS, gd1, gd2, gd3, gd4, gd5, gd6, gd7]; done) | skip
    · (try simp only [inP, isCl, isSt, isRd, gS, hu_12, hu_120, hu_123, hu_127, up2_eq, up2_at, up2_s, up2_k, ne_eq, not_false_eq_true, Nat.reduceEqDiff, wL_up, hl_up, hr_up, hn_up] at *)
      first | (simp only [likeF, inP, isCl, isSt, isRd, gS, gd1, gd2, gd3, gd4, gd5, gd6, gd7, if_true, if_false, true_and, and_true, false_and, and_false, true_or, or_true, false_or, or_false, not_true, not_false_iff, and_self, Classical.not_not, eq_self, ite_self, reduceIte, *] at h; first | exact h | (simp only [*]; done)) | (simp [likeF, *] at h; exact h) | (unfold likeF at h; simp_all [inP, isCl, isSt, isRd, gS, gd1, gd2, gd3, gd4, gd5, gd6, gd7]; done) | skip
  · refine br_t (rfl) ?_
    (try simp only [inP, isCl, isSt, isRd, gS, hu_12, hu_120, hu_123, hu_127, up2_eq, up2_at, up2_s, up2_k, ne_eq, not_false_eq_true, Nat.reduceEqDiff, wL_up, hl_up, hr_up, hn_up] at *)
    first | (simp only [likeF, inP, isCl, isSt, isRd, gS, gd1, gd2, gd3, gd4, gd5, gd6, gd7, if_true, if_false, true_and, and_true, false_and, and_false, true_or, or_true, false_or, or_false, not_true, not_false_iff, and_self, Classical.not_not, eq_self, ite_self, reduceIte, *] at h; first | exact h | (simp only [*]; done)) | (simp [likeF, *] at h; exact h) | (unfold likeF at h; simp_all [inP, isCl, isSt, isRd, gS, gd1, gd2, gd3, gd4, gd5, gd6, gd7]; done) | skip
theorem sp_X11_ended {d : Nat}  {σ : XH} {S : SS} {Q : XV → XH → Prop} (hd : 0 ≤ d) (hM : MI σ)  (h : Q (vI (endedF S ).1) (up σ (endedF S ).2)) : Ec d 0 0 m_X11_ended [vR (some (12, 0))] (up σ S) Q := by
  refine Ec_of mo_X11_ended.1 (Nat.le_of_ble_eq_true rfl) ?_
  refine sX11_ended_0 ?_
  unfold bX11_ended_0
  refine ⟨fun c4 => ?_, fun c4 => ?_⟩
  · refine sX11_ended_16 ?_
    unfold bX11_ended_16
    (try simp only [inP, isCl, isSt, isRd, gS, hu_12, up2_eq, up2_at, up2_s, up2_k, ne_eq, not_false_eq_true, Nat.reduceEqDiff, wL_up, hl_up, hr_up, hn_up] at *)
    first | (simp only [endedF, inP, isCl, isSt, isRd, gS, gd1, gd2, gd3, gd4, gd5, gd6, gd7, if_true, if_false, true_and, and_true, false_and, and_false, true_or, or_true, false_or, or_false, not_true, not_false_iff, and_self, Classical.not_not, eq_self, ite_self, reduceIte, *] at h; first | exact h | (simp only [*]; done)) | (simp [endedF, *] at h; exact h) | (unfold endedF at h; simp_all [inP, isCl, isSt, isRd, gS, gd1, gd2, gd3, gd4, gd5, gd6, gd7]; done) | skip
  · refine sX11_ended_16 ?_
    unfold bX11_ended_16
    (try simp only [inP, isCl, isSt, isRd, gS, hu_12, up2_eq, up2_at, up2_s, up2_k, ne_eq, not_false_eq_true, Nat.reduceEqDiff, wL_up, hl_up, hr_up, hn_up] at *)
    first | (simp only [endedF, inP, isCl, isSt, isRd, gS, gd1, gd2, gd3, gd4, gd5, gd6, gd7, if_true, if_false, true_and, and_true, false_and, and_false, true_or, or_true, false_or, or_false, not_true, not_false_iff, and_self, Classical.not_not, eq_self, ite_self, reduceIte, *] at h; first | exact h | (simp only [*]; done)) | (simp [endedF, *] at h; exact h) | (unfold endedF at h; simp_all [inP, isCl, isSt, isRd, gS, gd1, gd2, gd3, gd4, gd5, gd6, gd7]; done) | skip
theorem sp_X11_letter {d : Nat} {s b n : Int32} {σ : XH} {S : SS} {Q : XV → XH → Prop} (hd : 2 ≤ d) (hM : MI σ) (v : ¬ S 12 20 = 60 → vp_in (S 12 20) 60) (h : Q (vI (letterF S s b n).1) (up σ (letterF S s b n).2)) : Ec d 0 0 m_X11_letter [vR (some (12, 0)), vI s, vI b, vI n] (up σ S) Q := by
  refine Ec_of mo_X11_letter.1 (Nat.le_of_ble_eq_true rfl) ?_
  refine sX11_letter_0 ?_
  unfold bX11_letter_0
  refine ⟨by omega, ?_⟩
  refine sp_X11_isStation (by omega) (fun c2 => ?_) (fun c2 => ?_)
  · refine br_f (by decide) ?_
    refine ⟨by omega, ?_⟩
    refine sp_X11_isHouse (by omega) (fun c10 => ?_) (fun c10 => ?_)
    · refine br_f (by decide) ?_
      refine ⟨by omega, ?_⟩
      refine sp_X11_in (by omega) (fun c24 => ?_) (fun c24 => ?_)
      · refine br_f (by decide) ?_
        refine ⟨fun c39 => ?_, fun c39 => ?_⟩
        · (try simp only [inP, isCl, isSt, isRd, gS, hu_12, hu_130, hu_131, hu_132, hu_133, up2_eq, up2_at, up2_s, up2_k, ne_eq, not_false_eq_true, Nat.reduceEqDiff, wL_up, hl_up, hr_up, hn_up] at *)
          first | (simp only [letterF, inP, isCl, isSt, isRd, gS, gd1, gd2, gd3, gd4, gd5, gd6, gd7, if_true, if_false, true_and, and_true, false_and, and_false, true_or, or_true, false_or, or_false, not_true, not_false_iff, and_self, Classical.not_not, eq_self, ite_self, reduceIte, *] at h; first | exact h | (simp only [*]; done)) | (simp [letterF, *] at h; exact h) | (unfold letterF at h; simp_all [inP, isCl, isSt, isRd, gS, gd1, gd2, gd3, gd4, gd5, gd6, gd7]; done) | skip
        · refine ⟨hM.r130, ?_⟩
          refine ⟨vp_at hM.n130 (by (try simp only [hu_12, hu_130, hu_131, hu_132, hu_133, up2_eq, up2_at, up2_s, up2_k, ne_eq, not_false_eq_true, Nat.reduceEqDiff, wL_up, hl_up, hr_up, hn_up]); first | assumption | exact v (by assumption)), ?_⟩
          intro h54 e54
          simp only [wu_12, wu_130, wu_131, wu_132, wu_133] at e54
          subst e54
          refine ⟨hM.r131, ?_⟩
          refine ⟨vp_at hM.n131 (by (try simp only [hu_12, hu_130, hu_131, hu_132, hu_133, up2_eq, up2_at, up2_s, up2_k, ne_eq, not_false_eq_true, Nat.reduceEqDiff, wL_up, hl_up, hr_up, hn_up]); first | assumption | exact v (by assumption)), ?_⟩
          intro h64 e64
          simp only [wu_12, wu_130, wu_131, wu_132, wu_133] at e64
          subst e64
          refine ⟨hM.r132, ?_⟩
          refine ⟨vp_at hM.n132 (by (try simp only [hu_12, hu_130, hu_131, hu_132, hu_133, up2_eq, up2_at, up2_s, up2_k, ne_eq, not_false_eq_true, Nat.reduceEqDiff, wL_up, hl_up, hr_up, hn_up]); first | assumption | exact v (by assumption)), ?_⟩
          intro h79 e79
          simp only [wu_12, wu_130, wu_131, wu_132, wu_133] at e79
          subst e79
          intro h87 e87
          simp only [wu_12, wu_130, wu_131, wu_132, wu_133] at e87
          subst e87
          refine ⟨hM.r133, ?_⟩
          refine ⟨vp_at hM.n133 (by (try simp only [hu_12, hu_130, hu_131, hu_132, hu_133, up2_eq, up2_at, up2_s, up2_k, ne_eq, not_false_eq_true, Nat.reduceEqDiff, wL_up, hl_up, hr_up, hn_up]); first | assumption | exact v (by assumption)), ?_⟩
          intro h102 e102
          simp only [wu_12, wu_130, wu_131, wu_132, wu_133] at e102
          subst e102
          intro h110 e110
          simp only [wu_12, wu_130, wu_131, wu_132, wu_133] at e110
          subst e110
          refine sX11_letter_113 ?_
          unfold bX11_letter_113
          (try simp only [inP, isCl, isSt, isRd, gS, hu_12, hu_130, hu_131, hu_132, hu_133, up2_eq, up2_at, up2_s, up2_k, ne_eq, not_false_eq_true, Nat.reduceEqDiff, wL_up, hl_up, hr_up, hn_up] at *)
          first | (simp only [letterF, inP, isCl, isSt, isRd, gS, gd1, gd2, gd3, gd4, gd5, gd6, gd7, if_true, if_false, true_and, and_true, false_and, and_false, true_or, or_true, false_or, or_false, not_true, not_false_iff, and_self, Classical.not_not, eq_self, ite_self, reduceIte, *] at h; first | exact h | (simp only [*]; done)) | (simp [letterF, *] at h; exact h) | (unfold letterF at h; simp_all [inP, isCl, isSt, isRd, gS, gd1, gd2, gd3, gd4, gd5, gd6, gd7]; done) | skip
      · refine br_t (rfl) ?_
        (try simp only [inP, isCl, isSt, isRd, gS, hu_12, hu_130, hu_131, hu_132, hu_133, up2_eq, up2_at, up2_s, up2_k, ne_eq, not_false_eq_true, Nat.reduceEqDiff, wL_up, hl_up, hr_up, hn_up] at *)
        first | (simp only [letterF, inP, isCl, isSt, isRd, gS, gd1, gd2, gd3, gd4, gd5, gd6, gd7, if_true, if_false, true_and, and_true, false_and, and_false, true_or, or_true, false_or, or_false, not_true, not_false_iff, and_self, Classical.not_not, eq_self, ite_self, reduceIte, *] at h; first | exact h | (simp only [*]; done)) | (simp [letterF, *] at h; exact h) | (unfold letterF at h; simp_all [inP, isCl, isSt, isRd, gS, gd1, gd2, gd3, gd4, gd5, gd6, gd7]; done) | skip
    · refine br_t (rfl) ?_
      refine sX11_letter_16 ?_
      unfold bX11_letter_16
      (try simp only [inP, isCl, isSt, isRd, gS, hu_12, hu_130, hu_131, hu_132, hu_133, up2_eq, up2_at, up2_s, up2_k, ne_eq, not_false_eq_true, Nat.reduceEqDiff, wL_up, hl_up, hr_up, hn_up] at *)
      first | (simp only [letterF, inP, isCl, isSt, isRd, gS, gd1, gd2, gd3, gd4, gd5, gd6, gd7, if_true, if_false, true_and, and_true, false_and, and_false, true_or, or_true, false_or, or_false, not_true, not_false_iff, and_self, Classical.not_not, eq_self, ite_self, reduceIte, *] at h; first | exact h | (simp only [*]; done)) | (simp [letterF, *] at h; exact h) | (unfold letterF at h; simp_all [inP, isCl, isSt, isRd, gS, gd1, gd2, gd3, gd4, gd5, gd6, gd7]; done) | skip
  · refine br_t (rfl) ?_
    refine sX11_letter_16 ?_
    unfold bX11_letter_16
    (try simp only [inP, isCl, isSt, isRd, gS, hu_12, hu_130, hu_131, hu_132, hu_133, up2_eq, up2_at, up2_s, up2_k, ne_eq, not_false_eq_true, Nat.reduceEqDiff, wL_up, hl_up, hr_up, hn_up] at *)
    first | (simp only [letterF, inP, isCl, isSt, isRd, gS, gd1, gd2, gd3, gd4, gd5, gd6, gd7, if_true, if_false, true_and, and_true, false_and, and_false, true_or, or_true, false_or, or_false, not_true, not_false_iff, and_self, Classical.not_not, eq_self, ite_self, reduceIte, *] at h; first | exact h | (simp only [*]; done)) | (simp [letterF, *] at h; exact h) | (unfold letterF at h; simp_all [inP, isCl, isSt, isRd, gS, gd1, gd2, gd3, gd4, gd5, gd6, gd7]; done) | skip
theorem sp_X11_table {d : Nat} {n t : Int32} {σ : XH} {S : SS} {Q : XV → XH → Prop} (hd : 2 ≤ d) (hM : MI σ) (v : inP n 1 4 → vp_in n 5) (h : Q (vI (tableF S n t).1) (up σ (tableF S n t).2)) : Ec d 0 0 m_X11_table [vR (some (12, 0)), vI n, vI t] (up σ S) Q := by
  refine Ec_of mo_X11_table.1 (Nat.le_of_ble_eq_true rfl) ?_
  refine sX11_table_0 ?_
  unfold bX11_table_0
  refine ⟨by omega, ?_⟩
  refine sp_X11_in (by omega) (fun c4 => ?_) (fun c4 => ?_)
  · refine br_f (by decide) ?_
    refine ⟨by omega, ?_⟩
    refine sp_X11_isTime (by omega) (fun c14 => ?_) (fun c14 => ?_)
    · refine br_f (by decide) ?_
      refine ⟨hM.r145, ?_⟩
      refine ⟨vp_at hM.n145 (by (try simp only [hu_12, hu_145, up2_eq, up2_at, up2_s, up2_k, ne_eq, not_false_eq_true, Nat.reduceEqDiff, wL_up, hl_up, hr_up, hn_up]); first | assumption | exact v (by assumption)), ?_⟩
      refine ⟨hM.r145, ?_⟩
      refine ⟨vp_at hM.n145 (by (try simp only [hu_12, hu_145, up2_eq, up2_at, up2_s, up2_k, ne_eq, not_false_eq_true, Nat.reduceEqDiff, wL_up, hl_up, hr_up, hn_up]); first | assumption | exact v (by assumption)), ?_⟩
      intro h36 e36
      simp only [wu_12, wu_145] at e36
      subst e36
      (try simp only [inP, isCl, isSt, isRd, gS, hu_12, hu_145, up2_eq, up2_at, up2_s, up2_k, ne_eq, not_false_eq_true, Nat.reduceEqDiff, wL_up, hl_up, hr_up, hn_up] at *)
      first | (simp only [tableF, inP, isCl, isSt, isRd, gS, gd1, gd2, gd3, gd4, gd5, gd6, gd7, if_true, if_false, true_and, and_true, false_and, and_false, true_or, or_true, false_or, or_false, not_true, not_false_iff, and_self, Classical.not_not, eq_self, ite_self, reduceIte, *] at h; first | exact h | (simp only [*]; done)) | (simp [tableF, *] at h; exact h) | (unfold tableF at h; simp_all [inP, isCl, isSt, isRd, gS, gd1, gd2, gd3, gd4, gd5, gd6, gd7]; done) | skip
    · refine br_t (rfl) ?_
      (try simp only [inP, isCl, isSt, isRd, gS, hu_12, hu_145, up2_eq, up2_at, up2_s, up2_k, ne_eq, not_false_eq_true, Nat.reduceEqDiff, wL_up, hl_up, hr_up, hn_up] at *)
      first | (simp only [tableF, inP, isCl, isSt, isRd, gS, gd1, gd2, gd3, gd4, gd5, gd6, gd7, if_true, if_false, true_and, and_true, false_and, and_false, true_or, or_true, false_or, or_false, not_true, not_false_iff, and_self, Classical.not_not, eq_self, ite_self, reduceIte, *] at h; first | exact h | (simp only [*]; done)) | (simp [tableF, *] at h; exact h) | (unfold tableF at h; simp_all [inP, isCl, isSt, isRd, gS, gd1, gd2, gd3, gd4, gd5, gd6, gd7]; done) | skip
  · refine br_t (rfl) ?_
    (try simp only [inP, isCl, isSt, isRd, gS, hu_12, hu_145, up2_eq, up2_at, up2_s, up2_k, ne_eq, not_false_eq_true, Nat.reduceEqDiff, wL_up, hl_up, hr_up, hn_up] at *)
    first | (simp only [tableF, inP, isCl, isSt, isRd, gS, gd1, gd2, gd3, gd4, gd5, gd6, gd7, if_true, if_false, true_and, and_true, false_and, and_false, true_or, or_true, false_or, or_false, not_true, not_false_iff, and_self, Classical.not_not, eq_self, ite_self, reduceIte, *] at h; first | exact h | (simp only [*]; done)) | (simp [tableF, *] at h; exact h) | (unfold tableF at h; simp_all [inP, isCl, isSt, isRd, gS, gd1, gd2, gd3, gd4, gd5, gd6, gd7]; done) | skip
theorem sp_X11_lever {d : Nat} {s n q : Int32} {σ : XH} {S : SS} {Q : XV → XH → Prop} (hd : 2 ≤ d) (hM : MI σ) (v : isSt S s → inP n 1 4 → vp_in (4 * s + n - 1) 44) (h : Q (vI (leverF S s n q).1) (up σ (leverF S s n q).2)) : Ec d 0 0 m_X11_lever [vR (some (12, 0)), vI s, vI n, vI q] (up σ S) Q := by
  refine Ec_of mo_X11_lever.1 (Nat.le_of_ble_eq_true rfl) ?_
  refine sX11_lever_0 ?_
  unfold bX11_lever_0
  refine ⟨by omega, ?_⟩
  refine sp_X11_isStation (by omega) (fun c2 => ?_) (fun c2 => ?_)
  · refine br_f (by decide) ?_
    refine ⟨by omega, ?_⟩
    refine sp_X11_in (by omega) (fun c12 => ?_) (fun c12 => ?_)
    · refine br_f (by decide) ?_
      refine ⟨by omega, ?_⟩
      refine sp_X11_in (by omega) (fun c24 => ?_) (fun c24 => ?_)
      · refine br_f (by decide) ?_
        refine ⟨hM.r146, ?_⟩
        refine ⟨vp_at hM.n146 (by (try simp only [hu_12, hu_146, up2_eq, up2_at, up2_s, up2_k, ne_eq, not_false_eq_true, Nat.reduceEqDiff, wL_up, hl_up, hr_up, hn_up]); first | assumption | exact v (by assumption) (by assumption)), ?_⟩
        refine ⟨hM.r146, ?_⟩
        refine ⟨vp_at hM.n146 (by (try simp only [hu_12, hu_146, up2_eq, up2_at, up2_s, up2_k, ne_eq, not_false_eq_true, Nat.reduceEqDiff, wL_up, hl_up, hr_up, hn_up]); first | assumption | exact v (by assumption) (by assumption)), ?_⟩
        intro h59 e59
        simp only [wu_12, wu_146] at e59
        subst e59
        (try simp only [inP, isCl, isSt, isRd, gS, hu_12, hu_146, up2_eq, up2_at, up2_s, up2_k, ne_eq, not_false_eq_true, Nat.reduceEqDiff, wL_up, hl_up, hr_up, hn_up] at *)
        first | (simp only [leverF, inP, isCl, isSt, isRd, gS, gd1, gd2, gd3, gd4, gd5, gd6, gd7, if_true, if_false, true_and, and_true, false_and, and_false, true_or, or_true, false_or, or_false, not_true, not_false_iff, and_self, Classical.not_not, eq_self, ite_self, reduceIte, *] at h; first | exact h | (simp only [*]; done)) | (simp [leverF, *] at h; exact h) | (unfold leverF at h; simp_all [inP, isCl, isSt, isRd, gS, gd1, gd2, gd3, gd4, gd5, gd6, gd7]; done) | skip
      · refine br_t (rfl) ?_
        refine sX11_lever_30 ?_
        unfold bX11_lever_30
        (try simp only [inP, isCl, isSt, isRd, gS, hu_12, hu_146, up2_eq, up2_at, up2_s, up2_k, ne_eq, not_false_eq_true, Nat.reduceEqDiff, wL_up, hl_up, hr_up, hn_up] at *)
        first | (simp only [leverF, inP, isCl, isSt, isRd, gS, gd1, gd2, gd3, gd4, gd5, gd6, gd7, if_true, if_false, true_and, and_true, false_and, and_false, true_or, or_true, false_or, or_false, not_true, not_false_iff, and_self, Classical.not_not, eq_self, ite_self, reduceIte, *] at h; first | exact h | (simp only [*]; done)) | (simp [leverF, *] at h; exact h) | (unfold leverF at h; simp_all [inP, isCl, isSt, isRd, gS, gd1, gd2, gd3, gd4, gd5, gd6, gd7]; done) | skip
    · refine br_t (rfl) ?_
      refine sX11_lever_30 ?_
      unfold bX11_lever_30
      (try simp only [inP, isCl, isSt, isRd, gS, hu_12, hu_146, up2_eq, up2_at, up2_s, up2_k, ne_eq, not_false_eq_true, Nat.reduceEqDiff, wL_up, hl_up, hr_up, hn_up] at *)
      first | (simp only [leverF, inP, isCl, isSt, isRd, gS, gd1, gd2, gd3, gd4, gd5, gd6, gd7, if_true, if_false, true_and, and_true, false_and, and_false, true_or, or_true, false_or, or_false, not_true, not_false_iff, and_self, Classical.not_not, eq_self, ite_self, reduceIte, *] at h; first | exact h | (simp only [*]; done)) | (simp [leverF, *] at h; exact h) | (unfold leverF at h; simp_all [inP, isCl, isSt, isRd, gS, gd1, gd2, gd3, gd4, gd5, gd6, gd7]; done) | skip
  · refine br_t (rfl) ?_
    refine sX11_lever_30 ?_
    unfold bX11_lever_30
    (try simp only [inP, isCl, isSt, isRd, gS, hu_12, hu_146, up2_eq, up2_at, up2_s, up2_k, ne_eq, not_false_eq_true, Nat.reduceEqDiff, wL_up, hl_up, hr_up, hn_up] at *)
    first | (simp only [leverF, inP, isCl, isSt, isRd, gS, gd1, gd2, gd3, gd4, gd5, gd6, gd7, if_true, if_false, true_and, and_true, false_and, and_false, true_or, or_true, false_or, or_false, not_true, not_false_iff, and_self, Classical.not_not, eq_self, ite_self, reduceIte, *] at h; first | exact h | (simp only [*]; done)) | (simp [leverF, *] at h; exact h) | (unfold leverF at h; simp_all [inP, isCl, isSt, isRd, gS, gd1, gd2, gd3, gd4, gd5, gd6, gd7]; done) | skip
theorem sp_X11_place {d : Nat} {l c q : Int32} {σ : XH} {S : SS} {Q : XV → XH → Prop} (hd : 1 ≤ d) (hM : MI σ) (v : ¬ S 12 59 = 9 → vp_in (S 12 59) 9) (h : Q (vI (placeF S l c q).1) (up σ (placeF S l c q).2)) : Ec d 0 0 m_X11_place [vR (some (12, 0)), vI l, vI c, vI q] (up σ S) Q := by
  refine Ec_of mo_X11_place.1 (Nat.le_of_ble_eq_true rfl) ?_
  refine sX11_place_0 ?_
  unfold bX11_place_0
  refine ⟨by omega, ?_⟩
  refine sp_X11_in (by omega) (fun c6 => ?_) (fun c6 => ?_)
  · refine br_f (by decide) ?_
    refine ⟨by omega, ?_⟩
    refine sp_X11_in (by omega) (fun c17 => ?_) (fun c17 => ?_)
    · refine br_f (by decide) ?_
      refine ⟨by omega, ?_⟩
      refine sp_X11_in (by omega) (fun c28 => ?_) (fun c28 => ?_)
      · refine br_f (by decide) ?_
        refine ⟨fun c43 => ?_, fun c43 => ?_⟩
        · (try simp only [inP, isCl, isSt, isRd, gS, hu_12, hu_147, hu_148, hu_149, up2_eq, up2_at, up2_s, up2_k, ne_eq, not_false_eq_true, Nat.reduceEqDiff, wL_up, hl_up, hr_up, hn_up] at *)
          first | (simp only [placeF, inP, isCl, isSt, isRd, gS, gd1, gd2, gd3, gd4, gd5, gd6, gd7, if_true, if_false, true_and, and_true, false_and, and_false, true_or, or_true, false_or, or_false, not_true, not_false_iff, and_self, Classical.not_not, eq_self, ite_self, reduceIte, *] at h; first | exact h | (simp only [*]; done)) | (simp [placeF, *] at h; exact h) | (unfold placeF at h; simp_all [inP, isCl, isSt, isRd, gS, gd1, gd2, gd3, gd4, gd5, gd6, gd7]; done) | skip
        · refine ⟨hM.r147, ?_⟩
          refine ⟨vp_at hM.n147 (by (try simp only [hu_12, hu_147, hu_148, hu_149, up2_eq, up2_at, up2_s, up2_k, ne_eq, not_false_eq_true, Nat.reduceEqDiff, wL_up, hl_up, hr_up, hn_up]); first | assumption | exact v (by assumption)), ?_⟩
          intro h58 e58
          simp only [wu_12, wu_147, wu_148, wu_149] at e58
          subst e58
          refine ⟨hM.r148, ?_⟩
          refine ⟨vp_at hM.n148 (by (try simp only [hu_12, hu_147, hu_148, hu_149, up2_eq, up2_at, up2_s, up2_k, ne_eq, not_false_eq_true, Nat.reduceEqDiff, wL_up, hl_up, hr_up, hn_up]); first | assumption | exact v (by assumption)), ?_⟩
          intro h68 e68
          simp only [wu_12, wu_147, wu_148, wu_149] at e68
          subst e68
          refine ⟨hM.r149, ?_⟩
          refine ⟨vp_at hM.n149 (by (try simp only [hu_12, hu_147, hu_148, hu_149, up2_eq, up2_at, up2_s, up2_k, ne_eq, not_false_eq_true, Nat.reduceEqDiff, wL_up, hl_up, hr_up, hn_up]); first | assumption | exact v (by assumption)), ?_⟩
          intro h78 e78
          simp only [wu_12, wu_147, wu_148, wu_149] at e78
          subst e78
          intro h86 e86
          simp only [wu_12, wu_147, wu_148, wu_149] at e86
          subst e86
          (try simp only [inP, isCl, isSt, isRd, gS, hu_12, hu_147, hu_148, hu_149, up2_eq, up2_at, up2_s, up2_k, ne_eq, not_false_eq_true, Nat.reduceEqDiff, wL_up, hl_up, hr_up, hn_up] at *)
          first | (simp only [placeF, inP, isCl, isSt, isRd, gS, gd1, gd2, gd3, gd4, gd5, gd6, gd7, if_true, if_false, true_and, and_true, false_and, and_false, true_or, or_true, false_or, or_false, not_true, not_false_iff, and_self, Classical.not_not, eq_self, ite_self, reduceIte, *] at h; first | exact h | (simp only [*]; done)) | (simp [placeF, *] at h; exact h) | (unfold placeF at h; simp_all [inP, isCl, isSt, isRd, gS, gd1, gd2, gd3, gd4, gd5, gd6, gd7]; done) | skip
      · refine br_t (rfl) ?_
        refine sX11_place_34 ?_
        unfold bX11_place_34
        (try simp only [inP, isCl, isSt, isRd, gS, hu_12, hu_147, hu_148, hu_149, up2_eq, up2_at, up2_s, up2_k, ne_eq, not_false_eq_true, Nat.reduceEqDiff, wL_up, hl_up, hr_up, hn_up] at *)
        first | (simp only [placeF, inP, isCl, isSt, isRd, gS, gd1, gd2, gd3, gd4, gd5, gd6, gd7, if_true, if_false, true_and, and_true, false_and, and_false, true_or, or_true, false_or, or_false, not_true, not_false_iff, and_self, Classical.not_not, eq_self, ite_self, reduceIte, *] at h; first | exact h | (simp only [*]; done)) | (simp [placeF, *] at h; exact h) | (unfold placeF at h; simp_all [inP, isCl, isSt, isRd, gS, gd1, gd2, gd3, gd4, gd5, gd6, gd7]; done) | skip
    · refine br_t (rfl) ?_
      refine sX11_place_34 ?_
      unfold bX11_place_34
      (try simp only [inP, isCl, isSt, isRd, gS, hu_12, hu_147, hu_148, hu_149, up2_eq, up2_at, up2_s, up2_k, ne_eq, not_false_eq_true, Nat.reduceEqDiff, wL_up, hl_up, hr_up, hn_up] at *)
      first | (simp only [placeF, inP, isCl, isSt, isRd, gS, gd1, gd2, gd3, gd4, gd5, gd6, gd7, if_true, if_false, true_and, and_true, false_and, and_false, true_or, or_true, false_or, or_false, not_true, not_false_iff, and_self, Classical.not_not, eq_self, ite_self, reduceIte, *] at h; first | exact h | (simp only [*]; done)) | (simp [placeF, *] at h; exact h) | (unfold placeF at h; simp_all [inP, isCl, isSt, isRd, gS, gd1, gd2, gd3, gd4, gd5, gd6, gd7]; done) | skip
  · refine br_t (rfl) ?_
    refine sX11_place_34 ?_
    unfold bX11_place_34
    (try simp only [inP, isCl, isSt, isRd, gS, hu_12, hu_147, hu_148, hu_149, up2_eq, up2_at, up2_s, up2_k, ne_eq, not_false_eq_true, Nat.reduceEqDiff, wL_up, hl_up, hr_up, hn_up] at *)
    first | (simp only [placeF, inP, isCl, isSt, isRd, gS, gd1, gd2, gd3, gd4, gd5, gd6, gd7, if_true, if_false, true_and, and_true, false_and, and_false, true_or, or_true, false_or, or_false, not_true, not_false_iff, and_self, Classical.not_not, eq_self, ite_self, reduceIte, *] at h; first | exact h | (simp only [*]; done)) | (simp [placeF, *] at h; exact h) | (unfold placeF at h; simp_all [inP, isCl, isSt, isRd, gS, gd1, gd2, gd3, gd4, gd5, gd6, gd7]; done) | skip
theorem sp_X11_trace {d : Nat} {i : Int32} {σ : XH} {S : SS} {Q : XV → XH → Prop} (hd : 1 ≤ d) (hM : MI σ) (v : inP i 0 19 → vp_in i 20) (h : Q (vI (traceF S i).1) (up σ (traceF S i).2)) : Ec d 0 0 m_X11_trace [vR (some (12, 0)), vI i] (up σ S) Q := by
  refine Ec_of mo_X11_trace.1 (Nat.le_of_ble_eq_true rfl) ?_
  refine sX11_trace_0 ?_
  unfold bX11_trace_0
  refine ⟨by omega, ?_⟩
  refine sp_X11_in (by omega) (fun c5 => ?_) (fun c5 => ?_)
  · refine br_f (by decide) ?_
    refine ⟨fun c16 => ?_, fun c16 => ?_⟩
    · refine ⟨hM.r150, ?_⟩
      refine ⟨vp_at hM.n150 (by (try simp only [hu_12, hu_150, up2_eq, up2_at, up2_s, up2_k, ne_eq, not_false_eq_true, Nat.reduceEqDiff, wL_up, hl_up, hr_up, hn_up]); first | assumption | exact v (by assumption)), ?_⟩
      refine sX11_trace_29 ?_
      unfold bX11_trace_29
      (try simp only [inP, isCl, isSt, isRd, gS, hu_12, hu_150, up2_eq, up2_at, up2_s, up2_k, ne_eq, not_false_eq_true, Nat.reduceEqDiff, wL_up, hl_up, hr_up, hn_up] at *)
      first | (simp only [traceF, inP, isCl, isSt, isRd, gS, gd1, gd2, gd3, gd4, gd5, gd6, gd7, if_true, if_false, true_and, and_true, false_and, and_false, true_or, or_true, false_or, or_false, not_true, not_false_iff, and_self, Classical.not_not, eq_self, ite_self, reduceIte, *] at h; first | exact h | (simp only [*]; done)) | (simp [traceF, *] at h; exact h) | (unfold traceF at h; simp_all [inP, isCl, isSt, isRd, gS, gd1, gd2, gd3, gd4, gd5, gd6, gd7]; done) | skip
    · refine sX11_trace_28 ?_
      unfold bX11_trace_28
      refine sX11_trace_29 ?_
      unfold bX11_trace_29
      (try simp only [inP, isCl, isSt, isRd, gS, hu_12, hu_150, up2_eq, up2_at, up2_s, up2_k, ne_eq, not_false_eq_true, Nat.reduceEqDiff, wL_up, hl_up, hr_up, hn_up] at *)
      first | (simp only [traceF, inP, isCl, isSt, isRd, gS, gd1, gd2, gd3, gd4, gd5, gd6, gd7, if_true, if_false, true_and, and_true, false_and, and_false, true_or, or_true, false_or, or_false, not_true, not_false_iff, and_self, Classical.not_not, eq_self, ite_self, reduceIte, *] at h; first | exact h | (simp only [*]; done)) | (simp [traceF, *] at h; exact h) | (unfold traceF at h; simp_all [inP, isCl, isSt, isRd, gS, gd1, gd2, gd3, gd4, gd5, gd6, gd7]; done) | skip
  · refine br_t (rfl) ?_
    refine sX11_trace_28 ?_
    unfold bX11_trace_28
    refine sX11_trace_29 ?_
    unfold bX11_trace_29
    (try simp only [inP, isCl, isSt, isRd, gS, hu_12, hu_150, up2_eq, up2_at, up2_s, up2_k, ne_eq, not_false_eq_true, Nat.reduceEqDiff, wL_up, hl_up, hr_up, hn_up] at *)
    first | (simp only [traceF, inP, isCl, isSt, isRd, gS, gd1, gd2, gd3, gd4, gd5, gd6, gd7, if_true, if_false, true_and, and_true, false_and, and_false, true_or, or_true, false_or, or_false, not_true, not_false_iff, and_self, Classical.not_not, eq_self, ite_self, reduceIte, *] at h; first | exact h | (simp only [*]; done)) | (simp [traceF, *] at h; exact h) | (unfold traceF at h; simp_all [inP, isCl, isSt, isRd, gS, gd1, gd2, gd3, gd4, gd5, gd6, gd7]; done) | skip
theorem sp_X11_taken {d : Nat} {r k : Int32} {σ : XH} {S : SS} {Q : XV → XH → Prop} (hd : 2 ≤ d) (hM : MI σ) (v : isRd S r → vp_in r 90) (h : Q (vI (takenF S r k).1) (up σ (takenF S r k).2)) : Ec d 0 0 m_X11_taken [vR (some (12, 0)), vI r, vI k] (up σ S) Q := by
  refine Ec_of mo_X11_taken.1 (Nat.le_of_ble_eq_true rfl) ?_
  refine sX11_taken_0 ?_
  unfold bX11_taken_0
  refine ⟨by omega, ?_⟩
  refine sp_X11_in (by omega) (fun c5 => ?_) (fun c5 => ?_)
  · refine br_f (by decide) ?_
    refine ⟨by omega, ?_⟩
    refine sp_X11_isReading (by omega) (fun c16 => ?_) (fun c16 => ?_)
    · refine br_f (by decide) ?_
      refine ⟨by omega, ?_⟩
      refine sp_X11_nowKind (by omega) hM (v (by assumption)) ?_
      refine ⟨fun c32 => ?_, fun c32 => ?_⟩
      · refine sX11_taken_50 ?_
        unfold bX11_taken_50
        refine sX11_taken_56 ?_
        unfold bX11_taken_56
        (try simp only [inP, isCl, isSt, isRd, gS, hu_12, up2_eq, up2_at, up2_s, up2_k, ne_eq, not_false_eq_true, Nat.reduceEqDiff, wL_up, hl_up, hr_up, hn_up, kI] at *)
        first | (simp only [takenF, inP, isCl, isSt, isRd, gS, gd1, gd2, gd3, gd4, gd5, gd6, gd7, if_true, if_false, true_and, and_true, false_and, and_false, true_or, or_true, false_or, or_false, not_true, not_false_iff, and_self, Classical.not_not, eq_self, ite_self, reduceIte, *, kI] at h; first | exact h | (simp only [*]; done)) | (simp [takenF, *, kI] at h; exact h) | (unfold takenF at h; simp_all [inP, isCl, isSt, isRd, gS, gd1, gd2, gd3, gd4, gd5, gd6, gd7, kI]; done) | skip
      · refine ⟨fun c37 => ?_, fun c37 => ?_⟩
        · refine sX11_taken_50 ?_
          unfold bX11_taken_50
          refine sX11_taken_56 ?_
          unfold bX11_taken_56
          (try simp only [inP, isCl, isSt, isRd, gS, hu_12, up2_eq, up2_at, up2_s, up2_k, ne_eq, not_false_eq_true, Nat.reduceEqDiff, wL_up, hl_up, hr_up, hn_up, kI] at *)
          first | (simp only [takenF, inP, isCl, isSt, isRd, gS, gd1, gd2, gd3, gd4, gd5, gd6, gd7, if_true, if_false, true_and, and_true, false_and, and_false, true_or, or_true, false_or, or_false, not_true, not_false_iff, and_self, Classical.not_not, eq_self, ite_self, reduceIte, *, kI] at h; first | exact h | (simp only [*]; done)) | (simp [takenF, *, kI] at h; exact h) | (unfold takenF at h; simp_all [inP, isCl, isSt, isRd, gS, gd1, gd2, gd3, gd4, gd5, gd6, gd7, kI]; done) | skip
        · refine ⟨fun c42 => ?_, fun c42 => ?_⟩
          · refine ⟨fun c47 => ?_, fun c47 => ?_⟩
            · refine sX11_taken_50 ?_
              unfold bX11_taken_50
              refine sX11_taken_56 ?_
              unfold bX11_taken_56
              (try simp only [inP, isCl, isSt, isRd, gS, hu_12, up2_eq, up2_at, up2_s, up2_k, ne_eq, not_false_eq_true, Nat.reduceEqDiff, wL_up, hl_up, hr_up, hn_up, kI] at *)
              first | (simp only [takenF, inP, isCl, isSt, isRd, gS, gd1, gd2, gd3, gd4, gd5, gd6, gd7, if_true, if_false, true_and, and_true, false_and, and_false, true_or, or_true, false_or, or_false, not_true, not_false_iff, and_self, Classical.not_not, eq_self, ite_self, reduceIte, *, kI] at h; first | exact h | (simp only [*]; done)) | (simp [takenF, *, kI] at h; exact h) | (unfold takenF at h; simp_all [inP, isCl, isSt, isRd, gS, gd1, gd2, gd3, gd4, gd5, gd6, gd7, kI]; done) | skip
            · refine sX11_taken_54 ?_
              unfold bX11_taken_54
              refine sX11_taken_56 ?_
              unfold bX11_taken_56
              (try simp only [inP, isCl, isSt, isRd, gS, hu_12, up2_eq, up2_at, up2_s, up2_k, ne_eq, not_false_eq_true, Nat.reduceEqDiff, wL_up, hl_up, hr_up, hn_up, kI] at *)
              first | (simp only [takenF, inP, isCl, isSt, isRd, gS, gd1, gd2, gd3, gd4, gd5, gd6, gd7, if_true, if_false, true_and, and_true, false_and, and_false, true_or, or_true, false_or, or_false, not_true, not_false_iff, and_self, Classical.not_not, eq_self, ite_self, reduceIte, *, kI] at h; first | exact h | (simp only [*]; done)) | (simp [takenF, *, kI] at h; exact h) | (unfold takenF at h; simp_all [inP, isCl, isSt, isRd, gS, gd1, gd2, gd3, gd4, gd5, gd6, gd7, kI]; done) | skip
          · refine sX11_taken_54 ?_
            unfold bX11_taken_54
            refine sX11_taken_56 ?_
            unfold bX11_taken_56
            (try simp only [inP, isCl, isSt, isRd, gS, hu_12, up2_eq, up2_at, up2_s, up2_k, ne_eq, not_false_eq_true, Nat.reduceEqDiff, wL_up, hl_up, hr_up, hn_up, kI] at *)
            first | (simp only [takenF, inP, isCl, isSt, isRd, gS, gd1, gd2, gd3, gd4, gd5, gd6, gd7, if_true, if_false, true_and, and_true, false_and, and_false, true_or, or_true, false_or, or_false, not_true, not_false_iff, and_self, Classical.not_not, eq_self, ite_self, reduceIte, *, kI] at h; first | exact h | (simp only [*]; done)) | (simp [takenF, *, kI] at h; exact h) | (unfold takenF at h; simp_all [inP, isCl, isSt, isRd, gS, gd1, gd2, gd3, gd4, gd5, gd6, gd7, kI]; done) | skip
    · refine br_t (rfl) ?_
      (try simp only [inP, isCl, isSt, isRd, gS, hu_12, up2_eq, up2_at, up2_s, up2_k, ne_eq, not_false_eq_true, Nat.reduceEqDiff, wL_up, hl_up, hr_up, hn_up, kI] at *)
      first | (simp only [takenF, inP, isCl, isSt, isRd, gS, gd1, gd2, gd3, gd4, gd5, gd6, gd7, if_true, if_false, true_and, and_true, false_and, and_false, true_or, or_true, false_or, or_false, not_true, not_false_iff, and_self, Classical.not_not, eq_self, ite_self, reduceIte, *, kI] at h; first | exact h | (simp only [*]; done)) | (simp [takenF, *, kI] at h; exact h) | (unfold takenF at h; simp_all [inP, isCl, isSt, isRd, gS, gd1, gd2, gd3, gd4, gd5, gd6, gd7, kI]; done) | skip
  · refine br_t (rfl) ?_
    (try simp only [inP, isCl, isSt, isRd, gS, hu_12, up2_eq, up2_at, up2_s, up2_k, ne_eq, not_false_eq_true, Nat.reduceEqDiff, wL_up, hl_up, hr_up, hn_up, kI] at *)
    first | (simp only [takenF, inP, isCl, isSt, isRd, gS, gd1, gd2, gd3, gd4, gd5, gd6, gd7, if_true, if_false, true_and, and_true, false_and, and_false, true_or, or_true, false_or, or_false, not_true, not_false_iff, and_self, Classical.not_not, eq_self, ite_self, reduceIte, *, kI] at h; first | exact h | (simp only [*]; done)) | (simp [takenF, *, kI] at h; exact h) | (unfold takenF at h; simp_all [inP, isCl, isSt, isRd, gS, gd1, gd2, gd3, gd4, gd5, gd6, gd7, kI]; done) | skip
theorem sp_X11_count {d : Nat} {w : Int32} {σ : XH} {S : SS} {Q : XV → XH → Prop} (hd : 0 ≤ d) (hM : MI σ)  (h : Q (vI (countF S w).1) (up σ (countF S w).2)) : Ec d 0 0 m_X11_count [vR (some (12, 0)), vI w] (up σ S) Q := by
  refine Ec_of mo_X11_count.1 (Nat.le_of_ble_eq_true rfl) ?_
  refine sX11_count_0 ?_
  unfold bX11_count_0
  refine ⟨fun e1_0 => ?_, fun e1_0 => ?_⟩
  · refine sX11_count_52 ?_
    unfold bX11_count_52
    (try simp only [inP, isCl, isSt, isRd, gS, hu_12, up2_eq, up2_at, up2_s, up2_k, ne_eq, not_false_eq_true, Nat.reduceEqDiff, wL_up, hl_up, hr_up, hn_up] at *)
    first | (simp only [countF, inP, isCl, isSt, isRd, gS, gd1, gd2, gd3, gd4, gd5, gd6, gd7, if_true, if_false, true_and, and_true, false_and, and_false, true_or, or_true, false_or, or_false, not_true, not_false_iff, and_self, Classical.not_not, eq_self, ite_self, reduceIte, *] at h; first | exact h | (simp only [*]; done)) | (simp [countF, *] at h; exact h) | (unfold countF at h; simp_all [inP, isCl, isSt, isRd, gS, gd1, gd2, gd3, gd4, gd5, gd6, gd7]; done) | skip
  · refine ⟨fun e1_1 => ?_, fun e1_1 => ?_⟩
    · refine sX11_count_57 ?_
      unfold bX11_count_57
      (try simp only [inP, isCl, isSt, isRd, gS, hu_12, up2_eq, up2_at, up2_s, up2_k, ne_eq, not_false_eq_true, Nat.reduceEqDiff, wL_up, hl_up, hr_up, hn_up] at *)
      first | (simp only [countF, inP, isCl, isSt, isRd, gS, gd1, gd2, gd3, gd4, gd5, gd6, gd7, if_true, if_false, true_and, and_true, false_and, and_false, true_or, or_true, false_or, or_false, not_true, not_false_iff, and_self, Classical.not_not, eq_self, ite_self, reduceIte, *] at h; first | exact h | (simp only [*]; done)) | (simp [countF, *] at h; exact h) | (unfold countF at h; simp_all [inP, isCl, isSt, isRd, gS, gd1, gd2, gd3, gd4, gd5, gd6, gd7]; done) | skip
    · refine ⟨fun e1_2 => ?_, fun e1_2 => ?_⟩
      · refine sX11_count_62 ?_
        unfold bX11_count_62
        (try simp only [inP, isCl, isSt, isRd, gS, hu_12, up2_eq, up2_at, up2_s, up2_k, ne_eq, not_false_eq_true, Nat.reduceEqDiff, wL_up, hl_up, hr_up, hn_up] at *)
        first | (simp only [countF, inP, isCl, isSt, isRd, gS, gd1, gd2, gd3, gd4, gd5, gd6, gd7, if_true, if_false, true_and, and_true, false_and, and_false, true_or, or_true, false_or, or_false, not_true, not_false_iff, and_self, Classical.not_not, eq_self, ite_self, reduceIte, *] at h; first | exact h | (simp only [*]; done)) | (simp [countF, *] at h; exact h) | (unfold countF at h; simp_all [inP, isCl, isSt, isRd, gS, gd1, gd2, gd3, gd4, gd5, gd6, gd7]; done) | skip
      · refine ⟨fun e1_3 => ?_, fun e1_3 => ?_⟩
        · refine sX11_count_67 ?_
          unfold bX11_count_67
          (try simp only [inP, isCl, isSt, isRd, gS, hu_12, up2_eq, up2_at, up2_s, up2_k, ne_eq, not_false_eq_true, Nat.reduceEqDiff, wL_up, hl_up, hr_up, hn_up] at *)
          first | (simp only [countF, inP, isCl, isSt, isRd, gS, gd1, gd2, gd3, gd4, gd5, gd6, gd7, if_true, if_false, true_and, and_true, false_and, and_false, true_or, or_true, false_or, or_false, not_true, not_false_iff, and_self, Classical.not_not, eq_self, ite_self, reduceIte, *] at h; first | exact h | (simp only [*]; done)) | (simp [countF, *] at h; exact h) | (unfold countF at h; simp_all [inP, isCl, isSt, isRd, gS, gd1, gd2, gd3, gd4, gd5, gd6, gd7]; done) | skip
        · refine ⟨fun e1_4 => ?_, fun e1_4 => ?_⟩
          · refine sX11_count_72 ?_
            unfold bX11_count_72
            (try simp only [inP, isCl, isSt, isRd, gS, hu_12, up2_eq, up2_at, up2_s, up2_k, ne_eq, not_false_eq_true, Nat.reduceEqDiff, wL_up, hl_up, hr_up, hn_up] at *)
            first | (simp only [countF, inP, isCl, isSt, isRd, gS, gd1, gd2, gd3, gd4, gd5, gd6, gd7, if_true, if_false, true_and, and_true, false_and, and_false, true_or, or_true, false_or, or_false, not_true, not_false_iff, and_self, Classical.not_not, eq_self, ite_self, reduceIte, *] at h; first | exact h | (simp only [*]; done)) | (simp [countF, *] at h; exact h) | (unfold countF at h; simp_all [inP, isCl, isSt, isRd, gS, gd1, gd2, gd3, gd4, gd5, gd6, gd7]; done) | skip
          · refine ⟨fun e1_5 => ?_, fun e1_5 => ?_⟩
            · refine sX11_count_77 ?_
              unfold bX11_count_77
              (try simp only [inP, isCl, isSt, isRd, gS, hu_12, up2_eq, up2_at, up2_s, up2_k, ne_eq, not_false_eq_true, Nat.reduceEqDiff, wL_up, hl_up, hr_up, hn_up] at *)
              first | (simp only [countF, inP, isCl, isSt, isRd, gS, gd1, gd2, gd3, gd4, gd5, gd6, gd7, if_true, if_false, true_and, and_true, false_and, and_false, true_or, or_true, false_or, or_false, not_true, not_false_iff, and_self, Classical.not_not, eq_self, ite_self, reduceIte, *] at h; first | exact h | (simp only [*]; done)) | (simp [countF, *] at h; exact h) | (unfold countF at h; simp_all [inP, isCl, isSt, isRd, gS, gd1, gd2, gd3, gd4, gd5, gd6, gd7]; done) | skip
            · refine ⟨fun e1_6 => ?_, fun e1_6 => ?_⟩
              · refine sX11_count_82 ?_
                unfold bX11_count_82
                (try simp only [inP, isCl, isSt, isRd, gS, hu_12, up2_eq, up2_at, up2_s, up2_k, ne_eq, not_false_eq_true, Nat.reduceEqDiff, wL_up, hl_up, hr_up, hn_up] at *)
                first | (simp only [countF, inP, isCl, isSt, isRd, gS, gd1, gd2, gd3, gd4, gd5, gd6, gd7, if_true, if_false, true_and, and_true, false_and, and_false, true_or, or_true, false_or, or_false, not_true, not_false_iff, and_self, Classical.not_not, eq_self, ite_self, reduceIte, *] at h; first | exact h | (simp only [*]; done)) | (simp [countF, *] at h; exact h) | (unfold countF at h; simp_all [inP, isCl, isSt, isRd, gS, gd1, gd2, gd3, gd4, gd5, gd6, gd7]; done) | skip
              · refine ⟨fun e1_7 => ?_, fun e1_7 => ?_⟩
                · refine sX11_count_87 ?_
                  unfold bX11_count_87
                  (try simp only [inP, isCl, isSt, isRd, gS, hu_12, up2_eq, up2_at, up2_s, up2_k, ne_eq, not_false_eq_true, Nat.reduceEqDiff, wL_up, hl_up, hr_up, hn_up] at *)
                  first | (simp only [countF, inP, isCl, isSt, isRd, gS, gd1, gd2, gd3, gd4, gd5, gd6, gd7, if_true, if_false, true_and, and_true, false_and, and_false, true_or, or_true, false_or, or_false, not_true, not_false_iff, and_self, Classical.not_not, eq_self, ite_self, reduceIte, *] at h; first | exact h | (simp only [*]; done)) | (simp [countF, *] at h; exact h) | (unfold countF at h; simp_all [inP, isCl, isSt, isRd, gS, gd1, gd2, gd3, gd4, gd5, gd6, gd7]; done) | skip
                · refine ⟨fun e1_8 => ?_, fun e1_8 => ?_⟩
                  · refine sX11_count_92 ?_
                    unfold bX11_count_92
                    (try simp only [inP, isCl, isSt, isRd, gS, hu_12, up2_eq, up2_at, up2_s, up2_k, ne_eq, not_false_eq_true, Nat.reduceEqDiff, wL_up, hl_up, hr_up, hn_up] at *)
                    first | (simp only [countF, inP, isCl, isSt, isRd, gS, gd1, gd2, gd3, gd4, gd5, gd6, gd7, if_true, if_false, true_and, and_true, false_and, and_false, true_or, or_true, false_or, or_false, not_true, not_false_iff, and_self, Classical.not_not, eq_self, ite_self, reduceIte, *] at h; first | exact h | (simp only [*]; done)) | (simp [countF, *] at h; exact h) | (unfold countF at h; simp_all [inP, isCl, isSt, isRd, gS, gd1, gd2, gd3, gd4, gd5, gd6, gd7]; done) | skip
                  · refine sX11_count_97 ?_
                    unfold bX11_count_97
                    (try simp only [inP, isCl, isSt, isRd, gS, hu_12, up2_eq, up2_at, up2_s, up2_k, ne_eq, not_false_eq_true, Nat.reduceEqDiff, wL_up, hl_up, hr_up, hn_up] at *)
                    first | (simp only [countF, inP, isCl, isSt, isRd, gS, gd1, gd2, gd3, gd4, gd5, gd6, gd7, if_true, if_false, true_and, and_true, false_and, and_false, true_or, or_true, false_or, or_false, not_true, not_false_iff, and_self, Classical.not_not, eq_self, ite_self, reduceIte, *] at h; first | exact h | (simp only [*]; done)) | (simp [countF, *] at h; exact h) | (unfold countF at h; simp_all [inP, isCl, isSt, isRd, gS, gd1, gd2, gd3, gd4, gd5, gd6, gd7]; done) | skip
theorem sp_X11_item {d : Nat} {t i q : Int32} {σ : XH} {S : SS} {Q : XV → XH → Prop} (hd : 2 ≤ d) (hM : MI σ) (v : inP t 0 5 → vp_in t 6) (v2 : inP t 0 5 → inP i 0 (gS S 152 t - 1) → vp_in (60 * t + i) 360) (h : Q (vI (itemF S t i q).1) (up σ (itemF S t i q).2)) : Ec d 0 0 m_X11_item [vR (some (12, 0)), vI t, vI i, vI q] (up σ S) Q := by
  refine Ec_of mo_X11_item.1 (Nat.le_of_ble_eq_true rfl) ?_
  refine sX11_item_0 ?_
  unfold bX11_item_0
  refine ⟨by omega, ?_⟩
  refine sp_X11_isTape (by omega) (fun c2 => ?_) (fun c2 => ?_)
  · refine br_f (by decide) ?_
    refine ⟨hM.r151, ?_⟩
    refine ⟨vp_at hM.n151 (by (try simp only [hu_12, hu_151, hu_152, hu_153, up2_eq, up2_at, up2_s, up2_k, ne_eq, not_false_eq_true, Nat.reduceEqDiff, wL_up, hl_up, hr_up, hn_up]); first | assumption | exact v (by assumption) | exact v2 (by assumption) | exact v2 (by assumption) (by assumption)), ?_⟩
    refine ⟨fun c16 => ?_, fun c16 => ?_⟩
    · (try simp only [inP, isCl, isSt, isRd, gS, hu_12, hu_151, hu_152, hu_153, up2_eq, up2_at, up2_s, up2_k, ne_eq, not_false_eq_true, Nat.reduceEqDiff, wL_up, hl_up, hr_up, hn_up] at *)
      first | (simp only [itemF, inP, isCl, isSt, isRd, gS, gd1, gd2, gd3, gd4, gd5, gd6, gd7, if_true, if_false, true_and, and_true, false_and, and_false, true_or, or_true, false_or, or_false, not_true, not_false_iff, and_self, Classical.not_not, eq_self, ite_self, reduceIte, *] at h; first | exact h | (simp only [*]; done)) | (simp [itemF, *] at h; exact h) | (unfold itemF at h; simp_all [inP, isCl, isSt, isRd, gS, gd1, gd2, gd3, gd4, gd5, gd6, gd7]; done) | skip
    · refine ⟨hM.r152, ?_⟩
      refine ⟨vp_at hM.n152 (by (try simp only [hu_12, hu_151, hu_152, hu_153, up2_eq, up2_at, up2_s, up2_k, ne_eq, not_false_eq_true, Nat.reduceEqDiff, wL_up, hl_up, hr_up, hn_up]); first | assumption | exact v (by assumption) | exact v2 (by assumption) | exact v2 (by assumption) (by assumption)), ?_⟩
      refine ⟨by omega, ?_⟩
      refine sp_X11_in (by omega) (fun c33 => ?_) (fun c33 => ?_)
      · refine br_f (by decide) ?_
        refine ⟨hM.r151, ?_⟩
        refine ⟨vp_at hM.n151 (by (try simp only [hu_12, hu_151, hu_152, hu_153, up2_eq, up2_at, up2_s, up2_k, ne_eq, not_false_eq_true, Nat.reduceEqDiff, wL_up, hl_up, hr_up, hn_up]); first | assumption | exact v (by assumption) | exact v2 (by assumption) | exact v2 (by assumption) (by assumption)), ?_⟩
        refine ⟨fun c49 => ?_, fun c49 => ?_⟩
        · refine ⟨by omega, ?_⟩
          refine sp_X11_in (by omega) (fun c60 => ?_) (fun c60 => ?_)
          · refine br_f (by decide) ?_
            refine sX11_item_69 ?_
            unfold bX11_item_69
            refine ⟨hM.r153, ?_⟩
            refine ⟨hM.r151, ?_⟩
            refine ⟨vp_at hM.n151 (by (try simp only [hu_12, hu_151, hu_152, hu_153, up2_eq, up2_at, up2_s, up2_k, ne_eq, not_false_eq_true, Nat.reduceEqDiff, wL_up, hl_up, hr_up, hn_up]); first | assumption | exact v (by assumption) | exact v2 (by assumption) | exact v2 (by assumption) (by assumption)), ?_⟩
            refine ⟨fun c85 => ?_, fun c85 => ?_⟩
            · refine sX11_item_109 ?_
              unfold bX11_item_109
              refine ⟨vp_at hM.n153 (by (try simp only [hu_12, hu_151, hu_152, hu_153, up2_eq, up2_at, up2_s, up2_k, ne_eq, not_false_eq_true, Nat.reduceEqDiff, wL_up, hl_up, hr_up, hn_up]); first | assumption | exact v (by assumption) | exact v2 (by assumption) | exact v2 (by assumption) (by assumption)), ?_⟩
              intro h109 e109
              simp only [wu_12, wu_151, wu_152, wu_153] at e109
              subst e109
              (try simp only [inP, isCl, isSt, isRd, gS, hu_12, hu_151, hu_152, hu_153, up2_eq, up2_at, up2_s, up2_k, ne_eq, not_false_eq_true, Nat.reduceEqDiff, wL_up, hl_up, hr_up, hn_up] at *)
              first | (simp only [itemF, inP, isCl, isSt, isRd, gS, gd1, gd2, gd3, gd4, gd5, gd6, gd7, if_true, if_false, true_and, and_true, false_and, and_false, true_or, or_true, false_or, or_false, not_true, not_false_iff, and_self, Classical.not_not, eq_self, ite_self, reduceIte, *] at h; first | exact h | (simp only [*]; done)) | (simp [itemF, *] at h; exact h) | (unfold itemF at h; simp_all [inP, isCl, isSt, isRd, gS, gd1, gd2, gd3, gd4, gd5, gd6, gd7]; done) | skip
            · refine ⟨hM.r151, ?_⟩
              refine ⟨vp_at hM.n151 (by (try simp only [hu_12, hu_151, hu_152, hu_153, up2_eq, up2_at, up2_s, up2_k, ne_eq, not_false_eq_true, Nat.reduceEqDiff, wL_up, hl_up, hr_up, hn_up]); first | assumption | exact v (by assumption) | exact v2 (by assumption) | exact v2 (by assumption) (by assumption)), ?_⟩
              refine ⟨fun c100 => ?_, fun c100 => ?_⟩
              · refine sX11_item_109 ?_
                unfold bX11_item_109
                refine ⟨vp_at hM.n153 (by (try simp only [hu_12, hu_151, hu_152, hu_153, up2_eq, up2_at, up2_s, up2_k, ne_eq, not_false_eq_true, Nat.reduceEqDiff, wL_up, hl_up, hr_up, hn_up]); first | assumption | exact v (by assumption) | exact v2 (by assumption) | exact v2 (by assumption) (by assumption)), ?_⟩
                intro h109 e109
                simp only [wu_12, wu_151, wu_152, wu_153] at e109
                subst e109
                (try simp only [inP, isCl, isSt, isRd, gS, hu_12, hu_151, hu_152, hu_153, up2_eq, up2_at, up2_s, up2_k, ne_eq, not_false_eq_true, Nat.reduceEqDiff, wL_up, hl_up, hr_up, hn_up] at *)
                first | (simp only [itemF, inP, isCl, isSt, isRd, gS, gd1, gd2, gd3, gd4, gd5, gd6, gd7, if_true, if_false, true_and, and_true, false_and, and_false, true_or, or_true, false_or, or_false, not_true, not_false_iff, and_self, Classical.not_not, eq_self, ite_self, reduceIte, *] at h; first | exact h | (simp only [*]; done)) | (simp [itemF, *] at h; exact h) | (unfold itemF at h; simp_all [inP, isCl, isSt, isRd, gS, gd1, gd2, gd3, gd4, gd5, gd6, gd7]; done) | skip
              · refine sX11_item_109 ?_
                unfold bX11_item_109
                refine ⟨vp_at hM.n153 (by (try simp only [hu_12, hu_151, hu_152, hu_153, up2_eq, up2_at, up2_s, up2_k, ne_eq, not_false_eq_true, Nat.reduceEqDiff, wL_up, hl_up, hr_up, hn_up]); first | assumption | exact v (by assumption) | exact v2 (by assumption) | exact v2 (by assumption) (by assumption)), ?_⟩
                intro h109 e109
                simp only [wu_12, wu_151, wu_152, wu_153] at e109
                subst e109
                (try simp only [inP, isCl, isSt, isRd, gS, hu_12, hu_151, hu_152, hu_153, up2_eq, up2_at, up2_s, up2_k, ne_eq, not_false_eq_true, Nat.reduceEqDiff, wL_up, hl_up, hr_up, hn_up] at *)
                first | (simp only [itemF, inP, isCl, isSt, isRd, gS, gd1, gd2, gd3, gd4, gd5, gd6, gd7, if_true, if_false, true_and, and_true, false_and, and_false, true_or, or_true, false_or, or_false, not_true, not_false_iff, and_self, Classical.not_not, eq_self, ite_self, reduceIte, *] at h; first | exact h | (simp only [*]; done)) | (simp [itemF, *] at h; exact h) | (unfold itemF at h; simp_all [inP, isCl, isSt, isRd, gS, gd1, gd2, gd3, gd4, gd5, gd6, gd7]; done) | skip
          · refine br_t (rfl) ?_
            (try simp only [inP, isCl, isSt, isRd, gS, hu_12, hu_151, hu_152, hu_153, up2_eq, up2_at, up2_s, up2_k, ne_eq, not_false_eq_true, Nat.reduceEqDiff, wL_up, hl_up, hr_up, hn_up] at *)
            first | (simp only [itemF, inP, isCl, isSt, isRd, gS, gd1, gd2, gd3, gd4, gd5, gd6, gd7, if_true, if_false, true_and, and_true, false_and, and_false, true_or, or_true, false_or, or_false, not_true, not_false_iff, and_self, Classical.not_not, eq_self, ite_self, reduceIte, *] at h; first | exact h | (simp only [*]; done)) | (simp [itemF, *] at h; exact h) | (unfold itemF at h; simp_all [inP, isCl, isSt, isRd, gS, gd1, gd2, gd3, gd4, gd5, gd6, gd7]; done) | skip
        · refine sX11_item_69 ?_
          unfold bX11_item_69
          refine ⟨hM.r153, ?_⟩
          refine ⟨hM.r151, ?_⟩
          refine ⟨vp_at hM.n151 (by (try simp only [hu_12, hu_151, hu_152, hu_153, up2_eq, up2_at, up2_s, up2_k, ne_eq, not_false_eq_true, Nat.reduceEqDiff, wL_up, hl_up, hr_up, hn_up]); first | assumption | exact v (by assumption) | exact v2 (by assumption) | exact v2 (by assumption) (by assumption)), ?_⟩
          refine ⟨fun c85 => ?_, fun c85 => ?_⟩
          · refine sX11_item_109 ?_
            unfold bX11_item_109
            refine ⟨vp_at hM.n153 (by (try simp only [hu_12, hu_151, hu_152, hu_153, up2_eq, up2_at, up2_s, up2_k, ne_eq, not_false_eq_true, Nat.reduceEqDiff, wL_up, hl_up, hr_up, hn_up]); first | assumption | exact v (by assumption) | exact v2 (by assumption) | exact v2 (by assumption) (by assumption)), ?_⟩
            intro h109 e109
            simp only [wu_12, wu_151, wu_152, wu_153] at e109
            subst e109
            (try simp only [inP, isCl, isSt, isRd, gS, hu_12, hu_151, hu_152, hu_153, up2_eq, up2_at, up2_s, up2_k, ne_eq, not_false_eq_true, Nat.reduceEqDiff, wL_up, hl_up, hr_up, hn_up] at *)
            first | (simp only [itemF, inP, isCl, isSt, isRd, gS, gd1, gd2, gd3, gd4, gd5, gd6, gd7, if_true, if_false, true_and, and_true, false_and, and_false, true_or, or_true, false_or, or_false, not_true, not_false_iff, and_self, Classical.not_not, eq_self, ite_self, reduceIte, *] at h; first | exact h | (simp only [*]; done)) | (simp [itemF, *] at h; exact h) | (unfold itemF at h; simp_all [inP, isCl, isSt, isRd, gS, gd1, gd2, gd3, gd4, gd5, gd6, gd7]; done) | skip
          · refine ⟨hM.r151, ?_⟩
            refine ⟨vp_at hM.n151 (by (try simp only [hu_12, hu_151, hu_152, hu_153, up2_eq, up2_at, up2_s, up2_k, ne_eq, not_false_eq_true, Nat.reduceEqDiff, wL_up, hl_up, hr_up, hn_up]); first | assumption | exact v (by assumption) | exact v2 (by assumption) | exact v2 (by assumption) (by assumption)), ?_⟩
            refine ⟨fun c100 => ?_, fun c100 => ?_⟩
            · refine sX11_item_109 ?_
              unfold bX11_item_109
              refine ⟨vp_at hM.n153 (by (try simp only [hu_12, hu_151, hu_152, hu_153, up2_eq, up2_at, up2_s, up2_k, ne_eq, not_false_eq_true, Nat.reduceEqDiff, wL_up, hl_up, hr_up, hn_up]); first | assumption | exact v (by assumption) | exact v2 (by assumption) | exact v2 (by assumption) (by assumption)), ?_⟩
              intro h109 e109
              simp only [wu_12, wu_151, wu_152, wu_153] at e109
              subst e109
              (try simp only [inP, isCl, isSt, isRd, gS, hu_12, hu_151, hu_152, hu_153, up2_eq, up2_at, up2_s, up2_k, ne_eq, not_false_eq_true, Nat.reduceEqDiff, wL_up, hl_up, hr_up, hn_up] at *)
              first | (simp only [itemF, inP, isCl, isSt, isRd, gS, gd1, gd2, gd3, gd4, gd5, gd6, gd7, if_true, if_false, true_and, and_true, false_and, and_false, true_or, or_true, false_or, or_false, not_true, not_false_iff, and_self, Classical.not_not, eq_self, ite_self, reduceIte, *] at h; first | exact h | (simp only [*]; done)) | (simp [itemF, *] at h; exact h) | (unfold itemF at h; simp_all [inP, isCl, isSt, isRd, gS, gd1, gd2, gd3, gd4, gd5, gd6, gd7]; done) | skip
            · refine sX11_item_109 ?_
              unfold bX11_item_109
              refine ⟨vp_at hM.n153 (by (try simp only [hu_12, hu_151, hu_152, hu_153, up2_eq, up2_at, up2_s, up2_k, ne_eq, not_false_eq_true, Nat.reduceEqDiff, wL_up, hl_up, hr_up, hn_up]); first | assumption | exact v (by assumption) | exact v2 (by assumption) | exact v2 (by assumption) (by assumption)), ?_⟩
              intro h109 e109
              simp only [wu_12, wu_151, wu_152, wu_153] at e109
              subst e109
              (try simp only [inP, isCl, isSt, isRd, gS, hu_12, hu_151, hu_152, hu_153, up2_eq, up2_at, up2_s, up2_k, ne_eq, not_false_eq_true, Nat.reduceEqDiff, wL_up, hl_up, hr_up, hn_up] at *)
              first | (simp only [itemF, inP, isCl, isSt, isRd, gS, gd1, gd2, gd3, gd4, gd5, gd6, gd7, if_true, if_false, true_and, and_true, false_and, and_false, true_or, or_true, false_or, or_false, not_true, not_false_iff, and_self, Classical.not_not, eq_self, ite_self, reduceIte, *] at h; first | exact h | (simp only [*]; done)) | (simp [itemF, *] at h; exact h) | (unfold itemF at h; simp_all [inP, isCl, isSt, isRd, gS, gd1, gd2, gd3, gd4, gd5, gd6, gd7]; done) | skip
      · refine br_t (rfl) ?_
        (try simp only [inP, isCl, isSt, isRd, gS, hu_12, hu_151, hu_152, hu_153, up2_eq, up2_at, up2_s, up2_k, ne_eq, not_false_eq_true, Nat.reduceEqDiff, wL_up, hl_up, hr_up, hn_up] at *)
        first | (simp only [itemF, inP, isCl, isSt, isRd, gS, gd1, gd2, gd3, gd4, gd5, gd6, gd7, if_true, if_false, true_and, and_true, false_and, and_false, true_or, or_true, false_or, or_false, not_true, not_false_iff, and_self, Classical.not_not, eq_self, ite_self, reduceIte, *] at h; first | exact h | (simp only [*]; done)) | (simp [itemF, *] at h; exact h) | (unfold itemF at h; simp_all [inP, isCl, isSt, isRd, gS, gd1, gd2, gd3, gd4, gd5, gd6, gd7]; done) | skip
  · refine br_t (rfl) ?_
    (try simp only [inP, isCl, isSt, isRd, gS, hu_12, hu_151, hu_152, hu_153, up2_eq, up2_at, up2_s, up2_k, ne_eq, not_false_eq_true, Nat.reduceEqDiff, wL_up, hl_up, hr_up, hn_up] at *)
    first | (simp only [itemF, inP, isCl, isSt, isRd, gS, gd1, gd2, gd3, gd4, gd5, gd6, gd7, if_true, if_false, true_and, and_true, false_and, and_false, true_or, or_true, false_or, or_false, not_true, not_false_iff, and_self, Classical.not_not, eq_self, ite_self, reduceIte, *] at h; first | exact h | (simp only [*]; done)) | (simp [itemF, *] at h; exact h) | (unfold itemF at h; simp_all [inP, isCl, isSt, isRd, gS, gd1, gd2, gd3, gd4, gd5, gd6, gd7]; done) | skip
theorem sp_X11_blank {d : Nat} {t i : Int32} {σ : XH} {S : SS} {Q : XV → XH → Prop} (hd : 2 ≤ d) (hM : MI σ) (v : inP t 0 5 → vp_in t 6) (v2 : inP t 0 5 → inP i 0 (gS S 152 t - 1) → vp_in (60 * t + i) 360) (h : Q (vI (blankF S t i).1) (up σ (blankF S t i).2)) : Ec d 0 0 m_X11_blank [vR (some (12, 0)), vI t, vI i] (up σ S) Q := by
  refine Ec_of mo_X11_blank.1 (Nat.le_of_ble_eq_true rfl) ?_
  refine sX11_blank_0 ?_
  unfold bX11_blank_0
  refine ⟨by omega, ?_⟩
  refine sp_X11_isTape (by omega) (fun c2 => ?_) (fun c2 => ?_)
  · refine br_f (by decide) ?_
    refine ⟨hM.r151, ?_⟩
    refine ⟨vp_at hM.n151 (by (try simp only [hu_12, hu_151, hu_152, hu_153, up2_eq, up2_at, up2_s, up2_k, ne_eq, not_false_eq_true, Nat.reduceEqDiff, wL_up, hl_up, hr_up, hn_up]); first | assumption | exact v (by assumption) | exact v2 (by assumption) | exact v2 (by assumption) (by assumption)), ?_⟩
    refine ⟨fun c16 => ?_, fun c16 => ?_⟩
    · (try simp only [inP, isCl, isSt, isRd, gS, hu_12, hu_151, hu_152, hu_153, up2_eq, up2_at, up2_s, up2_k, ne_eq, not_false_eq_true, Nat.reduceEqDiff, wL_up, hl_up, hr_up, hn_up] at *)
      first | (simp only [blankF, inP, isCl, isSt, isRd, gS, gd1, gd2, gd3, gd4, gd5, gd6, gd7, if_true, if_false, true_and, and_true, false_and, and_false, true_or, or_true, false_or, or_false, not_true, not_false_iff, and_self, Classical.not_not, eq_self, ite_self, reduceIte, *] at h; first | exact h | (simp only [*]; done)) | (simp [blankF, *] at h; exact h) | (unfold blankF at h; simp_all [inP, isCl, isSt, isRd, gS, gd1, gd2, gd3, gd4, gd5, gd6, gd7]; done) | skip
    · refine ⟨hM.r151, ?_⟩
      refine ⟨vp_at hM.n151 (by (try simp only [hu_12, hu_151, hu_152, hu_153, up2_eq, up2_at, up2_s, up2_k, ne_eq, not_false_eq_true, Nat.reduceEqDiff, wL_up, hl_up, hr_up, hn_up]); first | assumption | exact v (by assumption) | exact v2 (by assumption) | exact v2 (by assumption) (by assumption)), ?_⟩
      refine ⟨fun c29 => ?_, fun c29 => ?_⟩
      · refine ⟨hM.r152, ?_⟩
        refine ⟨vp_at hM.n152 (by (try simp only [hu_12, hu_151, hu_152, hu_153, up2_eq, up2_at, up2_s, up2_k, ne_eq, not_false_eq_true, Nat.reduceEqDiff, wL_up, hl_up, hr_up, hn_up]); first | assumption | exact v (by assumption) | exact v2 (by assumption) | exact v2 (by assumption) (by assumption)), ?_⟩
        refine ⟨by omega, ?_⟩
        refine sp_X11_in (by omega) (fun c46 => ?_) (fun c46 => ?_)
        · refine br_f (by decide) ?_
          refine ⟨hM.r153, ?_⟩
          refine ⟨vp_at hM.n153 (by (try simp only [hu_12, hu_151, hu_152, hu_153, up2_eq, up2_at, up2_s, up2_k, ne_eq, not_false_eq_true, Nat.reduceEqDiff, wL_up, hl_up, hr_up, hn_up]); first | assumption | exact v (by assumption) | exact v2 (by assumption) | exact v2 (by assumption) (by assumption)), ?_⟩
          intro h68 e68
          simp only [wu_12, wu_151, wu_152, wu_153] at e68
          subst e68
          (try simp only [inP, isCl, isSt, isRd, gS, hu_12, hu_151, hu_152, hu_153, up2_eq, up2_at, up2_s, up2_k, ne_eq, not_false_eq_true, Nat.reduceEqDiff, wL_up, hl_up, hr_up, hn_up] at *)
          first | (simp only [blankF, inP, isCl, isSt, isRd, gS, gd1, gd2, gd3, gd4, gd5, gd6, gd7, if_true, if_false, true_and, and_true, false_and, and_false, true_or, or_true, false_or, or_false, not_true, not_false_iff, and_self, Classical.not_not, eq_self, ite_self, reduceIte, *] at h; first | exact h | (simp only [*]; done)) | (simp [blankF, *] at h; exact h) | (unfold blankF at h; simp_all [inP, isCl, isSt, isRd, gS, gd1, gd2, gd3, gd4, gd5, gd6, gd7]; done) | skip
        · refine br_t (rfl) ?_
          (try simp only [inP, isCl, isSt, isRd, gS, hu_12, hu_151, hu_152, hu_153, up2_eq, up2_at, up2_s, up2_k, ne_eq, not_false_eq_true, Nat.reduceEqDiff, wL_up, hl_up, hr_up, hn_up] at *)
          first | (simp only [blankF, inP, isCl, isSt, isRd, gS, gd1, gd2, gd3, gd4, gd5, gd6, gd7, if_true, if_false, true_and, and_true, false_and, and_false, true_or, or_true, false_or, or_false, not_true, not_false_iff, and_self, Classical.not_not, eq_self, ite_self, reduceIte, *] at h; first | exact h | (simp only [*]; done)) | (simp [blankF, *] at h; exact h) | (unfold blankF at h; simp_all [inP, isCl, isSt, isRd, gS, gd1, gd2, gd3, gd4, gd5, gd6, gd7]; done) | skip
      · (try simp only [inP, isCl, isSt, isRd, gS, hu_12, hu_151, hu_152, hu_153, up2_eq, up2_at, up2_s, up2_k, ne_eq, not_false_eq_true, Nat.reduceEqDiff, wL_up, hl_up, hr_up, hn_up] at *)
        first | (simp only [blankF, inP, isCl, isSt, isRd, gS, gd1, gd2, gd3, gd4, gd5, gd6, gd7, if_true, if_false, true_and, and_true, false_and, and_false, true_or, or_true, false_or, or_false, not_true, not_false_iff, and_self, Classical.not_not, eq_self, ite_self, reduceIte, *] at h; first | exact h | (simp only [*]; done)) | (simp [blankF, *] at h; exact h) | (unfold blankF at h; simp_all [inP, isCl, isSt, isRd, gS, gd1, gd2, gd3, gd4, gd5, gd6, gd7]; done) | skip
  · refine br_t (rfl) ?_
    (try simp only [inP, isCl, isSt, isRd, gS, hu_12, hu_151, hu_152, hu_153, up2_eq, up2_at, up2_s, up2_k, ne_eq, not_false_eq_true, Nat.reduceEqDiff, wL_up, hl_up, hr_up, hn_up] at *)
    first | (simp only [blankF, inP, isCl, isSt, isRd, gS, gd1, gd2, gd3, gd4, gd5, gd6, gd7, if_true, if_false, true_and, and_true, false_and, and_false, true_or, or_true, false_or, or_false, not_true, not_false_iff, and_self, Classical.not_not, eq_self, ite_self, reduceIte, *] at h; first | exact h | (simp only [*]; done)) | (simp [blankF, *] at h; exact h) | (unfold blankF at h; simp_all [inP, isCl, isSt, isRd, gS, gd1, gd2, gd3, gd4, gd5, gd6, gd7]; done) | skip
theorem sp_X11_read {d : Nat} {t i : Int32} {σ : XH} {S : SS} {Q : XV → XH → Prop} (hd : 2 ≤ d) (hM : MI σ) (v : inP t 0 5 → vp_in t 6) (v2 : inP t 0 5 → inP i 0 (gS S 152 t - 1) → vp_in (60 * t + i) 360) (h : Q (vI (readF S t i).1) (up σ (readF S t i).2)) : Ec d 0 0 m_X11_read [vR (some (12, 0)), vI t, vI i] (up σ S) Q := by
  refine Ec_of mo_X11_read.1 (Nat.le_of_ble_eq_true rfl) ?_
  refine sX11_read_0 ?_
  unfold bX11_read_0
  refine ⟨by omega, ?_⟩
  refine sp_X11_isTape (by omega) (fun c2 => ?_) (fun c2 => ?_)
  · refine br_f (by decide) ?_
    refine ⟨hM.r151, ?_⟩
    refine ⟨vp_at hM.n151 (by (try simp only [hu_12, hu_151, hu_152, hu_153, up2_eq, up2_at, up2_s, up2_k, ne_eq, not_false_eq_true, Nat.reduceEqDiff, wL_up, hl_up, hr_up, hn_up]); first | assumption | exact v (by assumption) | exact v2 (by assumption) | exact v2 (by assumption) (by assumption)), ?_⟩
    refine ⟨fun c14 => ?_, fun c14 => ?_⟩
    · refine sX11_read_34 ?_
      unfold bX11_read_34
      refine sX11_read_51 ?_
      unfold bX11_read_51
      (try simp only [inP, isCl, isSt, isRd, gS, hu_12, hu_151, hu_152, hu_153, up2_eq, up2_at, up2_s, up2_k, ne_eq, not_false_eq_true, Nat.reduceEqDiff, wL_up, hl_up, hr_up, hn_up] at *)
      first | (simp only [readF, inP, isCl, isSt, isRd, gS, gd1, gd2, gd3, gd4, gd5, gd6, gd7, if_true, if_false, true_and, and_true, false_and, and_false, true_or, or_true, false_or, or_false, not_true, not_false_iff, and_self, Classical.not_not, eq_self, ite_self, reduceIte, *] at h; first | exact h | (simp only [*]; done)) | (simp [readF, *] at h; exact h) | (unfold readF at h; simp_all [inP, isCl, isSt, isRd, gS, gd1, gd2, gd3, gd4, gd5, gd6, gd7]; done) | skip
    · refine ⟨hM.r152, ?_⟩
      refine ⟨vp_at hM.n152 (by (try simp only [hu_12, hu_151, hu_152, hu_153, up2_eq, up2_at, up2_s, up2_k, ne_eq, not_false_eq_true, Nat.reduceEqDiff, wL_up, hl_up, hr_up, hn_up]); first | assumption | exact v (by assumption) | exact v2 (by assumption) | exact v2 (by assumption) (by assumption)), ?_⟩
      refine ⟨by omega, ?_⟩
      refine sp_X11_in (by omega) (fun c28 => ?_) (fun c28 => ?_)
      · refine br_f (by decide) ?_
        refine ⟨hM.r153, ?_⟩
        refine ⟨vp_at hM.n153 (by (try simp only [hu_12, hu_151, hu_152, hu_153, up2_eq, up2_at, up2_s, up2_k, ne_eq, not_false_eq_true, Nat.reduceEqDiff, wL_up, hl_up, hr_up, hn_up]); first | assumption | exact v (by assumption) | exact v2 (by assumption) | exact v2 (by assumption) (by assumption)), ?_⟩
        refine sX11_read_51 ?_
        unfold bX11_read_51
        (try simp only [inP, isCl, isSt, isRd, gS, hu_12, hu_151, hu_152, hu_153, up2_eq, up2_at, up2_s, up2_k, ne_eq, not_false_eq_true, Nat.reduceEqDiff, wL_up, hl_up, hr_up, hn_up] at *)
        first | (simp only [readF, inP, isCl, isSt, isRd, gS, gd1, gd2, gd3, gd4, gd5, gd6, gd7, if_true, if_false, true_and, and_true, false_and, and_false, true_or, or_true, false_or, or_false, not_true, not_false_iff, and_self, Classical.not_not, eq_self, ite_self, reduceIte, *] at h; first | exact h | (simp only [*]; done)) | (simp [readF, *] at h; exact h) | (unfold readF at h; simp_all [inP, isCl, isSt, isRd, gS, gd1, gd2, gd3, gd4, gd5, gd6, gd7]; done) | skip
      · refine br_t (rfl) ?_
        refine sX11_read_34 ?_
        unfold bX11_read_34
        refine sX11_read_51 ?_
        unfold bX11_read_51
        (try simp only [inP, isCl, isSt, isRd, gS, hu_12, hu_151, hu_152, hu_153, up2_eq, up2_at, up2_s, up2_k, ne_eq, not_false_eq_true, Nat.reduceEqDiff, wL_up, hl_up, hr_up, hn_up] at *)
        first | (simp only [readF, inP, isCl, isSt, isRd, gS, gd1, gd2, gd3, gd4, gd5, gd6, gd7, if_true, if_false, true_and, and_true, false_and, and_false, true_or, or_true, false_or, or_false, not_true, not_false_iff, and_self, Classical.not_not, eq_self, ite_self, reduceIte, *] at h; first | exact h | (simp only [*]; done)) | (simp [readF, *] at h; exact h) | (unfold readF at h; simp_all [inP, isCl, isSt, isRd, gS, gd1, gd2, gd3, gd4, gd5, gd6, gd7]; done) | skip
  · refine br_t (rfl) ?_
    refine sX11_read_34 ?_
    unfold bX11_read_34
    refine sX11_read_51 ?_
    unfold bX11_read_51
    (try simp only [inP, isCl, isSt, isRd, gS, hu_12, hu_151, hu_152, hu_153, up2_eq, up2_at, up2_s, up2_k, ne_eq, not_false_eq_true, Nat.reduceEqDiff, wL_up, hl_up, hr_up, hn_up] at *)
    first | (simp only [readF, inP, isCl, isSt, isRd, gS, gd1, gd2, gd3, gd4, gd5, gd6, gd7, if_true, if_false, true_and, and_true, false_and, and_false, true_or, or_true, false_or, or_false, not_true, not_false_iff, and_self, Classical.not_not, eq_self, ite_self, reduceIte, *] at h; first | exact h | (simp only [*]; done)) | (simp [readF, *] at h; exact h) | (unfold readF at h; simp_all [inP, isCl, isSt, isRd, gS, gd1, gd2, gd3, gd4, gd5, gd6, gd7]; done) | skip
