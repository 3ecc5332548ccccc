/-! ===== the JDK's methods ===== -/
def bcE (a1 : Int32) : Int32 := ((((((((a1 - (((a1.toUInt32 >>> ((1 : Int32).toUInt32 &&& Int32.toUInt32 31)).toInt32) &&& 1431655765)) &&& 858993459) + ((((a1 - (((a1.toUInt32 >>> ((1 : Int32).toUInt32 &&& Int32.toUInt32 31)).toInt32) &&& 1431655765)).toUInt32 >>> ((2 : Int32).toUInt32 &&& Int32.toUInt32 31)).toInt32) &&& 858993459)) + (((((a1 - (((a1.toUInt32 >>> ((1 : Int32).toUInt32 &&& Int32.toUInt32 31)).toInt32) &&& 1431655765)) &&& 858993459) + ((((a1 - (((a1.toUInt32 >>> ((1 : Int32).toUInt32 &&& Int32.toUInt32 31)).toInt32) &&& 1431655765)).toUInt32 >>> ((2 : Int32).toUInt32 &&& Int32.toUInt32 31)).toInt32) &&& 858993459)).toUInt32 >>> ((4 : Int32).toUInt32 &&& Int32.toUInt32 31)).toInt32)) &&& 252645135) + (((((((a1 - (((a1.toUInt32 >>> ((1 : Int32).toUInt32 &&& Int32.toUInt32 31)).toInt32) &&& 1431655765)) &&& 858993459) + ((((a1 - (((a1.toUInt32 >>> ((1 : Int32).toUInt32 &&& Int32.toUInt32 31)).toInt32) &&& 1431655765)).toUInt32 >>> ((2 : Int32).toUInt32 &&& Int32.toUInt32 31)).toInt32) &&& 858993459)) + (((((a1 - (((a1.toUInt32 >>> ((1 : Int32).toUInt32 &&& Int32.toUInt32 31)).toInt32) &&& 1431655765)) &&& 858993459) + ((((a1 - (((a1.toUInt32 >>> ((1 : Int32).toUInt32 &&& Int32.toUInt32 31)).toInt32) &&& 1431655765)).toUInt32 >>> ((2 : Int32).toUInt32 &&& Int32.toUInt32 31)).toInt32) &&& 858993459)).toUInt32 >>> ((4 : Int32).toUInt32 &&& Int32.toUInt32 31)).toInt32)) &&& 252645135).toUInt32 >>> ((8 : Int32).toUInt32 &&& Int32.toUInt32 31)).toInt32)) + ((((((((a1 - (((a1.toUInt32 >>> ((1 : Int32).toUInt32 &&& Int32.toUInt32 31)).toInt32) &&& 1431655765)) &&& 858993459) + ((((a1 - (((a1.toUInt32 >>> ((1 : Int32).toUInt32 &&& Int32.toUInt32 31)).toInt32) &&& 1431655765)).toUInt32 >>> ((2 : Int32).toUInt32 &&& Int32.toUInt32 31)).toInt32) &&& 858993459)) + (((((a1 - (((a1.toUInt32 >>> ((1 : Int32).toUInt32 &&& Int32.toUInt32 31)).toInt32) &&& 1431655765)) &&& 858993459) + ((((a1 - (((a1.toUInt32 >>> ((1 : Int32).toUInt32 &&& Int32.toUInt32 31)).toInt32) &&& 1431655765)).toUInt32 >>> ((2 : Int32).toUInt32 &&& Int32.toUInt32 31)).toInt32) &&& 858993459)).toUInt32 >>> ((4 : Int32).toUInt32 &&& Int32.toUInt32 31)).toInt32)) &&& 252645135) + (((((((a1 - (((a1.toUInt32 >>> ((1 : Int32).toUInt32 &&& Int32.toUInt32 31)).toInt32) &&& 1431655765)) &&& 858993459) + ((((a1 - (((a1.toUInt32 >>> ((1 : Int32).toUInt32 &&& Int32.toUInt32 31)).toInt32) &&& 1431655765)).toUInt32 >>> ((2 : Int32).toUInt32 &&& Int32.toUInt32 31)).toInt32) &&& 858993459)) + (((((a1 - (((a1.toUInt32 >>> ((1 : Int32).toUInt32 &&& Int32.toUInt32 31)).toInt32) &&& 1431655765)) &&& 858993459) + ((((a1 - (((a1.toUInt32 >>> ((1 : Int32).toUInt32 &&& Int32.toUInt32 31)).toInt32) &&& 1431655765)).toUInt32 >>> ((2 : Int32).toUInt32 &&& Int32.toUInt32 31)).toInt32) &&& 858993459)).toUInt32 >>> ((4 : Int32).toUInt32 &&& Int32.toUInt32 31)).toInt32)) &&& 252645135).toUInt32 >>> ((8 : Int32).toUInt32 &&& Int32.toUInt32 31)).toInt32)).toUInt32 >>> ((16 : Int32).toUInt32 &&& Int32.toUInt32 31)).toInt32)) &&& 63)
theorem sp_bitCount {d : Nat} {a : Int32} {σ : XH} {Q : XV → XH → Prop} (h : Q (vI (bcE a)) σ) : Ec d 0 0 m_J6_bitCount_0f7a4 [vI a] σ Q := by
  refine Ec_of mo_J6_bitCount_0f7a4.1 (Nat.le_of_ble_eq_true rfl) ?_
  refine sJ6_bitCount_0f7a4_0 ?_
  exact h
def fdI (a b : Int32) : Int32 := if (a ^^^ b) < 0 ∧ ¬ a / b * b = a then a / b - 1 else a / b
theorem sp_floorDivI {d : Nat} {a b : Int32} {σ : XH} {Q : XV → XH → Prop} (hb : ¬ b = 0) (h : Q (vI (fdI a b)) σ) : Ec d 0 0 m_J9_floorDiv_7cf53 [vI a, vI b] σ Q := by
  refine Ec_of mo_J9_floorDiv_7cf53.1 (Nat.le_of_ble_eq_true rfl) ?_
  refine sJ9_floorDiv_7cf53_0 ?_
  unfold bJ9_floorDiv_7cf53_0
  unfold fdI at h
  refine ⟨hb, fun c1 => ⟨fun c2 => ?_, fun c2 => ?_⟩, fun c1 => ?_⟩
  · refine sJ9_floorDiv_7cf53_21 ?_
    rw [if_neg (fun z => z.2 c2)] at h
    exact h
  · rw [if_pos ⟨c1, c2⟩] at h
    exact h
  · refine sJ9_floorDiv_7cf53_21 ?_
    rw [if_neg (fun z => c1 z.1)] at h
    exact h
def fdL (a b : Int64) : Int64 := if (a ^^^ b) < 0 ∧ ¬ a / b * b = a then a / b - 1 else a / b
theorem sp_floorDivL {d : Nat} {a b : Int64} {σ : XH} {Q : XV → XH → Prop} (hb : ¬ b = 0) (h : Q (vL (fdL a b)) σ) : Ec d 0 0 m_J9_floorDiv_f86c9 [vL a, vL b] σ Q := by
  refine Ec_of mo_J9_floorDiv_f86c9.1 (Nat.le_of_ble_eq_true rfl) ?_
  refine sJ9_floorDiv_f86c9_0 ?_
  unfold bJ9_floorDiv_f86c9_0
  unfold fdL at h
  refine ⟨hb, fun c1 => ⟨fun c2 => ?_, fun c2 => ?_⟩, fun c1 => ?_⟩
  · refine sJ9_floorDiv_f86c9_27 ?_
    rw [if_neg (fun z => z.2 ((lgc_eq _ _).mp c2))] at h
    exact h
  · rw [if_pos ⟨(lgc_lt _ _).mp c1, fun z => c2 ((lgc_eq _ _).mpr z)⟩] at h
    exact h
  · refine sJ9_floorDiv_f86c9_27 ?_
    rw [if_neg (fun z => c1 ((lgc_lt _ _).mpr z.1))] at h
    exact h
def abI (a : Int32) : Int32 := if a < 0 then -a else a
def abL (a : Int64) : Int64 := if a < 0 then -a else a
def mxI (a b : Int32) : Int32 := if a < b then b else a
def mnI (a b : Int32) : Int32 := if b < a then b else a
def mxL (a b : Int64) : Int64 := if a < b then b else a
def mnL (a b : Int64) : Int64 := if b < a then b else a

theorem sp_absI {d : Nat} {a : Int32} {σ : XH} {Q : XV → XH → Prop} (h : Q (vI (abI a)) σ) : Ec d 0 0 m_J9_abs_0f7a4 [vI a] σ Q := by
  refine Ec_of mo_J9_abs_0f7a4.1 (Nat.le_of_ble_eq_true rfl) ?_
  refine sJ9_abs_0f7a4_0 ?_
  unfold bJ9_abs_0f7a4_0
  unfold abI at h
  refine ⟨fun c => ?_, fun c => ?_⟩
  · refine sJ9_abs_0f7a4_10 ?_
    rw [if_pos (c)] at h
    exact h
  · refine sJ9_abs_0f7a4_10 ?_
    rw [if_neg (c)] at h
    exact h
theorem sp_absL {d : Nat} {a : Int64} {σ : XH} {Q : XV → XH → Prop} (h : Q (vL (abL a)) σ) : Ec d 0 0 m_J9_abs_067f4 [vL a] σ Q := by
  refine Ec_of mo_J9_abs_067f4.1 (Nat.le_of_ble_eq_true rfl) ?_
  refine sJ9_abs_067f4_0 ?_
  unfold bJ9_abs_067f4_0
  unfold abL at h
  refine ⟨fun c => ?_, fun c => ?_⟩
  · refine sJ9_abs_067f4_12 ?_
    rw [if_pos ((lgc_lt _ _).mp c)] at h
    exact h
  · refine sJ9_abs_067f4_12 ?_
    rw [if_neg (fun z => c ((lgc_lt _ _).mpr z))] at h
    exact h
theorem sp_maxI {d : Nat} {a b : Int32} {σ : XH} {Q : XV → XH → Prop} (h : Q (vI (mxI a b)) σ) : Ec d 0 0 m_J9_max_7cf53 [vI a, vI b] σ Q := by
  refine Ec_of mo_J9_max_7cf53.1 (Nat.le_of_ble_eq_true rfl) ?_
  refine sJ9_max_7cf53_0 ?_
  unfold bJ9_max_7cf53_0
  unfold mxI at h
  refine ⟨fun c => ?_, fun c => ?_⟩
  · refine sJ9_max_7cf53_10 ?_
    rw [if_pos (c)] at h
    exact h
  · refine sJ9_max_7cf53_10 ?_
    rw [if_neg (c)] at h
    exact h
theorem sp_minI {d : Nat} {a b : Int32} {σ : XH} {Q : XV → XH → Prop} (h : Q (vI (mnI a b)) σ) : Ec d 0 0 m_J9_min_7cf53 [vI a, vI b] σ Q := by
  refine Ec_of mo_J9_min_7cf53.1 (Nat.le_of_ble_eq_true rfl) ?_
  refine sJ9_min_7cf53_0 ?_
  unfold bJ9_min_7cf53_0
  unfold mnI at h
  refine ⟨fun c => ?_, fun c => ?_⟩
  · refine sJ9_min_7cf53_10 ?_
    rw [if_pos (c)] at h
    exact h
  · refine sJ9_min_7cf53_10 ?_
    rw [if_neg (c)] at h
    exact h
theorem sp_maxL {d : Nat} {a b : Int64} {σ : XH} {Q : XV → XH → Prop} (h : Q (vL (mxL a b)) σ) : Ec d 0 0 m_J9_max_f86c9 [vL a, vL b] σ Q := by
  refine Ec_of mo_J9_max_f86c9.1 (Nat.le_of_ble_eq_true rfl) ?_
  refine sJ9_max_f86c9_0 ?_
  unfold bJ9_max_f86c9_0
  unfold mxL at h
  refine ⟨fun c => ?_, fun c => ?_⟩
  · refine sJ9_max_f86c9_11 ?_
    rw [if_pos ((lgc_lt _ _).mp c)] at h
    exact h
  · refine sJ9_max_f86c9_11 ?_
    rw [if_neg (fun z => c ((lgc_lt _ _).mpr z))] at h
    exact h
theorem sp_minL {d : Nat} {a b : Int64} {σ : XH} {Q : XV → XH → Prop} (h : Q (vL (mnL a b)) σ) : Ec d 0 0 m_J9_min_f86c9 [vL a, vL b] σ Q := by
  refine Ec_of mo_J9_min_f86c9.1 (Nat.le_of_ble_eq_true rfl) ?_
  refine sJ9_min_f86c9_0 ?_
  unfold bJ9_min_f86c9_0
  unfold mnL at h
  refine ⟨fun c => ?_, fun c => ?_⟩
  · refine sJ9_min_f86c9_11 ?_
    rw [if_pos ((lgc_gt _ _).mp c)] at h
    exact h
  · refine sJ9_min_f86c9_11 ?_
    rw [if_neg (fun z => c ((lgc_gt _ _).mpr z))] at h
    exact h
theorem sp_coder {d t : Nat} {σ : XH} {Q : XV → XH → Prop} (ht : t < 12) (h : Q (vI 0) σ) : Ec d 0 0 m_J0_coder_7d493 [vR (some (512, t))] σ Q := by
  refine Ec_of mo_J0_coder_7d493.1 (Nat.le_of_ble_eq_true rfl) ?_
  refine sJ0_coder_7d493_0 ?_
  unfold bJ0_coder_7d493_0
  refine br_f (by decide) ⟨ht, ?_⟩
  refine sJ0_coder_7d493_14 ?_
  exact ⟨by decide, h⟩
theorem sp_length {d t : Nat} {σ : XH} {Q : XV → XH → Prop} (hd : 1 ≤ d) (ht : t < 12) (h : Q (vI (Int32.ofNat (hn σ 513 t))) σ) : Ec d 0 0 m_J0_length_8abf5 [vR (some (512, t))] σ Q := by
  refine Ec_of mo_J0_length_8abf5.1 (Nat.le_of_ble_eq_true rfl) ?_
  refine sJ0_length_8abf5_0 ?_
  unfold bJ0_length_8abf5_0
  refine ⟨ht, ?_⟩
  rw [show Nat.blt t 12 = true from Nat.ble_eq_true_of_le ht]
  refine ⟨ht, hd, ?_⟩
  refine sp_coder ht ?_
  have e : ∀ x : Int32, x >>> ((0 : Int32) &&& 31) = x := fun x => by
    rw [show (0 : Int32) &&& 31 = 0 by decide]
    exact Int32.shiftRight_zero
  show Q (vI (Int32.ofNat (hn σ 513 t) >>> ((0 : Int32) &&& 31))) σ
  rw [e]
  exact h
theorem sp_isLatin1 {d t : Nat} {σ : XH} {Q : XV → XH → Prop} (ht : t < 12) (h : Q (vI 1) σ) : Ec d 0 0 m_J0_isLatin1_aae02 [vR (some (512, t))] σ Q := by
  refine Ec_of mo_J0_isLatin1_aae02.1 (Nat.le_of_ble_eq_true rfl) ?_
  refine sJ0_isLatin1_aae02_0 ?_
  unfold bJ0_isLatin1_aae02_0
  refine br_f (by decide) ⟨ht, ?_⟩
  refine br_t rfl ?_
  refine sJ0_isLatin1_aae02_18 ?_
  exact ⟨Or.inr rfl, h⟩
theorem sp_checkIdxU {d : Nat} {a b : Int32} {σ : XH} {Q : XV → XH → Prop} (h0 : ¬ a < 0) (h1 : a < b) (h : Q (vI a) σ) : Ec d 0 0 m_J3_checkIndex_8e157 [vI a, vI b, vU] σ Q := by
  refine Ec_of mo_J3_checkIndex_8e157.1 (Nat.le_of_ble_eq_true rfl) ?_
  have h' : ((a < 0 → Ex d 0 0 m_J3_checkIndex_8e157 9 [vI a, vI b, vU] [] σ Q) ∧ (¬ a < 0 → ((a < b → Q (vI a) σ) ∧ (¬ a < b → Ex d 0 0 m_J3_checkIndex_8e157 9 [vI a, vI b, vU] [] σ Q)))) := ⟨fun z => absurd z h0, fun _ => ⟨fun _ => h, fun z => absurd h1 z⟩⟩
  exact xtree_sound (stop := stpJ3_checkIndex_8e157) okJ3_checkIndex_8e157 9 _ _ _ _ _ _ h'
theorem sp_checkIdxN {d : Nat} {a b : Int32} {σ : XH} {Q : XV → XH → Prop} (h0 : ¬ a < 0) (h1 : a < b) (h : Q (vI a) σ) : Ec d 0 0 m_J3_checkIndex_8e157 [vI a, vI b, vR none] σ Q := by
  refine Ec_of mo_J3_checkIndex_8e157.1 (Nat.le_of_ble_eq_true rfl) ?_
  refine sJ3_checkIndex_8e157_0 ?_
  exact ⟨fun z => absurd z h0, fun _ => ⟨fun _ => h, fun z => absurd h1 z⟩⟩
theorem sp_sCheck {d : Nat} {a b : Int32} {σ : XH} {Q : XV → XH → Prop} (hd : 1 ≤ d) (h0 : ¬ a < 0) (h1 : a < b) (h : Q vU σ) : Ec d 0 0 m_J0_checkIndex_df160 [vI a, vI b] σ Q := by
  refine Ec_of mo_J0_checkIndex_df160.1 (Nat.le_of_ble_eq_true rfl) ?_
  refine sJ0_checkIndex_df160_0 ?_
  exact ⟨hd, sp_checkIdxU h0 h1 h⟩
theorem sp_oCheck {d : Nat} {a b : Int32} {σ : XH} {Q : XV → XH → Prop} (hd : 1 ≤ d) (h0 : ¬ a < 0) (h1 : a < b) (h : Q (vI a) σ) : Ec d 0 0 m_J15_checkIndex_7cf53 [vI a, vI b] σ Q := by
  refine Ec_of mo_J15_checkIndex_7cf53.1 (Nat.le_of_ble_eq_true rfl) ?_
  refine sJ15_checkIndex_7cf53_0 ?_
  exact ⟨hd, sp_checkIdxN h0 h1 h⟩
theorem sp_charAt {d t : Nat} {a v : Int32} {σ : XH} {Q : XV → XH → Prop} (hd : 4 ≤ d) (ht : t < 12) (h0 : ¬ a < 0) (h1 : a < Int32.ofNat (hn σ 513 t)) (h2 : vp_in a (hn σ 513 t)) (hv : hi σ 513 t a.toNatClampNeg = v) (hv1 : ((v &&& 255).toUInt32 % 65536).toInt32 = v) (hv2 : v.toUInt32.toUInt16.toUInt32.toInt32 = v) (h : Q (vI v) σ) : Ec d 0 0 m_J0_charAt_5068e [vR (some (512, t)), vI a] σ Q := by
  have hb : Nat.blt t 12 = true := Nat.ble_eq_true_of_le ht
  refine Ec_of mo_J0_charAt_5068e.1 (Nat.le_of_ble_eq_true rfl) ?_
  refine sJ0_charAt_5068e_0 ?_
  unfold bJ0_charAt_5068e_0
  refine ⟨ht, by omega, ?_⟩
  refine sp_isLatin1 ht ?_
  refine br_f (by decide) ⟨ht, by omega, ?_⟩
  refine Ec_of mo_J1_charAt_3b067.1 (Nat.le_of_ble_eq_true rfl) ?_
  refine sJ1_charAt_3b067_0 ?_
  unfold bJ1_charAt_3b067_0
  have ha : alOk (513, t) = true := by
    show ((Nat.ble 100 513 && Nat.blt 513 500) || (bif Nat.beq 513 513 then Nat.blt t 12 else _)) = true
    rw [hb]
    rfl
  show (bif alOk (513, t) then _ else _)
  rw [ha]
  refine ⟨by omega, ?_⟩
  refine sp_sCheck (by omega) h0 h1 ?_
  show (bif (Nat.ble 200 513 && Nat.blt 513 400) || (Nat.beq 513 513 && Nat.blt t 12) then _ else _)
  rw [hb]
  show (vp_in a (hn σ 513 t) ∧ _)
  rw [hv, hv1]
  exact ⟨h2, hv2, hv2, h⟩
/-! ===== which sites a run has touched ===== -/
def tl (L : List Nat) (s : Nat) : Bool := L.any (Nat.beq s)
def Fr (T : Nat → Bool) (σ σ' : XH) : Prop := ∀ s, T s = false → hc σ' s = hc σ s ∧ hn σ' s = hn σ s ∧ hi σ' s = hi σ s ∧ hl σ' s = hl σ s ∧ hr σ' s = hr σ s
theorem Fr.rf (T : Nat → Bool) (σ : XH) : Fr T σ σ := fun _ _ => ⟨rfl, rfl, rfl, rfl, rfl⟩
theorem Fr.trans {T : Nat → Bool} {a b c : XH} (h : Fr T a b) (k : Fr T b c) : Fr T a c := fun s hs => by
  obtain ⟨h1, h2, h3, h4, h5⟩ := h s hs
  obtain ⟨k1, k2, k3, k4, k5⟩ := k s hs
  exact ⟨k1.trans h1, k2.trans h2, k3.trans h3, k4.trans h4, k5.trans h5⟩
theorem Fr.sub {T T' : Nat → Bool} {a b : XH} (h : Fr T a b) (hT : ∀ s, T' s = false → T s = false) : Fr T' a b := fun s hs => h s (hT s hs)
theorem tl_sub {L L' : List Nat} (h : ∀ s, s ∈ L → s ∈ L') : ∀ s, tl L' s = false → tl L s = false := by
  intro s hs
  unfold tl at *
  rw [List.any_eq_false] at *
  exact fun x hx => hs x (h x hx)
theorem Fr.c {T : Nat → Bool} {a b : XH} (h : Fr T a b) {s : Nat} (hs : T s = false) : hc b s = hc a s := (h s hs).1
theorem Fr.n {T : Nat → Bool} {a b : XH} (h : Fr T a b) {s : Nat} (hs : T s = false) : hn b s = hn a s := (h s hs).2.1
theorem Fr.i {T : Nat → Bool} {a b : XH} (h : Fr T a b) {s : Nat} (hs : T s = false) : hi b s = hi a s := (h s hs).2.2.1
theorem Fr.l {T : Nat → Bool} {a b : XH} (h : Fr T a b) {s : Nat} (hs : T s = false) : hl b s = hl a s := (h s hs).2.2.2.1
theorem Fr.r {T : Nat → Bool} {a b : XH} (h : Fr T a b) {s : Nat} (hs : T s = false) : hr b s = hr a s := (h s hs).2.2.2.2
theorem tt_ne {T : Nat → Bool} {s t : Nat} (hs : T s = true) (ht : T t = false) : t ≠ s := fun z => by rw [z, hs] at ht; cases ht
theorem Fr.wI {T : Nat → Bool} {a b : XH} (h : Fr T a b) {s : Nat} (hs : T s = true) (i k : Nat) (x : Int32) : Fr T a (wI b s i k x) := h.trans fun t ht => ⟨rfl, rfl, hi_wI_ne b i k x (tt_ne hs ht), rfl, rfl⟩
theorem Fr.wL {T : Nat → Bool} {a b : XH} (h : Fr T a b) {s : Nat} (hs : T s = true) (i k : Nat) (x : Int64) : Fr T a (wL b s i k x) := h.trans fun t ht => ⟨rfl, rfl, rfl, hl_wL_ne b i k x (tt_ne hs ht), rfl⟩
theorem Fr.wR {T : Nat → Bool} {a b : XH} (h : Fr T a b) {s : Nat} (hs : T s = true) (i k : Nat) (x : Option XO) : Fr T a (wR b s i k x) := h.trans fun t ht => ⟨rfl, rfl, rfl, rfl, hr_wR_ne b i k x (tt_ne hs ht)⟩
theorem Fr.nwO {T : Nat → Bool} {a b : XH} (h : Fr T a b) {s : Nat} (hs : T s = true) : Fr T a (nwO b s) := h.trans fun t ht => ⟨by rw [hc_nwO, if_neg (tt_ne hs ht)], rfl, rfl, rfl, rfl⟩
theorem Fr.nwA {T : Nat → Bool} {a b : XH} (h : Fr T a b) {s : Nat} (hs : T s = true) (n : Nat) : Fr T a (nwA b s n) := h.trans fun t ht => ⟨by rw [hc_nwA, if_neg (tt_ne hs ht)], funext fun i => by rw [hn_nwA, if_neg (fun z => tt_ne hs ht z.1)], rfl, rfl, rfl⟩
theorem hi_cpI_ne (σ : XH) (o : XO) (a : Nat) (q : XO) (b n : Nat) {s : Nat} (h : s ≠ q.1) : hi (cpI σ o a q b n) s = hi σ s := funext fun i => funext fun k => by
  show (if s = q.1 ∧ i = q.2 ∧ b ≤ k ∧ k < b + n then _ else σ.2.2.1 s i k) = _
  rw [if_neg (fun z => h z.1)]
  rfl
theorem hr_cpR_ne (σ : XH) (o : XO) (a : Nat) (q : XO) (b n : Nat) {s : Nat} (h : s ≠ q.1) : hr (cpR σ o a q b n) s = hr σ s := funext fun i => funext fun k => by
  show (if s = q.1 ∧ i = q.2 ∧ b ≤ k ∧ k < b + n then _ else σ.2.2.2.2 s i k) = _
  rw [if_neg (fun z => h z.1)]
  rfl
theorem Fr.cpI {T : Nat → Bool} {a b : XH} (h : Fr T a b) (o : XO) (p : Nat) (q : XO) (r n : Nat) (hs : T q.1 = true) : Fr T a (cpI b o p q r n) := h.trans fun t ht => ⟨rfl, rfl, hi_cpI_ne b o p q r n (tt_ne hs ht), rfl, rfl⟩
theorem Fr.cpR {T : Nat → Bool} {a b : XH} (h : Fr T a b) (o : XO) (p : Nat) (q : XO) (r n : Nat) (hs : T q.1 = true) : Fr T a (cpR b o p q r n) := h.trans fun t ht => ⟨rfl, rfl, rfl, rfl, hr_cpR_ne b o p q r n (tt_ne hs ht)⟩
/-- only ints and longs were written -/
def Fi (T : Nat → Bool) (σ σ' : XH) : Prop := hc σ' = hc σ ∧ hn σ' = hn σ ∧ hr σ' = hr σ ∧ ∀ s, T s = false → hi σ' s = hi σ s ∧ hl σ' s = hl σ s
theorem Fi.rf (T : Nat → Bool) (σ : XH) : Fi T σ σ := ⟨rfl, rfl, rfl, fun _ _ => ⟨rfl, rfl⟩⟩
theorem Fi.trans {T : Nat → Bool} {a b c : XH} (h : Fi T a b) (k : Fi T b c) : Fi T a c := ⟨k.1.trans h.1, k.2.1.trans h.2.1, k.2.2.1.trans h.2.2.1, fun s hs => ⟨(k.2.2.2 s hs).1.trans (h.2.2.2 s hs).1, (k.2.2.2 s hs).2.trans (h.2.2.2 s hs).2⟩⟩
theorem Fi.sub {T T' : Nat → Bool} {a b : XH} (h : Fi T a b) (hT : ∀ s, T' s = false → T s = false) : Fi T' a b := ⟨h.1, h.2.1, h.2.2.1, fun s hs => h.2.2.2 s (hT s hs)⟩
theorem Fi.fr {T : Nat → Bool} {a b : XH} (h : Fi T a b) : Fr T a b := fun s hs => ⟨congrFun h.1 s, congrFun h.2.1 s, (h.2.2.2 s hs).1, (h.2.2.2 s hs).2, congrFun h.2.2.1 s⟩
theorem Fi.c {T : Nat → Bool} {a b : XH} (h : Fi T a b) : hc b = hc a := h.1
theorem Fi.n {T : Nat → Bool} {a b : XH} (h : Fi T a b) : hn b = hn a := h.2.1
theorem Fi.r {T : Nat → Bool} {a b : XH} (h : Fi T a b) : hr b = hr a := h.2.2.1
theorem Fi.i {T : Nat → Bool} {a b : XH} (h : Fi T a b) {s : Nat} (hs : T s = false) : hi b s = hi a s := (h.2.2.2 s hs).1
theorem Fi.l {T : Nat → Bool} {a b : XH} (h : Fi T a b) {s : Nat} (hs : T s = false) : hl b s = hl a s := (h.2.2.2 s hs).2
theorem Fi.wI {T : Nat → Bool} {a b : XH} (h : Fi T a b) {s : Nat} (hs : T s = true) (i k : Nat) (x : Int32) : Fi T a (wI b s i k x) := h.trans ⟨rfl, rfl, rfl, fun t ht => ⟨hi_wI_ne b i k x (tt_ne hs ht), rfl⟩⟩
theorem Fi.wL {T : Nat → Bool} {a b : XH} (h : Fi T a b) {s : Nat} (hs : T s = true) (i k : Nat) (x : Int64) : Fi T a (wL b s i k x) := h.trans ⟨rfl, rfl, rfl, fun t ht => ⟨rfl, hl_wL_ne b i k x (tt_ne hs ht)⟩⟩
theorem Fi.cpI {T : Nat → Bool} {a b : XH} (h : Fi T a b) (o : XO) (p : Nat) (q : XO) (r n : Nat) (hs : T q.1 = true) : Fi T a (cpI b o p q r n) := h.trans ⟨rfl, rfl, rfl, fun t ht => ⟨hi_cpI_ne b o p q r n (tt_ne hs ht), rfl⟩⟩
theorem Fi.up (σ : XH) (S : SS) : Fi rsb σ (up σ S) := ⟨rfl, rfl, rfl, fun s hs => ⟨hi_upc σ S hs, rfl⟩⟩
/-- a new cell's places are empty -/
def ZH (σ : XH) : Prop := ∀ s i k, s < 500 → hc σ s ≤ i → hi σ s i k = 0 ∧ hl σ s i k = 0 ∧ hr σ s i k = none
theorem Ex.zero {d rc rs y pc : Nat} {ls st : List XV} {σ : XH} {Q : XV → XH → Prop} (h : ZH σ → Ex d rc rs y pc ls st σ Q) : Ex d rc rs y pc ls st σ Q := by
  intro p l e R s m args below meth c H locs cells slots D n0 σ0 L0 ad0 L ad lsR C hL hst
  refine h ?_ p C hL hst
  obtain ⟨cy, -, -, -, -, -, -, -, h8, -⟩ := C.2.2.1
  exact h8

