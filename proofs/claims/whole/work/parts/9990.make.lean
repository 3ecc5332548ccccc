/-! ===== the first state: what the class's and the reference's making leave ===== -/
def AGH (X : Nat → Bool) (σ τ : XH) : Prop := ∀ s, X s = false → hc σ s = hc τ s ∧ hi σ s = hi τ s ∧ hr σ s = hr τ s ∧ ∀ i, hn τ s i ≠ 0 → hn σ s i = hn τ s i
theorem AGH.c {X : Nat → Bool} {σ τ : XH} (a : AGH X σ τ) (s : Nat) (hs : X s = false) : hc σ s = hc τ s := (a s hs).1
theorem AGH.i {X : Nat → Bool} {σ τ : XH} (a : AGH X σ τ) (s : Nat) (hs : X s = false) : hi σ s = hi τ s := (a s hs).2.1
theorem AGH.r {X : Nat → Bool} {σ τ : XH} (a : AGH X σ τ) (s : Nat) (hs : X s = false) : hr σ s = hr τ s := (a s hs).2.2.1
theorem AGH.n {X : Nat → Bool} {σ τ : XH} (a : AGH X σ τ) (s i : Nat) (hs : X s = false) (h : hn τ s i ≠ 0) : hn σ s i = hn τ s i := (a s hs).2.2.2 i h
theorem AGH.wI {X : Nat → Bool} {σ τ : XH} (a : AGH X σ τ) (s i k : Nat) (x : Int32) : AGH X (wI σ s i k x) (wI τ s i k x) := fun t ht => ⟨a.c t ht, funext fun j => funext fun l => by rw [hi_wI', hi_wI', a.i t ht], a.r t ht, fun j hj => a.n t j ht hj⟩
theorem AGH.wL {X : Nat → Bool} {σ τ : XH} (a : AGH X σ τ) (s i k : Nat) (x : Int64) : AGH X (wL σ s i k x) (wL τ s i k x) := fun t ht => ⟨a.c t ht, a.i t ht, a.r t ht, fun j hj => a.n t j ht hj⟩
theorem AGH.wR {X : Nat → Bool} {σ τ : XH} (a : AGH X σ τ) (s i k : Nat) (x : Option XO) : AGH X (wR σ s i k x) (wR τ s i k x) := fun t ht => ⟨a.c t ht, a.i t ht, funext fun j => funext fun l => by rw [hr_wR', hr_wR', a.r t ht], fun j hj => a.n t j ht hj⟩
theorem AGH.nwO {X : Nat → Bool} {σ τ : XH} (a : AGH X σ τ) (s : Nat) : AGH X (nwO σ s) (nwO τ s) := fun t ht => ⟨by
  rw [hc_nwO, hc_nwO]
  by_cases y : t = s
  · rw [if_pos y, if_pos y, ← y, a.c t ht]
  · rw [if_neg y, if_neg y, a.c t ht], a.i t ht, a.r t ht, fun j hj => a.n t j ht hj⟩
theorem AGH.nwA {X : Nat → Bool} {σ τ : XH} (a : AGH X σ τ) (s n : Nat) : AGH X (nwA σ s n) (nwA τ s n) := fun t ht => ⟨by
  rw [hc_nwA, hc_nwA]
  by_cases y : t = s
  · rw [if_pos y, if_pos y, ← y, a.c t ht]
  · rw [if_neg y, if_neg y, a.c t ht], a.i t ht, a.r t ht, fun j hj => by
  rw [hn_nwA] at hj ⊢
  rw [hn_nwA]
  by_cases y : t = s
  · subst y
    rw [a.c t ht]
    by_cases z : t = t ∧ j = hc τ t
    · rw [if_pos z, if_pos z]
    · rw [if_neg z] at hj
      rw [if_neg z, if_neg z]
      exact a.n t j ht hj
  · rw [if_neg (fun z => y z.1)] at hj
    rw [if_neg (fun z => y z.1), if_neg (fun z => y z.1)]
    exact a.n t j ht hj⟩
theorem AGH.fr {X X' T : Nat → Bool} {σ τ g : XH} (a : AGH X σ τ) (hF : Fr T σ g) (h : ∀ s, X' s = false → X s = false ∧ T s = false) : AGH X' g τ := fun s hs => by
  obtain ⟨h1, h2⟩ := h s hs
  obtain ⟨f1, f2, f3, _, f5⟩ := hF s h2
  obtain ⟨b1, b2, b3, b4⟩ := a s h1
  exact ⟨f1.trans b1, f3.trans b2, f5.trans b3, fun i hi => by rw [f2]; exact b4 i hi⟩
theorem ku_of {K : XH → Prop} {g : XH} (h : K g) : kU K vU g := h
def XA (s : Nat) : Bool := Nat.ble 500 s
def XB (s : Nat) : Bool := Nat.ble 500 s || tl [6, 103, 104, 105] s
def Y0 (s : Nat) : Bool := Nat.blt s 500
def YB (s : Nat) : Bool := Nat.blt s 500 && !tl [6, 103, 104, 105] s
theorem XB_X {s : Nat} (h : XB s = false) : XA s = false ∧ tl [6, 103, 104, 105] s = false := Bool.or_eq_false_iff.mp h
theorem Y0_6 {s : Nat} (h : Y0 s = false) : tl [6, 103, 104, 105] s = false := by
  cases z : tl [6, 103, 104, 105] s with
  | false => rfl
  | true =>
    have := (show ∀ t ∈ [6, 103, 104, 105], Y0 t = true by decide)
    unfold tl at z
    obtain ⟨u, hu, hb⟩ := List.any_eq_true.mp z
    rw [← Nat.eq_of_beq_eq_true hb] at hu
    rw [this s hu] at h
    cases h
def zc0 : XH := nwO ((fun _ => 0), (fun _ _ => 0), (fun _ _ _ => 0), (fun _ _ _ => 0), (fun _ _ _ => none)) 11
def zc1 : XH := nwO zc0 0
def zc2 : XH := wI zc1 0 0 0 0
def zc3 : XH := wR zc2 0 0 1 (some (510, 0))
def zc4 : XH := wR zc3 11 0 0 (some (0, 0))
def zc5 : XH := nwO zc4 0
def zc6 : XH := wI zc5 0 1 0 0
def zc7 : XH := wR zc6 0 1 1 (some (510, 0))
def zc8 : XH := wR zc7 11 0 1 (some (0, 1))
def zc9 : XH := nwO zc8 0
def zc10 : XH := wI zc9 0 2 0 0
def zc11 : XH := wR zc10 0 2 1 (some (510, 0))
def zc12 : XH := wR zc11 11 0 2 (some (0, 2))
def zc13 : XH := nwO zc12 0
def zc14 : XH := wI zc13 0 3 0 0
def zc15 : XH := wR zc14 0 3 1 (some (510, 0))
def zc16 : XH := wR zc15 11 0 3 (some (0, 3))
def zc17 : XH := nwO zc16 0
def zc18 : XH := wI zc17 0 4 0 0
def zc19 : XH := wR zc18 0 4 1 (some (510, 0))
def zc20 : XH := wR zc19 11 0 4 (some (0, 4))
def zc21 : XH := nwO zc20 0
def zc22 : XH := wI zc21 0 5 0 0
def zc23 : XH := wR zc22 0 5 1 (some (510, 0))
def zc24 : XH := wR zc23 11 0 5 (some (0, 5))
def zc25 : XH := nwA zc24 400 6
def zc26 : XH := wR zc25 11 0 6 (some (400, 0))
def zc27 : XH := nwA zc26 115 5
def zc28 : XH := wR zc27 11 0 7 (some (115, 0))
def zc29 : XH := nwO zc28 7
def zc30 : XH := nwA zc29 200 140
def zc31 : XH := wR zc30 7 0 0 (some (200, 0))
def zc32 : XH := wI zc31 7 0 1 0
def zc33 : XH := wI zc32 7 0 2 0
def zc34 : XH := wR zc33 11 0 8 (some (7, 0))
def zc35 : XH := nwO zc34 6
def zc36 : XH := wR zc35 11 0 9 (some (6, 0))
def zc37 : XH := nwO zc36 9
def zc38 : XH := nwA zc37 107 90
def zc39 : XH := wR zc38 9 0 0 (some (107, 0))
def zc40 : XH := nwA zc39 108 90
def zc41 : XH := wR zc40 9 0 1 (some (108, 0))
def zc42 : XH := nwA zc41 109 90
def zc43 : XH := wR zc42 9 0 2 (some (109, 0))
def zc44 : XH := nwA zc43 110 90
def zc45 : XH := wR zc44 9 0 3 (some (110, 0))
def zc46 : XH := nwA zc45 111 90
def zc47 : XH := wR zc46 9 0 4 (some (111, 0))
def zc48 : XH := nwA zc47 112 11
def zc49 : XH := wR zc48 9 0 5 (some (112, 0))
def zc50 : XH := nwA zc49 113 17
def zc51 : XH := wR zc50 9 0 6 (some (113, 0))
def zc52 : XH := wI zc51 9 0 7 0
def zc53 : XH := wL zc52 9 0 8 0
def zc54 : XH := wL zc53 9 0 9 0
def zc55 : XH := wR zc54 11 0 10 (some (9, 0))
def zc56 : XH := nwO zc55 1
def zc57 : XH := nwA zc56 100 20
def zc58 : XH := wR zc57 1 0 0 (some (100, 0))
def zc59 : XH := wI zc58 1 0 1 0
def zc60 : XH := wI zc59 1 0 2 0
def zc61 : XH := wI zc60 1 0 3 0
def zc62 : XH := wI zc61 1 0 4 0
def zc63 : XH := wR zc62 11 0 11 (some (1, 0))
def zc64 : XH := wI zc63 11 0 12 0
def zc65 : XH := wI zc64 11 0 13 0
def zc66 : XH := wI zc65 11 0 14 (-3)
def zc67 : XH := nwO zc66 10
def zc68 : XH := nwA zc67 114 60
def zc69 : XH := wR zc68 10 0 0 (some (114, 0))
def zc70 : XH := wI zc69 10 0 1 (-1)
def zc71 : XH := wI zc70 10 0 2 0
def zc72 : XH := wR zc71 400 0 0 (some (10, 0))
def zc73 : XH := nwO zc72 10
def zc74 : XH := nwA zc73 114 60
def zc75 : XH := wR zc74 10 1 0 (some (114, 1))
def zc76 : XH := wI zc75 10 1 1 (-1)
def zc77 : XH := wI zc76 10 1 2 0
def zc78 : XH := wR zc77 400 0 1 (some (10, 1))
def zc79 : XH := nwO zc78 10
def zc80 : XH := nwA zc79 114 60
def zc81 : XH := wR zc80 10 2 0 (some (114, 2))
def zc82 : XH := wI zc81 10 2 1 (-1)
def zc83 : XH := wI zc82 10 2 2 0
def zc84 : XH := wR zc83 400 0 2 (some (10, 2))
def zc85 : XH := nwO zc84 10
def zc86 : XH := nwA zc85 114 60
def zc87 : XH := wR zc86 10 3 0 (some (114, 3))
def zc88 : XH := wI zc87 10 3 1 (-1)
def zc89 : XH := wI zc88 10 3 2 0
def zc90 : XH := wR zc89 400 0 3 (some (10, 3))
def zc91 : XH := nwO zc90 10
def zc92 : XH := nwA zc91 114 60
def zc93 : XH := wR zc92 10 4 0 (some (114, 4))
def zc94 : XH := wI zc93 10 4 1 (-1)
def zc95 : XH := wI zc94 10 4 2 0
def zc96 : XH := wR zc95 400 0 4 (some (10, 4))
def zc97 : XH := nwO zc96 10
def zc98 : XH := nwA zc97 114 60
def zc99 : XH := wR zc98 10 5 0 (some (114, 5))
def zc100 : XH := wI zc99 10 5 1 (-1)
def zc101 : XH := wI zc100 10 5 2 0
def zc102 : XH := wR zc101 400 0 5 (some (10, 5))
def zr0 : XH := nwO zc102 12
def zr1 : XH := wI zr0 12 0 0 0
def zr2 : XH := wI zr1 12 0 1 0
def zr3 : XH := wI zr2 12 0 2 0
def zr4 : XH := wI zr3 12 0 3 0
def zr5 : XH := nwA zr4 116 11
def zr6 : XH := wR zr5 12 0 4 (some (116, 0))
def zr7 : XH := nwA zr6 117 11
def zr8 : XH := wR zr7 12 0 5 (some (117, 0))
def zr9 : XH := nwA zr8 118 12
def zr10 : XH := wR zr9 12 0 6 (some (118, 0))
def zr11 : XH := nwA zr10 119 12
def zr12 : XH := wR zr11 12 0 7 (some (119, 0))
def zr13 : XH := wI zr12 12 0 8 0
def zr14 : XH := nwA zr13 120 90
def zr15 : XH := wR zr14 12 0 9 (some (120, 0))
def zr16 : XH := nwA zr15 121 90
def zr17 : XH := wR zr16 12 0 10 (some (121, 0))
def zr18 : XH := nwA zr17 122 90
def zr19 : XH := wR zr18 12 0 11 (some (122, 0))
def zr20 : XH := nwA zr19 123 90
def zr21 : XH := wR zr20 12 0 12 (some (123, 0))
def zr22 : XH := nwA zr21 124 90
def zr23 : XH := wR zr22 12 0 13 (some (124, 0))
def zr24 : XH := nwA zr23 125 90
def zr25 : XH := wR zr24 12 0 14 (some (125, 0))
def zr26 : XH := nwA zr25 126 90
def zr27 : XH := wR zr26 12 0 15 (some (126, 0))
def zr28 : XH := nwA zr27 127 90
def zr29 : XH := wR zr28 12 0 16 (some (127, 0))
def zr30 : XH := nwA zr29 128 90
def zr31 : XH := wR zr30 12 0 17 (some (128, 0))
def zr32 : XH := nwA zr31 129 90
def zr33 : XH := wR zr32 12 0 18 (some (129, 0))
def zr34 : XH := wI zr33 12 0 19 (-1)
def zr35 : XH := wI zr34 12 0 20 0
def zr36 : XH := nwA zr35 130 60
def zr37 : XH := wR zr36 12 0 21 (some (130, 0))
def zr38 : XH := nwA zr37 131 60
def zr39 : XH := wR zr38 12 0 22 (some (131, 0))
def zr40 : XH := nwA zr39 132 60
def zr41 : XH := wR zr40 12 0 23 (some (132, 0))
def zr42 : XH := nwA zr41 133 60
def zr43 : XH := wR zr42 12 0 24 (some (133, 0))
def zr44 : XH := wI zr43 12 0 25 0
def zr45 : XH := wI zr44 12 0 26 0
def zr46 : XH := nwA zr45 134 12
def zr47 : XH := wR zr46 12 0 27 (some (134, 0))
def zr48 : XH := nwA zr47 135 12
def zr49 : XH := wR zr48 12 0 28 (some (135, 0))
def zr50 : XH := nwA zr49 136 1820
def zr51 : XH := wR zr50 12 0 29 (some (136, 0))
def zr52 : XH := nwA zr51 137 13
def zr53 : XH := wR zr52 12 0 30 (some (137, 0))
def zr54 : XH := wI zr53 12 0 31 30
def zr55 : XH := wI zr54 12 0 32 1
def zr56 : XH := wI zr55 12 0 33 9999
def zr57 : XH := wI zr56 12 0 34 0
def zr58 : XH := wI zr57 12 0 35 0
def zr59 : XH := wI zr58 12 0 36 0
def zr60 : XH := wI zr59 12 0 37 0
def zr61 : XH := nwA zr60 138 6
def zr62 : XH := wR zr61 12 0 38 (some (138, 0))
def zr63 : XH := nwA zr62 139 5
def zr64 : XH := wR zr63 12 0 39 (some (139, 0))
def zr65 : XH := wI zr64 12 0 40 0
def zr66 : XH := wI zr65 12 0 41 0
def zr67 : XH := wI zr66 12 0 42 0
def zr68 : XH := wI zr67 12 0 43 0
def zr69 : XH := nwA zr68 140 141
def zr70 : XH := wR zr69 12 0 44 (some (140, 0))
def zr71 : XH := nwA zr70 300 141
def zr72 : XH := wR zr71 12 0 45 (some (300, 0))
def zr73 : XH := wI zr72 12 0 46 0
def zr74 : XH := wI zr73 12 0 47 0
def zr75 : XH := wI zr74 12 0 48 0
def zr76 : XH := wI zr75 12 0 49 0
def zr77 : XH := nwA zr76 141 90
def zr78 : XH := wR zr77 12 0 50 (some (141, 0))
def zr79 : XH := nwA zr78 142 90
def zr80 : XH := wR zr79 12 0 51 (some (142, 0))
def zr81 : XH := nwA zr80 143 90
def zr82 : XH := wR zr81 12 0 52 (some (143, 0))
def zr83 : XH := nwA zr82 144 90
def zr84 : XH := wR zr83 12 0 53 (some (144, 0))
def zr85 : XH := nwA zr84 301 90
def zr86 : XH := wR zr85 12 0 54 (some (301, 0))
def zr87 : XH := nwA zr86 145 5
def zr88 : XH := wR zr87 12 0 55 (some (145, 0))
def zr89 : XH := nwA zr88 146 44
def zr90 : XH := wR zr89 12 0 56 (some (146, 0))
def zr91 : XH := wL zr90 12 0 57 0
def zr92 : XH := wL zr91 12 0 58 0
def zr93 : XH := wI zr92 12 0 59 0
def zr94 : XH := nwA zr93 147 9
def zr95 : XH := wR zr94 12 0 60 (some (147, 0))
def zr96 : XH := nwA zr95 148 9
def zr97 : XH := wR zr96 12 0 61 (some (148, 0))
def zr98 : XH := nwA zr97 149 9
def zr99 : XH := wR zr98 12 0 62 (some (149, 0))
def zr100 : XH := wI zr99 12 0 63 0
def zr101 : XH := nwA zr100 150 20
def zr102 : XH := wR zr101 12 0 64 (some (150, 0))
def zr103 : XH := nwA zr102 151 6
def zr104 : XH := wI zr103 151 0 0 (-1)
def zr105 : XH := wI zr104 151 0 1 (-1)
def zr106 : XH := wI zr105 151 0 2 (-1)
def zr107 : XH := wI zr106 151 0 3 (-1)
def zr108 : XH := wI zr107 151 0 4 (-1)
def zr109 : XH := wI zr108 151 0 5 (-1)
def zr110 : XH := wR zr109 12 0 65 (some (151, 0))
def zr111 : XH := nwA zr110 152 6
def zr112 : XH := wR zr111 12 0 66 (some (152, 0))
def zr113 : XH := nwA zr112 153 360
def zr114 : XH := wR zr113 12 0 67 (some (153, 0))
def zr115 : XH := nwA zr114 154 60
def zr116 : XH := wR zr115 12 0 68 (some (154, 0))
theorem sp_X10_init {d : Nat} {σ : XH} {Q : XV → XH → Prop} (hd : 20 ≤ d) (a0 : AGH XA σ zc0) (hQ : ∀ g m, AGH XB g zc102 → Fr Y0 σ m → Fr YB m g → hc m 6 = 1 → hc m 103 = 1 → hc m 104 = 1 → hc m 105 = 1 → hi m 6 0 0 = -1 → RR m 0 0 rt0 → Q vU g) : Ec d 40 1400 m_X10_init [vR (some (11, 0))] σ Q := by
  have f0 : Fr Y0 σ σ := Fr.rf _ _
  refine Ec_of mo_X10_init.1 (Nat.le_of_ble_eq_true rfl) ?_
  refine sX10_init_0 ?_
  unfold bX10_init_0
  refine ⟨by omega, ?_⟩
  refine ⟨by decide, ?_⟩
  refine ⟨by decide, ?_⟩
  rw [show hc σ 0 = 0 from (a0.c 0 rfl).trans (by decide +kernel)]
  refine fun g1 e1 => ?_
  have a1 : AGH XA g1 zc1 := by rw [e1]; exact a0.nwO 0
  have f1 := (by rw [e1]; exact f0.nwO rfl : Fr Y0 σ g1)
  clear e1 a0 f0
  refine ⟨by omega, ?_⟩
  refine Ec_of mo_Jx4a65c_init_da8c8.1 (Nat.le_of_ble_eq_true rfl) ?_
  refine sJx4a65c_init_da8c8_0 ?_
  unfold bJx4a65c_init_da8c8_0
  refine ⟨by omega, ?_⟩
  refine Ec_of mo_Jxc12de_init_da8c8.1 (Nat.le_of_ble_eq_true rfl) ?_
  refine sJxc12de_init_da8c8_0 ?_
  unfold bJxc12de_init_da8c8_0
  refine ⟨by omega, ?_⟩
  refine Ec_of mo_Jxa1e45_init_da8c8.1 (Nat.le_of_ble_eq_true rfl) ?_
  refine sJxa1e45_init_da8c8_0 ?_
  unfold bJxa1e45_init_da8c8_0
  refine ⟨by omega, ?_⟩
  refine ku_of ?_
  refine fun g2 e2 => ?_
  have a2 : AGH XA g2 zc2 := by rw [e2]; exact a1.wI 0 0 0 0
  have f2 := (by rw [e2]; exact f1.wI rfl _ _ _ : Fr Y0 σ g2)
  clear e2 a1 f1
  refine ku_of ?_
  refine fun g3 e3 => ?_
  have a3 : AGH XA g3 zc3 := by rw [e3]; exact a2.wR 0 0 1 (some (510, 0))
  have f3 := (by rw [e3]; exact f2.wR rfl _ _ _ : Fr Y0 σ g3)
  clear e3 a2 f2
  refine ku_of ?_
  refine fun g4 e4 => ?_
  have a4 : AGH XA g4 zc4 := by rw [e4]; exact a3.wR 11 0 0 (some (0, 0))
  have f4 := (by rw [e4]; exact f3.wR rfl _ _ _ : Fr Y0 σ g4)
  clear e4 a3 f3
  refine ⟨by decide, ?_⟩
  refine ⟨by decide, ?_⟩
  rw [show hc g4 0 = 1 from (a4.c 0 rfl).trans (by decide +kernel)]
  refine fun g5 e5 => ?_
  have a5 : AGH XA g5 zc5 := by rw [e5]; exact a4.nwO 0
  have f5 := (by rw [e5]; exact f4.nwO rfl : Fr Y0 σ g5)
  clear e5 a4 f4
  refine ⟨by omega, ?_⟩
  refine Ec_of mo_Jx4a65c_init_da8c8.1 (Nat.le_of_ble_eq_true rfl) ?_
  refine sJx4a65c_init_da8c8_0 ?_
  unfold bJx4a65c_init_da8c8_0
  refine ⟨by omega, ?_⟩
  refine Ec_of mo_Jxc12de_init_da8c8.1 (Nat.le_of_ble_eq_true rfl) ?_
  refine sJxc12de_init_da8c8_0 ?_
  unfold bJxc12de_init_da8c8_0
  refine ⟨by omega, ?_⟩
  refine Ec_of mo_Jxa1e45_init_da8c8.1 (Nat.le_of_ble_eq_true rfl) ?_
  refine sJxa1e45_init_da8c8_0 ?_
  unfold bJxa1e45_init_da8c8_0
  refine ⟨by omega, ?_⟩
  refine ku_of ?_
  refine fun g6 e6 => ?_
  have a6 : AGH XA g6 zc6 := by rw [e6]; exact a5.wI 0 1 0 0
  have f6 := (by rw [e6]; exact f5.wI rfl _ _ _ : Fr Y0 σ g6)
  clear e6 a5 f5
  refine ku_of ?_
  refine fun g7 e7 => ?_
  have a7 : AGH XA g7 zc7 := by rw [e7]; exact a6.wR 0 1 1 (some (510, 0))
  have f7 := (by rw [e7]; exact f6.wR rfl _ _ _ : Fr Y0 σ g7)
  clear e7 a6 f6
  refine ku_of ?_
  refine fun g8 e8 => ?_
  have a8 : AGH XA g8 zc8 := by rw [e8]; exact a7.wR 11 0 1 (some (0, 1))
  have f8 := (by rw [e8]; exact f7.wR rfl _ _ _ : Fr Y0 σ g8)
  clear e8 a7 f7
  refine sX10_init_26 ?_
  unfold bX10_init_26
  refine ⟨by decide, ?_⟩
  refine ⟨by decide, ?_⟩
  rw [show hc g8 0 = 2 from (a8.c 0 rfl).trans (by decide +kernel)]
  refine fun g9 e9 => ?_
  have a9 : AGH XA g9 zc9 := by rw [e9]; exact a8.nwO 0
  have f9 := (by rw [e9]; exact f8.nwO rfl : Fr Y0 σ g9)
  clear e9 a8 f8
  refine ⟨by omega, ?_⟩
  refine Ec_of mo_Jx4a65c_init_da8c8.1 (Nat.le_of_ble_eq_true rfl) ?_
  refine sJx4a65c_init_da8c8_0 ?_
  unfold bJx4a65c_init_da8c8_0
  refine ⟨by omega, ?_⟩
  refine Ec_of mo_Jxc12de_init_da8c8.1 (Nat.le_of_ble_eq_true rfl) ?_
  refine sJxc12de_init_da8c8_0 ?_
  unfold bJxc12de_init_da8c8_0
  refine ⟨by omega, ?_⟩
  refine Ec_of mo_Jxa1e45_init_da8c8.1 (Nat.le_of_ble_eq_true rfl) ?_
  refine sJxa1e45_init_da8c8_0 ?_
  unfold bJxa1e45_init_da8c8_0
  refine ⟨by omega, ?_⟩
  refine ku_of ?_
  refine fun g10 e10 => ?_
  have a10 : AGH XA g10 zc10 := by rw [e10]; exact a9.wI 0 2 0 0
  have f10 := (by rw [e10]; exact f9.wI rfl _ _ _ : Fr Y0 σ g10)
  clear e10 a9 f9
  refine ku_of ?_
  refine fun g11 e11 => ?_
  have a11 : AGH XA g11 zc11 := by rw [e11]; exact a10.wR 0 2 1 (some (510, 0))
  have f11 := (by rw [e11]; exact f10.wR rfl _ _ _ : Fr Y0 σ g11)
  clear e11 a10 f10
  refine ku_of ?_
  refine fun g12 e12 => ?_
  have a12 : AGH XA g12 zc12 := by rw [e12]; exact a11.wR 11 0 2 (some (0, 2))
  have f12 := (by rw [e12]; exact f11.wR rfl _ _ _ : Fr Y0 σ g12)
  clear e12 a11 f11
  refine ⟨by decide, ?_⟩
  refine ⟨by decide, ?_⟩
  rw [show hc g12 0 = 3 from (a12.c 0 rfl).trans (by decide +kernel)]
  refine fun g13 e13 => ?_
  have a13 : AGH XA g13 zc13 := by rw [e13]; exact a12.nwO 0
  have f13 := (by rw [e13]; exact f12.nwO rfl : Fr Y0 σ g13)
  clear e13 a12 f12
  refine ⟨by omega, ?_⟩
  refine Ec_of mo_Jx4a65c_init_da8c8.1 (Nat.le_of_ble_eq_true rfl) ?_
  refine sJx4a65c_init_da8c8_0 ?_
  unfold bJx4a65c_init_da8c8_0
  refine ⟨by omega, ?_⟩
  refine Ec_of mo_Jxc12de_init_da8c8.1 (Nat.le_of_ble_eq_true rfl) ?_
  refine sJxc12de_init_da8c8_0 ?_
  unfold bJxc12de_init_da8c8_0
  refine ⟨by omega, ?_⟩
  refine Ec_of mo_Jxa1e45_init_da8c8.1 (Nat.le_of_ble_eq_true rfl) ?_
  refine sJxa1e45_init_da8c8_0 ?_
  unfold bJxa1e45_init_da8c8_0
  refine ⟨by omega, ?_⟩
  refine ku_of ?_
  refine fun g14 e14 => ?_
  have a14 : AGH XA g14 zc14 := by rw [e14]; exact a13.wI 0 3 0 0
  have f14 := (by rw [e14]; exact f13.wI rfl _ _ _ : Fr Y0 σ g14)
  clear e14 a13 f13
  refine ku_of ?_
  refine fun g15 e15 => ?_
  have a15 : AGH XA g15 zc15 := by rw [e15]; exact a14.wR 0 3 1 (some (510, 0))
  have f15 := (by rw [e15]; exact f14.wR rfl _ _ _ : Fr Y0 σ g15)
  clear e15 a14 f14
  refine ku_of ?_
  refine fun g16 e16 => ?_
  have a16 : AGH XA g16 zc16 := by rw [e16]; exact a15.wR 11 0 3 (some (0, 3))
  have f16 := (by rw [e16]; exact f15.wR rfl _ _ _ : Fr Y0 σ g16)
  clear e16 a15 f15
  refine sX10_init_48 ?_
  unfold bX10_init_48
  refine ⟨by decide, ?_⟩
  refine ⟨by decide, ?_⟩
  rw [show hc g16 0 = 4 from (a16.c 0 rfl).trans (by decide +kernel)]
  refine fun g17 e17 => ?_
  have a17 : AGH XA g17 zc17 := by rw [e17]; exact a16.nwO 0
  have f17 := (by rw [e17]; exact f16.nwO rfl : Fr Y0 σ g17)
  clear e17 a16 f16
  refine ⟨by omega, ?_⟩
  refine Ec_of mo_Jx4a65c_init_da8c8.1 (Nat.le_of_ble_eq_true rfl) ?_
  refine sJx4a65c_init_da8c8_0 ?_
  unfold bJx4a65c_init_da8c8_0
  refine ⟨by omega, ?_⟩
  refine Ec_of mo_Jxc12de_init_da8c8.1 (Nat.le_of_ble_eq_true rfl) ?_
  refine sJxc12de_init_da8c8_0 ?_
  unfold bJxc12de_init_da8c8_0
  refine ⟨by omega, ?_⟩
  refine Ec_of mo_Jxa1e45_init_da8c8.1 (Nat.le_of_ble_eq_true rfl) ?_
  refine sJxa1e45_init_da8c8_0 ?_
  unfold bJxa1e45_init_da8c8_0
  refine ⟨by omega, ?_⟩
  refine ku_of ?_
  refine fun g18 e18 => ?_
  have a18 : AGH XA g18 zc18 := by rw [e18]; exact a17.wI 0 4 0 0
  have f18 := (by rw [e18]; exact f17.wI rfl _ _ _ : Fr Y0 σ g18)
  clear e18 a17 f17
  refine ku_of ?_
  refine fun g19 e19 => ?_
  have a19 : AGH XA g19 zc19 := by rw [e19]; exact a18.wR 0 4 1 (some (510, 0))
  have f19 := (by rw [e19]; exact f18.wR rfl _ _ _ : Fr Y0 σ g19)
  clear e19 a18 f18
  refine ku_of ?_
  refine fun g20 e20 => ?_
  have a20 : AGH XA g20 zc20 := by rw [e20]; exact a19.wR 11 0 4 (some (0, 4))
  have f20 := (by rw [e20]; exact f19.wR rfl _ _ _ : Fr Y0 σ g20)
  clear e20 a19 f19
  refine ⟨by decide, ?_⟩
  refine ⟨by decide, ?_⟩
  rw [show hc g20 0 = 5 from (a20.c 0 rfl).trans (by decide +kernel)]
  refine fun g21 e21 => ?_
  have a21 : AGH XA g21 zc21 := by rw [e21]; exact a20.nwO 0
  have f21 := (by rw [e21]; exact f20.nwO rfl : Fr Y0 σ g21)
  clear e21 a20 f20
  refine ⟨by omega, ?_⟩
  refine Ec_of mo_Jx4a65c_init_da8c8.1 (Nat.le_of_ble_eq_true rfl) ?_
  refine sJx4a65c_init_da8c8_0 ?_
  unfold bJx4a65c_init_da8c8_0
  refine ⟨by omega, ?_⟩
  refine Ec_of mo_Jxc12de_init_da8c8.1 (Nat.le_of_ble_eq_true rfl) ?_
  refine sJxc12de_init_da8c8_0 ?_
  unfold bJxc12de_init_da8c8_0
  refine ⟨by omega, ?_⟩
  refine Ec_of mo_Jxa1e45_init_da8c8.1 (Nat.le_of_ble_eq_true rfl) ?_
  refine sJxa1e45_init_da8c8_0 ?_
  unfold bJxa1e45_init_da8c8_0
  refine ⟨by omega, ?_⟩
  refine ku_of ?_
  refine fun g22 e22 => ?_
  have a22 : AGH XA g22 zc22 := by rw [e22]; exact a21.wI 0 5 0 0
  have f22 := (by rw [e22]; exact f21.wI rfl _ _ _ : Fr Y0 σ g22)
  clear e22 a21 f21
  refine ku_of ?_
  refine fun g23 e23 => ?_
  have a23 : AGH XA g23 zc23 := by rw [e23]; exact a22.wR 0 5 1 (some (510, 0))
  have f23 := (by rw [e23]; exact f22.wR rfl _ _ _ : Fr Y0 σ g23)
  clear e23 a22 f22
  refine ku_of ?_
  refine fun g24 e24 => ?_
  have a24 : AGH XA g24 zc24 := by rw [e24]; exact a23.wR 11 0 5 (some (0, 5))
  have f24 := (by rw [e24]; exact f23.wR rfl _ _ _ : Fr Y0 σ g24)
  clear e24 a23 f23
  refine sX10_init_70 ?_
  unfold bX10_init_70
  rw [show (6 : Int32).toNatClampNeg = 6 from by decide]
  rw [show (5 : Int32).toNatClampNeg = 5 from by decide]
  refine ⟨by decide, ?_⟩
  refine ⟨by decide, ?_⟩
  refine ⟨by decide, ?_⟩
  refine ⟨by decide, ?_⟩
  rw [show hc g24 400 = 0 from (a24.c 400 rfl).trans (by decide +kernel)]
  refine fun g25 e25 => ?_
  have a25 : AGH XA g25 zc25 := by rw [e25]; exact a24.nwA 400 6
  have f25 := (by rw [e25]; exact f24.nwA rfl _ : Fr Y0 σ g25)
  clear e25 a24 f24
  refine fun g26 e26 => ?_
  have a26 : AGH XA g26 zc26 := by rw [e26]; exact a25.wR 11 0 6 (some (400, 0))
  have f26 := (by rw [e26]; exact f25.wR rfl _ _ _ : Fr Y0 σ g26)
  clear e26 a25 f25
  refine ⟨by decide, ?_⟩
  refine ⟨by decide, ?_⟩
  refine ⟨by decide, ?_⟩
  refine ⟨by decide, ?_⟩
  rw [show hc g26 115 = 0 from (a26.c 115 rfl).trans (by decide +kernel)]
  refine fun g27 e27 => ?_
  have a27 : AGH XA g27 zc27 := by rw [e27]; exact a26.nwA 115 5
  have f27 := (by rw [e27]; exact f26.nwA rfl _ : Fr Y0 σ g27)
  clear e27 a26 f26
  refine fun g28 e28 => ?_
  have a28 : AGH XA g28 zc28 := by rw [e28]; exact a27.wR 11 0 7 (some (115, 0))
  have f28 := (by rw [e28]; exact f27.wR rfl _ _ _ : Fr Y0 σ g28)
  clear e28 a27 f27
  refine ⟨by decide, ?_⟩
  refine ⟨by decide, ?_⟩
  rw [show hc g28 7 = 0 from (a28.c 7 rfl).trans (by decide +kernel)]
  refine fun g29 e29 => ?_
  have a29 : AGH XA g29 zc29 := by rw [e29]; exact a28.nwO 7
  have f29 := (by rw [e29]; exact f28.nwO rfl : Fr Y0 σ g29)
  clear e29 a28 f28
  refine ⟨by omega, ?_⟩
  refine ⟨by decide, ?_⟩
  refine ⟨by decide, ?_⟩
  refine Ec_of mo_X6_init.1 (Nat.le_of_ble_eq_true rfl) ?_
  refine sX6_init_0 ?_
  unfold bX6_init_0
  rw [show (140 : Int32).toNatClampNeg = 140 from by decide]
  refine ⟨by omega, ?_⟩
  refine ⟨by decide, ?_⟩
  refine ⟨by decide, ?_⟩
  refine ⟨by decide, ?_⟩
  refine ⟨by decide, ?_⟩
  rw [show hc g29 200 = 0 from (a29.c 200 rfl).trans (by decide +kernel)]
  refine fun g30 e30 => ?_
  have a30 : AGH XA g30 zc30 := by rw [e30]; exact a29.nwA 200 140
  have f30 := (by rw [e30]; exact f29.nwA rfl _ : Fr Y0 σ g30)
  clear e30 a29 f29
  refine fun g31 e31 => ?_
  have a31 : AGH XA g31 zc31 := by rw [e31]; exact a30.wR 7 0 0 (some (200, 0))
  have f31 := (by rw [e31]; exact f30.wR rfl _ _ _ : Fr Y0 σ g31)
  clear e31 a30 f30
  refine fun g32 e32 => ?_
  have a32 : AGH XA g32 zc32 := by rw [e32]; exact a31.wI 7 0 1 0
  have f32 := (by rw [e32]; exact f31.wI rfl _ _ _ : Fr Y0 σ g32)
  clear e32 a31 f31
  refine fun g33 e33 => ?_
  have a33 : AGH XA g33 zc33 := by rw [e33]; exact a32.wI 7 0 2 0
  have f33 := (by rw [e33]; exact f32.wI rfl _ _ _ : Fr Y0 σ g33)
  clear e33 a32 f32
  refine ku_of ?_
  refine fun g34 e34 => ?_
  have a34 : AGH XA g34 zc34 := by rw [e34]; exact a33.wR 11 0 8 (some (7, 0))
  have f34 := (by rw [e34]; exact f33.wR rfl _ _ _ : Fr Y0 σ g34)
  clear e34 a33 f33
  refine sX10_init_97 ?_
  unfold bX10_init_97
  refine ⟨by decide, ?_⟩
  refine ⟨by decide, ?_⟩
  rw [show hc g34 6 = 0 from (a34.c 6 rfl).trans (by decide +kernel)]
  refine fun g35 e35 => ?_
  have a35 : AGH XA g35 zc35 := by rw [e35]; exact a34.nwO 6
  have f35 := (by rw [e35]; exact f34.nwO rfl : Fr Y0 σ g35)
  clear e35 a34 f34
  refine ⟨by omega, ?_⟩
  refine ⟨by decide, ?_⟩
  refine ⟨by decide, ?_⟩
  refine sp_X5_init (t := 0) (n := 0) (num := -1) (h := -1) (dd := 0) (by omega) (by omega) ((a35.c 103 rfl).trans (by decide +kernel)) ((a35.c 104 rfl).trans (by decide +kernel)) ((a35.c 105 rfl).trans (by decide +kernel)) fun g36 hF hT q6 q103 q104 q105 i0 i1 i2 hR => ku_of ?_
  replace q6 := q6.trans ((a35.c 6 rfl).trans (show hc zc35 6 = 1 by decide +kernel))
  have a36 : AGH XB g36 zc35 := a35.fr hF (fun s hs => XB_X hs)
  have ff : Fr Y0 σ g36 := f35.trans (hF.sub (fun s hs => Y0_6 hs))
  have f36 : Fr YB g36 g36 := Fr.rf _ _
  refine fun g37 e37 => ?_
  have a37 : AGH XB g37 zc36 := by rw [e37]; exact a36.wR 11 0 9 (some (6, 0))
  have f37 := (by rw [e37]; exact f36.wR rfl _ _ _ : Fr YB g36 g37)
  clear e37 a36 f36
  refine ⟨by decide, ?_⟩
  refine ⟨by decide, ?_⟩
  rw [show hc g37 9 = 0 from (a37.c 9 rfl).trans (by decide +kernel)]
  refine fun g38 e38 => ?_
  have a38 : AGH XB g38 zc37 := by rw [e38]; exact a37.nwO 9
  have f38 := (by rw [e38]; exact f37.nwO rfl : Fr YB g36 g38)
  clear e38 a37 f37
  refine ⟨by omega, ?_⟩
  refine ⟨by decide, ?_⟩
  refine ⟨by decide, ?_⟩
  refine Ec_of mo_X8_init.1 (Nat.le_of_ble_eq_true rfl) ?_
  refine sX8_init_0 ?_
  unfold bX8_init_0
  rw [show (90 : Int32).toNatClampNeg = 90 from by decide]
  refine ⟨by omega, ?_⟩
  refine ⟨by decide, ?_⟩
  refine ⟨by decide, ?_⟩
  refine ⟨by decide, ?_⟩
  refine ⟨by decide, ?_⟩
  rw [show hc g38 107 = 0 from (a38.c 107 rfl).trans (by decide +kernel)]
  refine fun g39 e39 => ?_
  have a39 : AGH XB g39 zc38 := by rw [e39]; exact a38.nwA 107 90
  have f39 := (by rw [e39]; exact f38.nwA rfl _ : Fr YB g36 g39)
  clear e39 a38 f38
  refine fun g40 e40 => ?_
  have a40 : AGH XB g40 zc39 := by rw [e40]; exact a39.wR 9 0 0 (some (107, 0))
  have f40 := (by rw [e40]; exact f39.wR rfl _ _ _ : Fr YB g36 g40)
  clear e40 a39 f39
  refine ⟨by decide, ?_⟩
  refine ⟨by decide, ?_⟩
  refine ⟨by decide, ?_⟩
  refine ⟨by decide, ?_⟩
  rw [show hc g40 108 = 0 from (a40.c 108 rfl).trans (by decide +kernel)]
  refine fun g41 e41 => ?_
  have a41 : AGH XB g41 zc40 := by rw [e41]; exact a40.nwA 108 90
  have f41 := (by rw [e41]; exact f40.nwA rfl _ : Fr YB g36 g41)
  clear e41 a40 f40
  refine fun g42 e42 => ?_
  have a42 : AGH XB g42 zc41 := by rw [e42]; exact a41.wR 9 0 1 (some (108, 0))
  have f42 := (by rw [e42]; exact f41.wR rfl _ _ _ : Fr YB g36 g42)
  clear e42 a41 f41
  refine ⟨by decide, ?_⟩
  refine ⟨by decide, ?_⟩
  refine ⟨by decide, ?_⟩
  refine ⟨by decide, ?_⟩
  rw [show hc g42 109 = 0 from (a42.c 109 rfl).trans (by decide +kernel)]
  refine fun g43 e43 => ?_
  have a43 : AGH XB g43 zc42 := by rw [e43]; exact a42.nwA 109 90
  have f43 := (by rw [e43]; exact f42.nwA rfl _ : Fr YB g36 g43)
  clear e43 a42 f42
  refine fun g44 e44 => ?_
  have a44 : AGH XB g44 zc43 := by rw [e44]; exact a43.wR 9 0 2 (some (109, 0))
  have f44 := (by rw [e44]; exact f43.wR rfl _ _ _ : Fr YB g36 g44)
  clear e44 a43 f43
  refine ⟨by decide, ?_⟩
  refine ⟨by decide, ?_⟩
  refine ⟨by decide, ?_⟩
  refine ⟨by decide, ?_⟩
  rw [show hc g44 110 = 0 from (a44.c 110 rfl).trans (by decide +kernel)]
  refine fun g45 e45 => ?_
  have a45 : AGH XB g45 zc44 := by rw [e45]; exact a44.nwA 110 90
  have f45 := (by rw [e45]; exact f44.nwA rfl _ : Fr YB g36 g45)
  clear e45 a44 f44
  refine fun g46 e46 => ?_
  have a46 : AGH XB g46 zc45 := by rw [e46]; exact a45.wR 9 0 3 (some (110, 0))
  have f46 := (by rw [e46]; exact f45.wR rfl _ _ _ : Fr YB g36 g46)
  clear e46 a45 f45
  refine sX8_init_36 ?_
  unfold bX8_init_36
  rw [show (90 : Int32).toNatClampNeg = 90 from by decide]
  rw [show (11 : Int32).toNatClampNeg = 11 from by decide]
  rw [show (17 : Int32).toNatClampNeg = 17 from by decide]
  refine ⟨by decide, ?_⟩
  refine ⟨by decide, ?_⟩
  refine ⟨by decide, ?_⟩
  refine ⟨by decide, ?_⟩
  rw [show hc g46 111 = 0 from (a46.c 111 rfl).trans (by decide +kernel)]
  refine fun g47 e47 => ?_
  have a47 : AGH XB g47 zc46 := by rw [e47]; exact a46.nwA 111 90
  have f47 := (by rw [e47]; exact f46.nwA rfl _ : Fr YB g36 g47)
  clear e47 a46 f46
  refine fun g48 e48 => ?_
  have a48 : AGH XB g48 zc47 := by rw [e48]; exact a47.wR 9 0 4 (some (111, 0))
  have f48 := (by rw [e48]; exact f47.wR rfl _ _ _ : Fr YB g36 g48)
  clear e48 a47 f47
  refine ⟨by decide, ?_⟩
  refine ⟨by decide, ?_⟩
  refine ⟨by decide, ?_⟩
  refine ⟨by decide, ?_⟩
  rw [show hc g48 112 = 0 from (a48.c 112 rfl).trans (by decide +kernel)]
  refine fun g49 e49 => ?_
  have a49 : AGH XB g49 zc48 := by rw [e49]; exact a48.nwA 112 11
  have f49 := (by rw [e49]; exact f48.nwA rfl _ : Fr YB g36 g49)
  clear e49 a48 f48
  refine fun g50 e50 => ?_
  have a50 : AGH XB g50 zc49 := by rw [e50]; exact a49.wR 9 0 5 (some (112, 0))
  have f50 := (by rw [e50]; exact f49.wR rfl _ _ _ : Fr YB g36 g50)
  clear e50 a49 f49
  refine ⟨by decide, ?_⟩
  refine ⟨by decide, ?_⟩
  refine ⟨by decide, ?_⟩
  refine ⟨by decide, ?_⟩
  rw [show hc g50 113 = 0 from (a50.c 113 rfl).trans (by decide +kernel)]
  refine fun g51 e51 => ?_
  have a51 : AGH XB g51 zc50 := by rw [e51]; exact a50.nwA 113 17
  have f51 := (by rw [e51]; exact f50.nwA rfl _ : Fr YB g36 g51)
  clear e51 a50 f50
  refine fun g52 e52 => ?_
  have a52 : AGH XB g52 zc51 := by rw [e52]; exact a51.wR 9 0 6 (some (113, 0))
  have f52 := (by rw [e52]; exact f51.wR rfl _ _ _ : Fr YB g36 g52)
  clear e52 a51 f51
  refine fun g53 e53 => ?_
  have a53 : AGH XB g53 zc52 := by rw [e53]; exact a52.wI 9 0 7 0
  have f53 := (by rw [e53]; exact f52.wI rfl _ _ _ : Fr YB g36 g53)
  clear e53 a52 f52
  refine fun g54 e54 => ?_
  have a54 : AGH XB g54 zc53 := by rw [e54]; exact a53.wL 9 0 8 0
  have f54 := (by rw [e54]; exact f53.wL rfl _ _ _ : Fr YB g36 g54)
  clear e54 a53 f53
  refine sX8_init_70 ?_
  unfold bX8_init_70
  refine fun g55 e55 => ?_
  have a55 : AGH XB g55 zc54 := by rw [e55]; exact a54.wL 9 0 9 0
  have f55 := (by rw [e55]; exact f54.wL rfl _ _ _ : Fr YB g36 g55)
  clear e55 a54 f54
  refine ku_of ?_
  refine fun g56 e56 => ?_
  have a56 : AGH XB g56 zc55 := by rw [e56]; exact a55.wR 11 0 10 (some (9, 0))
  have f56 := (by rw [e56]; exact f55.wR rfl _ _ _ : Fr YB g36 g56)
  clear e56 a55 f55
  refine sX10_init_123 ?_
  unfold bX10_init_123
  refine ⟨by decide, ?_⟩
  refine ⟨by decide, ?_⟩
  rw [show hc g56 1 = 0 from (a56.c 1 rfl).trans (by decide +kernel)]
  refine fun g57 e57 => ?_
  have a57 : AGH XB g57 zc56 := by rw [e57]; exact a56.nwO 1
  have f57 := (by rw [e57]; exact f56.nwO rfl : Fr YB g36 g57)
  clear e57 a56 f56
  refine ⟨by omega, ?_⟩
  refine ⟨by decide, ?_⟩
  refine ⟨by decide, ?_⟩
  refine Ec_of mo_X0_init.1 (Nat.le_of_ble_eq_true rfl) ?_
  refine sX0_init_0 ?_
  unfold bX0_init_0
  rw [show (20 : Int32).toNatClampNeg = 20 from by decide]
  refine ⟨by omega, ?_⟩
  refine ⟨by decide, ?_⟩
  refine ⟨by decide, ?_⟩
  refine ⟨by decide, ?_⟩
  refine ⟨by decide, ?_⟩
  rw [show hc g57 100 = 0 from (a57.c 100 rfl).trans (by decide +kernel)]
  refine fun g58 e58 => ?_
  have a58 : AGH XB g58 zc57 := by rw [e58]; exact a57.nwA 100 20
  have f58 := (by rw [e58]; exact f57.nwA rfl _ : Fr YB g36 g58)
  clear e58 a57 f57
  refine fun g59 e59 => ?_
  have a59 : AGH XB g59 zc58 := by rw [e59]; exact a58.wR 1 0 0 (some (100, 0))
  have f59 := (by rw [e59]; exact f58.wR rfl _ _ _ : Fr YB g36 g59)
  clear e59 a58 f58
  refine fun g60 e60 => ?_
  have a60 : AGH XB g60 zc59 := by rw [e60]; exact a59.wI 1 0 1 0
  have f60 := (by rw [e60]; exact f59.wI rfl _ _ _ : Fr YB g36 g60)
  clear e60 a59 f59
  refine fun g61 e61 => ?_
  have a61 : AGH XB g61 zc60 := by rw [e61]; exact a60.wI 1 0 2 0
  have f61 := (by rw [e61]; exact f60.wI rfl _ _ _ : Fr YB g36 g61)
  clear e61 a60 f60
  refine fun g62 e62 => ?_
  have a62 : AGH XB g62 zc61 := by rw [e62]; exact a61.wI 1 0 3 0
  have f62 := (by rw [e62]; exact f61.wI rfl _ _ _ : Fr YB g36 g62)
  clear e62 a61 f61
  refine fun g63 e63 => ?_
  have a63 : AGH XB g63 zc62 := by rw [e63]; exact a62.wI 1 0 4 0
  have f63 := (by rw [e63]; exact f62.wI rfl _ _ _ : Fr YB g36 g63)
  clear e63 a62 f62
  refine ku_of ?_
  refine fun g64 e64 => ?_
  have a64 : AGH XB g64 zc63 := by rw [e64]; exact a63.wR 11 0 11 (some (1, 0))
  have f64 := (by rw [e64]; exact f63.wR rfl _ _ _ : Fr YB g36 g64)
  clear e64 a63 f63
  refine fun g65 e65 => ?_
  have a65 : AGH XB g65 zc64 := by rw [e65]; exact a64.wI 11 0 12 0
  have f65 := (by rw [e65]; exact f64.wI rfl _ _ _ : Fr YB g36 g65)
  clear e65 a64 f64
  refine fun g66 e66 => ?_
  have a66 : AGH XB g66 zc65 := by rw [e66]; exact a65.wI 11 0 13 0
  have f66 := (by rw [e66]; exact f65.wI rfl _ _ _ : Fr YB g36 g66)
  clear e66 a65 f65
  refine fun g67 e67 => ?_
  have a67 : AGH XB g67 zc66 := by rw [e67]; exact a66.wI 11 0 14 (-3)
  have f67 := (by rw [e67]; exact f66.wI rfl _ _ _ : Fr YB g36 g67)
  clear e67 a66 f66
  refine sX10_init_152 ?_
  unfold bX10_init_152
  refine ⟨(congrFun (congrFun (a67.r 11 rfl) 0) 6).trans (by decide +kernel), ?_⟩
  rw [show hn g67 400 0 = 6 from (a67.n 400 0 rfl (by decide +kernel)).trans (by decide +kernel)]
  refine ⟨fun _ => ?_, fun y => absurd (by decide) y⟩
  rw [show (0 : Int32).toNatClampNeg = 0 from by decide]
  refine ⟨(congrFun (congrFun (a67.r 11 rfl) 0) 6).trans (by decide +kernel), ?_⟩
  refine ⟨by decide, ?_⟩
  refine ⟨by decide, ?_⟩
  rw [show hc g67 10 = 0 from (a67.c 10 rfl).trans (by decide +kernel)]
  refine fun g68 e68 => ?_
  have a68 : AGH XB g68 zc67 := by rw [e68]; exact a67.nwO 10
  have f68 := (by rw [e68]; exact f67.nwO rfl : Fr YB g36 g68)
  clear e68 a67 f67
  refine ⟨by omega, ?_⟩
  refine ⟨by decide, ?_⟩
  refine ⟨by decide, ?_⟩
  refine Ec_of mo_X9_init.1 (Nat.le_of_ble_eq_true rfl) ?_
  refine sX9_init_0 ?_
  unfold bX9_init_0
  rw [show (60 : Int32).toNatClampNeg = 60 from by decide]
  refine ⟨by omega, ?_⟩
  refine ⟨by decide, ?_⟩
  refine ⟨by decide, ?_⟩
  refine ⟨by decide, ?_⟩
  refine ⟨by decide, ?_⟩
  rw [show hc g68 114 = 0 from (a68.c 114 rfl).trans (by decide +kernel)]
  refine fun g69 e69 => ?_
  have a69 : AGH XB g69 zc68 := by rw [e69]; exact a68.nwA 114 60
  have f69 := (by rw [e69]; exact f68.nwA rfl _ : Fr YB g36 g69)
  clear e69 a68 f68
  refine fun g70 e70 => ?_
  have a70 : AGH XB g70 zc69 := by rw [e70]; exact a69.wR 10 0 0 (some (114, 0))
  have f70 := (by rw [e70]; exact f69.wR rfl _ _ _ : Fr YB g36 g70)
  clear e70 a69 f69
  refine fun g71 e71 => ?_
  have a71 : AGH XB g71 zc70 := by rw [e71]; exact a70.wI 10 0 1 (-1)
  have f71 := (by rw [e71]; exact f70.wI rfl _ _ _ : Fr YB g36 g71)
  clear e71 a70 f70
  refine fun g72 e72 => ?_
  have a72 : AGH XB g72 zc71 := by rw [e72]; exact a71.wI 10 0 2 0
  have f72 := (by rw [e72]; exact f71.wI rfl _ _ _ : Fr YB g36 g72)
  clear e72 a71 f71
  refine ku_of ?_
  refine ⟨by rw [show hn g72 400 0 = _ from a72.n 400 0 rfl (by decide +kernel)]; unfold vp_in; decide +kernel, ?_⟩
  refine fun g73 e73 => ?_
  have a73 : AGH XB g73 zc72 := by rw [e73]; exact a72.wR 400 0 0 (some (10, 0))
  have f73 := (by rw [e73]; exact f72.wR rfl _ _ _ : Fr YB g36 g73)
  clear e73 a72 f72
  rw [show (0 : Int32) + 1 = 1 from by decide]
  refine sX10_init_152 ?_
  unfold bX10_init_152
  refine ⟨(congrFun (congrFun (a73.r 11 rfl) 0) 6).trans (by decide +kernel), ?_⟩
  rw [show hn g73 400 0 = 6 from (a73.n 400 0 rfl (by decide +kernel)).trans (by decide +kernel)]
  refine ⟨fun _ => ?_, fun y => absurd (by decide) y⟩
  rw [show (1 : Int32).toNatClampNeg = 1 from by decide]
  refine ⟨(congrFun (congrFun (a73.r 11 rfl) 0) 6).trans (by decide +kernel), ?_⟩
  refine ⟨by decide, ?_⟩
  refine ⟨by decide, ?_⟩
  rw [show hc g73 10 = 1 from (a73.c 10 rfl).trans (by decide +kernel)]
  refine fun g74 e74 => ?_
  have a74 : AGH XB g74 zc73 := by rw [e74]; exact a73.nwO 10
  have f74 := (by rw [e74]; exact f73.nwO rfl : Fr YB g36 g74)
  clear e74 a73 f73
  refine ⟨by omega, ?_⟩
  refine ⟨by decide, ?_⟩
  refine ⟨by decide, ?_⟩
  refine Ec_of mo_X9_init.1 (Nat.le_of_ble_eq_true rfl) ?_
  refine sX9_init_0 ?_
  unfold bX9_init_0
  rw [show (60 : Int32).toNatClampNeg = 60 from by decide]
  refine ⟨by omega, ?_⟩
  refine ⟨by decide, ?_⟩
  refine ⟨by decide, ?_⟩
  refine ⟨by decide, ?_⟩
  refine ⟨by decide, ?_⟩
  rw [show hc g74 114 = 1 from (a74.c 114 rfl).trans (by decide +kernel)]
  refine fun g75 e75 => ?_
  have a75 : AGH XB g75 zc74 := by rw [e75]; exact a74.nwA 114 60
  have f75 := (by rw [e75]; exact f74.nwA rfl _ : Fr YB g36 g75)
  clear e75 a74 f74
  refine fun g76 e76 => ?_
  have a76 : AGH XB g76 zc75 := by rw [e76]; exact a75.wR 10 1 0 (some (114, 1))
  have f76 := (by rw [e76]; exact f75.wR rfl _ _ _ : Fr YB g36 g76)
  clear e76 a75 f75
  refine fun g77 e77 => ?_
  have a77 : AGH XB g77 zc76 := by rw [e77]; exact a76.wI 10 1 1 (-1)
  have f77 := (by rw [e77]; exact f76.wI rfl _ _ _ : Fr YB g36 g77)
  clear e77 a76 f76
  refine fun g78 e78 => ?_
  have a78 : AGH XB g78 zc77 := by rw [e78]; exact a77.wI 10 1 2 0
  have f78 := (by rw [e78]; exact f77.wI rfl _ _ _ : Fr YB g36 g78)
  clear e78 a77 f77
  refine ku_of ?_
  refine ⟨by rw [show hn g78 400 0 = _ from a78.n 400 0 rfl (by decide +kernel)]; unfold vp_in; decide +kernel, ?_⟩
  refine fun g79 e79 => ?_
  have a79 : AGH XB g79 zc78 := by rw [e79]; exact a78.wR 400 0 1 (some (10, 1))
  have f79 := (by rw [e79]; exact f78.wR rfl _ _ _ : Fr YB g36 g79)
  clear e79 a78 f78
  rw [show (1 : Int32) + 1 = 2 from by decide]
  refine sX10_init_152 ?_
  unfold bX10_init_152
  refine ⟨(congrFun (congrFun (a79.r 11 rfl) 0) 6).trans (by decide +kernel), ?_⟩
  rw [show hn g79 400 0 = 6 from (a79.n 400 0 rfl (by decide +kernel)).trans (by decide +kernel)]
  refine ⟨fun _ => ?_, fun y => absurd (by decide) y⟩
  rw [show (2 : Int32).toNatClampNeg = 2 from by decide]
  refine ⟨(congrFun (congrFun (a79.r 11 rfl) 0) 6).trans (by decide +kernel), ?_⟩
  refine ⟨by decide, ?_⟩
  refine ⟨by decide, ?_⟩
  rw [show hc g79 10 = 2 from (a79.c 10 rfl).trans (by decide +kernel)]
  refine fun g80 e80 => ?_
  have a80 : AGH XB g80 zc79 := by rw [e80]; exact a79.nwO 10
  have f80 := (by rw [e80]; exact f79.nwO rfl : Fr YB g36 g80)
  clear e80 a79 f79
  refine ⟨by omega, ?_⟩
  refine ⟨by decide, ?_⟩
  refine ⟨by decide, ?_⟩
  refine Ec_of mo_X9_init.1 (Nat.le_of_ble_eq_true rfl) ?_
  refine sX9_init_0 ?_
  unfold bX9_init_0
  rw [show (60 : Int32).toNatClampNeg = 60 from by decide]
  refine ⟨by omega, ?_⟩
  refine ⟨by decide, ?_⟩
  refine ⟨by decide, ?_⟩
  refine ⟨by decide, ?_⟩
  refine ⟨by decide, ?_⟩
  rw [show hc g80 114 = 2 from (a80.c 114 rfl).trans (by decide +kernel)]
  refine fun g81 e81 => ?_
  have a81 : AGH XB g81 zc80 := by rw [e81]; exact a80.nwA 114 60
  have f81 := (by rw [e81]; exact f80.nwA rfl _ : Fr YB g36 g81)
  clear e81 a80 f80
  refine fun g82 e82 => ?_
  have a82 : AGH XB g82 zc81 := by rw [e82]; exact a81.wR 10 2 0 (some (114, 2))
  have f82 := (by rw [e82]; exact f81.wR rfl _ _ _ : Fr YB g36 g82)
  clear e82 a81 f81
  refine fun g83 e83 => ?_
  have a83 : AGH XB g83 zc82 := by rw [e83]; exact a82.wI 10 2 1 (-1)
  have f83 := (by rw [e83]; exact f82.wI rfl _ _ _ : Fr YB g36 g83)
  clear e83 a82 f82
  refine fun g84 e84 => ?_
  have a84 : AGH XB g84 zc83 := by rw [e84]; exact a83.wI 10 2 2 0
  have f84 := (by rw [e84]; exact f83.wI rfl _ _ _ : Fr YB g36 g84)
  clear e84 a83 f83
  refine ku_of ?_
  refine ⟨by rw [show hn g84 400 0 = _ from a84.n 400 0 rfl (by decide +kernel)]; unfold vp_in; decide +kernel, ?_⟩
  refine fun g85 e85 => ?_
  have a85 : AGH XB g85 zc84 := by rw [e85]; exact a84.wR 400 0 2 (some (10, 2))
  have f85 := (by rw [e85]; exact f84.wR rfl _ _ _ : Fr YB g36 g85)
  clear e85 a84 f84
  rw [show (2 : Int32) + 1 = 3 from by decide]
  refine sX10_init_152 ?_
  unfold bX10_init_152
  refine ⟨(congrFun (congrFun (a85.r 11 rfl) 0) 6).trans (by decide +kernel), ?_⟩
  rw [show hn g85 400 0 = 6 from (a85.n 400 0 rfl (by decide +kernel)).trans (by decide +kernel)]
  refine ⟨fun _ => ?_, fun y => absurd (by decide) y⟩
  rw [show (3 : Int32).toNatClampNeg = 3 from by decide]
  refine ⟨(congrFun (congrFun (a85.r 11 rfl) 0) 6).trans (by decide +kernel), ?_⟩
  refine ⟨by decide, ?_⟩
  refine ⟨by decide, ?_⟩
  rw [show hc g85 10 = 3 from (a85.c 10 rfl).trans (by decide +kernel)]
  refine fun g86 e86 => ?_
  have a86 : AGH XB g86 zc85 := by rw [e86]; exact a85.nwO 10
  have f86 := (by rw [e86]; exact f85.nwO rfl : Fr YB g36 g86)
  clear e86 a85 f85
  refine ⟨by omega, ?_⟩
  refine ⟨by decide, ?_⟩
  refine ⟨by decide, ?_⟩
  refine Ec_of mo_X9_init.1 (Nat.le_of_ble_eq_true rfl) ?_
  refine sX9_init_0 ?_
  unfold bX9_init_0
  rw [show (60 : Int32).toNatClampNeg = 60 from by decide]
  refine ⟨by omega, ?_⟩
  refine ⟨by decide, ?_⟩
  refine ⟨by decide, ?_⟩
  refine ⟨by decide, ?_⟩
  refine ⟨by decide, ?_⟩
  rw [show hc g86 114 = 3 from (a86.c 114 rfl).trans (by decide +kernel)]
  refine fun g87 e87 => ?_
  have a87 : AGH XB g87 zc86 := by rw [e87]; exact a86.nwA 114 60
  have f87 := (by rw [e87]; exact f86.nwA rfl _ : Fr YB g36 g87)
  clear e87 a86 f86
  refine fun g88 e88 => ?_
  have a88 : AGH XB g88 zc87 := by rw [e88]; exact a87.wR 10 3 0 (some (114, 3))
  have f88 := (by rw [e88]; exact f87.wR rfl _ _ _ : Fr YB g36 g88)
  clear e88 a87 f87
  refine fun g89 e89 => ?_
  have a89 : AGH XB g89 zc88 := by rw [e89]; exact a88.wI 10 3 1 (-1)
  have f89 := (by rw [e89]; exact f88.wI rfl _ _ _ : Fr YB g36 g89)
  clear e89 a88 f88
  refine fun g90 e90 => ?_
  have a90 : AGH XB g90 zc89 := by rw [e90]; exact a89.wI 10 3 2 0
  have f90 := (by rw [e90]; exact f89.wI rfl _ _ _ : Fr YB g36 g90)
  clear e90 a89 f89
  refine ku_of ?_
  refine ⟨by rw [show hn g90 400 0 = _ from a90.n 400 0 rfl (by decide +kernel)]; unfold vp_in; decide +kernel, ?_⟩
  refine fun g91 e91 => ?_
  have a91 : AGH XB g91 zc90 := by rw [e91]; exact a90.wR 400 0 3 (some (10, 3))
  have f91 := (by rw [e91]; exact f90.wR rfl _ _ _ : Fr YB g36 g91)
  clear e91 a90 f90
  rw [show (3 : Int32) + 1 = 4 from by decide]
  refine sX10_init_152 ?_
  unfold bX10_init_152
  refine ⟨(congrFun (congrFun (a91.r 11 rfl) 0) 6).trans (by decide +kernel), ?_⟩
  rw [show hn g91 400 0 = 6 from (a91.n 400 0 rfl (by decide +kernel)).trans (by decide +kernel)]
  refine ⟨fun _ => ?_, fun y => absurd (by decide) y⟩
  rw [show (4 : Int32).toNatClampNeg = 4 from by decide]
  refine ⟨(congrFun (congrFun (a91.r 11 rfl) 0) 6).trans (by decide +kernel), ?_⟩
  refine ⟨by decide, ?_⟩
  refine ⟨by decide, ?_⟩
  rw [show hc g91 10 = 4 from (a91.c 10 rfl).trans (by decide +kernel)]
  refine fun g92 e92 => ?_
  have a92 : AGH XB g92 zc91 := by rw [e92]; exact a91.nwO 10
  have f92 := (by rw [e92]; exact f91.nwO rfl : Fr YB g36 g92)
  clear e92 a91 f91
  refine ⟨by omega, ?_⟩
  refine ⟨by decide, ?_⟩
  refine ⟨by decide, ?_⟩
  refine Ec_of mo_X9_init.1 (Nat.le_of_ble_eq_true rfl) ?_
  refine sX9_init_0 ?_
  unfold bX9_init_0
  rw [show (60 : Int32).toNatClampNeg = 60 from by decide]
  refine ⟨by omega, ?_⟩
  refine ⟨by decide, ?_⟩
  refine ⟨by decide, ?_⟩
  refine ⟨by decide, ?_⟩
  refine ⟨by decide, ?_⟩
  rw [show hc g92 114 = 4 from (a92.c 114 rfl).trans (by decide +kernel)]
  refine fun g93 e93 => ?_
  have a93 : AGH XB g93 zc92 := by rw [e93]; exact a92.nwA 114 60
  have f93 := (by rw [e93]; exact f92.nwA rfl _ : Fr YB g36 g93)
  clear e93 a92 f92
  refine fun g94 e94 => ?_
  have a94 : AGH XB g94 zc93 := by rw [e94]; exact a93.wR 10 4 0 (some (114, 4))
  have f94 := (by rw [e94]; exact f93.wR rfl _ _ _ : Fr YB g36 g94)
  clear e94 a93 f93
  refine fun g95 e95 => ?_
  have a95 : AGH XB g95 zc94 := by rw [e95]; exact a94.wI 10 4 1 (-1)
  have f95 := (by rw [e95]; exact f94.wI rfl _ _ _ : Fr YB g36 g95)
  clear e95 a94 f94
  refine fun g96 e96 => ?_
  have a96 : AGH XB g96 zc95 := by rw [e96]; exact a95.wI 10 4 2 0
  have f96 := (by rw [e96]; exact f95.wI rfl _ _ _ : Fr YB g36 g96)
  clear e96 a95 f95
  refine ku_of ?_
  refine ⟨by rw [show hn g96 400 0 = _ from a96.n 400 0 rfl (by decide +kernel)]; unfold vp_in; decide +kernel, ?_⟩
  refine fun g97 e97 => ?_
  have a97 : AGH XB g97 zc96 := by rw [e97]; exact a96.wR 400 0 4 (some (10, 4))
  have f97 := (by rw [e97]; exact f96.wR rfl _ _ _ : Fr YB g36 g97)
  clear e97 a96 f96
  rw [show (4 : Int32) + 1 = 5 from by decide]
  refine sX10_init_152 ?_
  unfold bX10_init_152
  refine ⟨(congrFun (congrFun (a97.r 11 rfl) 0) 6).trans (by decide +kernel), ?_⟩
  rw [show hn g97 400 0 = 6 from (a97.n 400 0 rfl (by decide +kernel)).trans (by decide +kernel)]
  refine ⟨fun _ => ?_, fun y => absurd (by decide) y⟩
  rw [show (5 : Int32).toNatClampNeg = 5 from by decide]
  refine ⟨(congrFun (congrFun (a97.r 11 rfl) 0) 6).trans (by decide +kernel), ?_⟩
  refine ⟨by decide, ?_⟩
  refine ⟨by decide, ?_⟩
  rw [show hc g97 10 = 5 from (a97.c 10 rfl).trans (by decide +kernel)]
  refine fun g98 e98 => ?_
  have a98 : AGH XB g98 zc97 := by rw [e98]; exact a97.nwO 10
  have f98 := (by rw [e98]; exact f97.nwO rfl : Fr YB g36 g98)
  clear e98 a97 f97
  refine ⟨by omega, ?_⟩
  refine ⟨by decide, ?_⟩
  refine ⟨by decide, ?_⟩
  refine Ec_of mo_X9_init.1 (Nat.le_of_ble_eq_true rfl) ?_
  refine sX9_init_0 ?_
  unfold bX9_init_0
  rw [show (60 : Int32).toNatClampNeg = 60 from by decide]
  refine ⟨by omega, ?_⟩
  refine ⟨by decide, ?_⟩
  refine ⟨by decide, ?_⟩
  refine ⟨by decide, ?_⟩
  refine ⟨by decide, ?_⟩
  rw [show hc g98 114 = 5 from (a98.c 114 rfl).trans (by decide +kernel)]
  refine fun g99 e99 => ?_
  have a99 : AGH XB g99 zc98 := by rw [e99]; exact a98.nwA 114 60
  have f99 := (by rw [e99]; exact f98.nwA rfl _ : Fr YB g36 g99)
  clear e99 a98 f98
  refine fun g100 e100 => ?_
  have a100 : AGH XB g100 zc99 := by rw [e100]; exact a99.wR 10 5 0 (some (114, 5))
  have f100 := (by rw [e100]; exact f99.wR rfl _ _ _ : Fr YB g36 g100)
  clear e100 a99 f99
  refine fun g101 e101 => ?_
  have a101 : AGH XB g101 zc100 := by rw [e101]; exact a100.wI 10 5 1 (-1)
  have f101 := (by rw [e101]; exact f100.wI rfl _ _ _ : Fr YB g36 g101)
  clear e101 a100 f100
  refine fun g102 e102 => ?_
  have a102 : AGH XB g102 zc101 := by rw [e102]; exact a101.wI 10 5 2 0
  have f102 := (by rw [e102]; exact f101.wI rfl _ _ _ : Fr YB g36 g102)
  clear e102 a101 f101
  refine ku_of ?_
  refine ⟨by rw [show hn g102 400 0 = _ from a102.n 400 0 rfl (by decide +kernel)]; unfold vp_in; decide +kernel, ?_⟩
  refine fun g103 e103 => ?_
  have a103 : AGH XB g103 zc102 := by rw [e103]; exact a102.wR 400 0 5 (some (10, 5))
  have f103 := (by rw [e103]; exact f102.wR rfl _ _ _ : Fr YB g36 g103)
  clear e103 a102 f102
  rw [show (5 : Int32) + 1 = 6 from by decide]
  refine sX10_init_152 ?_
  unfold bX10_init_152
  refine ⟨(congrFun (congrFun (a103.r 11 rfl) 0) 6).trans (by decide +kernel), ?_⟩
  rw [show hn g103 400 0 = 6 from (a103.n 400 0 rfl (by decide +kernel)).trans (by decide +kernel)]
  refine ⟨fun y => absurd y (by decide), fun _ => ?_⟩
  exact hQ g103 g36 a103 ff f103 q6 (q103.trans rfl) (q104.trans rfl) (q105.trans rfl) i0 hR
theorem sp_X11_init {d : Nat} {σ : XH} {Q : XV → XH → Prop} (hd : 5 ≤ d) (a0 : AGH XB σ zr0) (hQ : ∀ g, AGH XB g zr116 → Fr YB σ g → Q vU g) : Ec d 60 6000 m_X11_init [vR (some (12, 0))] σ Q := by
  have f0 : Fr YB σ σ := Fr.rf _ _
  refine Ec_of mo_X11_init.1 (Nat.le_of_ble_eq_true rfl) ?_
  refine sX11_init_0 ?_
  unfold bX11_init_0
  rw [show (11 : Int32).toNatClampNeg = 11 from by decide]
  refine ⟨by omega, ?_⟩
  refine fun g1 e1 => ?_
  have a1 : AGH XB g1 zr1 := by rw [e1]; exact a0.wI 12 0 0 0
  have f1 := (by rw [e1]; exact f0.wI rfl _ _ _ : Fr YB σ g1)
  clear e1 a0 f0
  refine fun g2 e2 => ?_
  have a2 : AGH XB g2 zr2 := by rw [e2]; exact a1.wI 12 0 1 0
  have f2 := (by rw [e2]; exact f1.wI rfl _ _ _ : Fr YB σ g2)
  clear e2 a1 f1
  refine fun g3 e3 => ?_
  have a3 : AGH XB g3 zr3 := by rw [e3]; exact a2.wI 12 0 2 0
  have f3 := (by rw [e3]; exact f2.wI rfl _ _ _ : Fr YB σ g3)
  clear e3 a2 f2
  refine fun g4 e4 => ?_
  have a4 : AGH XB g4 zr4 := by rw [e4]; exact a3.wI 12 0 3 0
  have f4 := (by rw [e4]; exact f3.wI rfl _ _ _ : Fr YB σ g4)
  clear e4 a3 f3
  refine ⟨by decide, ?_⟩
  refine ⟨by decide, ?_⟩
  refine ⟨by decide, ?_⟩
  refine ⟨by decide, ?_⟩
  rw [show hc g4 116 = 0 from (a4.c 116 rfl).trans (by decide +kernel)]
  refine fun g5 e5 => ?_
  have a5 : AGH XB g5 zr5 := by rw [e5]; exact a4.nwA 116 11
  have f5 := (by rw [e5]; exact f4.nwA rfl _ : Fr YB σ g5)
  clear e5 a4 f4
  refine fun g6 e6 => ?_
  have a6 : AGH XB g6 zr6 := by rw [e6]; exact a5.wR 12 0 4 (some (116, 0))
  have f6 := (by rw [e6]; exact f5.wR rfl _ _ _ : Fr YB σ g6)
  clear e6 a5 f5
  refine ⟨by decide, ?_⟩
  refine ⟨by decide, ?_⟩
  refine ⟨by decide, ?_⟩
  refine ⟨by decide, ?_⟩
  rw [show hc g6 117 = 0 from (a6.c 117 rfl).trans (by decide +kernel)]
  refine fun g7 e7 => ?_
  have a7 : AGH XB g7 zr7 := by rw [e7]; exact a6.nwA 117 11
  have f7 := (by rw [e7]; exact f6.nwA rfl _ : Fr YB σ g7)
  clear e7 a6 f6
  refine fun g8 e8 => ?_
  have a8 : AGH XB g8 zr8 := by rw [e8]; exact a7.wR 12 0 5 (some (117, 0))
  have f8 := (by rw [e8]; exact f7.wR rfl _ _ _ : Fr YB σ g8)
  clear e8 a7 f7
  refine sX11_init_40 ?_
  unfold bX11_init_40
  rw [show (12 : Int32).toNatClampNeg = 12 from by decide]
  rw [show (90 : Int32).toNatClampNeg = 90 from by decide]
  refine ⟨by decide, ?_⟩
  refine ⟨by decide, ?_⟩
  refine ⟨by decide, ?_⟩
  refine ⟨by decide, ?_⟩
  rw [show hc g8 118 = 0 from (a8.c 118 rfl).trans (by decide +kernel)]
  refine fun g9 e9 => ?_
  have a9 : AGH XB g9 zr9 := by rw [e9]; exact a8.nwA 118 12
  have f9 := (by rw [e9]; exact f8.nwA rfl _ : Fr YB σ g9)
  clear e9 a8 f8
  refine fun g10 e10 => ?_
  have a10 : AGH XB g10 zr10 := by rw [e10]; exact a9.wR 12 0 6 (some (118, 0))
  have f10 := (by rw [e10]; exact f9.wR rfl _ _ _ : Fr YB σ g10)
  clear e10 a9 f9
  refine ⟨by decide, ?_⟩
  refine ⟨by decide, ?_⟩
  refine ⟨by decide, ?_⟩
  refine ⟨by decide, ?_⟩
  rw [show hc g10 119 = 0 from (a10.c 119 rfl).trans (by decide +kernel)]
  refine fun g11 e11 => ?_
  have a11 : AGH XB g11 zr11 := by rw [e11]; exact a10.nwA 119 12
  have f11 := (by rw [e11]; exact f10.nwA rfl _ : Fr YB σ g11)
  clear e11 a10 f10
  refine fun g12 e12 => ?_
  have a12 : AGH XB g12 zr12 := by rw [e12]; exact a11.wR 12 0 7 (some (119, 0))
  have f12 := (by rw [e12]; exact f11.wR rfl _ _ _ : Fr YB σ g12)
  clear e12 a11 f11
  refine fun g13 e13 => ?_
  have a13 : AGH XB g13 zr13 := by rw [e13]; exact a12.wI 12 0 8 0
  have f13 := (by rw [e13]; exact f12.wI rfl _ _ _ : Fr YB σ g13)
  clear e13 a12 f12
  refine ⟨by decide, ?_⟩
  refine ⟨by decide, ?_⟩
  refine ⟨by decide, ?_⟩
  refine ⟨by decide, ?_⟩
  rw [show hc g13 120 = 0 from (a13.c 120 rfl).trans (by decide +kernel)]
  refine fun g14 e14 => ?_
  have a14 : AGH XB g14 zr14 := by rw [e14]; exact a13.nwA 120 90
  have f14 := (by rw [e14]; exact f13.nwA rfl _ : Fr YB σ g14)
  clear e14 a13 f13
  refine fun g15 e15 => ?_
  have a15 : AGH XB g15 zr15 := by rw [e15]; exact a14.wR 12 0 9 (some (120, 0))
  have f15 := (by rw [e15]; exact f14.wR rfl _ _ _ : Fr YB σ g15)
  clear e15 a14 f14
  refine ⟨by decide, ?_⟩
  refine ⟨by decide, ?_⟩
  refine ⟨by decide, ?_⟩
  refine ⟨by decide, ?_⟩
  rw [show hc g15 121 = 0 from (a15.c 121 rfl).trans (by decide +kernel)]
  refine fun g16 e16 => ?_
  have a16 : AGH XB g16 zr16 := by rw [e16]; exact a15.nwA 121 90
  have f16 := (by rw [e16]; exact f15.nwA rfl _ : Fr YB σ g16)
  clear e16 a15 f15
  refine fun g17 e17 => ?_
  have a17 : AGH XB g17 zr17 := by rw [e17]; exact a16.wR 12 0 10 (some (121, 0))
  have f17 := (by rw [e17]; exact f16.wR rfl _ _ _ : Fr YB σ g17)
  clear e17 a16 f16
  refine sX11_init_77 ?_
  unfold bX11_init_77
  rw [show (90 : Int32).toNatClampNeg = 90 from by decide]
  refine ⟨by decide, ?_⟩
  refine ⟨by decide, ?_⟩
  refine ⟨by decide, ?_⟩
  refine ⟨by decide, ?_⟩
  rw [show hc g17 122 = 0 from (a17.c 122 rfl).trans (by decide +kernel)]
  refine fun g18 e18 => ?_
  have a18 : AGH XB g18 zr18 := by rw [e18]; exact a17.nwA 122 90
  have f18 := (by rw [e18]; exact f17.nwA rfl _ : Fr YB σ g18)
  clear e18 a17 f17
  refine fun g19 e19 => ?_
  have a19 : AGH XB g19 zr19 := by rw [e19]; exact a18.wR 12 0 11 (some (122, 0))
  have f19 := (by rw [e19]; exact f18.wR rfl _ _ _ : Fr YB σ g19)
  clear e19 a18 f18
  refine ⟨by decide, ?_⟩
  refine ⟨by decide, ?_⟩
  refine ⟨by decide, ?_⟩
  refine ⟨by decide, ?_⟩
  rw [show hc g19 123 = 0 from (a19.c 123 rfl).trans (by decide +kernel)]
  refine fun g20 e20 => ?_
  have a20 : AGH XB g20 zr20 := by rw [e20]; exact a19.nwA 123 90
  have f20 := (by rw [e20]; exact f19.nwA rfl _ : Fr YB σ g20)
  clear e20 a19 f19
  refine fun g21 e21 => ?_
  have a21 : AGH XB g21 zr21 := by rw [e21]; exact a20.wR 12 0 12 (some (123, 0))
  have f21 := (by rw [e21]; exact f20.wR rfl _ _ _ : Fr YB σ g21)
  clear e21 a20 f20
  refine ⟨by decide, ?_⟩
  refine ⟨by decide, ?_⟩
  refine ⟨by decide, ?_⟩
  refine ⟨by decide, ?_⟩
  rw [show hc g21 124 = 0 from (a21.c 124 rfl).trans (by decide +kernel)]
  refine fun g22 e22 => ?_
  have a22 : AGH XB g22 zr22 := by rw [e22]; exact a21.nwA 124 90
  have f22 := (by rw [e22]; exact f21.nwA rfl _ : Fr YB σ g22)
  clear e22 a21 f21
  refine fun g23 e23 => ?_
  have a23 : AGH XB g23 zr23 := by rw [e23]; exact a22.wR 12 0 13 (some (124, 0))
  have f23 := (by rw [e23]; exact f22.wR rfl _ _ _ : Fr YB σ g23)
  clear e23 a22 f22
  refine ⟨by decide, ?_⟩
  refine ⟨by decide, ?_⟩
  refine ⟨by decide, ?_⟩
  refine ⟨by decide, ?_⟩
  rw [show hc g23 125 = 0 from (a23.c 125 rfl).trans (by decide +kernel)]
  refine fun g24 e24 => ?_
  have a24 : AGH XB g24 zr24 := by rw [e24]; exact a23.nwA 125 90
  have f24 := (by rw [e24]; exact f23.nwA rfl _ : Fr YB σ g24)
  clear e24 a23 f23
  refine fun g25 e25 => ?_
  have a25 : AGH XB g25 zr25 := by rw [e25]; exact a24.wR 12 0 14 (some (125, 0))
  have f25 := (by rw [e25]; exact f24.wR rfl _ _ _ : Fr YB σ g25)
  clear e25 a24 f24
  refine sX11_init_109 ?_
  unfold bX11_init_109
  rw [show (90 : Int32).toNatClampNeg = 90 from by decide]
  refine ⟨by decide, ?_⟩
  refine ⟨by decide, ?_⟩
  refine ⟨by decide, ?_⟩
  refine ⟨by decide, ?_⟩
  rw [show hc g25 126 = 0 from (a25.c 126 rfl).trans (by decide +kernel)]
  refine fun g26 e26 => ?_
  have a26 : AGH XB g26 zr26 := by rw [e26]; exact a25.nwA 126 90
  have f26 := (by rw [e26]; exact f25.nwA rfl _ : Fr YB σ g26)
  clear e26 a25 f25
  refine fun g27 e27 => ?_
  have a27 : AGH XB g27 zr27 := by rw [e27]; exact a26.wR 12 0 15 (some (126, 0))
  have f27 := (by rw [e27]; exact f26.wR rfl _ _ _ : Fr YB σ g27)
  clear e27 a26 f26
  refine ⟨by decide, ?_⟩
  refine ⟨by decide, ?_⟩
  refine ⟨by decide, ?_⟩
  refine ⟨by decide, ?_⟩
  rw [show hc g27 127 = 0 from (a27.c 127 rfl).trans (by decide +kernel)]
  refine fun g28 e28 => ?_
  have a28 : AGH XB g28 zr28 := by rw [e28]; exact a27.nwA 127 90
  have f28 := (by rw [e28]; exact f27.nwA rfl _ : Fr YB σ g28)
  clear e28 a27 f27
  refine fun g29 e29 => ?_
  have a29 : AGH XB g29 zr29 := by rw [e29]; exact a28.wR 12 0 16 (some (127, 0))
  have f29 := (by rw [e29]; exact f28.wR rfl _ _ _ : Fr YB σ g29)
  clear e29 a28 f28
  refine ⟨by decide, ?_⟩
  refine ⟨by decide, ?_⟩
  refine ⟨by decide, ?_⟩
  refine ⟨by decide, ?_⟩
  rw [show hc g29 128 = 0 from (a29.c 128 rfl).trans (by decide +kernel)]
  refine fun g30 e30 => ?_
  have a30 : AGH XB g30 zr30 := by rw [e30]; exact a29.nwA 128 90
  have f30 := (by rw [e30]; exact f29.nwA rfl _ : Fr YB σ g30)
  clear e30 a29 f29
  refine fun g31 e31 => ?_
  have a31 : AGH XB g31 zr31 := by rw [e31]; exact a30.wR 12 0 17 (some (128, 0))
  have f31 := (by rw [e31]; exact f30.wR rfl _ _ _ : Fr YB σ g31)
  clear e31 a30 f30
  refine ⟨by decide, ?_⟩
  refine ⟨by decide, ?_⟩
  refine ⟨by decide, ?_⟩
  refine ⟨by decide, ?_⟩
  rw [show hc g31 129 = 0 from (a31.c 129 rfl).trans (by decide +kernel)]
  refine fun g32 e32 => ?_
  have a32 : AGH XB g32 zr32 := by rw [e32]; exact a31.nwA 129 90
  have f32 := (by rw [e32]; exact f31.nwA rfl _ : Fr YB σ g32)
  clear e32 a31 f31
  refine fun g33 e33 => ?_
  have a33 : AGH XB g33 zr33 := by rw [e33]; exact a32.wR 12 0 18 (some (129, 0))
  have f33 := (by rw [e33]; exact f32.wR rfl _ _ _ : Fr YB σ g33)
  clear e33 a32 f32
  refine sX11_init_141 ?_
  unfold bX11_init_141
  rw [show (60 : Int32).toNatClampNeg = 60 from by decide]
  refine fun g34 e34 => ?_
  have a34 : AGH XB g34 zr34 := by rw [e34]; exact a33.wI 12 0 19 (-1)
  have f34 := (by rw [e34]; exact f33.wI rfl _ _ _ : Fr YB σ g34)
  clear e34 a33 f33
  refine fun g35 e35 => ?_
  have a35 : AGH XB g35 zr35 := by rw [e35]; exact a34.wI 12 0 20 0
  have f35 := (by rw [e35]; exact f34.wI rfl _ _ _ : Fr YB σ g35)
  clear e35 a34 f34
  refine ⟨by decide, ?_⟩
  refine ⟨by decide, ?_⟩
  refine ⟨by decide, ?_⟩
  refine ⟨by decide, ?_⟩
  rw [show hc g35 130 = 0 from (a35.c 130 rfl).trans (by decide +kernel)]
  refine fun g36 e36 => ?_
  have a36 : AGH XB g36 zr36 := by rw [e36]; exact a35.nwA 130 60
  have f36 := (by rw [e36]; exact f35.nwA rfl _ : Fr YB σ g36)
  clear e36 a35 f35
  refine fun g37 e37 => ?_
  have a37 : AGH XB g37 zr37 := by rw [e37]; exact a36.wR 12 0 21 (some (130, 0))
  have f37 := (by rw [e37]; exact f36.wR rfl _ _ _ : Fr YB σ g37)
  clear e37 a36 f36
  refine ⟨by decide, ?_⟩
  refine ⟨by decide, ?_⟩
  refine ⟨by decide, ?_⟩
  refine ⟨by decide, ?_⟩
  rw [show hc g37 131 = 0 from (a37.c 131 rfl).trans (by decide +kernel)]
  refine fun g38 e38 => ?_
  have a38 : AGH XB g38 zr38 := by rw [e38]; exact a37.nwA 131 60
  have f38 := (by rw [e38]; exact f37.nwA rfl _ : Fr YB σ g38)
  clear e38 a37 f37
  refine fun g39 e39 => ?_
  have a39 : AGH XB g39 zr39 := by rw [e39]; exact a38.wR 12 0 22 (some (131, 0))
  have f39 := (by rw [e39]; exact f38.wR rfl _ _ _ : Fr YB σ g39)
  clear e39 a38 f38
  refine ⟨by decide, ?_⟩
  refine ⟨by decide, ?_⟩
  refine ⟨by decide, ?_⟩
  refine ⟨by decide, ?_⟩
  rw [show hc g39 132 = 0 from (a39.c 132 rfl).trans (by decide +kernel)]
  refine fun g40 e40 => ?_
  have a40 : AGH XB g40 zr40 := by rw [e40]; exact a39.nwA 132 60
  have f40 := (by rw [e40]; exact f39.nwA rfl _ : Fr YB σ g40)
  clear e40 a39 f39
  refine fun g41 e41 => ?_
  have a41 : AGH XB g41 zr41 := by rw [e41]; exact a40.wR 12 0 23 (some (132, 0))
  have f41 := (by rw [e41]; exact f40.wR rfl _ _ _ : Fr YB σ g41)
  clear e41 a40 f40
  refine sX11_init_175 ?_
  unfold bX11_init_175
  rw [show (60 : Int32).toNatClampNeg = 60 from by decide]
  rw [show (12 : Int32).toNatClampNeg = 12 from by decide]
  refine ⟨by decide, ?_⟩
  refine ⟨by decide, ?_⟩
  refine ⟨by decide, ?_⟩
  refine ⟨by decide, ?_⟩
  rw [show hc g41 133 = 0 from (a41.c 133 rfl).trans (by decide +kernel)]
  refine fun g42 e42 => ?_
  have a42 : AGH XB g42 zr42 := by rw [e42]; exact a41.nwA 133 60
  have f42 := (by rw [e42]; exact f41.nwA rfl _ : Fr YB σ g42)
  clear e42 a41 f41
  refine fun g43 e43 => ?_
  have a43 : AGH XB g43 zr43 := by rw [e43]; exact a42.wR 12 0 24 (some (133, 0))
  have f43 := (by rw [e43]; exact f42.wR rfl _ _ _ : Fr YB σ g43)
  clear e43 a42 f42
  refine fun g44 e44 => ?_
  have a44 : AGH XB g44 zr44 := by rw [e44]; exact a43.wI 12 0 25 0
  have f44 := (by rw [e44]; exact f43.wI rfl _ _ _ : Fr YB σ g44)
  clear e44 a43 f43
  refine fun g45 e45 => ?_
  have a45 : AGH XB g45 zr45 := by rw [e45]; exact a44.wI 12 0 26 0
  have f45 := (by rw [e45]; exact f44.wI rfl _ _ _ : Fr YB σ g45)
  clear e45 a44 f44
  refine ⟨by decide, ?_⟩
  refine ⟨by decide, ?_⟩
  refine ⟨by decide, ?_⟩
  refine ⟨by decide, ?_⟩
  rw [show hc g45 134 = 0 from (a45.c 134 rfl).trans (by decide +kernel)]
  refine fun g46 e46 => ?_
  have a46 : AGH XB g46 zr46 := by rw [e46]; exact a45.nwA 134 12
  have f46 := (by rw [e46]; exact f45.nwA rfl _ : Fr YB σ g46)
  clear e46 a45 f45
  refine fun g47 e47 => ?_
  have a47 : AGH XB g47 zr47 := by rw [e47]; exact a46.wR 12 0 27 (some (134, 0))
  have f47 := (by rw [e47]; exact f46.wR rfl _ _ _ : Fr YB σ g47)
  clear e47 a46 f46
  refine ⟨by decide, ?_⟩
  refine ⟨by decide, ?_⟩
  refine ⟨by decide, ?_⟩
  refine ⟨by decide, ?_⟩
  rw [show hc g47 135 = 0 from (a47.c 135 rfl).trans (by decide +kernel)]
  refine fun g48 e48 => ?_
  have a48 : AGH XB g48 zr48 := by rw [e48]; exact a47.nwA 135 12
  have f48 := (by rw [e48]; exact f47.nwA rfl _ : Fr YB σ g48)
  clear e48 a47 f47
  refine fun g49 e49 => ?_
  have a49 : AGH XB g49 zr49 := by rw [e49]; exact a48.wR 12 0 28 (some (135, 0))
  have f49 := (by rw [e49]; exact f48.wR rfl _ _ _ : Fr YB σ g49)
  clear e49 a48 f48
  refine sX11_init_209 ?_
  unfold bX11_init_209
  rw [show (1820 : Int32).toNatClampNeg = 1820 from by decide]
  rw [show (13 : Int32).toNatClampNeg = 13 from by decide]
  refine ⟨by decide, ?_⟩
  refine ⟨by decide, ?_⟩
  refine ⟨by decide, ?_⟩
  refine ⟨by decide, ?_⟩
  rw [show hc g49 136 = 0 from (a49.c 136 rfl).trans (by decide +kernel)]
  refine fun g50 e50 => ?_
  have a50 : AGH XB g50 zr50 := by rw [e50]; exact a49.nwA 136 1820
  have f50 := (by rw [e50]; exact f49.nwA rfl _ : Fr YB σ g50)
  clear e50 a49 f49
  refine fun g51 e51 => ?_
  have a51 : AGH XB g51 zr51 := by rw [e51]; exact a50.wR 12 0 29 (some (136, 0))
  have f51 := (by rw [e51]; exact f50.wR rfl _ _ _ : Fr YB σ g51)
  clear e51 a50 f50
  refine ⟨by decide, ?_⟩
  refine ⟨by decide, ?_⟩
  refine ⟨by decide, ?_⟩
  refine ⟨by decide, ?_⟩
  rw [show hc g51 137 = 0 from (a51.c 137 rfl).trans (by decide +kernel)]
  refine fun g52 e52 => ?_
  have a52 : AGH XB g52 zr52 := by rw [e52]; exact a51.nwA 137 13
  have f52 := (by rw [e52]; exact f51.nwA rfl _ : Fr YB σ g52)
  clear e52 a51 f51
  refine fun g53 e53 => ?_
  have a53 : AGH XB g53 zr53 := by rw [e53]; exact a52.wR 12 0 30 (some (137, 0))
  have f53 := (by rw [e53]; exact f52.wR rfl _ _ _ : Fr YB σ g53)
  clear e53 a52 f52
  refine fun g54 e54 => ?_
  have a54 : AGH XB g54 zr54 := by rw [e54]; exact a53.wI 12 0 31 30
  have f54 := (by rw [e54]; exact f53.wI rfl _ _ _ : Fr YB σ g54)
  clear e54 a53 f53
  refine fun g55 e55 => ?_
  have a55 : AGH XB g55 zr55 := by rw [e55]; exact a54.wI 12 0 32 1
  have f55 := (by rw [e55]; exact f54.wI rfl _ _ _ : Fr YB σ g55)
  clear e55 a54 f54
  refine fun g56 e56 => ?_
  have a56 : AGH XB g56 zr56 := by rw [e56]; exact a55.wI 12 0 33 9999
  have f56 := (by rw [e56]; exact f55.wI rfl _ _ _ : Fr YB σ g56)
  clear e56 a55 f55
  refine fun g57 e57 => ?_
  have a57 : AGH XB g57 zr57 := by rw [e57]; exact a56.wI 12 0 34 0
  have f57 := (by rw [e57]; exact f56.wI rfl _ _ _ : Fr YB σ g57)
  clear e57 a56 f56
  refine sX11_init_249 ?_
  unfold bX11_init_249
  rw [show (6 : Int32).toNatClampNeg = 6 from by decide]
  rw [show (5 : Int32).toNatClampNeg = 5 from by decide]
  refine ⟨by decide, ?_⟩
  refine fun g58 e58 => ?_
  have a58 : AGH XB g58 zr58 := by rw [e58]; exact a57.wI 12 0 35 0
  have f58 := (by rw [e58]; exact f57.wI rfl _ _ _ : Fr YB σ g58)
  clear e58 a57 f57
  refine ⟨by decide, ?_⟩
  refine fun g59 e59 => ?_
  have a59 : AGH XB g59 zr59 := by rw [e59]; exact a58.wI 12 0 36 0
  have f59 := (by rw [e59]; exact f58.wI rfl _ _ _ : Fr YB σ g59)
  clear e59 a58 f58
  refine ⟨by decide, ?_⟩
  refine fun g60 e60 => ?_
  have a60 : AGH XB g60 zr60 := by rw [e60]; exact a59.wI 12 0 37 0
  have f60 := (by rw [e60]; exact f59.wI rfl _ _ _ : Fr YB σ g60)
  clear e60 a59 f59
  refine ⟨by decide, ?_⟩
  refine ⟨by decide, ?_⟩
  refine ⟨by decide, ?_⟩
  refine ⟨by decide, ?_⟩
  rw [show hc g60 138 = 0 from (a60.c 138 rfl).trans (by decide +kernel)]
  refine fun g61 e61 => ?_
  have a61 : AGH XB g61 zr61 := by rw [e61]; exact a60.nwA 138 6
  have f61 := (by rw [e61]; exact f60.nwA rfl _ : Fr YB σ g61)
  clear e61 a60 f60
  refine fun g62 e62 => ?_
  have a62 : AGH XB g62 zr62 := by rw [e62]; exact a61.wR 12 0 38 (some (138, 0))
  have f62 := (by rw [e62]; exact f61.wR rfl _ _ _ : Fr YB σ g62)
  clear e62 a61 f61
  refine ⟨by decide, ?_⟩
  refine ⟨by decide, ?_⟩
  refine ⟨by decide, ?_⟩
  refine ⟨by decide, ?_⟩
  rw [show hc g62 139 = 0 from (a62.c 139 rfl).trans (by decide +kernel)]
  refine fun g63 e63 => ?_
  have a63 : AGH XB g63 zr63 := by rw [e63]; exact a62.nwA 139 5
  have f63 := (by rw [e63]; exact f62.nwA rfl _ : Fr YB σ g63)
  clear e63 a62 f62
  refine fun g64 e64 => ?_
  have a64 : AGH XB g64 zr64 := by rw [e64]; exact a63.wR 12 0 39 (some (139, 0))
  have f64 := (by rw [e64]; exact f63.wR rfl _ _ _ : Fr YB σ g64)
  clear e64 a63 f63
  refine fun g65 e65 => ?_
  have a65 : AGH XB g65 zr65 := by rw [e65]; exact a64.wI 12 0 40 0
  have f65 := (by rw [e65]; exact f64.wI rfl _ _ _ : Fr YB σ g65)
  clear e65 a64 f64
  refine sX11_init_284 ?_
  unfold bX11_init_284
  rw [show (141 : Int32).toNatClampNeg = 141 from by decide]
  refine fun g66 e66 => ?_
  have a66 : AGH XB g66 zr66 := by rw [e66]; exact a65.wI 12 0 41 0
  have f66 := (by rw [e66]; exact f65.wI rfl _ _ _ : Fr YB σ g66)
  clear e66 a65 f65
  refine fun g67 e67 => ?_
  have a67 : AGH XB g67 zr67 := by rw [e67]; exact a66.wI 12 0 42 0
  have f67 := (by rw [e67]; exact f66.wI rfl _ _ _ : Fr YB σ g67)
  clear e67 a66 f66
  refine fun g68 e68 => ?_
  have a68 : AGH XB g68 zr68 := by rw [e68]; exact a67.wI 12 0 43 0
  have f68 := (by rw [e68]; exact f67.wI rfl _ _ _ : Fr YB σ g68)
  clear e68 a67 f67
  refine ⟨by decide, ?_⟩
  refine ⟨by decide, ?_⟩
  refine ⟨by decide, ?_⟩
  refine ⟨by decide, ?_⟩
  rw [show hc g68 140 = 0 from (a68.c 140 rfl).trans (by decide +kernel)]
  refine fun g69 e69 => ?_
  have a69 : AGH XB g69 zr69 := by rw [e69]; exact a68.nwA 140 141
  have f69 := (by rw [e69]; exact f68.nwA rfl _ : Fr YB σ g69)
  clear e69 a68 f68
  refine fun g70 e70 => ?_
  have a70 : AGH XB g70 zr70 := by rw [e70]; exact a69.wR 12 0 44 (some (140, 0))
  have f70 := (by rw [e70]; exact f69.wR rfl _ _ _ : Fr YB σ g70)
  clear e70 a69 f69
  refine ⟨by decide, ?_⟩
  refine ⟨by decide, ?_⟩
  refine ⟨by decide, ?_⟩
  refine ⟨by decide, ?_⟩
  rw [show hc g70 300 = 0 from (a70.c 300 rfl).trans (by decide +kernel)]
  refine fun g71 e71 => ?_
  have a71 : AGH XB g71 zr71 := by rw [e71]; exact a70.nwA 300 141
  have f71 := (by rw [e71]; exact f70.nwA rfl _ : Fr YB σ g71)
  clear e71 a70 f70
  refine fun g72 e72 => ?_
  have a72 : AGH XB g72 zr72 := by rw [e72]; exact a71.wR 12 0 45 (some (300, 0))
  have f72 := (by rw [e72]; exact f71.wR rfl _ _ _ : Fr YB σ g72)
  clear e72 a71 f71
  refine fun g73 e73 => ?_
  have a73 : AGH XB g73 zr73 := by rw [e73]; exact a72.wI 12 0 46 0
  have f73 := (by rw [e73]; exact f72.wI rfl _ _ _ : Fr YB σ g73)
  clear e73 a72 f72
  refine sX11_init_322 ?_
  unfold bX11_init_322
  rw [show (90 : Int32).toNatClampNeg = 90 from by decide]
  refine fun g74 e74 => ?_
  have a74 : AGH XB g74 zr74 := by rw [e74]; exact a73.wI 12 0 47 0
  have f74 := (by rw [e74]; exact f73.wI rfl _ _ _ : Fr YB σ g74)
  clear e74 a73 f73
  refine fun g75 e75 => ?_
  have a75 : AGH XB g75 zr75 := by rw [e75]; exact a74.wI 12 0 48 0
  have f75 := (by rw [e75]; exact f74.wI rfl _ _ _ : Fr YB σ g75)
  clear e75 a74 f74
  refine fun g76 e76 => ?_
  have a76 : AGH XB g76 zr76 := by rw [e76]; exact a75.wI 12 0 49 0
  have f76 := (by rw [e76]; exact f75.wI rfl _ _ _ : Fr YB σ g76)
  clear e76 a75 f75
  refine ⟨by decide, ?_⟩
  refine ⟨by decide, ?_⟩
  refine ⟨by decide, ?_⟩
  refine ⟨by decide, ?_⟩
  rw [show hc g76 141 = 0 from (a76.c 141 rfl).trans (by decide +kernel)]
  refine fun g77 e77 => ?_
  have a77 : AGH XB g77 zr77 := by rw [e77]; exact a76.nwA 141 90
  have f77 := (by rw [e77]; exact f76.nwA rfl _ : Fr YB σ g77)
  clear e77 a76 f76
  refine fun g78 e78 => ?_
  have a78 : AGH XB g78 zr78 := by rw [e78]; exact a77.wR 12 0 50 (some (141, 0))
  have f78 := (by rw [e78]; exact f77.wR rfl _ _ _ : Fr YB σ g78)
  clear e78 a77 f77
  refine ⟨by decide, ?_⟩
  refine ⟨by decide, ?_⟩
  refine ⟨by decide, ?_⟩
  refine ⟨by decide, ?_⟩
  rw [show hc g78 142 = 0 from (a78.c 142 rfl).trans (by decide +kernel)]
  refine fun g79 e79 => ?_
  have a79 : AGH XB g79 zr79 := by rw [e79]; exact a78.nwA 142 90
  have f79 := (by rw [e79]; exact f78.nwA rfl _ : Fr YB σ g79)
  clear e79 a78 f78
  refine fun g80 e80 => ?_
  have a80 : AGH XB g80 zr80 := by rw [e80]; exact a79.wR 12 0 51 (some (142, 0))
  have f80 := (by rw [e80]; exact f79.wR rfl _ _ _ : Fr YB σ g80)
  clear e80 a79 f79
  refine ⟨by decide, ?_⟩
  refine ⟨by decide, ?_⟩
  refine ⟨by decide, ?_⟩
  refine ⟨by decide, ?_⟩
  rw [show hc g80 143 = 0 from (a80.c 143 rfl).trans (by decide +kernel)]
  refine fun g81 e81 => ?_
  have a81 : AGH XB g81 zr81 := by rw [e81]; exact a80.nwA 143 90
  have f81 := (by rw [e81]; exact f80.nwA rfl _ : Fr YB σ g81)
  clear e81 a80 f80
  refine fun g82 e82 => ?_
  have a82 : AGH XB g82 zr82 := by rw [e82]; exact a81.wR 12 0 52 (some (143, 0))
  have f82 := (by rw [e82]; exact f81.wR rfl _ _ _ : Fr YB σ g82)
  clear e82 a81 f81
  refine sX11_init_361 ?_
  unfold bX11_init_361
  rw [show (90 : Int32).toNatClampNeg = 90 from by decide]
  rw [show (5 : Int32).toNatClampNeg = 5 from by decide]
  rw [show (44 : Int32).toNatClampNeg = 44 from by decide]
  refine ⟨by decide, ?_⟩
  refine ⟨by decide, ?_⟩
  refine ⟨by decide, ?_⟩
  refine ⟨by decide, ?_⟩
  rw [show hc g82 144 = 0 from (a82.c 144 rfl).trans (by decide +kernel)]
  refine fun g83 e83 => ?_
  have a83 : AGH XB g83 zr83 := by rw [e83]; exact a82.nwA 144 90
  have f83 := (by rw [e83]; exact f82.nwA rfl _ : Fr YB σ g83)
  clear e83 a82 f82
  refine fun g84 e84 => ?_
  have a84 : AGH XB g84 zr84 := by rw [e84]; exact a83.wR 12 0 53 (some (144, 0))
  have f84 := (by rw [e84]; exact f83.wR rfl _ _ _ : Fr YB σ g84)
  clear e84 a83 f83
  refine ⟨by decide, ?_⟩
  refine ⟨by decide, ?_⟩
  refine ⟨by decide, ?_⟩
  refine ⟨by decide, ?_⟩
  rw [show hc g84 301 = 0 from (a84.c 301 rfl).trans (by decide +kernel)]
  refine fun g85 e85 => ?_
  have a85 : AGH XB g85 zr85 := by rw [e85]; exact a84.nwA 301 90
  have f85 := (by rw [e85]; exact f84.nwA rfl _ : Fr YB σ g85)
  clear e85 a84 f84
  refine fun g86 e86 => ?_
  have a86 : AGH XB g86 zr86 := by rw [e86]; exact a85.wR 12 0 54 (some (301, 0))
  have f86 := (by rw [e86]; exact f85.wR rfl _ _ _ : Fr YB σ g86)
  clear e86 a85 f85
  refine ⟨by decide, ?_⟩
  refine ⟨by decide, ?_⟩
  refine ⟨by decide, ?_⟩
  refine ⟨by decide, ?_⟩
  rw [show hc g86 145 = 0 from (a86.c 145 rfl).trans (by decide +kernel)]
  refine fun g87 e87 => ?_
  have a87 : AGH XB g87 zr87 := by rw [e87]; exact a86.nwA 145 5
  have f87 := (by rw [e87]; exact f86.nwA rfl _ : Fr YB σ g87)
  clear e87 a86 f86
  refine fun g88 e88 => ?_
  have a88 : AGH XB g88 zr88 := by rw [e88]; exact a87.wR 12 0 55 (some (145, 0))
  have f88 := (by rw [e88]; exact f87.wR rfl _ _ _ : Fr YB σ g88)
  clear e88 a87 f87
  refine ⟨by decide, ?_⟩
  refine ⟨by decide, ?_⟩
  refine ⟨by decide, ?_⟩
  refine ⟨by decide, ?_⟩
  rw [show hc g88 146 = 0 from (a88.c 146 rfl).trans (by decide +kernel)]
  refine fun g89 e89 => ?_
  have a89 : AGH XB g89 zr89 := by rw [e89]; exact a88.nwA 146 44
  have f89 := (by rw [e89]; exact f88.nwA rfl _ : Fr YB σ g89)
  clear e89 a88 f88
  refine fun g90 e90 => ?_
  have a90 : AGH XB g90 zr90 := by rw [e90]; exact a89.wR 12 0 56 (some (146, 0))
  have f90 := (by rw [e90]; exact f89.wR rfl _ _ _ : Fr YB σ g90)
  clear e90 a89 f89
  refine sX11_init_392 ?_
  unfold bX11_init_392
  rw [show (9 : Int32).toNatClampNeg = 9 from by decide]
  refine fun g91 e91 => ?_
  have a91 : AGH XB g91 zr91 := by rw [e91]; exact a90.wL 12 0 57 0
  have f91 := (by rw [e91]; exact f90.wL rfl _ _ _ : Fr YB σ g91)
  clear e91 a90 f90
  refine fun g92 e92 => ?_
  have a92 : AGH XB g92 zr92 := by rw [e92]; exact a91.wL 12 0 58 0
  have f92 := (by rw [e92]; exact f91.wL rfl _ _ _ : Fr YB σ g92)
  clear e92 a91 f91
  refine fun g93 e93 => ?_
  have a93 : AGH XB g93 zr93 := by rw [e93]; exact a92.wI 12 0 59 0
  have f93 := (by rw [e93]; exact f92.wI rfl _ _ _ : Fr YB σ g93)
  clear e93 a92 f92
  refine ⟨by decide, ?_⟩
  refine ⟨by decide, ?_⟩
  refine ⟨by decide, ?_⟩
  refine ⟨by decide, ?_⟩
  rw [show hc g93 147 = 0 from (a93.c 147 rfl).trans (by decide +kernel)]
  refine fun g94 e94 => ?_
  have a94 : AGH XB g94 zr94 := by rw [e94]; exact a93.nwA 147 9
  have f94 := (by rw [e94]; exact f93.nwA rfl _ : Fr YB σ g94)
  clear e94 a93 f93
  refine fun g95 e95 => ?_
  have a95 : AGH XB g95 zr95 := by rw [e95]; exact a94.wR 12 0 60 (some (147, 0))
  have f95 := (by rw [e95]; exact f94.wR rfl _ _ _ : Fr YB σ g95)
  clear e95 a94 f94
  refine ⟨by decide, ?_⟩
  refine ⟨by decide, ?_⟩
  refine ⟨by decide, ?_⟩
  refine ⟨by decide, ?_⟩
  rw [show hc g95 148 = 0 from (a95.c 148 rfl).trans (by decide +kernel)]
  refine fun g96 e96 => ?_
  have a96 : AGH XB g96 zr96 := by rw [e96]; exact a95.nwA 148 9
  have f96 := (by rw [e96]; exact f95.nwA rfl _ : Fr YB σ g96)
  clear e96 a95 f95
  refine fun g97 e97 => ?_
  have a97 : AGH XB g97 zr97 := by rw [e97]; exact a96.wR 12 0 61 (some (148, 0))
  have f97 := (by rw [e97]; exact f96.wR rfl _ _ _ : Fr YB σ g97)
  clear e97 a96 f96
  refine ⟨by decide, ?_⟩
  refine ⟨by decide, ?_⟩
  refine ⟨by decide, ?_⟩
  refine ⟨by decide, ?_⟩
  rw [show hc g97 149 = 0 from (a97.c 149 rfl).trans (by decide +kernel)]
  refine fun g98 e98 => ?_
  have a98 : AGH XB g98 zr98 := by rw [e98]; exact a97.nwA 149 9
  have f98 := (by rw [e98]; exact f97.nwA rfl _ : Fr YB σ g98)
  clear e98 a97 f97
  refine fun g99 e99 => ?_
  have a99 : AGH XB g99 zr99 := by rw [e99]; exact a98.wR 12 0 62 (some (149, 0))
  have f99 := (by rw [e99]; exact f98.wR rfl _ _ _ : Fr YB σ g99)
  clear e99 a98 f98
  refine sX11_init_431 ?_
  unfold bX11_init_431
  rw [show (20 : Int32).toNatClampNeg = 20 from by decide]
  rw [show (6 : Int32).toNatClampNeg = 6 from by decide]
  rw [show (0 : Int32).toNatClampNeg = 0 from by decide]
  rw [show (1 : Int32).toNatClampNeg = 1 from by decide]
  rw [show (2 : Int32).toNatClampNeg = 2 from by decide]
  rw [show (3 : Int32).toNatClampNeg = 3 from by decide]
  rw [show (4 : Int32).toNatClampNeg = 4 from by decide]
  rw [show (5 : Int32).toNatClampNeg = 5 from by decide]
  refine fun g100 e100 => ?_
  have a100 : AGH XB g100 zr100 := by rw [e100]; exact a99.wI 12 0 63 0
  have f100 := (by rw [e100]; exact f99.wI rfl _ _ _ : Fr YB σ g100)
  clear e100 a99 f99
  refine ⟨by decide, ?_⟩
  refine ⟨by decide, ?_⟩
  refine ⟨by decide, ?_⟩
  refine ⟨by decide, ?_⟩
  rw [show hc g100 150 = 0 from (a100.c 150 rfl).trans (by decide +kernel)]
  refine fun g101 e101 => ?_
  have a101 : AGH XB g101 zr101 := by rw [e101]; exact a100.nwA 150 20
  have f101 := (by rw [e101]; exact f100.nwA rfl _ : Fr YB σ g101)
  clear e101 a100 f100
  refine fun g102 e102 => ?_
  have a102 : AGH XB g102 zr102 := by rw [e102]; exact a101.wR 12 0 64 (some (150, 0))
  have f102 := (by rw [e102]; exact f101.wR rfl _ _ _ : Fr YB σ g102)
  clear e102 a101 f101
  refine ⟨by decide, ?_⟩
  refine ⟨by decide, ?_⟩
  refine ⟨by decide, ?_⟩
  refine ⟨by decide, ?_⟩
  rw [show hc g102 151 = 0 from (a102.c 151 rfl).trans (by decide +kernel)]
  refine fun g103 e103 => ?_
  have a103 : AGH XB g103 zr103 := by rw [e103]; exact a102.nwA 151 6
  have f103 := (by rw [e103]; exact f102.nwA rfl _ : Fr YB σ g103)
  clear e103 a102 f102
  refine ⟨by rw [show hn g103 151 0 = _ from a103.n 151 0 rfl (by decide +kernel)]; unfold vp_in; decide +kernel, ?_⟩
  refine fun g104 e104 => ?_
  have a104 : AGH XB g104 zr104 := by rw [e104]; exact a103.wI 151 0 0 (-1)
  have f104 := (by rw [e104]; exact f103.wI rfl _ _ _ : Fr YB σ g104)
  clear e104 a103 f103
  refine ⟨by rw [show hn g104 151 0 = _ from a104.n 151 0 rfl (by decide +kernel)]; unfold vp_in; decide +kernel, ?_⟩
  refine fun g105 e105 => ?_
  have a105 : AGH XB g105 zr105 := by rw [e105]; exact a104.wI 151 0 1 (-1)
  have f105 := (by rw [e105]; exact f104.wI rfl _ _ _ : Fr YB σ g105)
  clear e105 a104 f104
  refine ⟨by rw [show hn g105 151 0 = _ from a105.n 151 0 rfl (by decide +kernel)]; unfold vp_in; decide +kernel, ?_⟩
  refine fun g106 e106 => ?_
  have a106 : AGH XB g106 zr106 := by rw [e106]; exact a105.wI 151 0 2 (-1)
  have f106 := (by rw [e106]; exact f105.wI rfl _ _ _ : Fr YB σ g106)
  clear e106 a105 f105
  refine ⟨by rw [show hn g106 151 0 = _ from a106.n 151 0 rfl (by decide +kernel)]; unfold vp_in; decide +kernel, ?_⟩
  refine fun g107 e107 => ?_
  have a107 : AGH XB g107 zr107 := by rw [e107]; exact a106.wI 151 0 3 (-1)
  have f107 := (by rw [e107]; exact f106.wI rfl _ _ _ : Fr YB σ g107)
  clear e107 a106 f106
  refine ⟨by rw [show hn g107 151 0 = _ from a107.n 151 0 rfl (by decide +kernel)]; unfold vp_in; decide +kernel, ?_⟩
  refine fun g108 e108 => ?_
  have a108 : AGH XB g108 zr108 := by rw [e108]; exact a107.wI 151 0 4 (-1)
  have f108 := (by rw [e108]; exact f107.wI rfl _ _ _ : Fr YB σ g108)
  clear e108 a107 f107
  refine ⟨by rw [show hn g108 151 0 = _ from a108.n 151 0 rfl (by decide +kernel)]; unfold vp_in; decide +kernel, ?_⟩
  refine fun g109 e109 => ?_
  have a109 : AGH XB g109 zr109 := by rw [e109]; exact a108.wI 151 0 5 (-1)
  have f109 := (by rw [e109]; exact f108.wI rfl _ _ _ : Fr YB σ g109)
  clear e109 a108 f108
  refine fun g110 e110 => ?_
  have a110 : AGH XB g110 zr110 := by rw [e110]; exact a109.wR 12 0 65 (some (151, 0))
  have f110 := (by rw [e110]; exact f109.wR rfl _ _ _ : Fr YB σ g110)
  clear e110 a109 f109
  refine sX11_init_476 ?_
  unfold bX11_init_476
  rw [show (6 : Int32).toNatClampNeg = 6 from by decide]
  rw [show (360 : Int32).toNatClampNeg = 360 from by decide]
  rw [show (60 : Int32).toNatClampNeg = 60 from by decide]
  refine ⟨by decide, ?_⟩
  refine ⟨by decide, ?_⟩
  refine ⟨by decide, ?_⟩
  refine ⟨by decide, ?_⟩
  rw [show hc g110 152 = 0 from (a110.c 152 rfl).trans (by decide +kernel)]
  refine fun g111 e111 => ?_
  have a111 : AGH XB g111 zr111 := by rw [e111]; exact a110.nwA 152 6
  have f111 := (by rw [e111]; exact f110.nwA rfl _ : Fr YB σ g111)
  clear e111 a110 f110
  refine fun g112 e112 => ?_
  have a112 : AGH XB g112 zr112 := by rw [e112]; exact a111.wR 12 0 66 (some (152, 0))
  have f112 := (by rw [e112]; exact f111.wR rfl _ _ _ : Fr YB σ g112)
  clear e112 a111 f111
  refine ⟨by decide, ?_⟩
  refine ⟨by decide, ?_⟩
  refine ⟨by decide, ?_⟩
  refine ⟨by decide, ?_⟩
  rw [show hc g112 153 = 0 from (a112.c 153 rfl).trans (by decide +kernel)]
  refine fun g113 e113 => ?_
  have a113 : AGH XB g113 zr113 := by rw [e113]; exact a112.nwA 153 360
  have f113 := (by rw [e113]; exact f112.nwA rfl _ : Fr YB σ g113)
  clear e113 a112 f112
  refine fun g114 e114 => ?_
  have a114 : AGH XB g114 zr114 := by rw [e114]; exact a113.wR 12 0 67 (some (153, 0))
  have f114 := (by rw [e114]; exact f113.wR rfl _ _ _ : Fr YB σ g114)
  clear e114 a113 f113
  refine ⟨by decide, ?_⟩
  refine ⟨by decide, ?_⟩
  refine ⟨by decide, ?_⟩
  refine ⟨by decide, ?_⟩
  rw [show hc g114 154 = 0 from (a114.c 154 rfl).trans (by decide +kernel)]
  refine fun g115 e115 => ?_
  have a115 : AGH XB g115 zr115 := by rw [e115]; exact a114.nwA 154 60
  have f115 := (by rw [e115]; exact f114.nwA rfl _ : Fr YB σ g115)
  clear e115 a114 f114
  refine fun g116 e116 => ?_
  have a116 : AGH XB g116 zr116 := by rw [e116]; exact a115.wR 12 0 68 (some (154, 0))
  have f116 := (by rw [e116]; exact f115.wR rfl _ _ _ : Fr YB σ g116)
  clear e116 a115 f115
  exact hQ g116 a116 f116
