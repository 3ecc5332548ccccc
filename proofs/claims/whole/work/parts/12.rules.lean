/-! ===== a rule an instruction: the heap stays ===== -/
theorem ok1 {σ : XH} {v : XV} {st : List XV} (hv : XVok σ v) (h : ∀ w ∈ st, XVok σ w) : ∀ w ∈ v :: st, XVok σ w := List.forall_mem_cons.mpr ⟨hv, h⟩
theorem okt {σ : XH} {v : XV} {st : List XV} (h : ∀ w ∈ v :: st, XVok σ w) : ∀ w ∈ st, XVok σ w := (List.forall_mem_cons.mp h).2
theorem okh {σ : XH} {v : XV} {st : List XV} (h : ∀ w ∈ v :: st, XVok σ w) : XVok σ v := (List.forall_mem_cons.mp h).1
def catX (v : XV) : Nat := match v with
  | Sum.inr (Sum.inl _) => 2
  | _ => 1
theorem catX_ok (ad : XO → Nat) (v : XV) : (trv ad v).category = catX v := by
  match v with
  | Sum.inl x => rfl
  | Sum.inr (Sum.inl x) => rfl
  | Sum.inr (Sum.inr (Sum.inl none)) => rfl
  | Sum.inr (Sum.inr (Sum.inl (some o))) => rfl
  | Sum.inr (Sum.inr (Sum.inr _)) =>
    show (if ad (514, 1) = 0 then Value.null else .ref (ad (514, 0))).category = 1
    split <;> rfl
def catS (st : List XV) : Nat := (st.map catX).sum
theorem catS_ok (ad : XO → Nat) (st : List XV) : ((st.map (trv ad)).map fun v => v.category).sum = catS st := by
  unfold catS
  rw [List.map_map]
  exact congrArg List.sum (List.map_congr_left fun v _ => catX_ok ad v)
theorem r_iadd {d rc rs y pc : Nat} {ls st : List XV} {σ : XH} {Q : XV → XH → Prop} {a b : Int32} (hd : decode (mC y) pc = .ok (.iadd, 1)) (h : Ex d rc rs y (pc + 1) ls (vI (a + b) :: st) σ Q) : Ex d rc rs y pc ls (vI b :: vI a :: st) σ Q := by
  intro p l e R s m args below meth c H locs cells slots D n0 σ0 L0 ad0 L ad lsR C hL hst
  have hx := C.1.1
  have hb := C.1.2.1
  exact lv_iadd hx hb hd (h _ C hL (ok1 (XVok_I _ _) (okt (okt hst))))
theorem r_isub {d rc rs y pc : Nat} {ls st : List XV} {σ : XH} {Q : XV → XH → Prop} {a b : Int32} (hd : decode (mC y) pc = .ok (.isub, 1)) (h : Ex d rc rs y (pc + 1) ls (vI (a - b) :: st) σ Q) : Ex d rc rs y pc ls (vI b :: vI a :: st) σ Q := by
  intro p l e R s m args below meth c H locs cells slots D n0 σ0 L0 ad0 L ad lsR C hL hst
  have hx := C.1.1
  have hb := C.1.2.1
  exact lv_isub hx hb hd (h _ C hL (ok1 (XVok_I _ _) (okt (okt hst))))
theorem r_imul {d rc rs y pc : Nat} {ls st : List XV} {σ : XH} {Q : XV → XH → Prop} {a b : Int32} (hd : decode (mC y) pc = .ok (.imul, 1)) (h : Ex d rc rs y (pc + 1) ls (vI (a * b) :: st) σ Q) : Ex d rc rs y pc ls (vI b :: vI a :: st) σ Q := by
  intro p l e R s m args below meth c H locs cells slots D n0 σ0 L0 ad0 L ad lsR C hL hst
  have hx := C.1.1
  have hb := C.1.2.1
  exact lv_imul hx hb hd (h _ C hL (ok1 (XVok_I _ _) (okt (okt hst))))
theorem r_iand {d rc rs y pc : Nat} {ls st : List XV} {σ : XH} {Q : XV → XH → Prop} {a b : Int32} (hd : decode (mC y) pc = .ok (.iand, 1)) (h : Ex d rc rs y (pc + 1) ls (vI (a &&& b) :: st) σ Q) : Ex d rc rs y pc ls (vI b :: vI a :: st) σ Q := by
  intro p l e R s m args below meth c H locs cells slots D n0 σ0 L0 ad0 L ad lsR C hL hst
  have hx := C.1.1
  have hb := C.1.2.1
  exact lv_iand hx hb hd (h _ C hL (ok1 (XVok_I _ _) (okt (okt hst))))
theorem r_ior {d rc rs y pc : Nat} {ls st : List XV} {σ : XH} {Q : XV → XH → Prop} {a b : Int32} (hd : decode (mC y) pc = .ok (.ior, 1)) (h : Ex d rc rs y (pc + 1) ls (vI (a ||| b) :: st) σ Q) : Ex d rc rs y pc ls (vI b :: vI a :: st) σ Q := by
  intro p l e R s m args below meth c H locs cells slots D n0 σ0 L0 ad0 L ad lsR C hL hst
  have hx := C.1.1
  have hb := C.1.2.1
  exact lv_ior hx hb hd (h _ C hL (ok1 (XVok_I _ _) (okt (okt hst))))
theorem r_ixor {d rc rs y pc : Nat} {ls st : List XV} {σ : XH} {Q : XV → XH → Prop} {a b : Int32} (hd : decode (mC y) pc = .ok (.ixor, 1)) (h : Ex d rc rs y (pc + 1) ls (vI (a ^^^ b) :: st) σ Q) : Ex d rc rs y pc ls (vI b :: vI a :: st) σ Q := by
  intro p l e R s m args below meth c H locs cells slots D n0 σ0 L0 ad0 L ad lsR C hL hst
  have hx := C.1.1
  have hb := C.1.2.1
  exact lv_ixor hx hb hd (h _ C hL (ok1 (XVok_I _ _) (okt (okt hst))))
theorem r_ishl {d rc rs y pc : Nat} {ls st : List XV} {σ : XH} {Q : XV → XH → Prop} {a b : Int32} (hd : decode (mC y) pc = .ok (.ishl, 1)) (h : Ex d rc rs y (pc + 1) ls (vI (a <<< (b &&& 31)) :: st) σ Q) : Ex d rc rs y pc ls (vI b :: vI a :: st) σ Q := by
  intro p l e R s m args below meth c H locs cells slots D n0 σ0 L0 ad0 L ad lsR C hL hst
  have hx := C.1.1
  have hb := C.1.2.1
  exact lv_ishl hx hb hd (h _ C hL (ok1 (XVok_I _ _) (okt (okt hst))))
theorem r_ishr {d rc rs y pc : Nat} {ls st : List XV} {σ : XH} {Q : XV → XH → Prop} {a b : Int32} (hd : decode (mC y) pc = .ok (.ishr, 1)) (h : Ex d rc rs y (pc + 1) ls (vI (a >>> (b &&& 31)) :: st) σ Q) : Ex d rc rs y pc ls (vI b :: vI a :: st) σ Q := by
  intro p l e R s m args below meth c H locs cells slots D n0 σ0 L0 ad0 L ad lsR C hL hst
  have hx := C.1.1
  have hb := C.1.2.1
  exact lv_ishr hx hb hd (h _ C hL (ok1 (XVok_I _ _) (okt (okt hst))))
theorem r_iushr {d rc rs y pc : Nat} {ls st : List XV} {σ : XH} {Q : XV → XH → Prop} {a b : Int32} (hd : decode (mC y) pc = .ok (.iushr, 1)) (h : Ex d rc rs y (pc + 1) ls (vI ((a.toUInt32 >>> (b.toUInt32 &&& Int32.toUInt32 31)).toInt32) :: st) σ Q) : Ex d rc rs y pc ls (vI b :: vI a :: st) σ Q := by
  intro p l e R s m args below meth c H locs cells slots D n0 σ0 L0 ad0 L ad lsR C hL hst
  have hx := C.1.1
  have hb := C.1.2.1
  exact lv_iushr hx hb hd rfl (h _ C hL (ok1 (XVok_I _ _) (okt (okt hst))))
theorem r_idiv {d rc rs y pc : Nat} {ls st : List XV} {σ : XH} {Q : XV → XH → Prop} {a b : Int32} (hd : decode (mC y) pc = .ok (.idiv, 1)) (hne : ¬ b = 0) (h : Ex d rc rs y (pc + 1) ls (vI (a / b) :: st) σ Q) : Ex d rc rs y pc ls (vI b :: vI a :: st) σ Q := by
  intro p l e R s m args below meth c H locs cells slots D n0 σ0 L0 ad0 L ad lsR C hL hst
  have hx := C.1.1
  have hb := C.1.2.1
  exact lv_idiv hx hb hd hne (h _ C hL (ok1 (XVok_I _ _) (okt (okt hst))))
theorem r_irem {d rc rs y pc : Nat} {ls st : List XV} {σ : XH} {Q : XV → XH → Prop} {a b : Int32} (hd : decode (mC y) pc = .ok (.irem, 1)) (hne : ¬ b = 0) (h : Ex d rc rs y (pc + 1) ls (vI (a - a / b * b) :: st) σ Q) : Ex d rc rs y pc ls (vI b :: vI a :: st) σ Q := by
  intro p l e R s m args below meth c H locs cells slots D n0 σ0 L0 ad0 L ad lsR C hL hst
  have hx := C.1.1
  have hb := C.1.2.1
  exact lv_irem hx hb hd hne (h _ C hL (ok1 (XVok_I _ _) (okt (okt hst))))
theorem r_ineg {d rc rs y pc : Nat} {ls st : List XV} {σ : XH} {Q : XV → XH → Prop} {a : Int32} (hd : decode (mC y) pc = .ok (.ineg, 1)) (h : Ex d rc rs y (pc + 1) ls (vI (-a) :: st) σ Q) : Ex d rc rs y pc ls (vI a :: st) σ Q := by
  intro p l e R s m args below meth c H locs cells slots D n0 σ0 L0 ad0 L ad lsR C hL hst
  have hx := C.1.1
  have hb := C.1.2.1
  exact lv_ineg hx hb hd (h _ C hL (ok1 (XVok_I _ _) (okt hst)))
theorem r_ladd {d rc rs y pc : Nat} {ls st : List XV} {σ : XH} {Q : XV → XH → Prop} {a b : Int64} (hd : decode (mC y) pc = .ok (.ladd, 1)) (h : Ex d rc rs y (pc + 1) ls (vL (a + b) :: st) σ Q) : Ex d rc rs y pc ls (vL b :: vL a :: st) σ Q := by
  intro p l e R s m args below meth c H locs cells slots D n0 σ0 L0 ad0 L ad lsR C hL hst
  have hx := C.1.1
  have hb := C.1.2.1
  exact lv_ladd hx hb hd (h _ C hL (ok1 (XVok_L _ _) (okt (okt hst))))
theorem r_lsub {d rc rs y pc : Nat} {ls st : List XV} {σ : XH} {Q : XV → XH → Prop} {a b : Int64} (hd : decode (mC y) pc = .ok (.lsub, 1)) (h : Ex d rc rs y (pc + 1) ls (vL (a - b) :: st) σ Q) : Ex d rc rs y pc ls (vL b :: vL a :: st) σ Q := by
  intro p l e R s m args below meth c H locs cells slots D n0 σ0 L0 ad0 L ad lsR C hL hst
  have hx := C.1.1
  have hb := C.1.2.1
  exact lv_lsub hx hb hd (h _ C hL (ok1 (XVok_L _ _) (okt (okt hst))))
theorem r_lmul {d rc rs y pc : Nat} {ls st : List XV} {σ : XH} {Q : XV → XH → Prop} {a b : Int64} (hd : decode (mC y) pc = .ok (.lmul, 1)) (h : Ex d rc rs y (pc + 1) ls (vL (a * b) :: st) σ Q) : Ex d rc rs y pc ls (vL b :: vL a :: st) σ Q := by
  intro p l e R s m args below meth c H locs cells slots D n0 σ0 L0 ad0 L ad lsR C hL hst
  have hx := C.1.1
  have hb := C.1.2.1
  exact lv_lmul hx hb hd (h _ C hL (ok1 (XVok_L _ _) (okt (okt hst))))
theorem r_land {d rc rs y pc : Nat} {ls st : List XV} {σ : XH} {Q : XV → XH → Prop} {a b : Int64} (hd : decode (mC y) pc = .ok (.land, 1)) (h : Ex d rc rs y (pc + 1) ls (vL (a &&& b) :: st) σ Q) : Ex d rc rs y pc ls (vL b :: vL a :: st) σ Q := by
  intro p l e R s m args below meth c H locs cells slots D n0 σ0 L0 ad0 L ad lsR C hL hst
  have hx := C.1.1
  have hb := C.1.2.1
  exact lv_land hx hb hd (h _ C hL (ok1 (XVok_L _ _) (okt (okt hst))))
theorem r_lor {d rc rs y pc : Nat} {ls st : List XV} {σ : XH} {Q : XV → XH → Prop} {a b : Int64} (hd : decode (mC y) pc = .ok (.lor, 1)) (h : Ex d rc rs y (pc + 1) ls (vL (a ||| b) :: st) σ Q) : Ex d rc rs y pc ls (vL b :: vL a :: st) σ Q := by
  intro p l e R s m args below meth c H locs cells slots D n0 σ0 L0 ad0 L ad lsR C hL hst
  have hx := C.1.1
  have hb := C.1.2.1
  exact lv_lor hx hb hd (h _ C hL (ok1 (XVok_L _ _) (okt (okt hst))))
theorem r_lxor {d rc rs y pc : Nat} {ls st : List XV} {σ : XH} {Q : XV → XH → Prop} {a b : Int64} (hd : decode (mC y) pc = .ok (.lxor, 1)) (h : Ex d rc rs y (pc + 1) ls (vL (a ^^^ b) :: st) σ Q) : Ex d rc rs y pc ls (vL b :: vL a :: st) σ Q := by
  intro p l e R s m args below meth c H locs cells slots D n0 σ0 L0 ad0 L ad lsR C hL hst
  have hx := C.1.1
  have hb := C.1.2.1
  exact lv_lxor hx hb hd (h _ C hL (ok1 (XVok_L _ _) (okt (okt hst))))
theorem r_ldiv {d rc rs y pc : Nat} {ls st : List XV} {σ : XH} {Q : XV → XH → Prop} {a b : Int64} (hd : decode (mC y) pc = .ok (.ldiv, 1)) (hne : ¬ b = 0) (h : Ex d rc rs y (pc + 1) ls (vL (a / b) :: st) σ Q) : Ex d rc rs y pc ls (vL b :: vL a :: st) σ Q := by
  intro p l e R s m args below meth c H locs cells slots D n0 σ0 L0 ad0 L ad lsR C hL hst
  have hx := C.1.1
  have hb := C.1.2.1
  exact lv_ldiv hx hb hd hne (h _ C hL (ok1 (XVok_L _ _) (okt (okt hst))))
theorem r_lrem {d rc rs y pc : Nat} {ls st : List XV} {σ : XH} {Q : XV → XH → Prop} {a b : Int64} (hd : decode (mC y) pc = .ok (.lrem, 1)) (hne : ¬ b = 0) (h : Ex d rc rs y (pc + 1) ls (vL (a - a / b * b) :: st) σ Q) : Ex d rc rs y pc ls (vL b :: vL a :: st) σ Q := by
  intro p l e R s m args below meth c H locs cells slots D n0 σ0 L0 ad0 L ad lsR C hL hst
  have hx := C.1.1
  have hb := C.1.2.1
  exact lv_lrem hx hb hd hne (h _ C hL (ok1 (XVok_L _ _) (okt (okt hst))))
theorem r_lneg {d rc rs y pc : Nat} {ls st : List XV} {σ : XH} {Q : XV → XH → Prop} {a : Int64} (hd : decode (mC y) pc = .ok (.lneg, 1)) (h : Ex d rc rs y (pc + 1) ls (vL (-a) :: st) σ Q) : Ex d rc rs y pc ls (vL a :: st) σ Q := by
  intro p l e R s m args below meth c H locs cells slots D n0 σ0 L0 ad0 L ad lsR C hL hst
  have hx := C.1.1
  have hb := C.1.2.1
  exact lv_lneg hx hb hd (h _ C hL (ok1 (XVok_L _ _) (okt hst)))
theorem r_lushr {d rc rs y pc : Nat} {ls st : List XV} {σ : XH} {Q : XV → XH → Prop} {a : Int64} {b : Int32} (hd : decode (mC y) pc = .ok (.lushr, 1)) (h : Ex d rc rs y (pc + 1) ls (vL ((a.toUInt64 >>> (b.toInt64.toUInt64 &&& Int64.toUInt64 63)).toInt64) :: st) σ Q) : Ex d rc rs y pc ls (vI b :: vL a :: st) σ Q := by
  intro p l e R s m args below meth c H locs cells slots D n0 σ0 L0 ad0 L ad lsR C hL hst
  have hx := C.1.1
  have hb := C.1.2.1
  exact lv_lushr hx hb hd rfl (h _ C hL (ok1 (XVok_L _ _) (okt (okt hst))))
theorem r_lshl {d rc rs y pc : Nat} {ls st : List XV} {σ : XH} {Q : XV → XH → Prop} {a : Int64} {b : Int32} (hd : decode (mC y) pc = .ok (.lshl, 1)) (h : Ex d rc rs y (pc + 1) ls (vL (a <<< (b.toInt64 &&& 63)) :: st) σ Q) : Ex d rc rs y pc ls (vI b :: vL a :: st) σ Q := by
  intro p l e R s m args below meth c H locs cells slots D n0 σ0 L0 ad0 L ad lsR C hL hst
  have hx := C.1.1
  have hb := C.1.2.1
  exact lv_lshl hx hb hd rfl (h _ C hL (ok1 (XVok_L _ _) (okt (okt hst))))
theorem r_lshr {d rc rs y pc : Nat} {ls st : List XV} {σ : XH} {Q : XV → XH → Prop} {a : Int64} {b : Int32} (hd : decode (mC y) pc = .ok (.lshr, 1)) (h : Ex d rc rs y (pc + 1) ls (vL (a >>> (b.toInt64 &&& 63)) :: st) σ Q) : Ex d rc rs y pc ls (vI b :: vL a :: st) σ Q := by
  intro p l e R s m args below meth c H locs cells slots D n0 σ0 L0 ad0 L ad lsR C hL hst
  have hx := C.1.1
  have hb := C.1.2.1
  exact lv_lshr hx hb hd rfl (h _ C hL (ok1 (XVok_L _ _) (okt (okt hst))))
theorem r_lcmp {d rc rs y pc : Nat} {ls st : List XV} {σ : XH} {Q : XV → XH → Prop} {a b : Int64} (hd : decode (mC y) pc = .ok (.lcmp, 1)) (h : Ex d rc rs y (pc + 1) ls (vI (lg_cmp a b) :: st) σ Q) : Ex d rc rs y pc ls (vL b :: vL a :: st) σ Q := by
  intro p l e R s m args below meth c H locs cells slots D n0 σ0 L0 ad0 L ad lsR C hL hst
  have hx := C.1.1
  have hb := C.1.2.1
  exact W.lcmp hx hb hd (h _ C hL (ok1 (XVok_I _ _) (okt (okt hst))))
theorem r_i2l {d rc rs y pc : Nat} {ls st : List XV} {σ : XH} {Q : XV → XH → Prop} {a : Int32} (hd : decode (mC y) pc = .ok (.i2l, 1)) (h : Ex d rc rs y (pc + 1) ls (vL (a.toInt64) :: st) σ Q) : Ex d rc rs y pc ls (vI a :: st) σ Q := by
  intro p l e R s m args below meth c H locs cells slots D n0 σ0 L0 ad0 L ad lsR C hL hst
  have hx := C.1.1
  have hb := C.1.2.1
  exact lv_i2l hx hb hd rfl (h _ C hL (ok1 (XVok_L _ _) (okt hst)))
theorem r_l2i {d rc rs y pc : Nat} {ls st : List XV} {σ : XH} {Q : XV → XH → Prop} {a : Int64} (hd : decode (mC y) pc = .ok (.l2i, 1)) (h : Ex d rc rs y (pc + 1) ls (vI (a.toInt32) :: st) σ Q) : Ex d rc rs y pc ls (vL a :: st) σ Q := by
  intro p l e R s m args below meth c H locs cells slots D n0 σ0 L0 ad0 L ad lsR C hL hst
  have hx := C.1.1
  have hb := C.1.2.1
  exact lv_l2i hx hb hd rfl (h _ C hL (ok1 (XVok_I _ _) (okt hst)))
theorem r_i2b {d rc rs y pc : Nat} {ls st : List XV} {σ : XH} {Q : XV → XH → Prop} {a : Int32} (hd : decode (mC y) pc = .ok (.i2b, 1)) (h : Ex d rc rs y (pc + 1) ls (vI (a.toInt8.toInt32) :: st) σ Q) : Ex d rc rs y pc ls (vI a :: st) σ Q := by
  intro p l e R s m args below meth c H locs cells slots D n0 σ0 L0 ad0 L ad lsR C hL hst
  have hx := C.1.1
  have hb := C.1.2.1
  exact lv_i2b hx hb hd rfl (h _ C hL (ok1 (XVok_I _ _) (okt hst)))
theorem r_i2s {d rc rs y pc : Nat} {ls st : List XV} {σ : XH} {Q : XV → XH → Prop} {a : Int32} (hd : decode (mC y) pc = .ok (.i2s, 1)) (h : Ex d rc rs y (pc + 1) ls (vI (a.toInt16.toInt32) :: st) σ Q) : Ex d rc rs y pc ls (vI a :: st) σ Q := by
  intro p l e R s m args below meth c H locs cells slots D n0 σ0 L0 ad0 L ad lsR C hL hst
  have hx := C.1.1
  have hb := C.1.2.1
  exact lv_i2s hx hb hd rfl (h _ C hL (ok1 (XVok_I _ _) (okt hst)))
theorem r_i2c {d rc rs y pc : Nat} {ls st : List XV} {σ : XH} {Q : XV → XH → Prop} {a : Int32} (hd : decode (mC y) pc = .ok (.i2c, 1)) (h : Ex d rc rs y (pc + 1) ls (vI ((a.toUInt32 % 65536).toInt32) :: st) σ Q) : Ex d rc rs y pc ls (vI a :: st) σ Q := by
  intro p l e R s m args below meth c H locs cells slots D n0 σ0 L0 ad0 L ad lsR C hL hst
  have hx := C.1.1
  have hb := C.1.2.1
  exact lv_i2c hx hb hd rfl (h _ C hL (ok1 (XVok_I _ _) (okt hst)))
theorem r_iconst {d rc rs y pc : Nat} {ls st : List XV} {σ : XH} {Q : XV → XH → Prop} {n : Int} {v : Int32} (hd : decode (mC y) pc = .ok (.iconst n, 1)) (hv : Int32.ofInt n = v) (h : Ex d rc rs y (pc + 1) ls (vI v :: st) σ Q) : Ex d rc rs y pc ls (st) σ Q := by
  intro p l e R s m args below meth c H locs cells slots D n0 σ0 L0 ad0 L ad lsR C hL hst
  have hx := C.1.1
  have hb := C.1.2.1
  exact lv_iconst hx hb hd hv (h _ C hL (ok1 (XVok_I _ _) hst))
theorem r_bipush {d rc rs y pc : Nat} {ls st : List XV} {σ : XH} {Q : XV → XH → Prop} {n : Int} {v : Int32} (hd : decode (mC y) pc = .ok (.bipush n, 2)) (hv : (Int8.ofInt n).toInt32 = v) (h : Ex d rc rs y (pc + 2) ls (vI v :: st) σ Q) : Ex d rc rs y pc ls (st) σ Q := by
  intro p l e R s m args below meth c H locs cells slots D n0 σ0 L0 ad0 L ad lsR C hL hst
  have hx := C.1.1
  have hb := C.1.2.1
  exact lv_bipush hx hb hd hv (h _ C hL (ok1 (XVok_I _ _) hst))
theorem r_sipush {d rc rs y pc : Nat} {ls st : List XV} {σ : XH} {Q : XV → XH → Prop} {n : Int} {v : Int32} (hd : decode (mC y) pc = .ok (.sipush n, 3)) (hv : (Int16.ofInt n).toInt32 = v) (h : Ex d rc rs y (pc + 3) ls (vI v :: st) σ Q) : Ex d rc rs y pc ls (st) σ Q := by
  intro p l e R s m args below meth c H locs cells slots D n0 σ0 L0 ad0 L ad lsR C hL hst
  have hx := C.1.1
  have hb := C.1.2.1
  exact lv_sipush hx hb hd hv (h _ C hL (ok1 (XVok_I _ _) hst))
theorem r_lconst {d rc rs y pc : Nat} {ls st : List XV} {σ : XH} {Q : XV → XH → Prop} {n : Fin 2} {v : Int64} (hd : decode (mC y) pc = .ok (.lconst n, 1)) (hv : Int64.ofNat (n : Nat) = v) (h : Ex d rc rs y (pc + 1) ls (vL v :: st) σ Q) : Ex d rc rs y pc ls (st) σ Q := by
  intro p l e R s m args below meth c H locs cells slots D n0 σ0 L0 ad0 L ad lsR C hL hst
  have hx := C.1.1
  have hb := C.1.2.1
  exact lv_lconst hx hb hd hv (h _ C hL (ok1 (XVok_L _ _) hst))
theorem r_ldc {d rc rs y pc : Nat} {ls st : List XV} {σ : XH} {Q : XV → XH → Prop} {i : Nat} {v : Int32} (hd : decode (mC y) pc = .ok (.ldc i, 2)) (hw : Cond.constant (mY y).cls i v ∈ lwA) (h : Ex d rc rs y (pc + 2) ls (vI v :: st) σ Q) : Ex d rc rs y pc ls (st) σ Q := by
  intro p l e R s m args below meth c H locs cells slots D n0 σ0 L0 ad0 L ad lsR C hL hst
  have hx := C.1.1
  have hb := C.1.2.1
  exact lv_ldc hx hb C.1.2.2.2.2.1 (C.1.2.2.2.2.2.2.2 _ hw) hd (h _ C hL (ok1 (XVok_I _ _) hst))
theorem r_ldcw {d rc rs y pc : Nat} {ls st : List XV} {σ : XH} {Q : XV → XH → Prop} {i : Nat} {v : Int32} (hd : decode (mC y) pc = .ok (.ldc_w i, 3)) (hw : Cond.constant (mY y).cls i v ∈ lwA) (h : Ex d rc rs y (pc + 3) ls (vI v :: st) σ Q) : Ex d rc rs y pc ls (st) σ Q := by
  intro p l e R s m args below meth c H locs cells slots D n0 σ0 L0 ad0 L ad lsR C hL hst
  have hx := C.1.1
  have hb := C.1.2.1
  exact lv_ldcw hx hb C.1.2.2.2.2.1 (C.1.2.2.2.2.2.2.2 _ hw) hd (h _ C hL (ok1 (XVok_I _ _) hst))
theorem r_ldc2 {d rc rs y pc : Nat} {ls st : List XV} {σ : XH} {Q : XV → XH → Prop} {i : Nat} {v : Int64} (hd : decode (mC y) pc = .ok (.ldc2_w i, 3)) (hw : Cond.constantLong (mY y).cls i v ∈ lwA) (h : Ex d rc rs y (pc + 3) ls (vL v :: st) σ Q) : Ex d rc rs y pc ls (st) σ Q := by
  intro p l e R s m args below meth c H locs cells slots D n0 σ0 L0 ad0 L ad lsR C hL hst
  have hx := C.1.1
  have hb := C.1.2.1
  exact lv_ldc2 hx hb C.1.2.2.2.2.1 (C.1.2.2.2.2.2.2.2 _ hw) hd (h _ C hL (ok1 (XVok_L _ _) hst))
theorem r_null {d rc rs y pc : Nat} {ls st : List XV} {σ : XH} {Q : XV → XH → Prop}  (hd : decode (mC y) pc = .ok (.aconst_null, 1)) (h : Ex d rc rs y (pc + 1) ls (vR none :: st) σ Q) : Ex d rc rs y pc ls (st) σ Q := by
  intro p l e R s m args below meth c H locs cells slots D n0 σ0 L0 ad0 L ad lsR C hL hst
  have hx := C.1.1
  have hb := C.1.2.1
  exact lv_null hx hb hd (h _ C hL (ok1 (XVok_n _) hst))
theorem r_dup {d rc rs y pc : Nat} {ls st : List XV} {σ : XH} {Q : XV → XH → Prop} {v : XV} (hd : decode (mC y) pc = .ok (.dup, 1)) (hv : catX v = 1) (h : Ex d rc rs y (pc + 1) ls (v :: v :: st) σ Q) : Ex d rc rs y pc ls (v :: st) σ Q := by
  intro p l e R s m args below meth c H locs cells slots D n0 σ0 L0 ad0 L ad lsR C hL hst
  have hx := C.1.1
  have hb := C.1.2.1
  exact lv_dup hx hb hd (by rw [catX_ok]; exact hv) (h _ C hL (ok1 (okh hst) hst))
theorem r_pop {d rc rs y pc : Nat} {ls st : List XV} {σ : XH} {Q : XV → XH → Prop} {v : XV} (hd : decode (mC y) pc = .ok (.pop, 1)) (hv : catX v = 1) (h : Ex d rc rs y (pc + 1) ls (st) σ Q) : Ex d rc rs y pc ls (v :: st) σ Q := by
  intro p l e R s m args below meth c H locs cells slots D n0 σ0 L0 ad0 L ad lsR C hL hst
  have hx := C.1.1
  have hb := C.1.2.1
  exact lv_pop hx hb hd (by rw [catX_ok]; exact hv) (h _ C hL (okt hst))
theorem r_dup_x1 {d rc rs y pc : Nat} {ls st : List XV} {σ : XH} {Q : XV → XH → Prop} {v w : XV} (hd : decode (mC y) pc = .ok (.dup_x1, 1)) (hv : catX v = 1) (hw : catX w = 1) (h : Ex d rc rs y (pc + 1) ls (v :: w :: v :: st) σ Q) : Ex d rc rs y pc ls (v :: w :: st) σ Q := by
  intro p l e R s m args below meth c H locs cells slots D n0 σ0 L0 ad0 L ad lsR C hL hst
  have hx := C.1.1
  have hb := C.1.2.1
  exact lv_dup_x1 hx hb hd (by rw [catX_ok]; exact hv) (by rw [catX_ok]; exact hw) (h _ C hL (ok1 (okh hst) (ok1 (okh (okt hst)) (ok1 (okh hst) (okt (okt hst))))))
theorem r_dup2 {d rc rs y pc : Nat} {ls st : List XV} {σ : XH} {Q : XV → XH → Prop} {v w : XV} (hd : decode (mC y) pc = .ok (.dup2, 1)) (hv : catX v = 1) (hw : catX w = 1) (h : Ex d rc rs y (pc + 1) ls (v :: w :: v :: w :: st) σ Q) : Ex d rc rs y pc ls (v :: w :: st) σ Q := by
  intro p l e R s m args below meth c H locs cells slots D n0 σ0 L0 ad0 L ad lsR C hL hst
  have hx := C.1.1
  have hb := C.1.2.1
  exact lv_dup2_11 hx hb hd (by rw [catX_ok]; exact hv) (by rw [catX_ok]; exact hw) (h _ C hL (ok1 (okh hst) (ok1 (okh (okt hst)) hst)))
theorem r_iload {d rc rs y pc : Nat} {ls st : List XV} {σ : XH} {Q : XV → XH → Prop} {i : Nat} {a : Int32} (hd : decode (mC y) pc = .ok (.iload i, 2)) (hi : ls[i]? = some (vI a)) (h : Ex d rc rs y (pc + 2) ls (vI a :: st) σ Q) : Ex d rc rs y pc ls (st) σ Q := by
  intro p l e R s m args below meth c H locs cells slots D n0 σ0 L0 ad0 L ad lsR C hL hst
  have hx := C.1.1
  have hb := C.1.2.1
  exact lv_iload hx hb hd (hL.2.2 i _ hi (fun e => by cases e)).1 (h _ C hL (ok1 (XVok_I _ _) hst))
theorem r_iload_n {d rc rs y pc : Nat} {ls st : List XV} {σ : XH} {Q : XV → XH → Prop} {k : Fin 4} {i : Nat} {a : Int32} (hd : decode (mC y) pc = .ok (.iload_n k, 1)) (hk : (k : Nat) = i) (hi : ls[i]? = some (vI a)) (h : Ex d rc rs y (pc + 1) ls (vI a :: st) σ Q) : Ex d rc rs y pc ls (st) σ Q := by
  intro p l e R s m args below meth c H locs cells slots D n0 σ0 L0 ad0 L ad lsR C hL hst
  have hx := C.1.1
  have hb := C.1.2.1
  exact lv_iload_n hx hb hd hk (hL.2.2 i _ hi (fun e => by cases e)).1 (h _ C hL (ok1 (XVok_I _ _) hst))
theorem r_lload {d rc rs y pc : Nat} {ls st : List XV} {σ : XH} {Q : XV → XH → Prop} {i : Nat} {a : Int64} (hd : decode (mC y) pc = .ok (.lload i, 2)) (hi : ls[i]? = some (vL a)) (h : Ex d rc rs y (pc + 2) ls (vL a :: st) σ Q) : Ex d rc rs y pc ls (st) σ Q := by
  intro p l e R s m args below meth c H locs cells slots D n0 σ0 L0 ad0 L ad lsR C hL hst
  have hx := C.1.1
  have hb := C.1.2.1
  exact lv_lload hx hb hd (hL.2.2 i _ hi (fun e => by cases e)).1 (h _ C hL (ok1 (XVok_L _ _) hst))
theorem r_lload_n {d rc rs y pc : Nat} {ls st : List XV} {σ : XH} {Q : XV → XH → Prop} {k : Fin 4} {i : Nat} {a : Int64} (hd : decode (mC y) pc = .ok (.lload_n k, 1)) (hk : (k : Nat) = i) (hi : ls[i]? = some (vL a)) (h : Ex d rc rs y (pc + 1) ls (vL a :: st) σ Q) : Ex d rc rs y pc ls (st) σ Q := by
  intro p l e R s m args below meth c H locs cells slots D n0 σ0 L0 ad0 L ad lsR C hL hst
  have hx := C.1.1
  have hb := C.1.2.1
  exact lv_lload_n hx hb hd hk (hL.2.2 i _ hi (fun e => by cases e)).1 (h _ C hL (ok1 (XVok_L _ _) hst))
theorem r_aload {d rc rs y pc : Nat} {ls st : List XV} {σ : XH} {Q : XV → XH → Prop} {i : Nat} {r : Option XO} (hd : decode (mC y) pc = .ok (.aload i, 2)) (hi : ls[i]? = some (vR r)) (h : Ex d rc rs y (pc + 2) ls (vR r :: st) σ Q) : Ex d rc rs y pc ls st σ Q := by
  intro p l e R s m args below meth c H locs cells slots D n0 σ0 L0 ad0 L ad lsR C hL hst
  have hx := C.1.1
  have hb := C.1.2.1
  have hl := hL.2.2 i _ hi (fun e => by cases e)
  have hok := h _ (l := l) (e := e) (below := below) C hL (ok1 hl.2 hst)
  cases r with
  | none => exact lv_aloadN hx hb hd hl.1 hok
  | some o => exact lv_aload hx hb hd hl.1 hok
theorem r_aload_n {d rc rs y pc : Nat} {ls st : List XV} {σ : XH} {Q : XV → XH → Prop} {k : Fin 4} {i : Nat} {r : Option XO} (hd : decode (mC y) pc = .ok (.aload_n k, 1)) (hk : (k : Nat) = i) (hi : ls[i]? = some (vR r)) (h : Ex d rc rs y (pc + 1) ls (vR r :: st) σ Q) : Ex d rc rs y pc ls st σ Q := by
  intro p l e R s m args below meth c H locs cells slots D n0 σ0 L0 ad0 L ad lsR C hL hst
  have hx := C.1.1
  have hb := C.1.2.1
  have hl := hL.2.2 i _ hi (fun e => by cases e)
  have hok := h _ (l := l) (e := e) (below := below) C hL (ok1 hl.2 hst)
  cases r with
  | none => exact lv_aload_nN hx hb hd hk hl.1 hok
  | some o => exact lv_aload_n hx hb hd hk hl.1 hok
theorem r_if_eq {d rc rs y pc : Nat} {ls st : List XV} {σ : XH} {Q : XV → XH → Prop} {a : Int32} {off : Int} {tgt : Nat} (hd : decode (mC y) pc = .ok (.ifCond .eq off, 3)) (ht : (pc : Int) + off = (tgt : Int)) (h1 : a = 0 → Ex d rc rs y tgt ls st σ Q) (h2 : ¬ a = 0 → Ex d rc rs y (pc + 3) ls st σ Q) : Ex d rc rs y pc ls (vI a :: st) σ Q := by
  intro p l e R s m args below meth c H locs cells slots D n0 σ0 L0 ad0 L ad lsR C hL hst
  have hx := C.1.1
  have hb := C.1.2.1
  exact lv_if_eq hx hb hd ht (fun k => h1 k _ C hL (okt hst)) (fun k => h2 k _ C hL (okt hst))
theorem r_icmp_eq {d rc rs y pc : Nat} {ls st : List XV} {σ : XH} {Q : XV → XH → Prop} {a b : Int32} {off : Int} {tgt : Nat} (hd : decode (mC y) pc = .ok (.if_icmp .eq off, 3)) (ht : (pc : Int) + off = (tgt : Int)) (h1 : a = b → Ex d rc rs y tgt ls st σ Q) (h2 : ¬ a = b → Ex d rc rs y (pc + 3) ls st σ Q) : Ex d rc rs y pc ls (vI b :: vI a :: st) σ Q := by
  intro p l e R s m args below meth c H locs cells slots D n0 σ0 L0 ad0 L ad lsR C hL hst
  have hx := C.1.1
  have hb := C.1.2.1
  exact lv_icmp_eq hx hb hd ht (fun k => h1 k _ C hL (okt (okt hst))) (fun k => h2 k _ C hL (okt (okt hst)))
theorem r_if_lt {d rc rs y pc : Nat} {ls st : List XV} {σ : XH} {Q : XV → XH → Prop} {a : Int32} {off : Int} {tgt : Nat} (hd : decode (mC y) pc = .ok (.ifCond .lt off, 3)) (ht : (pc : Int) + off = (tgt : Int)) (h1 : a < 0 → Ex d rc rs y tgt ls st σ Q) (h2 : ¬ a < 0 → Ex d rc rs y (pc + 3) ls st σ Q) : Ex d rc rs y pc ls (vI a :: st) σ Q := by
  intro p l e R s m args below meth c H locs cells slots D n0 σ0 L0 ad0 L ad lsR C hL hst
  have hx := C.1.1
  have hb := C.1.2.1
  exact lv_if_lt hx hb hd ht (fun k => h1 k _ C hL (okt hst)) (fun k => h2 k _ C hL (okt hst))
theorem r_icmp_lt {d rc rs y pc : Nat} {ls st : List XV} {σ : XH} {Q : XV → XH → Prop} {a b : Int32} {off : Int} {tgt : Nat} (hd : decode (mC y) pc = .ok (.if_icmp .lt off, 3)) (ht : (pc : Int) + off = (tgt : Int)) (h1 : a < b → Ex d rc rs y tgt ls st σ Q) (h2 : ¬ a < b → Ex d rc rs y (pc + 3) ls st σ Q) : Ex d rc rs y pc ls (vI b :: vI a :: st) σ Q := by
  intro p l e R s m args below meth c H locs cells slots D n0 σ0 L0 ad0 L ad lsR C hL hst
  have hx := C.1.1
  have hb := C.1.2.1
  exact lv_icmp_lt hx hb hd ht (fun k => h1 k _ C hL (okt (okt hst))) (fun k => h2 k _ C hL (okt (okt hst)))
theorem r_if_gt {d rc rs y pc : Nat} {ls st : List XV} {σ : XH} {Q : XV → XH → Prop} {a : Int32} {off : Int} {tgt : Nat} (hd : decode (mC y) pc = .ok (.ifCond .gt off, 3)) (ht : (pc : Int) + off = (tgt : Int)) (h1 : 0 < a → Ex d rc rs y tgt ls st σ Q) (h2 : ¬ 0 < a → Ex d rc rs y (pc + 3) ls st σ Q) : Ex d rc rs y pc ls (vI a :: st) σ Q := by
  intro p l e R s m args below meth c H locs cells slots D n0 σ0 L0 ad0 L ad lsR C hL hst
  have hx := C.1.1
  have hb := C.1.2.1
  exact lv_if_gt hx hb hd ht (fun k => h1 k _ C hL (okt hst)) (fun k => h2 k _ C hL (okt hst))
theorem r_icmp_gt {d rc rs y pc : Nat} {ls st : List XV} {σ : XH} {Q : XV → XH → Prop} {a b : Int32} {off : Int} {tgt : Nat} (hd : decode (mC y) pc = .ok (.if_icmp .gt off, 3)) (ht : (pc : Int) + off = (tgt : Int)) (h1 : b < a → Ex d rc rs y tgt ls st σ Q) (h2 : ¬ b < a → Ex d rc rs y (pc + 3) ls st σ Q) : Ex d rc rs y pc ls (vI b :: vI a :: st) σ Q := by
  intro p l e R s m args below meth c H locs cells slots D n0 σ0 L0 ad0 L ad lsR C hL hst
  have hx := C.1.1
  have hb := C.1.2.1
  exact lv_icmp_gt hx hb hd ht (fun k => h1 k _ C hL (okt (okt hst))) (fun k => h2 k _ C hL (okt (okt hst)))
theorem r_if_ne {d rc rs y pc : Nat} {ls st : List XV} {σ : XH} {Q : XV → XH → Prop} {a : Int32} {off : Int} {tgt : Nat} (hd : decode (mC y) pc = .ok (.ifCond .ne off, 3)) (ht : (pc : Int) + off = (tgt : Int)) (h1 : ¬ a = 0 → Ex d rc rs y tgt ls st σ Q) (h2 : a = 0 → Ex d rc rs y (pc + 3) ls st σ Q) : Ex d rc rs y pc ls (vI a :: st) σ Q := by
  intro p l e R s m args below meth c H locs cells slots D n0 σ0 L0 ad0 L ad lsR C hL hst
  have hx := C.1.1
  have hb := C.1.2.1
  exact lv_if_ne hx hb hd ht (fun k => h1 (k) _ C hL (okt hst)) (fun k => h2 (k) _ C hL (okt hst))
theorem r_icmp_ne {d rc rs y pc : Nat} {ls st : List XV} {σ : XH} {Q : XV → XH → Prop} {a b : Int32} {off : Int} {tgt : Nat} (hd : decode (mC y) pc = .ok (.if_icmp .ne off, 3)) (ht : (pc : Int) + off = (tgt : Int)) (h1 : ¬ a = b → Ex d rc rs y tgt ls st σ Q) (h2 : a = b → Ex d rc rs y (pc + 3) ls st σ Q) : Ex d rc rs y pc ls (vI b :: vI a :: st) σ Q := by
  intro p l e R s m args below meth c H locs cells slots D n0 σ0 L0 ad0 L ad lsR C hL hst
  have hx := C.1.1
  have hb := C.1.2.1
  exact lv_icmp_ne hx hb hd ht (fun k => h1 (k) _ C hL (okt (okt hst))) (fun k => h2 (k) _ C hL (okt (okt hst)))
theorem r_if_ge {d rc rs y pc : Nat} {ls st : List XV} {σ : XH} {Q : XV → XH → Prop} {a : Int32} {off : Int} {tgt : Nat} (hd : decode (mC y) pc = .ok (.ifCond .ge off, 3)) (ht : (pc : Int) + off = (tgt : Int)) (h1 : ¬ a < 0 → Ex d rc rs y tgt ls st σ Q) (h2 : a < 0 → Ex d rc rs y (pc + 3) ls st σ Q) : Ex d rc rs y pc ls (vI a :: st) σ Q := by
  intro p l e R s m args below meth c H locs cells slots D n0 σ0 L0 ad0 L ad lsR C hL hst
  have hx := C.1.1
  have hb := C.1.2.1
  exact lv_if_ge hx hb hd ht (fun k => h1 (Int32.not_lt.mpr k) _ C hL (okt hst)) (fun k => h2 (Int32.not_le.mp k) _ C hL (okt hst))
theorem r_icmp_ge {d rc rs y pc : Nat} {ls st : List XV} {σ : XH} {Q : XV → XH → Prop} {a b : Int32} {off : Int} {tgt : Nat} (hd : decode (mC y) pc = .ok (.if_icmp .ge off, 3)) (ht : (pc : Int) + off = (tgt : Int)) (h1 : ¬ a < b → Ex d rc rs y tgt ls st σ Q) (h2 : a < b → Ex d rc rs y (pc + 3) ls st σ Q) : Ex d rc rs y pc ls (vI b :: vI a :: st) σ Q := by
  intro p l e R s m args below meth c H locs cells slots D n0 σ0 L0 ad0 L ad lsR C hL hst
  have hx := C.1.1
  have hb := C.1.2.1
  exact lv_icmp_ge hx hb hd ht (fun k => h1 (Int32.not_lt.mpr k) _ C hL (okt (okt hst))) (fun k => h2 (Int32.not_le.mp k) _ C hL (okt (okt hst)))
theorem r_if_le {d rc rs y pc : Nat} {ls st : List XV} {σ : XH} {Q : XV → XH → Prop} {a : Int32} {off : Int} {tgt : Nat} (hd : decode (mC y) pc = .ok (.ifCond .le off, 3)) (ht : (pc : Int) + off = (tgt : Int)) (h1 : ¬ 0 < a → Ex d rc rs y tgt ls st σ Q) (h2 : 0 < a → Ex d rc rs y (pc + 3) ls st σ Q) : Ex d rc rs y pc ls (vI a :: st) σ Q := by
  intro p l e R s m args below meth c H locs cells slots D n0 σ0 L0 ad0 L ad lsR C hL hst
  have hx := C.1.1
  have hb := C.1.2.1
  exact lv_if_le hx hb hd ht (fun k => h1 (Int32.not_lt.mpr k) _ C hL (okt hst)) (fun k => h2 (Int32.not_le.mp k) _ C hL (okt hst))
theorem r_icmp_le {d rc rs y pc : Nat} {ls st : List XV} {σ : XH} {Q : XV → XH → Prop} {a b : Int32} {off : Int} {tgt : Nat} (hd : decode (mC y) pc = .ok (.if_icmp .le off, 3)) (ht : (pc : Int) + off = (tgt : Int)) (h1 : ¬ b < a → Ex d rc rs y tgt ls st σ Q) (h2 : b < a → Ex d rc rs y (pc + 3) ls st σ Q) : Ex d rc rs y pc ls (vI b :: vI a :: st) σ Q := by
  intro p l e R s m args below meth c H locs cells slots D n0 σ0 L0 ad0 L ad lsR C hL hst
  have hx := C.1.1
  have hb := C.1.2.1
  exact lv_icmp_le hx hb hd ht (fun k => h1 (Int32.not_lt.mpr k) _ C hL (okt (okt hst))) (fun k => h2 (Int32.not_le.mp k) _ C hL (okt (okt hst)))
theorem r_goto {d rc rs y pc : Nat} {ls st : List XV} {σ : XH} {Q : XV → XH → Prop} {off : Int} {tgt : Nat} (hd : decode (mC y) pc = .ok (.goto off, 3)) (ht : (pc : Int) + off = (tgt : Int)) (h : Ex d rc rs y tgt ls st σ Q) : Ex d rc rs y pc ls st σ Q := by
  intro p l e R s m args below meth c H locs cells slots D n0 σ0 L0 ad0 L ad lsR C hL hst
  have hx := C.1.1
  have hb := C.1.2.1
  exact lv_goto hx hb hd ht (h _ C hL hst)
theorem r_ifnull {d rc rs y pc : Nat} {ls st : List XV} {σ : XH} {Q : XV → XH → Prop} {r : Option XO} {off : Int} {tgt : Nat} (hd : decode (mC y) pc = .ok (.ifnull off, 3)) (ht : (pc : Int) + off = (tgt : Int)) (h1 : r = none → Ex d rc rs y tgt ls st σ Q) (h2 : ¬ r = none → Ex d rc rs y (pc + 3) ls st σ Q) : Ex d rc rs y pc ls (vR r :: st) σ Q := by
  intro p l e R s m args below meth c H locs cells slots D n0 σ0 L0 ad0 L ad lsR C hL hst
  have hx := C.1.1
  have hb := C.1.2.1
  cases r with
  | none => exact lv_ifnullN hx hb hd ht (h1 rfl _ C hL (okt hst))
  | some o => exact lv_ifnull hx hb hd (h2 (fun e => by cases e) _ C hL (okt hst))
theorem r_ifnonnull {d rc rs y pc : Nat} {ls st : List XV} {σ : XH} {Q : XV → XH → Prop} {r : Option XO} {off : Int} {tgt : Nat} (hd : decode (mC y) pc = .ok (.ifnonnull off, 3)) (ht : (pc : Int) + off = (tgt : Int)) (h1 : ¬ r = none → Ex d rc rs y tgt ls st σ Q) (h2 : r = none → Ex d rc rs y (pc + 3) ls st σ Q) : Ex d rc rs y pc ls (vR r :: st) σ Q := by
  intro p l e R s m args below meth c H locs cells slots D n0 σ0 L0 ad0 L ad lsR C hL hst
  have hx := C.1.1
  have hb := C.1.2.1
  cases r with
  | none => exact lv_ifnonnullN hx hb hd (h2 rfl _ C hL (okt hst))
  | some o => exact lv_ifnonnull hx hb hd ht (h1 (fun e => by cases e) _ C hL (okt hst))
