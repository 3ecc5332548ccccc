/-! ===== bytecode unrolled up to block heads: a plain statement ===== -/
abbrev XE : Type := Instr × Nat × List Nat × Int32 × Int64 × List (Int32 × Nat)
def msk (bs : List Bool) (ls : List XV) : List XV := List.zipWith (fun b v => bif b then v else vU) bs ls
theorem msk_le (bs : List Bool) (ls : List XV) : XLe (msk bs ls) ls := by
  intro k v hk hv
  unfold msk at hk
  rw [List.getElem?_zipWith] at hk
  cases hb : bs[k]? with
  | none => rw [hb] at hk; cases hk
  | some b =>
    cases hl : ls[k]? with
    | none => rw [hb, hl] at hk; cases hk
    | some w =>
      rw [hb, hl] at hk
      simp only [Option.some.injEq] at hk
      cases b with
      | false => exact absurd hk.symm hv
      | true => rw [← hk]; rfl
def drf (r : Option XO) (ci : Nat) (K : Nat → Prop) : Prop := match r with
  | some o => bif Nat.beq o.1 ci then K o.2 else False
  | none => False
def arf (r : Option XO) (K : XO → Prop) : Prop := match r with
  | some o => K o
  | none => False
def cst (r : Option XO) (ci : Nat) (K : Option XO → Prop) : Prop := match r with
  | some o => bif Nat.beq o.1 ci then K (some o) else False
  | none => K none
def kI (K : Int32 → XH → Prop) : XV → XH → Prop := fun r σ => match r with
  | Sum.inl x => K x σ
  | _ => False
def kL (K : Int64 → XH → Prop) : XV → XH → Prop := fun r σ => match r with
  | Sum.inr (Sum.inl x) => K x σ
  | _ => False
def kR (K : Option XO → XH → Prop) : XV → XH → Prop := fun r σ => match r with
  | Sum.inr (Sum.inr (Sum.inl x)) => K x σ
  | _ => False
def kU (K : XH → Prop) : XV → XH → Prop := fun r σ => match r with
  | Sum.inr (Sum.inr (Sum.inr _)) => K σ
  | _ => False
/-- the answer of a call goes on the stack: t is its sort (0 void, 1 int, 2 long, 3 reference) -/
def kont (t : Nat) (K : List XV → XH → Prop) (rest : List XV) : XV → XH → Prop := match t with
  | 0 => kU fun σ => K rest σ
  | 1 => kI fun x σ => K (vI x :: rest) σ
  | 2 => kL fun x σ => K (vL x :: rest) σ
  | _ => kR fun x σ => K (vR x :: rest) σ
theorem kont_push {t : Nat} {K : List XV → XH → Prop} {rest : List XV} {r : XV} {σ : XH} (h : kont t K rest r σ) : K (pushv r rest) σ := by
  unfold kont at h
  split at h <;> (match r, h with
    | Sum.inl x, h => first | exact h | exact h.elim
    | Sum.inr (Sum.inl x), h => first | exact h | exact h.elim
    | Sum.inr (Sum.inr (Sum.inl x)), h => first | exact h | exact h.elim
    | Sum.inr (Sum.inr (Sum.inr _)), h => first | exact h | exact h.elim)
theorem Ec.mono {d mc ms y : Nat} {as : List XV} {σ : XH} {Q Q' : XV → XH → Prop} (hq : ∀ r σ, Q r σ → Q' r σ) (h : Ec d mc ms y as σ Q) : Ec d mc ms y as σ Q' := by
  intro l D n0 L ad p e ha hc hk s m args below hf hfit hpre hp
  obtain ⟨k, o, h1, h2, h3, h4, h5⟩ := h l D n0 L ad p e ha hc hk s m args below hf hfit hpre hp
  exact ⟨k, o, h1, h2, h3, XQ.mono hq h4, h5⟩
def alOk (o : XO) : Bool := (Nat.ble 100 o.1 && Nat.blt o.1 500) || (bif Nat.beq o.1 513 then Nat.blt o.2 12 else ((Nat.beq o.1 500 || (Nat.beq o.1 501 || Nat.beq o.1 503)) && Nat.beq o.2 0))
/-- Object.getClass, System.arraycopy, Object's constructor stand under numbers of their own -/
abbrev cGetC : Nat := 9001
abbrev cCopyI : Nat := 9002
abbrev cCopyR : Nat := 9003
abbrev cObj : Nat := 9004
/-- a call: ps = [method, arguments (with the receiver), 0 static or 1 + class of the receiver, cells, slots, answer's sort] -/
def xcall (ps : List Nat) (d rc rs : Nat) (G : Nat → Nat → List XV → XH → Prop) (st : List XV) (σ : XH) : Prop :=
  match ps with
  | [y', n, kd, mc, ms, t] =>
    bif Nat.ble (catS (st.drop n)) 8 then (bif Nat.ble n st.length then
      (bif Nat.beq kd 0 then
        (bif Nat.beq mc 0 && Nat.beq ms 0 then 1 ≤ d ∧ Ec (d - 1) 0 0 y' (st.take n).reverse σ (kont t (G rc rs) (st.drop n))
        else 1 ≤ d ∧ mc ≤ rc ∧ ms ≤ rs ∧ Ec (d - 1) mc ms y' (st.take n).reverse σ (kont t (G (rc - mc) (rs - ms)) (st.drop n)))
      else match (st.take n).reverse with
        | Sum.inr (Sum.inr (Sum.inl r)) :: as => drf r (kd - 1) fun i =>
          (bif Nat.beq kd 513 then i < 12 ∧ 1 ≤ d ∧ Ec (d - 1) 0 0 y' (vR (some (kd - 1, i)) :: as) σ (kont t (G rc rs) (st.drop n))
          else (bif Nat.beq mc 0 && Nat.beq ms 0 then 1 ≤ d ∧ Ec (d - 1) 0 0 y' (vR (some (kd - 1, i)) :: as) σ (kont t (G rc rs) (st.drop n))
          else 1 ≤ d ∧ mc ≤ rc ∧ ms ≤ rs ∧ Ec (d - 1) mc ms y' (vR (some (kd - 1, i)) :: as) σ (kont t (G (rc - mc) (rs - ms)) (st.drop n))))
        | _ => False)
      else False) else False
  | [9001] => match st with
    | Sum.inr (Sum.inr (Sum.inl r)) :: rest => arf r fun o => bif Nat.ble 410 o.1 && (Nat.blt o.1 500 && Nat.ble (catS rest) 8) then 1 ≤ d ∧ G rc rs (vR (some (511, 0)) :: rest) σ else False
    | _ => False
  | [9002] => match st with
    | Sum.inl n :: Sum.inl dp :: Sum.inr (Sum.inr (Sum.inl r2)) :: Sum.inl sp :: Sum.inr (Sum.inr (Sum.inl r1)) :: rest => arf r1 fun o => arf r2 fun q =>
      1 ≤ d ∧ ¬ sp < 0 ∧ ¬ dp < 0 ∧ ¬ n < 0 ∧ sp.toNatClampNeg + n.toNatClampNeg ≤ hn σ o.1 o.2 ∧ dp.toNatClampNeg + n.toNatClampNeg ≤ hn σ q.1 q.2 ∧
      (bif Nat.ble 100 o.1 && (Nat.blt o.1 200 && (Nat.ble 100 q.1 && (Nat.blt q.1 200 && Nat.ble (catS rest) 8))) then (∀ σ', σ' = cpI σ o sp.toNatClampNeg q dp.toNatClampNeg n.toNatClampNeg → G rc rs rest σ') else False)
    | _ => False
  | [9003] => match st with
    | Sum.inl n :: Sum.inl dp :: Sum.inr (Sum.inr (Sum.inl r2)) :: Sum.inl sp :: Sum.inr (Sum.inr (Sum.inl r1)) :: rest => arf r1 fun o => arf r2 fun q =>
      1 ≤ d ∧ ¬ sp < 0 ∧ ¬ dp < 0 ∧ ¬ n < 0 ∧ sp.toNatClampNeg + n.toNatClampNeg ≤ hn σ o.1 o.2 ∧ dp.toNatClampNeg + n.toNatClampNeg ≤ hn σ q.1 q.2 ∧
      (∀ i, i < n.toNatClampNeg → ∀ z, hr σ o.1 o.2 (sp.toNatClampNeg + i) = some z → z.1 < 13) ∧
      (bif Nat.ble 410 o.1 && (Nat.blt o.1 500 && (Nat.ble 410 q.1 && (Nat.blt q.1 500 && Nat.ble (catS rest) 8))) then (∀ σ', σ' = cpR σ o sp.toNatClampNeg q dp.toNatClampNeg n.toNatClampNeg → G rc rs rest σ') else False)
    | _ => False
  | [9004] => match st with
    | Sum.inr (Sum.inr (Sum.inl r)) :: rest => arf r fun _ => bif Nat.ble (catS rest) 8 then 1 ≤ d ∧ G rc rs rest σ else False
    | _ => False
  | _ => False
/-- one instruction -/
def xstep (Y : XE) (d : Nat) (Q : XV → XH → Prop) (G : Nat → Nat → Nat → List XV → List XV → XH → Prop) (rc rs : Nat) (ls st : List XV) (σ : XH) : Prop :=
  match Y with
  | (I, nx, ps, v, w, cs) =>
    let p0 := ps.headD 0
    let g := G rc rs nx ls
    match I with
    | .iconst _ => g (vI v :: st) σ
    | .bipush _ => g (vI v :: st) σ
    | .sipush _ => g (vI v :: st) σ
    | .lconst _ => g (vL w :: st) σ
    | .ldc _ => match ps with
      | [] => g (vI v :: st) σ
      | [_, k] => g (vR (some (512, k)) :: st) σ
      | _ => g (vR (some (511, 0)) :: st) σ
    | .ldc_w _ => g (vI v :: st) σ
    | .ldc2_w _ => g (vL w :: st) σ
    | .aconst_null => g (vR none :: st) σ
    | .iload _ => match ls[p0]? with
      | some (Sum.inl x) => g (vI x :: st) σ
      | _ => False
    | .iload_n _ => match ls[p0]? with
      | some (Sum.inl x) => g (vI x :: st) σ
      | _ => False
    | .lload _ => match ls[p0]? with
      | some (Sum.inr (Sum.inl x)) => g (vL x :: st) σ
      | _ => False
    | .lload_n _ => match ls[p0]? with
      | some (Sum.inr (Sum.inl x)) => g (vL x :: st) σ
      | _ => False
    | .aload _ => match ls[p0]? with
      | some (Sum.inr (Sum.inr (Sum.inl x))) => g (vR x :: st) σ
      | _ => False
    | .aload_n _ => match ls[p0]? with
      | some (Sum.inr (Sum.inr (Sum.inl x))) => g (vR x :: st) σ
      | _ => False
    | .istore _ => match st with
      | Sum.inl x :: r => G rc rs nx (setX ls p0 (vI x)) r σ
      | _ => False
    | .istore_n _ => match st with
      | Sum.inl x :: r => G rc rs nx (setX ls p0 (vI x)) r σ
      | _ => False
    | .lstore _ => match st with
      | Sum.inr (Sum.inl x) :: r => G rc rs nx (setX2 ls p0 (vL x)) r σ
      | _ => False
    | .lstore_n _ => match st with
      | Sum.inr (Sum.inl x) :: r => G rc rs nx (setX2 ls p0 (vL x)) r σ
      | _ => False
    | .astore _ => match st with
      | Sum.inr (Sum.inr (Sum.inl x)) :: r => G rc rs nx (setX ls p0 (vR x)) r σ
      | _ => False
    | .astore_n _ => match st with
      | Sum.inr (Sum.inr (Sum.inl x)) :: r => G rc rs nx (setX ls p0 (vR x)) r σ
      | _ => False
    | .iinc _ _ => match ls[p0]? with
      | some (Sum.inl x) => G rc rs nx (setX ls p0 (vI (x + v))) st σ
      | _ => False
    | .iadd => match st with
      | Sum.inl b :: Sum.inl a :: r => g (vI (a + b) :: r) σ
      | _ => False
    | .isub => match st with
      | Sum.inl b :: Sum.inl a :: r => g (vI (a - b) :: r) σ
      | _ => False
    | .imul => match st with
      | Sum.inl b :: Sum.inl a :: r => g (vI (a * b) :: r) σ
      | _ => False
    | .idiv => match st with
      | Sum.inl b :: Sum.inl a :: r => ¬ b = 0 ∧ g (vI (a / b) :: r) σ
      | _ => False
    | .irem => match st with
      | Sum.inl b :: Sum.inl a :: r => ¬ b = 0 ∧ g (vI (a - a / b * b) :: r) σ
      | _ => False
    | .iand => match st with
      | Sum.inl b :: Sum.inl a :: r => g (vI (a &&& b) :: r) σ
      | _ => False
    | .ior => match st with
      | Sum.inl b :: Sum.inl a :: r => g (vI (a ||| b) :: r) σ
      | _ => False
    | .ixor => match st with
      | Sum.inl b :: Sum.inl a :: r => g (vI (a ^^^ b) :: r) σ
      | _ => False
    | .ishl => match st with
      | Sum.inl b :: Sum.inl a :: r => g (vI (a <<< (b &&& 31)) :: r) σ
      | _ => False
    | .ishr => match st with
      | Sum.inl b :: Sum.inl a :: r => g (vI (a >>> (b &&& 31)) :: r) σ
      | _ => False
    | .iushr => match st with
      | Sum.inl b :: Sum.inl a :: r => g (vI ((a.toUInt32 >>> (b.toUInt32 &&& Int32.toUInt32 31)).toInt32) :: r) σ
      | _ => False
    | .ineg => match st with
      | Sum.inl a :: r => g (vI (-a) :: r) σ
      | _ => False
    | .ladd => match st with
      | Sum.inr (Sum.inl b) :: Sum.inr (Sum.inl a) :: r => g (vL (a + b) :: r) σ
      | _ => False
    | .lsub => match st with
      | Sum.inr (Sum.inl b) :: Sum.inr (Sum.inl a) :: r => g (vL (a - b) :: r) σ
      | _ => False
    | .lmul => match st with
      | Sum.inr (Sum.inl b) :: Sum.inr (Sum.inl a) :: r => g (vL (a * b) :: r) σ
      | _ => False
    | .ldiv => match st with
      | Sum.inr (Sum.inl b) :: Sum.inr (Sum.inl a) :: r => ¬ b = 0 ∧ g (vL (a / b) :: r) σ
      | _ => False
    | .lrem => match st with
      | Sum.inr (Sum.inl b) :: Sum.inr (Sum.inl a) :: r => ¬ b = 0 ∧ g (vL (a - a / b * b) :: r) σ
      | _ => False
    | .land => match st with
      | Sum.inr (Sum.inl b) :: Sum.inr (Sum.inl a) :: r => g (vL (a &&& b) :: r) σ
      | _ => False
    | .lor => match st with
      | Sum.inr (Sum.inl b) :: Sum.inr (Sum.inl a) :: r => g (vL (a ||| b) :: r) σ
      | _ => False
    | .lxor => match st with
      | Sum.inr (Sum.inl b) :: Sum.inr (Sum.inl a) :: r => g (vL (a ^^^ b) :: r) σ
      | _ => False
    | .lneg => match st with
      | Sum.inr (Sum.inl a) :: r => g (vL (-a) :: r) σ
      | _ => False
    | .lushr => match st with
      | Sum.inl b :: Sum.inr (Sum.inl a) :: r => g (vL ((a.toUInt64 >>> (b.toInt64.toUInt64 &&& Int64.toUInt64 63)).toInt64) :: r) σ
      | _ => False
    | .lshl => match st with
      | Sum.inl b :: Sum.inr (Sum.inl a) :: r => g (vL (a <<< (b.toInt64 &&& 63)) :: r) σ
      | _ => False
    | .lshr => match st with
      | Sum.inl b :: Sum.inr (Sum.inl a) :: r => g (vL (a >>> (b.toInt64 &&& 63)) :: r) σ
      | _ => False
    | .lcmp => match st with
      | Sum.inr (Sum.inl b) :: Sum.inr (Sum.inl a) :: r => g (vI (lg_cmp a b) :: r) σ
      | _ => False
    | .i2l => match st with
      | Sum.inl a :: r => g (vL a.toInt64 :: r) σ
      | _ => False
    | .l2i => match st with
      | Sum.inr (Sum.inl a) :: r => g (vI a.toInt32 :: r) σ
      | _ => False
    | .i2b => match st with
      | Sum.inl a :: r => g (vI a.toInt8.toInt32 :: r) σ
      | _ => False
    | .i2s => match st with
      | Sum.inl a :: r => g (vI a.toInt16.toInt32 :: r) σ
      | _ => False
    | .i2c => match st with
      | Sum.inl a :: r => g (vI (a.toUInt32 % 65536).toInt32 :: r) σ
      | _ => False
    | .dup => match st with
      | a :: r => bif Nat.beq (catX a) 1 then g (a :: a :: r) σ else False
      | _ => False
    | .pop => match st with
      | a :: r => bif Nat.beq (catX a) 1 then g r σ else False
      | _ => False
    | .dup_x1 => match st with
      | a :: b :: r => bif Nat.beq (catX a) 1 && Nat.beq (catX b) 1 then g (a :: b :: a :: r) σ else False
      | _ => False
    | .dup2 => match st with
      | a :: b :: r => bif Nat.beq (catX a) 1 && Nat.beq (catX b) 1 then g (a :: b :: a :: b :: r) σ else False
      | _ => False
    | .ifCond k _ => match st with
      | Sum.inl a :: r => match k with
        | .eq => (a = 0 → G rc rs p0 ls r σ) ∧ (¬ a = 0 → g r σ)
        | .ne => (a = 0 → g r σ) ∧ (¬ a = 0 → G rc rs p0 ls r σ)
        | .lt => (a < 0 → G rc rs p0 ls r σ) ∧ (¬ a < 0 → g r σ)
        | .ge => (a < 0 → g r σ) ∧ (¬ a < 0 → G rc rs p0 ls r σ)
        | .gt => (0 < a → G rc rs p0 ls r σ) ∧ (¬ 0 < a → g r σ)
        | .le => (0 < a → g r σ) ∧ (¬ 0 < a → G rc rs p0 ls r σ)
      | _ => False
    | .if_icmp k _ => match st with
      | Sum.inl b :: Sum.inl a :: r => match k with
        | .eq => (a = b → G rc rs p0 ls r σ) ∧ (¬ a = b → g r σ)
        | .ne => (a = b → g r σ) ∧ (¬ a = b → G rc rs p0 ls r σ)
        | .lt => (a < b → G rc rs p0 ls r σ) ∧ (¬ a < b → g r σ)
        | .ge => (a < b → g r σ) ∧ (¬ a < b → G rc rs p0 ls r σ)
        | .gt => (b < a → G rc rs p0 ls r σ) ∧ (¬ b < a → g r σ)
        | .le => (b < a → g r σ) ∧ (¬ b < a → G rc rs p0 ls r σ)
      | _ => False
    | .if_acmp k _ => match st with
      | Sum.inr (Sum.inr (Sum.inl b)) :: Sum.inr (Sum.inr (Sum.inl a)) :: r => acmpOk a b ∧ match k with
        | .eq => (a = b → G rc rs p0 ls r σ) ∧ (¬ a = b → g r σ)
        | .ne => (a = b → g r σ) ∧ (¬ a = b → G rc rs p0 ls r σ)
      | _ => False
    | .ifnull _ => match st with
      | Sum.inr (Sum.inr (Sum.inl a)) :: r => (a = none → G rc rs p0 ls r σ) ∧ (¬ a = none → g r σ)
      | _ => False
    | .ifnonnull _ => match st with
      | Sum.inr (Sum.inr (Sum.inl a)) :: r => (a = none → g r σ) ∧ (¬ a = none → G rc rs p0 ls r σ)
      | _ => False
    | .goto _ => G rc rs p0 ls st σ
    | .tableswitch _ _ _ _ => match st with
      | Sum.inl a :: r => swX (fun t => G rc rs t ls r σ) a p0 cs
      | _ => False
    | .lookupswitch _ _ => match st with
      | Sum.inl a :: r => swX (fun t => G rc rs t ls r σ) a p0 cs
      | _ => False
    | .getfield _ => match ps, st with
      | [ci, k, t], Sum.inr (Sum.inr (Sum.inl o)) :: r => drf o ci fun i =>
        bif Nat.beq t 1 then g (vL (hl σ ci i k) :: r) σ else (bif Nat.beq t 2 then g (vR (hr σ ci i k) :: r) σ else g (vI (hi σ ci i k) :: r) σ)
      | [ci, k, _, q, md], Sum.inr (Sum.inr (Sum.inl o)) :: r => drf o ci fun i => hr σ ci i k = some (q, bif Nat.beq md 0 then i else md - 1) ∧ g (vR (some (q, bif Nat.beq md 0 then i else md - 1)) :: r) σ
      | [k], Sum.inr (Sum.inr (Sum.inl o)) :: r => drf o 512 fun i => i < 12 ∧ (bif Nat.beq k 0 then g (vR (some (513, i)) :: r) σ else g (vI 0 :: r) σ)
      | _, _ => False
    | .putfield _ => match ps, st with
      | [ci, k, t], a :: Sum.inr (Sum.inr (Sum.inl o)) :: r => drf o ci fun i => match a with
        | Sum.inl x => bif Nat.beq t 3 then (x = 0 ∨ x = 1) ∧ (∀ σ', σ' = wI σ ci i k x → g r σ') else (bif Nat.beq t 0 then (∀ σ', σ' = wI σ ci i k x → g r σ') else False)
        | Sum.inr (Sum.inl x) => bif Nat.beq t 1 then (∀ σ', σ' = wL σ ci i k x → g r σ') else False
        | Sum.inr (Sum.inr (Sum.inl x)) => bif Nat.beq t 2 then (∀ σ', σ' = wR σ ci i k x → g r σ') else False
        | _ => False
      | _, _ => False
    | .getstatic _ => match ps with
      | [0] => g (vI 1 :: st) σ
      | [1] => g (vU :: st) σ
      | [q] => g (vR (some (q, 0)) :: st) σ
      | _ => False
    | .iaload => match st with
      | Sum.inl i :: Sum.inr (Sum.inr (Sum.inl o)) :: r => arf o fun o => bif isIo o then vp_in i (hn σ o.1 o.2) ∧ g (vI (hi σ o.1 o.2 i.toNatClampNeg) :: r) σ else False
      | _ => False
    | .iastore => match st with
      | Sum.inl x :: Sum.inl i :: Sum.inr (Sum.inr (Sum.inl o)) :: r => arf o fun o => bif isIo o && Nat.blt o.1 500 then vp_in i (hn σ o.1 o.2) ∧ (∀ σ', σ' = wI σ o.1 o.2 i.toNatClampNeg x → g r σ') else False
      | _ => False
    | .baload => match st with
      | Sum.inl i :: Sum.inr (Sum.inr (Sum.inl o)) :: r => arf o fun o => bif (Nat.ble 200 o.1 && Nat.blt o.1 400) || (Nat.beq o.1 513 && Nat.blt o.2 12) then vp_in i (hn σ o.1 o.2) ∧ g (vI (hi σ o.1 o.2 i.toNatClampNeg) :: r) σ else False
      | _ => False
    | .bastore => match st with
      | Sum.inl x :: Sum.inl i :: Sum.inr (Sum.inr (Sum.inl o)) :: r => arf o fun o => bif Nat.ble 200 o.1 && Nat.blt o.1 300 then vp_in i (hn σ o.1 o.2) ∧ (∀ σ', σ' = wI σ o.1 o.2 i.toNatClampNeg (vp_nar .byte x) → g r σ') else (bif Nat.ble 300 o.1 && Nat.blt o.1 400 then vp_in i (hn σ o.1 o.2) ∧ (∀ σ', σ' = wI σ o.1 o.2 i.toNatClampNeg (vp_nar .boolean x) → g r σ') else False)
      | _ => False
    | .aaload => match st with
      | Sum.inl i :: Sum.inr (Sum.inr (Sum.inl o)) :: r => arf o fun o => bif Nat.ble 400 o.1 && Nat.blt o.1 500 then vp_in i (hn σ o.1 o.2) ∧ g (vR (hr σ o.1 o.2 i.toNatClampNeg) :: r) σ else False
      | _ => False
    | .aastore => match st with
      | Sum.inr (Sum.inr (Sum.inl q)) :: Sum.inl i :: Sum.inr (Sum.inr (Sum.inl o)) :: r => arf o fun o => arf q fun q => bif Nat.blt q.1 13 && ((Nat.ble 410 o.1 && Nat.blt o.1 500) || (Nat.ble 400 o.1 && (Nat.blt o.1 410 && Nat.beq q.1 10))) then vp_in i (hn σ o.1 o.2) ∧ (∀ σ', σ' = wR σ o.1 o.2 i.toNatClampNeg (some q) → g r σ') else False
      | _ => False
    | .arraylength => match st with
      | Sum.inr (Sum.inr (Sum.inl o)) :: r => arf o fun o => bif alOk o then g (vI (Int32.ofNat (hn σ o.1 o.2)) :: r) σ else (bif Nat.beq o.1 510 && Nat.beq o.2 0 then hn σ 510 0 = 0 ∧ g (vI (Int32.ofNat (hn σ 510 0)) :: r) σ else False)
      | _ => False
    | .new _ => match ps with
      | [ci, n] => 1 ≤ rc ∧ n ≤ rs ∧ (∀ σ', σ' = nwO σ ci → G (rc - 1) (rs - n) nx ls (vR (some (ci, hc σ ci)) :: st) σ')
      | _ => False
    | .newarray _ => match st with
      | Sum.inl n :: r => ¬ n < 0 ∧ n.toNatClampNeg ≤ 100000 ∧ 1 ≤ rc ∧ n.toNatClampNeg ≤ rs ∧ (∀ σ', σ' = nwA σ p0 n.toNatClampNeg → G (rc - 1) (rs - n.toNatClampNeg) nx ls (vR (some (p0, hc σ p0)) :: r) σ')
      | _ => False
    | .anewarray _ => match st with
      | Sum.inl n :: r => ¬ n < 0 ∧ n.toNatClampNeg ≤ 100000 ∧ 1 ≤ rc ∧ n.toNatClampNeg ≤ rs ∧ (∀ σ', σ' = nwA σ p0 n.toNatClampNeg → G (rc - 1) (rs - n.toNatClampNeg) nx ls (vR (some (p0, hc σ p0)) :: r) σ')
      | _ => False
    | .checkcast _ => match st with
      | Sum.inr (Sum.inr (Sum.inl o)) :: r => cst o p0 fun o => g (vR o :: r) σ
      | _ => False
    | .ireturn => match st with
      | [Sum.inl x] => match p0 with
        | 0 => Q (vI x) σ
        | 3 => (x = 0 ∨ x = 1) ∧ Q (vI x) σ
        | 4 => x.toInt8.toInt32 = x ∧ Q (vI x) σ
        | 5 => x.toUInt32.toUInt16.toUInt32.toInt32 = x ∧ Q (vI x) σ
        | _ => False
      | _ => False
    | .lreturn => match st with
      | [Sum.inr (Sum.inl x)] => Q (vL x) σ
      | _ => False
    | .areturn => match st with
      | [Sum.inr (Sum.inr (Sum.inl x))] => Q (vR x) σ
      | _ => False
    | .return_ => match st with
      | [] => Q vU σ
      | _ => False
    | .invokestatic _ => xcall ps d rc rs (fun rc rs => G rc rs nx ls) st σ
    | .invokevirtual _ => xcall ps d rc rs (fun rc rs => G rc rs nx ls) st σ
    | .invokespecial _ => xcall ps d rc rs (fun rc rs => G rc rs nx ls) st σ
    | _ => False
/-- the next block head, or on -/
def xgo (stop : Nat → Option (List Bool)) (d y : Nat) (Q : XV → XH → Prop) (ih : Nat → Nat → Nat → List XV → List XV → XH → Prop) (rc rs pc : Nat) (ls st : List XV) (σ : XH) : Prop := match stop pc with
  | some bs => Ex d rc rs y pc (msk bs ls) st σ Q
  | none => ih rc rs pc ls st σ
def xst (pf : Nat → Option XE) (stop : Nat → Option (List Bool)) (d y : Nat) (Q : XV → XH → Prop) (ih : Nat → Nat → Nat → List XV → List XV → XH → Prop) (rc rs pc : Nat) (ls st : List XV) (σ : XH) : Prop := match pf pc with
  | some Y => xstep Y d Q (xgo stop d y Q ih) rc rs ls st σ
  | none => False
noncomputable def xtree (pf : Nat → Option XE) (stop : Nat → Option (List Bool)) (d y : Nat) (Q : XV → XH → Prop) (n : Nat) : Nat → Nat → Nat → List XV → List XV → XH → Prop :=
  Nat.rec (motive := fun _ => Nat → Nat → Nat → List XV → List XV → XH → Prop) (fun _ _ _ _ _ _ => False) (fun _ ih => xst pf stop d y Q ih) n
