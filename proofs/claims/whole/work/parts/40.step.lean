/-! one instruction, as a predicate of what comes behind it -/
/-- where the exception x, thrown at pc, is caught: rows (from, to, handler, exception) -/
def rf_hg (pc x : Nat) : List (Nat × Nat × Nat × Nat) → Option Nat
  | [] => none
  | q :: t => match Nat.ble q.1 pc, Nat.ble (pc + 1) q.2.1, Nat.beq q.2.2.2 x with
    | true, true, true => some q.2.2.1
    | _, _, _ => rf_hg pc x t
/-- what stands behind a call -/
def rf_aft (k pc len : Nat) (N : Nat → List (Option rf_V) → List rf_V → rf_S → Nat → Nat → Prop) (Q : rf_O → rf_S → Prop) (lv : List (Option rf_V)) (r : List rf_V) (ce sl : Nat) : rf_O → rf_S → Prop
  | .inl none, σ' => N (pc + len) lv r σ' ce sl
  | .inl (some v), σ' => N (pc + len) lv (v :: r) σ' ce sl
  | .inr x, σ' => match rf_hx k with
    | [] => Q (.inr x) σ'
    | q :: t => match rf_hg pc x (q :: t) with
      | none => False
      | some h => ∀ q : Nat, N h lv [.inr (.inr (some (rf_J, q)))] σ' ce sl
/-- a branch: where it goes if the condition holds, where if not -/
def rf_br : Jvm.ClassFile.Cond → Int32 → Int32 → Prop → Prop → Prop
  | .eq, x, y, P, P' => (x = y → P) ∧ (¬ x = y → P')
  | .ne, x, y, P, P' => (¬ x = y → P) ∧ (x = y → P')
  | .lt, x, y, P, P' => (x < y → P) ∧ (¬ x < y → P')
  | .ge, x, y, P, P' => (y ≤ x → P) ∧ (¬ y ≤ x → P')
  | .gt, x, y, P, P' => (y < x → P) ∧ (¬ y < x → P')
  | .le, x, y, P, P' => (x ≤ y → P) ∧ (¬ x ≤ y → P')
/-- the receiver is of the callee's class -/
def rf_rok (a : Nat) (as : List rf_V) : Bool := match Nat.beq (rf_rb a) 1000 with
  | true => true
  | false => match as with
    | .inr (.inr (some q)) :: _ => Nat.beq q.1 (rf_rb a)
    | _ => false
/-- a call: its arguments off the stack, its room, its contract -/
def rf_ivk (l : Launch) (k : Nat) (N : Nat → List (Option rf_V) → List rf_V → rf_S → Nat → Nat → Prop) (Q : rf_O → rf_S → Prop) (pc len a : Nat) (lv : List (Option rf_V)) (st : List rf_V) (σ : rf_S) (ce sl : Nat) : Prop :=
  match rf_pop (rf_na a) [] st with
  | some (as, r) => match Nat.ble (rf_wt r) 8 && (Nat.beq (rf_wt as) as.length && rf_rok a as) with
    | true => (ce + rf_mc a ≤ rf_mc k ∧ sl + rf_ms a ≤ rf_ms k) ∧ rf_C l a as σ (rf_aft k pc len N Q lv r (ce + rf_mc a) (sl + rf_ms a))
    | false => False
  | none => False
/-- Object's own constructor -/
def rf_lib (N : List rf_V → Prop) : List rf_V → Prop
  | [.inr (.inr (some _))] => N []
  | _ => False
/-- a switch: its values and places in turn, then the rest -/
def rf_sws (N : Nat → Prop) (d : Nat) (x : Int32) : List (Int32 × Nat) → Prop
  | [] => N d
  | q :: t => (x = q.1 → N q.2) ∧ (¬ x = q.1 → rf_sws N d x t)
def rf_step (l : Launch) (k : Nat) (N : Nat → List (Option rf_V) → List rf_V → rf_S → Nat → Nat → Prop) (Q : rf_O → rf_S → Prop) (pc : Nat) (e : rf_E) (lv : List (Option rf_V)) (st : List rf_V) (σ : rf_S) (ce sl : Nat) : Prop :=
  match e with
  | (ins, len, a, b, v) =>
  match ins with
  | .iconst _ => N (pc + len) lv (.inl v :: st) σ ce sl
  | .bipush _ => N (pc + len) lv (.inl v :: st) σ ce sl
  | .sipush _ => N (pc + len) lv (.inl v :: st) σ ce sl
  | .ldc_w _ => N (pc + len) lv (.inl v :: st) σ ce sl
  | .iushr => match st with
    | .inl y :: .inl x :: r => N (pc + len) lv (.inl (x.toUInt32 >>> (y.toUInt32 &&& Int32.toUInt32 31)).toInt32 :: r) σ ce sl
    | _ => False
  | .iload _ => match rf_nth lv a with
    | some (some (.inl x)) => N (pc + len) lv (.inl x :: st) σ ce sl
    | _ => False
  | .iload_n _ => match rf_nth lv a with
    | some (some (.inl x)) => N (pc + len) lv (.inl x :: st) σ ce sl
    | _ => False
  | .aload _ => match rf_nth lv a with
    | some (some (.inr (.inr (some r)))) => N (pc + len) lv (.inr (.inr (some r)) :: st) σ ce sl
    | _ => False
  | .aload_n _ => match rf_nth lv a with
    | some (some (.inr (.inr (some r)))) => N (pc + len) lv (.inr (.inr (some r)) :: st) σ ce sl
    | _ => False
  | .lload _ => match rf_nth lv a with
    | some (some (.inr (.inl x))) => N (pc + len) lv (.inr (.inl x) :: st) σ ce sl
    | _ => False
  | .lload_n _ => match rf_nth lv a with
    | some (some (.inr (.inl x))) => N (pc + len) lv (.inr (.inl x) :: st) σ ce sl
    | _ => False
  | .istore _ => match st, rf_free lv a with
    | .inl x :: r, true => N (pc + len) (lv.set a (some (.inl x))) r σ ce sl
    | _, _ => False
  | .istore_n _ => match st, rf_free lv a with
    | .inl x :: r, true => N (pc + len) (lv.set a (some (.inl x))) r σ ce sl
    | _, _ => False
  | .astore _ => match st, rf_free lv a with
    | .inr (.inr (some x)) :: r, true => N (pc + len) (lv.set a (some (.inr (.inr (some x))))) r σ ce sl
    | _, _ => False
  | .astore_n _ => match st, rf_free lv a with
    | .inr (.inr (some x)) :: r, true => N (pc + len) (lv.set a (some (.inr (.inr (some x))))) r σ ce sl
    | _, _ => False
  | .lstore _ => match st, rf_free lv a with
    | .inr (.inl x) :: r, true => N (pc + len) ((lv.set a (some (.inr (.inl x)))).set (a + 1) none) r σ ce sl
    | _, _ => False
  | .lstore_n _ => match st, rf_free lv a with
    | .inr (.inl x) :: r, true => N (pc + len) ((lv.set a (some (.inr (.inl x)))).set (a + 1) none) r σ ce sl
    | _, _ => False
  | .iinc _ _ => match rf_nth lv a, rf_free lv a with
    | some (some (.inl x)), true => N (pc + len) (lv.set a (some (.inl (x + v)))) st σ ce sl
    | _, _ => False
  | .iadd => match st with
    | .inl y :: .inl x :: r => N (pc + len) lv (.inl (x + y) :: r) σ ce sl
    | _ => False
  | .isub => match st with
    | .inl y :: .inl x :: r => N (pc + len) lv (.inl (x - y) :: r) σ ce sl
    | _ => False
  | .imul => match st with
    | .inl y :: .inl x :: r => N (pc + len) lv (.inl (x * y) :: r) σ ce sl
    | _ => False
  | .idiv => match st with
    | .inl y :: .inl x :: r => ¬ y = 0 ∧ N (pc + len) lv (.inl (x / y) :: r) σ ce sl
    | _ => False
  | .irem => match st with
    | .inl y :: .inl x :: r => ¬ y = 0 ∧ N (pc + len) lv (.inl (x - x / y * y) :: r) σ ce sl
    | _ => False
  | .ineg => match st with
    | .inl x :: r => N (pc + len) lv (.inl (-x) :: r) σ ce sl
    | _ => False
  | .iand => match st with
    | .inl y :: .inl x :: r => N (pc + len) lv (.inl (x &&& y) :: r) σ ce sl
    | _ => False
  | .ishl => match st with
    | .inl y :: .inl x :: r => N (pc + len) lv (.inl (x <<< (y &&& 31)) :: r) σ ce sl
    | _ => False
  | .ishr => match st with
    | .inl y :: .inl x :: r => N (pc + len) lv (.inl (x >>> (y &&& 31)) :: r) σ ce sl
    | _ => False
  | .i2l => match st with
    | .inl x :: r => N (pc + len) lv (.inr (.inl x.toInt64) :: r) σ ce sl
    | _ => False
  | .lmul => match st with
    | .inr (.inl y) :: .inr (.inl x) :: r => N (pc + len) lv (.inr (.inl (x * y)) :: r) σ ce sl
    | _ => False
  | .ldc2_w _ => N (pc + len) lv (.inr (.inl v.toInt64) :: st) σ ce sl
  | .lconst n => N (pc + len) lv (.inr (.inl (Int64.ofNat (n : Nat))) :: st) σ ce sl
  | .lcmp => match st with
    | .inr (.inl y) :: .inr (.inl x) :: r => N (pc + len) lv (.inl (lg_cmp x y) :: r) σ ce sl
    | _ => False
  | .dup => match st with
    | .inl x :: r => N (pc + len) lv (.inl x :: .inl x :: r) σ ce sl
    | .inr (.inr (some x)) :: r => N (pc + len) lv (.inr (.inr (some x)) :: .inr (.inr (some x)) :: r) σ ce sl
    | _ => False
  | .dup2 => match st with
    | .inl x :: .inr (.inr (some y)) :: r => N (pc + len) lv (.inl x :: .inr (.inr (some y)) :: .inl x :: .inr (.inr (some y)) :: r) σ ce sl
    | _ => False
  | .pop => match st with
    | .inl _ :: r => N (pc + len) lv r σ ce sl
    | .inr (.inr (some _)) :: r => N (pc + len) lv r σ ce sl
    | _ => False
  | .ifCond c _ => match st with
    | .inl x :: r => rf_br c x 0 (N a lv r σ ce sl) (N (pc + len) lv r σ ce sl)
    | _ => False
  | .if_icmp c _ => match st with
    | .inl y :: .inl x :: r => rf_br c x y (N a lv r σ ce sl) (N (pc + len) lv r σ ce sl)
    | _ => False
  | .goto _ => N a lv st σ ce sl
  | .tableswitch _ _ _ _ => match st with
    | .inl x :: r => rf_sws (fun t => N t lv r σ ce sl) a x (rf_sw k pc)
    | _ => False
  | .getfield _ => match st with
    | .inr (.inr (some (b', i))) :: r => match Nat.beq b' a with
      | true => match rf_nth (rf_ft a) b with
        | some 2 => N (pc + len) lv (.inr (.inr (σ.2.2.2.1 b' i b)) :: r) σ ce sl
        | some _ => N (pc + len) lv (.inl (σ.2.2.1 b' i b) :: r) σ ce sl
        | none => False
      | false => False
    | _ => False
  | .putfield _ => match st with
    | .inl x :: .inr (.inr (some (b', i))) :: r => match Nat.beq b' a with
      | true => match rf_nth (rf_ft a) b with
        | some 0 => N (pc + len) lv r (rf_putI σ b' i b x) ce sl
        | some 1 => (x = 0 ∨ x = 1) ∧ N (pc + len) lv r (rf_putI σ b' i b x) ce sl
        | _ => False
      | false => False
    | .inr (.inr (some y)) :: .inr (.inr (some (b', i))) :: r => match Nat.beq b' a with
      | true => match rf_nth (rf_ft a) b with
        | some 2 => N (pc + len) lv r (rf_putP σ b' i b (some y)) ce sl
        | _ => False
      | false => False
    | _ => False
  | .iaload => match st with
    | .inl j :: .inr (.inr (some (b', i))) :: r => match Nat.beq b' a && (Nat.beq a 100 || Nat.beq i 0) with
      | true => (0 ≤ j ∧ j.toNatClampNeg < σ.2.1 b' i) ∧ N (pc + len) lv (.inl (σ.2.2.1 b' i j.toNatClampNeg) :: r) σ ce sl
      | false => False
    | _ => False
  | .baload => match st with
    | .inl j :: .inr (.inr (some (b', i))) :: r => match Nat.beq b' a with
      | true => (0 ≤ j ∧ j.toNatClampNeg < σ.2.1 b' i) ∧ N (pc + len) lv (.inl (σ.2.2.1 b' i j.toNatClampNeg) :: r) σ ce sl
      | false => False
    | _ => False
  | .laload => match st with
    | .inl j :: .inr (.inr (some (b', i))) :: r => match Nat.beq b' a with
      | true => (0 ≤ j ∧ j.toNatClampNeg < σ.2.1 b' i) ∧ N (pc + len) lv (.inr (.inl (σ.2.2.2.2 b' i j.toNatClampNeg)) :: r) σ ce sl
      | false => False
    | _ => False
  | .aaload => match st with
    | .inl j :: .inr (.inr (some (b', i))) :: r => match Nat.beq b' a with
      | true => (0 ≤ j ∧ j.toNatClampNeg < σ.2.1 b' i) ∧ N (pc + len) lv (.inr (.inr (σ.2.2.2.1 b' i j.toNatClampNeg)) :: r) σ ce sl
      | false => False
    | _ => False
  | .iastore => match st with
    | .inl x :: .inl j :: .inr (.inr (some (b', i))) :: r => match Nat.beq b' a with
      | true => (0 ≤ j ∧ j.toNatClampNeg < σ.2.1 b' i) ∧ N (pc + len) lv r (rf_putI σ b' i j.toNatClampNeg x) ce sl
      | false => False
    | _ => False
  | .bastore => match st with
    | .inl x :: .inl j :: .inr (.inr (some (b', i))) :: r => match Nat.beq b' a with
      | true => (x = 0 ∨ x = 1) ∧ (0 ≤ j ∧ j.toNatClampNeg < σ.2.1 b' i) ∧ N (pc + len) lv r (rf_putI σ b' i j.toNatClampNeg x) ce sl
      | false => False
    | _ => False
  | .lastore => match st with
    | .inr (.inl x) :: .inl j :: .inr (.inr (some (b', i))) :: r => match Nat.beq b' a with
      | true => (0 ≤ j ∧ j.toNatClampNeg < σ.2.1 b' i) ∧ N (pc + len) lv r (rf_putL σ b' i j.toNatClampNeg x) ce sl
      | false => False
    | _ => False
  | .aastore => match st with
    | .inr (.inr (some (b2, i2))) :: .inl j :: .inr (.inr (some (b', i))) :: r => match Nat.beq b' a, Nat.beq b2 b with
      | true, true => (0 ≤ j ∧ j.toNatClampNeg < σ.2.1 b' i) ∧ N (pc + len) lv r (rf_putP σ b' i j.toNatClampNeg (some (b2, i2))) ce sl
      | _, _ => False
    | _ => False
  | .arraylength => match st with
    | .inr (.inr (some (b', i))) :: r => match Nat.beq b' a && (Nat.ble a 150 || Nat.beq i 0) with
      | true => N (pc + len) lv (.inl (Int32.ofNat (σ.2.1 b' i)) :: r) σ ce sl
      | false => False
    | _ => False
  | .new _ => (ce + 1 ≤ rf_mc k ∧ sl + b ≤ rf_ms k) ∧ N (pc + len) lv (.inr (.inr (some (a, σ.1 a))) :: st) (rf_newK σ a b) (ce + 1) (sl + b)
  | .newarray _ => match st with
    | .inl n :: r => (0 ≤ n ∧ n.toNatClampNeg ≤ 1000 ∧ ce + 1 ≤ rf_mc k ∧ sl + n.toNatClampNeg ≤ rf_ms k) ∧ N (pc + len) lv (.inr (.inr (some (a, σ.1 a))) :: r) (rf_newK σ a n.toNatClampNeg) (ce + 1) (sl + n.toNatClampNeg)
    | _ => False
  | .anewarray _ => match st with
    | .inl n :: r => (0 ≤ n ∧ n.toNatClampNeg ≤ 1000 ∧ ce + 1 ≤ rf_mc k ∧ sl + n.toNatClampNeg ≤ rf_ms k) ∧ N (pc + len) lv (.inr (.inr (some (a, σ.1 a))) :: r) (rf_newK σ a n.toNatClampNeg) (ce + 1) (sl + n.toNatClampNeg)
    | _ => False
  | .ireturn => match st with
    | [.inl x] => match b with
      | 1 => (x = 0 ∨ x = 1) ∧ Q (.inl (some (.inl x))) σ
      | _ => Q (.inl (some (.inl x))) σ
    | _ => False
  | .areturn => match st with
    | [.inr (.inr (some r))] => Q (.inl (some (.inr (.inr (some r))))) σ
    | _ => False
  | .return_ => match st with
    | [] => Q (.inl none) σ
    | _ => False
  | .invokestatic _ => match b with
    | 0 => rf_ivk l k N Q pc len a lv st σ ce sl
    | _ => rf_lib (fun st' => N (pc + len) lv st' σ ce sl) st
  | .invokevirtual _ => match b with
    | 0 => rf_ivk l k N Q pc len a lv st σ ce sl
    | _ => rf_lib (fun st' => N (pc + len) lv st' σ ce sl) st
  | .invokespecial _ => match b with
    | 0 => rf_ivk l k N Q pc len a lv st σ ce sl
    | _ => rf_lib (fun st' => N (pc + len) lv st' σ ce sl) st
  | _ => False
