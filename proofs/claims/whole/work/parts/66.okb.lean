/-! an entry of the table is right: its bytes, its links -/
def rf_fin (a b : Nat) : Bool := match rf_nth rf_cl a with
  | some (_, T, _) => (T b).2.2.2
  | none => false
def rf_oki (k pc : Nat) (ins : Instr) (len a b : Nat) (v : Int32) : Bool := match ins with
  | .iconst n => Nat.beq len 1 && decide (Int32.ofInt n = v)
  | .bipush n => Nat.beq len 2 && decide ((Int8.ofInt n).toInt32 = v)
  | .sipush n => Nat.beq len 3 && decide ((Int16.ofInt n).toInt32 = v)
  | .ldc_w i => Nat.beq len 3 && rf_ci (rf_co k) i v
  | .ldc2_w i => Nat.beq len 3 && rf_cj (rf_co k) i v
  | .iload i => Nat.beq len 2 && Nat.beq i a
  | .iload_n n => Nat.beq len 1 && Nat.beq (n : Nat) a
  | .aload i => Nat.beq len 2 && Nat.beq i a
  | .aload_n n => Nat.beq len 1 && Nat.beq (n : Nat) a
  | .lload i => Nat.beq len 2 && Nat.beq i a
  | .lload_n n => Nat.beq len 1 && Nat.beq (n : Nat) a
  | .istore i => Nat.beq len 2 && (Nat.beq i a && decide (a < rf_ml k))
  | .istore_n n => Nat.beq len 1 && (Nat.beq (n : Nat) a && decide (a < rf_ml k))
  | .astore i => Nat.beq len 2 && (Nat.beq i a && decide (a < rf_ml k))
  | .astore_n n => Nat.beq len 1 && (Nat.beq (n : Nat) a && decide (a < rf_ml k))
  | .lstore i => Nat.beq len 2 && (Nat.beq i a && decide (a + 1 < rf_ml k))
  | .lstore_n n => Nat.beq len 1 && (Nat.beq (n : Nat) a && decide (a + 1 < rf_ml k))
  | .iinc i n => Nat.beq len 3 && (Nat.beq i a && (decide (Int32.ofInt n = v) && decide (a < rf_ml k)))
  | .iadd => Nat.beq len 1
  | .isub => Nat.beq len 1
  | .imul => Nat.beq len 1
  | .idiv => Nat.beq len 1
  | .irem => Nat.beq len 1
  | .ineg => Nat.beq len 1
  | .iand => Nat.beq len 1
  | .ishl => Nat.beq len 1
  | .ishr => Nat.beq len 1
  | .iushr => Nat.beq len 1
  | .i2l => Nat.beq len 1
  | .lmul => Nat.beq len 1
  | .lcmp => Nat.beq len 1
  | .dup => Nat.beq len 1
  | .dup2 => Nat.beq len 1
  | .pop => Nat.beq len 1
  | .lconst _ => Nat.beq len 1
  | .ifCond _ o => Nat.beq len 3 && decide ((pc : Int) + o = (a : Int))
  | .if_icmp _ o => Nat.beq len 3 && decide ((pc : Int) + o = (a : Int))
  | .goto o => Nat.beq len 3 && decide ((pc : Int) + o = (a : Int))
  | .tableswitch d lo hi os => decide (lo = 0) && (decide (hi = (os.size : Int) - 1) && rf_swok pc a d os (rf_sw k pc))
  | .getfield i => Nat.beq len 3 && rf_fl (rf_co k) i a b
  | .putfield i => Nat.beq len 3 && (rf_fl (rf_co k) i a b && (decide (rf_fin a b = false ∧ (rf_ft a)[b]? ≠ some 2) || (decide (rf_fin a b = true ∧ (rf_ft a)[b]? = some 2) && decide ((rf_nm k).name = "<init>" ∧ (rf_cl[a]?).map (fun q => q.1) = some (rf_nm k).cls))))
  | .iaload => Nat.beq len 1 && (Nat.beq a 100 || Nat.beq a rf_scr)
  | .baload => Nat.beq len 1 && Nat.beq a 101
  | .laload => Nat.beq len 1 && Nat.beq a 102
  | .aaload => Nat.beq len 1 && decide (103 ≤ a ∧ a ≤ 106)
  | .iastore => Nat.beq len 1 && Nat.beq a 100
  | .bastore => Nat.beq len 1 && Nat.beq a 101
  | .lastore => Nat.beq len 1 && Nat.beq a 102
  | .aastore => Nat.beq len 1 && decide ((a, b) ∈ [(103, 2), (104, 6), (105, 1), (106, 5)])
  | .arraylength => Nat.beq len 1 && (decide (100 ≤ a ∧ a ≤ 106) || Nat.beq a rf_scr)
  | .new i => Nat.beq len 3 && (rf_kl (rf_co k) i a && decide ((rf_cl[a]?).map (fun q => q.2.2) = some b))
  | .newarray t => Nat.beq len 2 && (decide (a = 100 ∧ newarray.typeOf t = .int) || (decide (a = 101 ∧ newarray.typeOf t = .boolean) || decide (a = 102 ∧ newarray.typeOf t = .long)))
  | .anewarray i => Nat.beq len 3 && ((Nat.beq a 103 && rf_kl (rf_co k) i 2) || ((Nat.beq a 104 && rf_kl (rf_co k) i 6) || ((Nat.beq a 105 && rf_kl (rf_co k) i 1) || (Nat.beq a 106 && rf_kl (rf_co k) i 5))))
  | .ireturn => Nat.beq len 1 && ((Nat.beq b 1 && decide (rf_rt k = some .boolean)) || (Nat.beq b 0 && decide (rf_rt k = some .int)))
  | .areturn => Nat.beq len 1 && decide (rf_rt k = some (.object "FlyingDesk$Cue"))
  | .return_ => Nat.beq len 1 && decide (rf_rt k = none)
  | .invokestatic i => Nat.beq len 3 && (Nat.beq b 0 && (rf_ml9 (rf_co k) i a 0 && (Nat.beq (rf_rb a) 1000 && decide (a < 165 ∧ rf_fr a + 1 ≤ rf_fr k ∧ 8 + (rf_ml a + 11) + rf_lw a ≤ rf_lw k))))
  | .invokevirtual i => Nat.beq len 3 && (Nat.beq b 0 && (rf_ml9 (rf_co k) i a 1 && (decide (rf_rb a ≠ 1000 ∧ (rf_nm a).name ≠ "<init>") && decide (a < 165 ∧ rf_fr a + 1 ≤ rf_fr k ∧ 8 + (rf_ml a + 11) + rf_lw a ≤ rf_lw k))))
  | .invokespecial i => Nat.beq len 3 && ((Nat.beq b 1 && (rf_ol (rf_co k) i && decide (1 ≤ rf_fr k ∧ 12 ≤ rf_lw k))) || (Nat.beq b 0 && ((rf_ml9 (rf_co k) i a 2 || rf_ml9 (rf_co k) i a 3) && (decide (rf_rb a ≠ 1000 ∧ (rf_nm a).name = "<init>") && decide (a < 165 ∧ rf_fr a + 1 ≤ rf_fr k ∧ 8 + (rf_ml a + 11) + rf_lw a ≤ rf_lw k)))))
  | _ => false
def rf_okb (k pc : Nat) (e : rf_E) : Bool := decide (decode (rf_cd k) pc = .ok (e.1, e.2.1)) && rf_oki k pc e.1 e.2.1 e.2.2.1 e.2.2.2.1 e.2.2.2.2
/-- all entries of a method -/
def rf_okm (k n : Nat) : Bool := (List.range n).all fun pc => match rf_tb k pc with
  | none => true
  | some e => rf_okb k pc e
