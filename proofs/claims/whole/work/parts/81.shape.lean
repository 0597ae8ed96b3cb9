/-! the shape of the world behind the two constructors -/
def sh_ns : List Nat := [7, 48, 12, 1, 2, 192, 6, 1, 1]
def sh_ms : List Nat := [40, 5, 1, 1, 1, 2, 48]
def sh_n (b : Nat) : Nat := match Nat.ble 100 b with
  | true => match Nat.beq b 200 with
    | true => 1
    | false => (rf_nth sh_ms (b - 100)).getD 0
  | false => (rf_nth sh_ns b).getD 0
/-- of the int arrays, the boolean ones -/
def sh_li : List Nat := [6, 6, 6, 6, 6, 6, 40, 6, 6, 6, 12, 12, 12, 12, 12, 12, 12, 6, 6, 6, 6, 6, 6, 6, 6, 6, 6, 8, 8, 8, 32, 32, 32, 32, 32, 32, 920, 40, 6, 4]
def sh_lz : List Nat := [3, 12, 12, 6, 3]
def sh_lls : List (Nat → Nat) := [fun i => (rf_nth sh_li i).getD 0, fun i => (rf_nth sh_lz i).getD 0, fun _ => 1, fun _ => 12, fun _ => 6, fun i => (rf_nth [8, 40] i).getD 0, fun _ => 4]
/-- L: the script's length -/
def sh_len (L b i : Nat) : Nat := match Nat.beq b 200 with
  | true => L
  | false => match rf_nth sh_lls (b - 100) with
    | some f => f i
    | none => 0
def sh_p7 : List (Nat × Nat) := [(103, 0), (104, 0), (105, 0), (101, 0), (4, 0), (4, 1), (3, 0), (0, 0), (100, 7), (100, 8), (100, 9)]
def sh_p8 : List (Option (Nat × Nat)) := [none, some (100, 10), some (100, 11), some (100, 12), some (100, 13), some (100, 14), some (100, 15), some (100, 16), some (101, 1), some (101, 2), some (101, 3), some (100, 17), some (100, 18), some (100, 19), some (100, 20), some (100, 21), some (100, 22), some (100, 23), some (100, 24), some (100, 25), some (100, 26), some (100, 27), some (100, 28), some (100, 29), some (100, 30), some (100, 31), some (100, 32), some (100, 33), some (100, 34), some (100, 35), some (101, 4), none, none, some (100, 36), some (100, 37), some (100, 38), some (100, 39)]
def sh_ps : List (Nat → Nat → Option (Nat × Nat)) := [fun _ _ => none, fun i _ => some (106, i), fun _ _ => none, fun _ j => rf_nth [(105, 1), (100, 6)] j, fun i j => some (100, 3 * i + j), fun _ _ => none, fun i _ => some (0, 1 + i), fun _ j => rf_nth sh_p7 j, fun _ j => (rf_nth sh_p8 j).getD none]
def sh_qs : List (Nat → Nat → Option (Nat × Nat)) := [fun _ _ => none, fun _ _ => none, fun _ _ => none, fun _ j => some (2, j), fun _ j => some (6, j), fun i j => match i with
  | 0 => some (1, 40 + j)
  | _ => some (1, j), fun i j => some (5, 4 * i + j)]
def sh_P (b i j : Nat) : Option (Nat × Nat) := match Nat.ble 100 b with
  | true => match rf_nth sh_qs (b - 100) with
    | some f => f i j
    | none => none
  | false => match rf_nth sh_ps b with
    | some f => f i j
    | none => none
/-- a state of this shape: the script's length, the ints, the longs -/
def sS (L : Nat) (I : Nat → Nat → Nat → Int32) (J : Nat → Nat → Nat → Int64) : rf_S := (sh_n, sh_len L, I, sh_P, J)
theorem sS_Q {Q : rf_O → rf_S → Prop} {o : rf_O} {L : Nat} {I I' : Nat → Nat → Nat → Int32} {J : Nat → Nat → Nat → Int64} (e : I = I') (h : Q o (sS L I' J)) : Q o (sS L I J) := e ▸ h
