/-! the words: of the tables, and which of them stand in every later state -/
def rf_nots : List Cond := [.not (.castable "java/lang/IndexOutOfBoundsException" "java/lang/IllegalArgumentException"), .not (.castable "java/lang/IndexOutOfBoundsException" "java/lang/IllegalStateException"), .not (.castable "java/lang/IllegalArgumentException" "java/lang/IndexOutOfBoundsException"), .not (.castable "java/lang/IllegalArgumentException" "java/lang/IllegalStateException"), .not (.castable "java/lang/IllegalStateException" "java/lang/IndexOutOfBoundsException"), .not (.castable "java/lang/IllegalStateException" "java/lang/IllegalArgumentException")]
def rf_tb0 : List Cond := rf_nots ++ lw_tbl
/-- goes over to every later state -/
def rf_gw (w : Cond) : Bool := goodWord w || match w with
  | .methodLinkNest _ _ _ _ => true
  | .castable _ _ => true
  | .not (.castable _ _) => true
  | .arrayOver (.object _) => true
  | _ => false
def rf_hw : List Cond := [.isRef (.static "java/lang/Throwable" "UNASSIGNED_STACK" "[Ljava/lang/StackTraceElement;"), .isRef (.static "java/lang/Throwable" "SUPPRESSED_SENTINEL" "Ljava/util/List;"), .laysStatic "java/lang/Throwable" "UNASSIGNED_STACK" "[Ljava/lang/StackTraceElement;", .laysStatic "java/lang/Throwable" "SUPPRESSED_SENTINEL" "Ljava/util/List;"]
theorem rf_warm {w : Cond} (hg : rf_gw w = true) {args a' : Array Value} {s U : State} (hW : s.WarmedH U.vm) (h : w.before args s = true) : w.before a' U = true := by
  unfold rf_gw at hg
  rw [Bool.or_eq_true] at hg
  rcases hg with hg | hg
  · exact word_at hW (good_of_word hg) h
  · cases w with
    | methodLinkNest a i x y => exact va_Nw.use rfl (va_Nw.warmM hW (va_Nw.of rfl h))
    | arrayOver t =>
      cases t with
      | object C => exact va_AO.use (va_AO.moved hW.alike (va_AO.of h))
      | _ => simp at hg
    | castable a b =>
      obtain ⟨c, t, h1, h2, h3⟩ := Cond.castable_spec h
      have hal := hW.alike
      simp only [Cond.before, Cond.holds, Cond.value, hal.findClass, h1, h2, hal.assignable, h3]
      rfl
    | not v =>
      cases v with
      | castable a b =>
        obtain ⟨c, t, h1, h2, h3⟩ := va_Nc.of h
        have hal := hW.alike
        simp only [Cond.before, Cond.holds, Cond.value, hal.findClass, h1, h2, hal.assignable, h3]
        rfl
      | _ => simp at hg
    | _ => simp at hg
