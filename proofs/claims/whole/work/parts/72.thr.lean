/-! the methods that throw -/
theorem rf_decl {args : Array Value} {s : State} {x : MethodName} {b : ByteArray} {n : Nat} {r : Option FieldType} (hi : (Cond.instanceMethod x).before args s = true) (hc : (Cond.code x b n r).before args s = true) : (Cond.declares x).before args s = true := by
  obtain ⟨m, meth, h1, h2, h3, -⟩ := Cond.instanceMethod_spec hi
  obtain ⟨meth', c, h4, -, -, -, -, -, -, h5⟩ := Cond.code_spec h1 hc
  cases h2.symm.trans h4
  simp [Cond.before, Cond.holds, Cond.value, h1, h2, h3, h5]
set_option maxRecDepth 100000 in
theorem rf_own0 {args : Array Value} {s : State} (hw : ∀ w, rf_wok w → w.before args s = true) (hh : ∀ (i : Nat) w, rf_hw[i]? = some w → w.before args s = true) : ∀ w ∈ Bundle.ownAtoms0 "FlyingDesk" 315 "java/lang/IndexOutOfBoundsException" ["java/lang/RuntimeException", "java/lang/Exception"], w.before args s = true :=
  List.forall_mem_append.mpr ⟨List.forall_mem_append.mpr ⟨List.forall_mem_cons.mpr ⟨hw _ (rf_at 67 rfl rfl), List.forall_mem_cons.mpr ⟨hw _ (rf_at 505 rfl rfl), List.forall_mem_cons.mpr ⟨hw _ (rf_at 514 rfl rfl), List.forall_mem_cons.mpr ⟨hw _ (rf_at 518 rfl rfl), List.forall_mem_cons.mpr ⟨hw _ (rf_at 521 rfl rfl), List.forall_mem_cons.mpr ⟨hw _ (rf_at 523 rfl rfl), List.forall_mem_cons.mpr ⟨hw _ (rf_at 506 rfl rfl), List.forall_mem_cons.mpr ⟨hw _ (rf_at 507 rfl rfl), List.forall_mem_cons.mpr ⟨hw _ (rf_at 81 rfl rfl), List.forall_mem_cons.mpr ⟨hw _ (rf_at 82 rfl rfl), List.forall_mem_cons.mpr ⟨hw _ (rf_at 508 rfl rfl), List.forall_mem_cons.mpr ⟨hw _ (rf_at 513 rfl rfl), List.forall_mem_cons.mpr ⟨hw _ (rf_at 519 rfl rfl), List.forall_mem_cons.mpr ⟨hw _ (rf_at 535 rfl rfl), List.forall_mem_cons.mpr ⟨hw _ (rf_at 495 rfl rfl), List.forall_mem_cons.mpr ⟨hw _ (rf_at 536 rfl rfl), List.forall_mem_cons.mpr ⟨hw _ (rf_at 497 rfl rfl), List.forall_mem_cons.mpr ⟨hw _ (rf_at 537 rfl rfl), List.forall_mem_cons.mpr ⟨hw _ (rf_at 499 rfl rfl), List.forall_mem_cons.mpr ⟨hw _ (rf_at 509 rfl rfl), List.forall_mem_cons.mpr ⟨hh 2 _ rfl, List.forall_mem_cons.mpr ⟨hw _ (rf_at 511 rfl rfl), List.forall_mem_cons.mpr ⟨hh 3 _ rfl, List.forall_mem_cons.mpr ⟨hw _ (rf_at 501 rfl rfl), fun _ h => nomatch h⟩⟩⟩⟩⟩⟩⟩⟩⟩⟩⟩⟩⟩⟩⟩⟩⟩⟩⟩⟩⟩⟩⟩⟩,
    List.forall_mem_cons.mpr ⟨hw _ (rf_at 525 rfl rfl), List.forall_mem_cons.mpr ⟨hw _ (rf_at 526 rfl rfl), List.forall_mem_cons.mpr ⟨hw _ (rf_at 527 rfl rfl), List.forall_mem_cons.mpr ⟨hw _ (rf_at 528 rfl rfl), List.forall_mem_cons.mpr ⟨rf_decl (hw _ (rf_at 528 rfl rfl)) (hw _ (rf_at 529 rfl rfl)), List.forall_mem_cons.mpr ⟨hw _ (rf_at 528 rfl rfl), List.forall_mem_cons.mpr ⟨hw _ (rf_at 529 rfl rfl), List.forall_mem_cons.mpr ⟨hw _ (rf_at 530 rfl rfl), List.forall_mem_cons.mpr ⟨hw _ (rf_at 531 rfl rfl), List.forall_mem_cons.mpr ⟨rf_decl (hw _ (rf_at 531 rfl rfl)) (hw _ (rf_at 532 rfl rfl)), List.forall_mem_cons.mpr ⟨hw _ (rf_at 531 rfl rfl), List.forall_mem_cons.mpr ⟨hw _ (rf_at 532 rfl rfl), List.forall_mem_cons.mpr ⟨hw _ (rf_at 533 rfl rfl), List.forall_mem_cons.mpr ⟨hw _ (rf_at 506 rfl rfl), List.forall_mem_cons.mpr ⟨rf_decl (hw _ (rf_at 506 rfl rfl)) (hw _ (rf_at 507 rfl rfl)), fun _ h => nomatch h⟩⟩⟩⟩⟩⟩⟩⟩⟩⟩⟩⟩⟩⟩⟩⟩,
    List.forall_mem_cons.mpr ⟨hw _ (rf_at 524 rfl rfl), List.forall_mem_cons.mpr ⟨hw _ (rf_at 484 rfl rfl), List.forall_mem_cons.mpr ⟨hw _ (rf_at 485 rfl rfl), List.forall_mem_cons.mpr ⟨hw _ (rf_at 492 rfl rfl), List.forall_mem_cons.mpr ⟨hw _ (rf_at 493 rfl rfl), List.forall_mem_cons.mpr ⟨hw _ (rf_at 494 rfl rfl), List.forall_mem_cons.mpr ⟨hw _ (rf_at 496 rfl rfl), List.forall_mem_cons.mpr ⟨hw _ (rf_at 498 rfl rfl), List.forall_mem_cons.mpr ⟨hw _ (rf_at 500 rfl rfl), List.forall_mem_cons.mpr ⟨hh 0 _ rfl, List.forall_mem_cons.mpr ⟨hh 1 _ rfl, List.forall_mem_cons.mpr ⟨hw _ (rf_at 504 rfl rfl), List.forall_mem_cons.mpr ⟨hw _ (rf_at 503 rfl rfl), List.forall_mem_cons.mpr ⟨hw _ (rf_at 502 rfl rfl), fun _ h => nomatch h⟩⟩⟩⟩⟩⟩⟩⟩⟩⟩⟩⟩⟩⟩⟩
theorem rf_thl0 : rf_wok (.classLink "FlyingDesk" 313 "java/lang/IndexOutOfBoundsException") ∧ rf_wok (.initialized "java/lang/IndexOutOfBoundsException") := ⟨rf_at 483 (by decide +kernel) rfl, rf_at 70 (by decide +kernel) rfl⟩
theorem rf_d9_0 : decode (rf_cd 9) 0 = .ok (.iload_n 0, 1) := by decide +kernel
theorem rf_d9_1 : decode (rf_cd 9) 1 = .ok (.ifCond .lt 8, 3) := by decide +kernel
theorem rf_d9_4 : decode (rf_cd 9) 4 = .ok (.iload_n 0, 1) := by decide +kernel
theorem rf_d9_5 : decode (rf_cd 9) 5 = .ok (.iload_n 1, 1) := by decide +kernel
theorem rf_d9_6 : decode (rf_cd 9) 6 = .ok (.if_icmp .lt 11, 3) := by decide +kernel
theorem rf_d9_9 : decode (rf_cd 9) 9 = .ok (.new 313, 3) := by decide +kernel
theorem rf_d9_12 : decode (rf_cd 9) 12 = .ok (.dup, 1) := by decide +kernel
theorem rf_d9_13 : decode (rf_cd 9) 13 = .ok (.invokespecial 315, 3) := by decide +kernel
theorem rf_d9_16 : decode (rf_cd 9) 16 = .ok (.athrow, 1) := by decide +kernel
theorem rf_d9_17 : decode (rf_cd 9) 17 = .ok (.return_, 1) := by decide +kernel
set_option maxRecDepth 100000 in
theorem rf_own1 {args : Array Value} {s : State} (hw : ∀ w, rf_wok w → w.before args s = true) (hh : ∀ (i : Nat) w, rf_hw[i]? = some w → w.before args s = true) : ∀ w ∈ Bundle.ownAtoms0 "FlyingDesk" 318 "java/lang/IllegalArgumentException" ["java/lang/RuntimeException", "java/lang/Exception"], w.before args s = true :=
  List.forall_mem_append.mpr ⟨List.forall_mem_append.mpr ⟨List.forall_mem_cons.mpr ⟨hw _ (rf_at 67 rfl rfl), List.forall_mem_cons.mpr ⟨hw _ (rf_at 505 rfl rfl), List.forall_mem_cons.mpr ⟨hw _ (rf_at 514 rfl rfl), List.forall_mem_cons.mpr ⟨hw _ (rf_at 518 rfl rfl), List.forall_mem_cons.mpr ⟨hw _ (rf_at 521 rfl rfl), List.forall_mem_cons.mpr ⟨hw _ (rf_at 523 rfl rfl), List.forall_mem_cons.mpr ⟨hw _ (rf_at 506 rfl rfl), List.forall_mem_cons.mpr ⟨hw _ (rf_at 507 rfl rfl), List.forall_mem_cons.mpr ⟨hw _ (rf_at 81 rfl rfl), List.forall_mem_cons.mpr ⟨hw _ (rf_at 82 rfl rfl), List.forall_mem_cons.mpr ⟨hw _ (rf_at 508 rfl rfl), List.forall_mem_cons.mpr ⟨hw _ (rf_at 513 rfl rfl), List.forall_mem_cons.mpr ⟨hw _ (rf_at 519 rfl rfl), List.forall_mem_cons.mpr ⟨hw _ (rf_at 535 rfl rfl), List.forall_mem_cons.mpr ⟨hw _ (rf_at 495 rfl rfl), List.forall_mem_cons.mpr ⟨hw _ (rf_at 536 rfl rfl), List.forall_mem_cons.mpr ⟨hw _ (rf_at 497 rfl rfl), List.forall_mem_cons.mpr ⟨hw _ (rf_at 537 rfl rfl), List.forall_mem_cons.mpr ⟨hw _ (rf_at 499 rfl rfl), List.forall_mem_cons.mpr ⟨hw _ (rf_at 509 rfl rfl), List.forall_mem_cons.mpr ⟨hh 2 _ rfl, List.forall_mem_cons.mpr ⟨hw _ (rf_at 511 rfl rfl), List.forall_mem_cons.mpr ⟨hh 3 _ rfl, List.forall_mem_cons.mpr ⟨hw _ (rf_at 501 rfl rfl), fun _ h => nomatch h⟩⟩⟩⟩⟩⟩⟩⟩⟩⟩⟩⟩⟩⟩⟩⟩⟩⟩⟩⟩⟩⟩⟩⟩,
    List.forall_mem_cons.mpr ⟨hw _ (rf_at 568 rfl rfl), List.forall_mem_cons.mpr ⟨hw _ (rf_at 569 rfl rfl), List.forall_mem_cons.mpr ⟨hw _ (rf_at 570 rfl rfl), List.forall_mem_cons.mpr ⟨hw _ (rf_at 528 rfl rfl), List.forall_mem_cons.mpr ⟨rf_decl (hw _ (rf_at 528 rfl rfl)) (hw _ (rf_at 529 rfl rfl)), List.forall_mem_cons.mpr ⟨hw _ (rf_at 528 rfl rfl), List.forall_mem_cons.mpr ⟨hw _ (rf_at 529 rfl rfl), List.forall_mem_cons.mpr ⟨hw _ (rf_at 530 rfl rfl), List.forall_mem_cons.mpr ⟨hw _ (rf_at 531 rfl rfl), List.forall_mem_cons.mpr ⟨rf_decl (hw _ (rf_at 531 rfl rfl)) (hw _ (rf_at 532 rfl rfl)), List.forall_mem_cons.mpr ⟨hw _ (rf_at 531 rfl rfl), List.forall_mem_cons.mpr ⟨hw _ (rf_at 532 rfl rfl), List.forall_mem_cons.mpr ⟨hw _ (rf_at 533 rfl rfl), List.forall_mem_cons.mpr ⟨hw _ (rf_at 506 rfl rfl), List.forall_mem_cons.mpr ⟨rf_decl (hw _ (rf_at 506 rfl rfl)) (hw _ (rf_at 507 rfl rfl)), fun _ h => nomatch h⟩⟩⟩⟩⟩⟩⟩⟩⟩⟩⟩⟩⟩⟩⟩⟩,
    List.forall_mem_cons.mpr ⟨hw _ (rf_at 567 rfl rfl), List.forall_mem_cons.mpr ⟨hw _ (rf_at 559 rfl rfl), List.forall_mem_cons.mpr ⟨hw _ (rf_at 560 rfl rfl), List.forall_mem_cons.mpr ⟨hw _ (rf_at 561 rfl rfl), List.forall_mem_cons.mpr ⟨hw _ (rf_at 516 rfl rfl), List.forall_mem_cons.mpr ⟨hw _ (rf_at 562 rfl rfl), List.forall_mem_cons.mpr ⟨hw _ (rf_at 563 rfl rfl), List.forall_mem_cons.mpr ⟨hw _ (rf_at 564 rfl rfl), List.forall_mem_cons.mpr ⟨hw _ (rf_at 565 rfl rfl), List.forall_mem_cons.mpr ⟨hh 0 _ rfl, List.forall_mem_cons.mpr ⟨hh 1 _ rfl, List.forall_mem_cons.mpr ⟨hw _ (rf_at 504 rfl rfl), List.forall_mem_cons.mpr ⟨hw _ (rf_at 503 rfl rfl), List.forall_mem_cons.mpr ⟨hw _ (rf_at 566 rfl rfl), fun _ h => nomatch h⟩⟩⟩⟩⟩⟩⟩⟩⟩⟩⟩⟩⟩⟩⟩
theorem rf_thl1 : rf_wok (.classLink "FlyingDesk" 316 "java/lang/IllegalArgumentException") ∧ rf_wok (.initialized "java/lang/IllegalArgumentException") := ⟨rf_at 558 (by decide +kernel) rfl, rf_at 72 (by decide +kernel) rfl⟩
theorem rf_d13_0 : decode (rf_cd 13) 0 = .ok (.iload_n 0, 1) := by decide +kernel
theorem rf_d13_1 : decode (rf_cd 13) 1 = .ok (.ifCond .ne 11, 3) := by decide +kernel
theorem rf_d13_4 : decode (rf_cd 13) 4 = .ok (.new 316, 3) := by decide +kernel
theorem rf_d13_7 : decode (rf_cd 13) 7 = .ok (.dup, 1) := by decide +kernel
theorem rf_d13_8 : decode (rf_cd 13) 8 = .ok (.invokespecial 318, 3) := by decide +kernel
theorem rf_d13_11 : decode (rf_cd 13) 11 = .ok (.athrow, 1) := by decide +kernel
theorem rf_d13_12 : decode (rf_cd 13) 12 = .ok (.return_, 1) := by decide +kernel
set_option maxRecDepth 100000 in
theorem rf_own2 {args : Array Value} {s : State} (hw : ∀ w, rf_wok w → w.before args s = true) (hh : ∀ (i : Nat) w, rf_hw[i]? = some w → w.before args s = true) : ∀ w ∈ Bundle.ownAtoms0 "FlyingDesk" 321 "java/lang/IllegalStateException" ["java/lang/RuntimeException", "java/lang/Exception"], w.before args s = true :=
  List.forall_mem_append.mpr ⟨List.forall_mem_append.mpr ⟨List.forall_mem_cons.mpr ⟨hw _ (rf_at 67 rfl rfl), List.forall_mem_cons.mpr ⟨hw _ (rf_at 505 rfl rfl), List.forall_mem_cons.mpr ⟨hw _ (rf_at 514 rfl rfl), List.forall_mem_cons.mpr ⟨hw _ (rf_at 518 rfl rfl), List.forall_mem_cons.mpr ⟨hw _ (rf_at 521 rfl rfl), List.forall_mem_cons.mpr ⟨hw _ (rf_at 523 rfl rfl), List.forall_mem_cons.mpr ⟨hw _ (rf_at 506 rfl rfl), List.forall_mem_cons.mpr ⟨hw _ (rf_at 507 rfl rfl), List.forall_mem_cons.mpr ⟨hw _ (rf_at 81 rfl rfl), List.forall_mem_cons.mpr ⟨hw _ (rf_at 82 rfl rfl), List.forall_mem_cons.mpr ⟨hw _ (rf_at 508 rfl rfl), List.forall_mem_cons.mpr ⟨hw _ (rf_at 513 rfl rfl), List.forall_mem_cons.mpr ⟨hw _ (rf_at 519 rfl rfl), List.forall_mem_cons.mpr ⟨hw _ (rf_at 535 rfl rfl), List.forall_mem_cons.mpr ⟨hw _ (rf_at 495 rfl rfl), List.forall_mem_cons.mpr ⟨hw _ (rf_at 536 rfl rfl), List.forall_mem_cons.mpr ⟨hw _ (rf_at 497 rfl rfl), List.forall_mem_cons.mpr ⟨hw _ (rf_at 537 rfl rfl), List.forall_mem_cons.mpr ⟨hw _ (rf_at 499 rfl rfl), List.forall_mem_cons.mpr ⟨hw _ (rf_at 509 rfl rfl), List.forall_mem_cons.mpr ⟨hh 2 _ rfl, List.forall_mem_cons.mpr ⟨hw _ (rf_at 511 rfl rfl), List.forall_mem_cons.mpr ⟨hh 3 _ rfl, List.forall_mem_cons.mpr ⟨hw _ (rf_at 501 rfl rfl), fun _ h => nomatch h⟩⟩⟩⟩⟩⟩⟩⟩⟩⟩⟩⟩⟩⟩⟩⟩⟩⟩⟩⟩⟩⟩⟩⟩,
    List.forall_mem_cons.mpr ⟨hw _ (rf_at 593 rfl rfl), List.forall_mem_cons.mpr ⟨hw _ (rf_at 594 rfl rfl), List.forall_mem_cons.mpr ⟨hw _ (rf_at 595 rfl rfl), List.forall_mem_cons.mpr ⟨hw _ (rf_at 528 rfl rfl), List.forall_mem_cons.mpr ⟨rf_decl (hw _ (rf_at 528 rfl rfl)) (hw _ (rf_at 529 rfl rfl)), List.forall_mem_cons.mpr ⟨hw _ (rf_at 528 rfl rfl), List.forall_mem_cons.mpr ⟨hw _ (rf_at 529 rfl rfl), List.forall_mem_cons.mpr ⟨hw _ (rf_at 530 rfl rfl), List.forall_mem_cons.mpr ⟨hw _ (rf_at 531 rfl rfl), List.forall_mem_cons.mpr ⟨rf_decl (hw _ (rf_at 531 rfl rfl)) (hw _ (rf_at 532 rfl rfl)), List.forall_mem_cons.mpr ⟨hw _ (rf_at 531 rfl rfl), List.forall_mem_cons.mpr ⟨hw _ (rf_at 532 rfl rfl), List.forall_mem_cons.mpr ⟨hw _ (rf_at 533 rfl rfl), List.forall_mem_cons.mpr ⟨hw _ (rf_at 506 rfl rfl), List.forall_mem_cons.mpr ⟨rf_decl (hw _ (rf_at 506 rfl rfl)) (hw _ (rf_at 507 rfl rfl)), fun _ h => nomatch h⟩⟩⟩⟩⟩⟩⟩⟩⟩⟩⟩⟩⟩⟩⟩⟩,
    List.forall_mem_cons.mpr ⟨hw _ (rf_at 592 rfl rfl), List.forall_mem_cons.mpr ⟨hw _ (rf_at 584 rfl rfl), List.forall_mem_cons.mpr ⟨hw _ (rf_at 585 rfl rfl), List.forall_mem_cons.mpr ⟨hw _ (rf_at 586 rfl rfl), List.forall_mem_cons.mpr ⟨hw _ (rf_at 517 rfl rfl), List.forall_mem_cons.mpr ⟨hw _ (rf_at 587 rfl rfl), List.forall_mem_cons.mpr ⟨hw _ (rf_at 588 rfl rfl), List.forall_mem_cons.mpr ⟨hw _ (rf_at 589 rfl rfl), List.forall_mem_cons.mpr ⟨hw _ (rf_at 590 rfl rfl), List.forall_mem_cons.mpr ⟨hh 0 _ rfl, List.forall_mem_cons.mpr ⟨hh 1 _ rfl, List.forall_mem_cons.mpr ⟨hw _ (rf_at 504 rfl rfl), List.forall_mem_cons.mpr ⟨hw _ (rf_at 503 rfl rfl), List.forall_mem_cons.mpr ⟨hw _ (rf_at 591 rfl rfl), fun _ h => nomatch h⟩⟩⟩⟩⟩⟩⟩⟩⟩⟩⟩⟩⟩⟩⟩
theorem rf_thl2 : rf_wok (.classLink "FlyingDesk" 319 "java/lang/IllegalStateException") ∧ rf_wok (.initialized "java/lang/IllegalStateException") := ⟨rf_at 583 (by decide +kernel) rfl, rf_at 73 (by decide +kernel) rfl⟩
theorem rf_d16_0 : decode (rf_cd 16) 0 = .ok (.iload_n 0, 1) := by decide +kernel
theorem rf_d16_1 : decode (rf_cd 16) 1 = .ok (.ifCond .ne 11, 3) := by decide +kernel
theorem rf_d16_4 : decode (rf_cd 16) 4 = .ok (.new 319, 3) := by decide +kernel
theorem rf_d16_7 : decode (rf_cd 16) 7 = .ok (.dup, 1) := by decide +kernel
theorem rf_d16_8 : decode (rf_cd 16) 8 = .ok (.invokespecial 321, 3) := by decide +kernel
theorem rf_d16_11 : decode (rf_cd 16) 11 = .ok (.athrow, 1) := by decide +kernel
theorem rf_d16_12 : decode (rf_cd 16) 12 = .ok (.return_, 1) := by decide +kernel
/-- it is made and leaves: the picture is as it was -/
theorem rf_throws {l : Launch} {k x pc ik ic : Nat} {as : List rf_V} {σ : rf_S} {Q : rf_O → rf_S → Prop} {N0 : Nat} {H0 : Heap} {D : va_G} {cA : Nat → ClassId} {bk : Nat × Nat → Nat} {p : Program} {e : Env} {s : State} {m : MethodId} {args : Array Value} {below : List Frame} {meth : Method} {c : Code} {ls : Array Slot} {names : List String}
    (hq : Q (.inr x) σ) (h1 : rf_Cx l k N0 H0 p s m args meth c) (h2 : rf_R N0 H0 D cA bk σ s s.heap) (hls : ls.size = rf_ml k) (hk : (rf_nm k).cls = "FlyingDesk") (hh : rf_hh k = []) (hn : names.length = 2) (hR : rf_rm k = { frames := 6, cells := 1, slots := 6, locals := 100 })
    (hcls : Bundle.fit (rf_xn x) = true) (hnames : ∀ n ∈ names, Bundle.fit n = true) (hkl : rf_wok (.classLink "FlyingDesk" ik (rf_xn x)) ∧ rf_wok (.initialized (rf_xn x)))
    (hown : (∀ w, rf_wok w → w.before args s = true) → (∀ (i : Nat) w, rf_hw[i]? = some w → w.before args s = true) → ∀ w ∈ Bundle.ownAtoms0 "FlyingDesk" ic (rf_xn x) names, w.before args s = true)
    (d0 : decode (rf_cd k) pc = .ok (.new ik, 3)) (d3 : decode (rf_cd k) (pc + 3) = .ok (.dup, 1)) (d4 : decode (rf_cd k) (pc + 3 + 1) = .ok (.invokespecial ic, 3)) (d7 : decode (rf_cd k) (pc + 3 + 1 + 3) = .ok (.athrow, 1)) (hmc : rf_mc k = 1) (hms : rf_ms k = 6) :
    W p l e (rf_rm k) s m args below meth c s.heap [] 0 0 (rf_B s below N0 (rf_mc k) (rf_ms k) (rf_Z N0 H0 D cA bk σ s Q)) (F0 m pc ls []) := by
  have hw : ∀ w, rf_wok w → w.before args s = true := fun w hw => h1.2.2.2.2.1 w hw.1 hw.2
  have hhw : ∀ (i : Nat) w, rf_hw[i]? = some w → w.before args s = true := by
    obtain ⟨s0, q1, q2, q3⟩ := h1.2.2.2.2.2.2.2.2.2.2.2
    have hlow := h1.2.2.2.2.2.2.2.2.2.2.1
    have hheap : ∀ q : Nat, q < s0.heap.size → s.heap[q]? = s0.heap[q]? := fun q hq => by
      obtain ⟨_, -, -, -, -, -, -, -, -, g9⟩ := h2
      rw [q2] at hq ⊢
      exact hlow.2.1 q hq (by show ¬ N0 ≤ q; omega)
    have l1 : (Cond.laysStatic "java/lang/Throwable" "UNASSIGNED_STACK" "[Ljava/lang/StackTraceElement;").before args s = true := rf_laysS q1 hheap (q3 _ (List.mem_of_getElem? (i := 2) rfl))
    have l2 : (Cond.laysStatic "java/lang/Throwable" "SUPPRESSED_SENTINEL" "Ljava/util/List;").before args s = true := rf_laysS q1 hheap (q3 _ (List.mem_of_getElem? (i := 3) rfl))
    intro i w hi
    rcases i with _ | _ | _ | _ | i
    · cases hi; exact rf_isRefS q1 hheap (q3 _ (List.mem_of_getElem? (i := 2) rfl)) (q3 _ (List.mem_of_getElem? (i := 0) rfl))
    · cases hi; exact rf_isRefS q1 hheap (q3 _ (List.mem_of_getElem? (i := 3) rfl)) (q3 _ (List.mem_of_getElem? (i := 1) rfl))
    · cases hi; exact l1
    · cases hi; exact l2
    · cases hi
  have hemp : c.exceptionTable.toList = [] := by
    have htab := h1.2.2.2.2.2.2.2.1
    rw [hh] at htab
    exact List.map_eq_nil_iff.mp htab
  refine rf_throw h1.1 h1.2.1 h1.2.2.2.2.2.2.2.2.2.1 (by rw [← hk]; exact h1.2.2.2.1) hcls hnames (hw _ hkl.1) (hw _ hkl.2) (hown hw hhw) (hls.trans h1.2.2.1.symm) d0 d3 d4 d7 (fun x hx => by rw [hemp] at hx; cases hx) (by rw [hR, hn]; decide) (by rw [hR, hn]; decide) (by rw [hR]; decide) (by rw [hR]; decide) h1.2.2.2.2.2.2.1 fun U ce q u1 u2 u3 u4 u5 u6 u7 => ?_
  have hsz : s.heap.size ≤ U.heap.size := u4.2.1
  have hold : ∀ q : Nat, q < s.heap.size → U.heap[q]? = s.heap[q]? := fun q hq => rf_old u4 hq
  refine ⟨.threw q, [], u1, u2, u3, by rw [hmc, hms]; exact u4, (fun _ hz => nomatch hz), .inr x, σ, bk, hq, ⟨q, ce, rfl, u5, u6, u7⟩, trivial, ?_, rf_ex.refl _ _⟩
  obtain ⟨ks, g1, g2, g3, g4, g5, g6, g7, g8, g9⟩ := h2
  exact ⟨ks, g1, g2, g3.kept fun k q hq => hold _ (g3 k q hq).lt, g4, ⟨Nat.le_trans g5.1 hsz, fun q hq hn => (hold q (Nat.lt_of_lt_of_le hq g5.1)).trans (g5.2.1 q hq hn), (fun _ hz => nomatch hz)⟩, g6, g7, g8, g9⟩
theorem c_checkIndex {l : Launch} {i n : Int32} {σ : rf_S} {Q : rf_O → rf_S → Prop} (hy : 0 ≤ i → i < n → Q (.inl none) σ) (hx : ¬ (0 ≤ i ∧ i < n) → Q (.inr 0) σ) : rf_C l 9 [.inl i, .inl n] σ Q := by
  intro N0 H0 D cA bk p e s m args below meth c ls h1 h2 h3 h4 h5
  have l0 := rf_lat h5 (j := 0) (x := .inl i) rfl
  have l1 := rf_lat h5 (j := 1) (x := .inl n) rfl
  have thr : ¬ (0 ≤ i ∧ i < n) → W p l e (rf_rm 9) s m args below meth c s.heap [] 0 0 (rf_B s below N0 (rf_mc 9) (rf_ms 9) (rf_Z N0 H0 D cA bk σ s Q)) (F0 m 9 ls []) := fun hn =>
    rf_throws (x := 0) (as := []) (hx hn) h1 h2 h5.1 rfl rfl (names := ["java/lang/RuntimeException", "java/lang/Exception"]) rfl rfl (by decide +kernel) (by decide +kernel) rf_thl0 rf_own0 rf_d9_9 rf_d9_12 rf_d9_13 rf_d9_16 rfl rfl
  refine lv_iload_n h1.1 h1.2.1 rf_d9_0 rfl l0 ?_
  refine lv_if_lt h1.1 h1.2.1 rf_d9_1 (tgt := 9) (by decide) (fun hc => ?_) (fun hc => ?_)
  · exact thr fun q => by have := Int32.lt_iff_toInt_lt.mp hc; have := Int32.le_iff_toInt_le.mp q.1; omega
  · refine lv_iload_n h1.1 h1.2.1 rf_d9_4 rfl l0 ?_
    refine lv_iload_n h1.1 h1.2.1 rf_d9_5 rfl l1 ?_
    refine lv_icmp_lt h1.1 h1.2.1 rf_d9_6 (tgt := 17) (by decide) (fun hc2 => ?_) (fun hc2 => ?_)
    · exact rf_end (W.vret h1.1 h1.2.1 (h1.2.2.2.2.2.1.trans rfl) (fun t ht _ => ⟨rfl, ht⟩) (fun _ hz => nomatch hz) rf_d9_17 h1.2.2.2.2.2.2.1) (fun t ht => ⟨.inl none, σ, bk, hy (by have := hc; rw [Int32.le_iff_toInt_le]; rw [Int32.lt_iff_toInt_lt] at this; omega) hc2, rfl, trivial, by rw [ht]; exact h2, rf_ex.refl _ _⟩) (by decide) (by decide)
    · exact thr fun q => hc2 q.2
theorem c_checkArgument {l : Launch} {i : Int32} {σ : rf_S} {Q : rf_O → rf_S → Prop} (hy : ¬ i = 0 → Q (.inl none) σ) (hx : i = 0 → Q (.inr 1) σ) : rf_C l 13 [.inl i] σ Q := by
  intro N0 H0 D cA bk p e s m args below meth c ls h1 h2 h3 h4 h5
  have l0 := rf_lat h5 (j := 0) (x := .inl i) rfl
  refine lv_iload_n h1.1 h1.2.1 rf_d13_0 rfl l0 ?_
  refine lv_if_ne h1.1 h1.2.1 rf_d13_1 (tgt := 12) (by decide) (fun hc => ?_) (fun hc => ?_)
  · exact rf_end (W.vret h1.1 h1.2.1 (h1.2.2.2.2.2.1.trans rfl) (fun t ht _ => ⟨rfl, ht⟩) (fun _ hz => nomatch hz) rf_d13_12 h1.2.2.2.2.2.2.1) (fun t ht => ⟨.inl none, σ, bk, hy hc, rfl, trivial, by rw [ht]; exact h2, rf_ex.refl _ _⟩) (by decide) (by decide)
  · exact rf_throws (x := 1) (as := []) (hx hc) h1 h2 h5.1 rfl rfl (names := ["java/lang/RuntimeException", "java/lang/Exception"]) rfl rfl (by decide +kernel) (by decide +kernel) rf_thl1 rf_own1 rf_d13_4 rf_d13_7 rf_d13_8 rf_d13_11 rfl rfl
theorem c_checkState {l : Launch} {i : Int32} {σ : rf_S} {Q : rf_O → rf_S → Prop} (hy : ¬ i = 0 → Q (.inl none) σ) (hx : i = 0 → Q (.inr 2) σ) : rf_C l 16 [.inl i] σ Q := by
  intro N0 H0 D cA bk p e s m args below meth c ls h1 h2 h3 h4 h5
  have l0 := rf_lat h5 (j := 0) (x := .inl i) rfl
  refine lv_iload_n h1.1 h1.2.1 rf_d16_0 rfl l0 ?_
  refine lv_if_ne h1.1 h1.2.1 rf_d16_1 (tgt := 12) (by decide) (fun hc => ?_) (fun hc => ?_)
  · exact rf_end (W.vret h1.1 h1.2.1 (h1.2.2.2.2.2.1.trans rfl) (fun t ht _ => ⟨rfl, ht⟩) (fun _ hz => nomatch hz) rf_d16_12 h1.2.2.2.2.2.2.1) (fun t ht => ⟨.inl none, σ, bk, hy hc, rfl, trivial, by rw [ht]; exact h2, rf_ex.refl _ _⟩) (by decide) (by decide)
  · exact rf_throws (x := 2) (as := []) (hx hc) h1 h2 h5.1 rfl rfl (names := ["java/lang/RuntimeException", "java/lang/Exception"]) rfl rfl (by decide +kernel) (by decide +kernel) rf_thl2 rf_own2 rf_d16_4 rf_d16_7 rf_d16_8 rf_d16_11 rfl rfl
