/-! printed by wip/whole/src/genfacts.py: the words of the tables, by their places -/
theorem rf_in {ws : List Cond} (ps : List Nat) (hp : ws = ps.filterMap fun i => rf_nth rf_tb0 i) (h : ws.all rf_gw = true) : ∀ w ∈ ws, rf_wok w := by
  intro w hw
  refine ⟨?_, List.all_eq_true.mp h w hw⟩
  rw [hp] at hw
  obtain ⟨i, -, hi⟩ := List.mem_filterMap.mp hw
  rw [rf_nth_eq] at hi
  exact List.mem_of_getElem? hi
theorem rf_at {w : Cond} (i : Nat) (hp : rf_nth rf_tb0 i = some w) (h : rf_gw w = true) : rf_wok w := by
  rw [rf_nth_eq] at hp
  exact ⟨List.mem_of_getElem? hp, h⟩
/-- a kind and a type agree -/
def rf_fkok (ks : List Nat) (Y : Nat → FieldType) (j : Nat) : Bool := match ks[j]?, Y j with
  | some 0, .int => true
  | some 1, .boolean => true
  | some 2, .object _ => true
  | some 2, .array _ => true
  | _, _ => false
theorem rf_fkok_spec {ks : List Nat} {Y : Nat → FieldType} {j t : Nat} (h : rf_fkok ks Y j = true) (ht : ks[j]? = some t) : (t = 0 → Y j = .int) ∧ (t = 1 → Y j = .boolean) ∧ (t = 2 → (∃ C, Y j = .object C) ∨ ∃ u, Y j = .array u) ∧ t ≤ 2 := by
  unfold rf_fkok at h
  rw [ht] at h
  cases hY : Y j <;> rcases t with _ | _ | _ | t <;> simp_all
theorem rf_kc0 : rf_KC 0 "FlyingDesk$Box" rf_T0 5 rf_Y0 := ⟨rfl, rf_in [208, 210, 212, 214, 216] (by decide +kernel) (by decide +kernel), by decide +kernel, by decide +kernel, rfl, rfl, by decide, by decide, by decide +kernel⟩
theorem rf_kd0 : ∀ j t, (rf_ft 0)[j]? = some t → (t = 0 → rf_Y0 j = .int) ∧ (t = 1 → rf_Y0 j = .boolean) ∧ (t = 2 → (∃ C, rf_Y0 j = .object C) ∨ ∃ u, rf_Y0 j = .array u) ∧ t ≤ 2 := by
  intro j t h
  have hj : j < 5 := (List.getElem?_eq_some_iff.mp h).1
  have h2 : ∀ j, j < 5 → rf_fkok (rf_ft 0) rf_Y0 j = true := by decide +kernel
  exact rf_fkok_spec (h2 j hj) h
theorem rf_ins0 : rf_wok (.instantiable "FlyingDesk$Box" 5) := rf_at 193 (by decide +kernel) rfl
theorem rf_ini0 : rf_wok (.initialized "FlyingDesk$Box") := rf_at 63 (by decide +kernel) rfl
theorem rf_kc1 : rf_KC 1 "FlyingDesk$Cue" rf_T1 4 rf_Y1 := ⟨rfl, rf_in [169, 171, 173, 175] (by decide +kernel) (by decide +kernel), by decide +kernel, by decide +kernel, rfl, rfl, by decide, by decide, by decide +kernel⟩
theorem rf_kd1 : ∀ j t, (rf_ft 1)[j]? = some t → (t = 0 → rf_Y1 j = .int) ∧ (t = 1 → rf_Y1 j = .boolean) ∧ (t = 2 → (∃ C, rf_Y1 j = .object C) ∨ ∃ u, rf_Y1 j = .array u) ∧ t ≤ 2 := by
  intro j t h
  have hj : j < 4 := (List.getElem?_eq_some_iff.mp h).1
  have h2 : ∀ j, j < 4 → rf_fkok (rf_ft 1) rf_Y1 j = true := by decide +kernel
  exact rf_fkok_spec (h2 j hj) h
theorem rf_ins1 : rf_wok (.instantiable "FlyingDesk$Cue" 4) := rf_at 116 (by decide +kernel) rfl
theorem rf_ini1 : rf_wok (.initialized "FlyingDesk$Cue") := rf_at 61 (by decide +kernel) rfl
theorem rf_kc2 : rf_KC 2 "FlyingDesk$Drive" rf_T2 9 rf_Y2 := ⟨rfl, rf_in [241, 243, 245, 247, 249, 251, 253, 255, 257] (by decide +kernel) (by decide +kernel), by decide +kernel, by decide +kernel, rfl, rfl, by decide, by decide, by decide +kernel⟩
theorem rf_kd2 : ∀ j t, (rf_ft 2)[j]? = some t → (t = 0 → rf_Y2 j = .int) ∧ (t = 1 → rf_Y2 j = .boolean) ∧ (t = 2 → (∃ C, rf_Y2 j = .object C) ∨ ∃ u, rf_Y2 j = .array u) ∧ t ≤ 2 := by
  intro j t h
  have hj : j < 9 := (List.getElem?_eq_some_iff.mp h).1
  have h2 : ∀ j, j < 9 → rf_fkok (rf_ft 2) rf_Y2 j = true := by decide +kernel
  exact rf_fkok_spec (h2 j hj) h
theorem rf_ins2 : rf_wok (.instantiable "FlyingDesk$Drive" 9) := rf_at 219 (by decide +kernel) rfl
theorem rf_ini2 : rf_wok (.initialized "FlyingDesk$Drive") := rf_at 64 (by decide +kernel) rfl
theorem rf_kc3 : rf_KC 3 "FlyingDesk$Journal" rf_T3 4 rf_Y3 := ⟨rfl, rf_in [183, 185, 187, 189] (by decide +kernel) (by decide +kernel), by decide +kernel, by decide +kernel, rfl, rfl, by decide, by decide, by decide +kernel⟩
theorem rf_kd3 : ∀ j t, (rf_ft 3)[j]? = some t → (t = 0 → rf_Y3 j = .int) ∧ (t = 1 → rf_Y3 j = .boolean) ∧ (t = 2 → (∃ C, rf_Y3 j = .object C) ∨ ∃ u, rf_Y3 j = .array u) ∧ t ≤ 2 := by
  intro j t h
  have hj : j < 4 := (List.getElem?_eq_some_iff.mp h).1
  have h2 : ∀ j, j < 4 → rf_fkok (rf_ft 3) rf_Y3 j = true := by decide +kernel
  exact rf_fkok_spec (h2 j hj) h
theorem rf_ins3 : rf_wok (.instantiable "FlyingDesk$Journal" 4) := rf_at 110 (by decide +kernel) rfl
theorem rf_ini3 : rf_wok (.initialized "FlyingDesk$Journal") := rf_at 60 (by decide +kernel) rfl
theorem rf_kc4 : rf_KC 4 "FlyingDesk$Masters" rf_T4 3 rf_Y4 := ⟨rfl, rf_in [100, 102, 104] (by decide +kernel) (by decide +kernel), by decide +kernel, by decide +kernel, rfl, rfl, by decide, by decide, by decide +kernel⟩
theorem rf_kd4 : ∀ j t, (rf_ft 4)[j]? = some t → (t = 0 → rf_Y4 j = .int) ∧ (t = 1 → rf_Y4 j = .boolean) ∧ (t = 2 → (∃ C, rf_Y4 j = .object C) ∨ ∃ u, rf_Y4 j = .array u) ∧ t ≤ 2 := by
  intro j t h
  have hj : j < 3 := (List.getElem?_eq_some_iff.mp h).1
  have h2 : ∀ j, j < 3 → rf_fkok (rf_ft 4) rf_Y4 j = true := by decide +kernel
  exact rf_fkok_spec (h2 j hj) h
theorem rf_ins4 : rf_wok (.instantiable "FlyingDesk$Masters" 3) := rf_at 90 (by decide +kernel) rfl
theorem rf_ini4 : rf_wok (.initialized "FlyingDesk$Masters") := rf_at 59 (by decide +kernel) rfl
theorem rf_kc5 : rf_KC 5 "FlyingDesk$Move" rf_T5 5 rf_Y5 := ⟨rfl, rf_in [148, 150, 152, 154, 156] (by decide +kernel) (by decide +kernel), by decide +kernel, by decide +kernel, rfl, rfl, by decide, by decide, by decide +kernel⟩
theorem rf_kd5 : ∀ j t, (rf_ft 5)[j]? = some t → (t = 0 → rf_Y5 j = .int) ∧ (t = 1 → rf_Y5 j = .boolean) ∧ (t = 2 → (∃ C, rf_Y5 j = .object C) ∨ ∃ u, rf_Y5 j = .array u) ∧ t ≤ 2 := by
  intro j t h
  have hj : j < 5 := (List.getElem?_eq_some_iff.mp h).1
  have h2 : ∀ j, j < 5 → rf_fkok (rf_ft 5) rf_Y5 j = true := by decide +kernel
  exact rf_fkok_spec (h2 j hj) h
theorem rf_ins5 : rf_wok (.instantiable "FlyingDesk$Move" 5) := rf_at 123 (by decide +kernel) rfl
theorem rf_ini5 : rf_wok (.initialized "FlyingDesk$Move") := rf_at 62 (by decide +kernel) rfl
theorem rf_kc6 : rf_KC 6 "FlyingDesk$Piece" rf_T6 5 rf_Y6 := ⟨rfl, rf_in [277, 279, 281, 283, 285] (by decide +kernel) (by decide +kernel), by decide +kernel, by decide +kernel, rfl, rfl, by decide, by decide, by decide +kernel⟩
theorem rf_kd6 : ∀ j t, (rf_ft 6)[j]? = some t → (t = 0 → rf_Y6 j = .int) ∧ (t = 1 → rf_Y6 j = .boolean) ∧ (t = 2 → (∃ C, rf_Y6 j = .object C) ∨ ∃ u, rf_Y6 j = .array u) ∧ t ≤ 2 := by
  intro j t h
  have hj : j < 5 := (List.getElem?_eq_some_iff.mp h).1
  have h2 : ∀ j, j < 5 → rf_fkok (rf_ft 6) rf_Y6 j = true := by decide +kernel
  exact rf_fkok_spec (h2 j hj) h
theorem rf_ins6 : rf_wok (.instantiable "FlyingDesk$Piece" 5) := rf_at 260 (by decide +kernel) rfl
theorem rf_ini6 : rf_wok (.initialized "FlyingDesk$Piece") := rf_at 65 (by decide +kernel) rfl
theorem rf_kc7 : rf_KC 7 "FlyingDesk" rf_T7 12 rf_Y7 := ⟨rfl, rf_in [301, 303, 305, 307, 309, 311, 313, 315, 317, 319, 321, 323] (by decide +kernel) (by decide +kernel), by decide +kernel, by decide +kernel, rfl, rfl, by decide, by decide, by decide +kernel⟩
theorem rf_kd7 : ∀ j t, (rf_ft 7)[j]? = some t → (t = 0 → rf_Y7 j = .int) ∧ (t = 1 → rf_Y7 j = .boolean) ∧ (t = 2 → (∃ C, rf_Y7 j = .object C) ∨ ∃ u, rf_Y7 j = .array u) ∧ t ≤ 2 := by
  intro j t h
  have hj : j < 12 := (List.getElem?_eq_some_iff.mp h).1
  have h2 : ∀ j, j < 12 → rf_fkok (rf_ft 7) rf_Y7 j = true := by decide +kernel
  exact rf_fkok_spec (h2 j hj) h
theorem rf_ins7 : rf_wok (.instantiable "FlyingDesk" 12) := rf_at 76 (by decide +kernel) rfl
theorem rf_ini7 : rf_wok (.initialized "FlyingDesk") := rf_at 58 (by decide +kernel) rfl
theorem rf_kc8 : rf_KC 8 "FlyingDeskModel" rf_T8 37 rf_Y8 := ⟨rfl, rf_in [884, 886, 888, 890, 892, 894, 896, 898, 900, 902, 904, 906, 908, 910, 912, 914, 916, 918, 920, 922, 924, 926, 928, 930, 932, 934, 936, 938, 940, 942, 944, 946, 948, 950, 952, 954, 956] (by decide +kernel) (by decide +kernel), by decide +kernel, by decide +kernel, rfl, rfl, by decide, by decide, by decide +kernel⟩
theorem rf_kd8 : ∀ j t, (rf_ft 8)[j]? = some t → (t = 0 → rf_Y8 j = .int) ∧ (t = 1 → rf_Y8 j = .boolean) ∧ (t = 2 → (∃ C, rf_Y8 j = .object C) ∨ ∃ u, rf_Y8 j = .array u) ∧ t ≤ 2 := by
  intro j t h
  have hj : j < 37 := (List.getElem?_eq_some_iff.mp h).1
  have h2 : ∀ j, j < 37 → rf_fkok (rf_ft 8) rf_Y8 j = true := by decide +kernel
  exact rf_fkok_spec (h2 j hj) h
theorem rf_ins8 : rf_wok (.instantiable "FlyingDeskModel" 37) := rf_at 842 (by decide +kernel) rfl
theorem rf_ini8 : rf_wok (.initialized "FlyingDeskModel") := rf_at 66 (by decide +kernel) rfl
theorem rf_ka100 : rf_KA 100 0 .int := ⟨rfl, fun _ => rfl, by decide, by decide⟩
theorem rf_ka101 : rf_KA 101 0 .boolean := ⟨rfl, fun _ => rfl, by decide, by decide⟩
theorem rf_ka102 : rf_KA 102 1 .long := ⟨rfl, fun _ => rfl, by decide, by decide⟩
theorem rf_ka103 : rf_KA 103 2 (.object "FlyingDesk$Drive") := ⟨rfl, fun _ => rfl, by decide, by decide⟩
theorem rf_ka104 : rf_KA 104 2 (.object "FlyingDesk$Piece") := ⟨rfl, fun _ => rfl, by decide, by decide⟩
theorem rf_ka105 : rf_KA 105 2 (.object "FlyingDesk$Cue") := ⟨rfl, fun _ => rfl, by decide, by decide⟩
theorem rf_ka106 : rf_KA 106 2 (.object "FlyingDesk$Move") := ⟨rfl, fun _ => rfl, by decide, by decide⟩
def rf_fls : List (Nat × Nat × Nat × Nat × Nat) := [(7, 11, 7, 0, 289), (7, 17, 7, 1, 290), (7, 23, 7, 2, 291), (7, 27, 7, 3, 292), (7, 34, 7, 4, 293), (7, 38, 7, 5, 294), (7, 44, 7, 6, 295), (7, 51, 7, 7, 296), (7, 55, 7, 8, 297), (7, 59, 7, 9, 298), (7, 62, 7, 10, 299), (7, 65, 7, 11, 300), (7, 88, 6, 1, 270), (7, 98, 6, 0, 268), (7, 105, 0, 0, 199), (7, 108, 0, 1, 201), (7, 115, 6, 2, 272), (7, 124, 6, 3, 274), (7, 137, 4, 0, 96), (7, 143, 6, 4, 276), (7, 146, 2, 0, 225), (7, 153, 0, 2, 203), (7, 156, 0, 3, 205), (7, 159, 0, 4, 207), (7, 168, 1, 2, 166), (7, 174, 1, 1, 164), (7, 181, 1, 0, 161), (7, 185, 5, 3, 142), (7, 190, 5, 4, 146), (7, 193, 3, 3, 182), (7, 221, 1, 3, 168), (7, 236, 2, 8, 240), (7, 239, 2, 7, 238), (7, 242, 2, 6, 236), (7, 252, 2, 1, 227), (7, 254, 2, 2, 229), (7, 257, 2, 3, 231), (7, 264, 2, 5, 234), (7, 272, 4, 1, 98), (7, 281, 5, 0, 131), (7, 282, 5, 1, 135), (7, 285, 5, 2, 139), (0, 7, 0, 0, 198), (0, 13, 0, 1, 200), (0, 16, 0, 2, 202), (0, 19, 0, 3, 204), (0, 22, 0, 4, 206), (1, 11, 1, 0, 159), (1, 17, 1, 1, 162), (1, 21, 1, 2, 165), (1, 24, 1, 3, 167), (1, 28, 5, 0, 129), (1, 31, 5, 1, 133), (1, 34, 5, 2, 137), (1, 37, 5, 3, 141), (1, 40, 5, 4, 145), (2, 9, 2, 0, 224), (2, 15, 2, 1, 226), (2, 18, 2, 2, 228), (2, 21, 2, 3, 230), (2, 25, 2, 4, 232), (2, 28, 2, 5, 233), (2, 31, 2, 6, 235), (2, 34, 2, 7, 237), (2, 37, 2, 8, 239), (3, 11, 3, 0, 178), (3, 17, 3, 1, 179), (3, 21, 3, 2, 180), (3, 25, 3, 3, 181), (4, 9, 4, 0, 95), (4, 15, 4, 1, 97), (4, 18, 4, 2, 99), (4, 25, 1, 1, 163), (4, 31, 1, 0, 160), (4, 35, 5, 0, 130), (4, 40, 5, 1, 134), (4, 51, 5, 3, 143), (4, 54, 5, 4, 147), (4, 67, 5, 2, 138), (5, 9, 5, 0, 128), (5, 15, 5, 1, 132), (5, 18, 5, 2, 136), (5, 21, 5, 3, 140), (5, 24, 5, 4, 144), (6, 10, 6, 0, 267), (6, 16, 6, 1, 269), (6, 20, 6, 2, 271), (6, 24, 6, 3, 273), (6, 27, 6, 4, 275), (8, 7, 8, 1, 848), (8, 13, 8, 2, 849), (8, 16, 8, 3, 850), (8, 19, 8, 4, 851), (8, 22, 8, 5, 852), (8, 25, 8, 6, 853), (8, 28, 8, 7, 854), (8, 31, 8, 8, 855), (8, 35, 8, 9, 856), (8, 38, 8, 10, 857), (8, 41, 8, 11, 858), (8, 44, 8, 12, 859), (8, 47, 8, 13, 860), (8, 50, 8, 14, 861), (8, 53, 8, 15, 862), (8, 56, 8, 16, 863), (8, 59, 8, 17, 864), (8, 62, 8, 18, 865), (8, 65, 8, 19, 866), (8, 68, 8, 20, 867), (8, 71, 8, 21, 868), (8, 74, 8, 22, 869), (8, 77, 8, 23, 870), (8, 80, 8, 24, 871), (8, 83, 8, 25, 872), (8, 86, 8, 26, 873), (8, 89, 8, 27, 874), (8, 92, 8, 28, 875), (8, 95, 8, 29, 876), (8, 98, 8, 30, 877), (8, 101, 8, 33, 880), (8, 104, 8, 34, 881), (8, 107, 8, 35, 882), (8, 110, 8, 36, 883), (8, 113, 8, 0, 847), (8, 152, 8, 31, 878), (8, 155, 8, 32, 879)]
def rf_mls9 : List (Nat × Nat × Nat × Nat × Nat) := [(7, 33, 0, 3, 91), (7, 43, 3, 2, 111), (7, 50, 4, 3, 194), (7, 69, 5, 3, 220), (7, 70, 6, 3, 261), (7, 71, 2, 2, 288), (7, 72, 9, 0, 480), (7, 76, 12, 0, 546), (7, 80, 10, 0, 358), (7, 84, 13, 0, 555), (7, 92, 15, 1, 573), (7, 95, 16, 0, 580), (7, 101, 17, 1, 598), (7, 111, 22, 1, 602), (7, 118, 11, 0, 549), (7, 127, 23, 1, 606), (7, 130, 14, 0, 577), (7, 133, 24, 1, 607), (7, 140, 37, 1, 618), (7, 149, 44, 1, 629), (7, 162, 35, 1, 334), (7, 165, 52, 1, 640), (7, 171, 36, 1, 420), (7, 177, 57, 1, 657), (7, 196, 67, 1, 330), (7, 200, 68, 1, 338), (7, 204, 50, 1, 342), (7, 208, 69, 1, 350), (7, 211, 72, 1, 682), (7, 215, 73, 1, 436), (7, 218, 81, 1, 686), (7, 224, 98, 1, 736), (7, 227, 111, 1, 751), (7, 230, 117, 1, 763), (7, 233, 126, 1, 790), (7, 245, 119, 1, 383), (7, 248, 124, 1, 798), (7, 260, 122, 1, 361), (7, 267, 104, 0, 369), (7, 275, 120, 1, 376), (7, 278, 121, 1, 365), (7, 288, 156, 1, 402), (7, 291, 18, 1, 406), (7, 295, 21, 1, 410), (7, 299, 159, 1, 424), (7, 302, 160, 1, 428), (7, 306, 108, 1, 440), (7, 309, 107, 1, 444), (7, 322, 51, 1, 644), (7, 326, 97, 1, 740), (7, 329, 77, 1, 690), (7, 332, 80, 1, 703), (7, 335, 76, 1, 694), (7, 338, 75, 1, 698), (7, 342, 74, 1, 702), (7, 346, 79, 1, 707), (7, 349, 78, 1, 711), (7, 352, 110, 1, 755), (7, 355, 109, 1, 759), (7, 358, 112, 1, 767), (7, 361, 116, 1, 771), (7, 364, 125, 1, 794), (7, 367, 118, 1, 802), (7, 370, 123, 1, 807), (7, 373, 113, 1, 806), (7, 380, 19, 0, 387), (7, 383, 20, 0, 380), (0, 25, 19, 0, 414), (0, 31, 20, 0, 415), (1, 27, 1, 3, 124), (1, 43, 49, 1, 346), (2, 40, 113, 1, 775), (2, 44, 114, 1, 779), (2, 48, 115, 1, 786), (2, 51, 19, 0, 785), (2, 57, 20, 0, 784), (2, 60, 104, 0, 783), (3, 28, 2, 2, 117), (3, 29, 19, 0, 648), (3, 35, 50, 1, 649), (4, 21, 23, 1, 432), (4, 43, 103, 1, 448), (4, 47, 106, 1, 456), (4, 57, 74, 1, 452), (4, 61, 104, 0, 460), (4, 70, 105, 0, 461), (4, 74, 20, 0, 465), (4, 78, 19, 0, 464), (6, 9, 4, 3, 266), (9, 7, 25, 1, 476), (9, 19, 38, 1, 614), (9, 23, 45, 1, 625), (9, 27, 53, 1, 636), (9, 31, 58, 1, 653), (9, 35, 61, 1, 664), (9, 38, 64, 1, 671), (9, 41, 82, 1, 678), (9, 45, 91, 1, 718), (9, 49, 94, 1, 725), (9, 52, 99, 1, 732), (9, 55, 127, 1, 747), (9, 58, 136, 1, 816), (9, 61, 139, 1, 823), (9, 64, 142, 1, 830), (9, 67, 145, 1, 837), (9, 71, 7, 2, 77), (9, 74, 8, 2, 843), (9, 75, 26, 0, 470), (9, 80, 33, 1, 981), (9, 81, 34, 1, 959), (9, 85, 39, 0, 611), (9, 88, 43, 1, 992), (9, 89, 46, 0, 622), (9, 92, 48, 1, 1008), (9, 93, 54, 0, 633), (9, 96, 56, 1, 1019), (9, 97, 59, 0, 650), (9, 100, 60, 1, 1027), (9, 101, 62, 0, 661), (9, 103, 63, 1, 1031), (9, 104, 65, 0, 668), (9, 106, 66, 1, 1035), (9, 107, 70, 1, 326), (9, 111, 71, 1, 1015), (9, 112, 83, 0, 675), (9, 115, 90, 1, 1043), (9, 116, 92, 0, 715), (9, 119, 93, 1, 1071), (9, 120, 95, 0, 722), (9, 122, 96, 1, 1075), (9, 123, 100, 0, 729), (9, 125, 102, 1, 1079), (9, 126, 128, 0, 744), (9, 128, 135, 1, 1087), (9, 129, 137, 0, 813), (9, 131, 138, 1, 1116), (9, 132, 140, 0, 820), (9, 134, 141, 1, 1120), (9, 135, 143, 0, 827), (9, 137, 144, 1, 1124), (9, 138, 146, 0, 834), (9, 140, 147, 1, 1128), (9, 141, 148, 1, 354), (9, 145, 149, 1, 1132), (9, 146, 150, 1, 372), (9, 149, 151, 1, 1136), (9, 150, 152, 1, 390), (9, 153, 153, 1, 1140), (9, 154, 154, 1, 394), (9, 158, 155, 1, 1144), (9, 159, 157, 1, 398), (9, 163, 158, 1, 963), (9, 164, 161, 1, 416), (9, 167, 162, 1, 1148), (9, 168, 163, 1, 466), (9, 171, 164, 1, 1039), (8, 117, 40, 1, 1000), (8, 121, 41, 1, 1004), (8, 125, 29, 0, 978), (8, 129, 30, 1, 974), (8, 133, 31, 1, 970), (8, 136, 27, 0, 967), (8, 139, 28, 0, 985), (8, 143, 32, 1, 988), (8, 146, 42, 1, 996), (8, 149, 47, 0, 1012), (8, 158, 55, 1, 1023), (8, 162, 86, 1, 1067), (8, 166, 87, 1, 1063), (8, 169, 85, 1, 1055), (8, 172, 88, 1, 1059), (8, 175, 84, 1, 1047), (8, 178, 89, 1, 1051), (8, 182, 101, 1, 1083), (8, 185, 129, 0, 1095), (8, 191, 132, 1, 1107), (8, 196, 133, 1, 1112), (8, 199, 130, 1, 1091), (8, 202, 131, 1, 1098), (8, 205, 134, 1, 1102)]
def rf_ols : List (Nat × Nat × Nat) := [(7, 1, 80), (0, 1, 197), (1, 3, 120), (2, 3, 223), (3, 3, 114), (4, 3, 94), (5, 3, 127), (6, 1, 264), (8, 1, 846)]
def rf_kls : List (Nat × Nat × Nat × Nat) := [(7, 9, 2, 83), (7, 15, 6, 85), (7, 21, 1, 87), (7, 31, 4, 89), (7, 41, 3, 109), (7, 48, 0, 192), (1, 9, 5, 121), (3, 9, 1, 115), (6, 7, 0, 265), (9, 8, 7, 75), (9, 72, 8, 841)]
/-- of each method: the places of its code, of static or instanceMethod, of selects, of its class's being initialised -/
def rf_mws : List (Nat × Nat × Nat × Nat) := [(93, 92, 0, 59), (126, 125, 0, 62), (119, 118, 0, 61), (113, 112, 0, 60), (196, 195, 0, 63), (222, 221, 0, 64), (263, 262, 0, 65), (79, 78, 0, 58), (845, 844, 0, 66), (482, 481, 0, 58), (360, 359, 0, 58), (551, 550, 0, 71), (548, 547, 0, 58), (557, 556, 0, 58), (579, 578, 0, 58), (576, 575, 14, 58), (582, 581, 0, 58), (601, 599, 600, 63), (409, 407, 408, 63), (389, 388, 0, 74), (382, 381, 0, 74), (413, 411, 412, 63), (605, 604, 15, 58), (435, 433, 434, 59), (610, 608, 609, 64), (479, 477, 478, 58), (472, 471, 0, 57), (969, 968, 0, 66), (987, 986, 0, 66), (980, 979, 0, 66), (977, 976, 39, 66), (973, 972, 38, 66), (991, 990, 40, 66), (984, 982, 983, 66), (962, 960, 961, 66), (337, 335, 336, 61), (423, 421, 422, 61), (621, 620, 16, 58), (617, 615, 616, 58), (613, 612, 0, 57), (1003, 1002, 42, 66), (1007, 1006, 43, 66), (999, 998, 41, 66), (995, 993, 994, 66), (632, 631, 17, 58), (628, 626, 627, 58), (624, 623, 0, 57), (1014, 1013, 0, 66), (1011, 1009, 1010, 66), (349, 347, 348, 62), (345, 343, 344, 61), (647, 645, 646, 60), (643, 642, 18, 58), (639, 637, 638, 58), (635, 634, 0, 57), (1026, 1025, 44, 66), (1022, 1020, 1021, 66), (660, 658, 659, 61), (656, 654, 655, 58), (652, 651, 0, 57), (1030, 1028, 1029, 66), (667, 665, 666, 58), (663, 662, 0, 57), (1034, 1032, 1033, 66), (674, 672, 673, 58), (670, 669, 0, 57), (1038, 1036, 1037, 66), (333, 331, 332, 60), (341, 339, 340, 60), (353, 351, 352, 60), (329, 327, 328, 58), (1018, 1016, 1017, 66), (685, 684, 19, 58), (439, 437, 438, 59), (455, 453, 454, 59), (701, 700, 23, 58), (697, 696, 22, 58), (693, 692, 21, 58), (714, 713, 26, 58), (710, 709, 25, 58), (706, 705, 24, 58), (689, 688, 20, 58), (681, 679, 680, 58), (677, 676, 0, 57), (1050, 1049, 45, 66), (1058, 1057, 47, 66), (1070, 1069, 50, 66), (1066, 1065, 49, 66), (1062, 1061, 48, 66), (1054, 1053, 46, 66), (1046, 1044, 1045, 66), (721, 719, 720, 58), (717, 716, 0, 57), (1074, 1072, 1073, 66), (728, 726, 727, 58), (724, 723, 0, 57), (1078, 1076, 1077, 66), (743, 741, 742, 59), (739, 738, 27, 58), (735, 733, 734, 58), (731, 730, 0, 57), (1086, 1085, 51, 66), (1082, 1080, 1081, 66), (451, 450, 11, 59), (371, 370, 0, 74), (463, 462, 0, 59), (459, 458, 12, 59), (447, 445, 446, 59), (443, 441, 442, 59), (762, 760, 761, 59), (758, 757, 29, 58), (754, 753, 28, 58), (770, 768, 769, 64), (778, 776, 777, 64), (782, 781, 31, 64), (789, 788, 32, 64), (774, 772, 773, 64), (766, 765, 30, 58), (805, 804, 36, 58), (386, 385, 8, 58), (379, 378, 7, 58), (368, 366, 367, 65), (364, 363, 6, 58), (810, 809, 37, 58), (801, 800, 35, 58), (797, 796, 34, 58), (793, 792, 33, 58), (750, 748, 749, 58), (746, 745, 0, 57), (1097, 1096, 0, 66), (1094, 1093, 52, 66), (1101, 1100, 53, 66), (1110, 1109, 55, 66), (1115, 1114, 56, 66), (1105, 1104, 54, 66), (1090, 1088, 1089, 66), (819, 817, 818, 58), (815, 814, 0, 57), (1119, 1117, 1118, 66), (826, 824, 825, 58), (822, 821, 0, 57), (1123, 1121, 1122, 66), (833, 831, 832, 58), (829, 828, 0, 57), (1127, 1125, 1126, 66), (840, 838, 839, 58), (836, 835, 0, 57), (1131, 1129, 1130, 66), (357, 355, 356, 58), (1135, 1133, 1134, 66), (375, 373, 374, 58), (1139, 1137, 1138, 66), (393, 391, 392, 58), (1143, 1141, 1142, 66), (397, 395, 396, 58), (1147, 1145, 1146, 66), (405, 404, 9, 58), (401, 399, 400, 58), (966, 964, 965, 66), (427, 426, 10, 58), (431, 429, 430, 59), (419, 417, 418, 58), (1151, 1149, 1150, 66), (469, 467, 468, 58), (1042, 1040, 1041, 66), (0, 0, 0, 0)]
def rf_cps : List (Nat × Nat) := [(0, 485), (1, 560), (2, 585)]
def rf_cis : List (Nat × Nat × Int32 × Nat) := [(10, 265, 1431655765, 552), (10, 266, 858993459, 553), (10, 267, 252645135, 554)]
def rf_cjs : List (Nat × Nat × Int32 × Nat) := [(7, 376, 2, 811), (7, 378, 3, 812), (8, 189, 2, 1106), (8, 194, 3, 1111)]
theorem rf_xcl0 : rf_wok (.classLink "FlyingDeskLaw" 13 "java/lang/IndexOutOfBoundsException") := rf_at 473 (by decide +kernel) rfl
theorem rf_xcl1 : rf_wok (.classLink "FlyingDeskLaw" 15 "java/lang/IllegalArgumentException") := rf_at 474 (by decide +kernel) rfl
theorem rf_xcl2 : rf_wok (.classLink "FlyingDeskLaw" 17 "java/lang/IllegalStateException") := rf_at 475 (by decide +kernel) rfl
theorem rf_castok : ∀ x, x < 3 → rf_wok (.castable (rf_xn x) (rf_xn x)) := by
  intro x hx
  rcases x with _ | _ | _ | x
  · exact rf_at 485 (by decide +kernel) rfl
  · exact rf_at 560 (by decide +kernel) rfl
  · exact rf_at 585 (by decide +kernel) rfl
  · omega
theorem rf_ncastok : ∀ x y, x < 3 → y < 3 → y ≠ x → rf_wok (.not (.castable (rf_xn x) (rf_xn y))) := by
  intro x y hx hy hne
  rcases x with _ | _ | _ | x <;> rcases y with _ | _ | _ | y
  all_goals first | exact absurd rfl hne | omega | skip
  · exact rf_at 0 (by decide +kernel) rfl
  · exact rf_at 1 (by decide +kernel) rfl
  · exact rf_at 2 (by decide +kernel) rfl
  · exact rf_at 3 (by decide +kernel) rfl
  · exact rf_at 4 (by decide +kernel) rfl
  · exact rf_at 5 (by decide +kernel) rfl
set_option maxRecDepth 100000 in
theorem rf_cw0 : rf_cw 0 := rf_cw_code (rf_at 93 rfl rfl) rfl
set_option maxRecDepth 100000 in
theorem rf_cw1 : rf_cw 1 := rf_cw_code (rf_at 126 rfl rfl) rfl
set_option maxRecDepth 100000 in
theorem rf_cw2 : rf_cw 2 := rf_cw_code (rf_at 119 rfl rfl) rfl
set_option maxRecDepth 100000 in
theorem rf_cw3 : rf_cw 3 := rf_cw_code (rf_at 113 rfl rfl) rfl
set_option maxRecDepth 100000 in
theorem rf_cw4 : rf_cw 4 := rf_cw_code (rf_at 196 rfl rfl) rfl
set_option maxRecDepth 100000 in
theorem rf_cw5 : rf_cw 5 := rf_cw_code (rf_at 222 rfl rfl) rfl
set_option maxRecDepth 100000 in
theorem rf_cw6 : rf_cw 6 := rf_cw_code (rf_at 263 rfl rfl) rfl
set_option maxRecDepth 100000 in
theorem rf_cw7 : rf_cw 7 := rf_cw_code (rf_at 79 rfl rfl) rfl
set_option maxRecDepth 100000 in
theorem rf_cw8 : rf_cw 8 := rf_cw_code (rf_at 845 rfl rfl) rfl
set_option maxRecDepth 100000 in
theorem rf_cw9 : rf_cw 9 := rf_cw_code (rf_at 482 rfl rfl) rfl
set_option maxRecDepth 100000 in
theorem rf_cw10 : rf_cw 10 := rf_cw_code (rf_at 360 rfl rfl) rfl
set_option maxRecDepth 100000 in
theorem rf_cw11 : rf_cw 11 := rf_cw_code (rf_at 551 rfl rfl) rfl
set_option maxRecDepth 100000 in
theorem rf_cw12 : rf_cw 12 := rf_cw_code (rf_at 548 rfl rfl) rfl
set_option maxRecDepth 100000 in
theorem rf_cw13 : rf_cw 13 := rf_cw_code (rf_at 557 rfl rfl) rfl
set_option maxRecDepth 100000 in
theorem rf_cw14 : rf_cw 14 := rf_cw_code (rf_at 579 rfl rfl) rfl
set_option maxRecDepth 100000 in
theorem rf_cw15 : rf_cw 15 := rf_cw_code (rf_at 576 rfl rfl) rfl
set_option maxRecDepth 100000 in
theorem rf_cw16 : rf_cw 16 := rf_cw_code (rf_at 582 rfl rfl) rfl
set_option maxRecDepth 100000 in
theorem rf_cw17 : rf_cw 17 := rf_cw_code (rf_at 601 rfl rfl) rfl
set_option maxRecDepth 100000 in
theorem rf_cw18 : rf_cw 18 := rf_cw_code (rf_at 409 rfl rfl) rfl
set_option maxRecDepth 100000 in
theorem rf_cw19 : rf_cw 19 := rf_cw_code (rf_at 389 rfl rfl) rfl
set_option maxRecDepth 100000 in
theorem rf_cw20 : rf_cw 20 := rf_cw_code (rf_at 382 rfl rfl) rfl
set_option maxRecDepth 100000 in
theorem rf_cw21 : rf_cw 21 := rf_cw_code (rf_at 413 rfl rfl) rfl
set_option maxRecDepth 100000 in
theorem rf_cw22 : rf_cw 22 := rf_cw_code (rf_at 605 rfl rfl) rfl
set_option maxRecDepth 100000 in
theorem rf_cw23 : rf_cw 23 := rf_cw_code (rf_at 435 rfl rfl) rfl
set_option maxRecDepth 100000 in
theorem rf_cw24 : rf_cw 24 := rf_cw_code (rf_at 610 rfl rfl) rfl
set_option maxRecDepth 100000 in
theorem rf_cw25 : rf_cw 25 := rf_cw_code (rf_at 479 rfl rfl) rfl
set_option maxRecDepth 100000 in
theorem rf_cw26 : rf_cw 26 := rf_cw_with (rf_at 472 rfl rfl)
set_option maxRecDepth 100000 in
theorem rf_cw27 : rf_cw 27 := rf_cw_code (rf_at 969 rfl rfl) rfl
set_option maxRecDepth 100000 in
theorem rf_cw28 : rf_cw 28 := rf_cw_code (rf_at 987 rfl rfl) rfl
set_option maxRecDepth 100000 in
theorem rf_cw29 : rf_cw 29 := rf_cw_code (rf_at 980 rfl rfl) rfl
set_option maxRecDepth 100000 in
theorem rf_cw30 : rf_cw 30 := rf_cw_code (rf_at 977 rfl rfl) rfl
set_option maxRecDepth 100000 in
theorem rf_cw31 : rf_cw 31 := rf_cw_code (rf_at 973 rfl rfl) rfl
set_option maxRecDepth 100000 in
theorem rf_cw32 : rf_cw 32 := rf_cw_code (rf_at 991 rfl rfl) rfl
set_option maxRecDepth 100000 in
theorem rf_cw33 : rf_cw 33 := rf_cw_code (rf_at 984 rfl rfl) rfl
set_option maxRecDepth 100000 in
theorem rf_cw34 : rf_cw 34 := rf_cw_code (rf_at 962 rfl rfl) rfl
set_option maxRecDepth 100000 in
theorem rf_cw35 : rf_cw 35 := rf_cw_code (rf_at 337 rfl rfl) rfl
set_option maxRecDepth 100000 in
theorem rf_cw36 : rf_cw 36 := rf_cw_code (rf_at 423 rfl rfl) rfl
set_option maxRecDepth 100000 in
theorem rf_cw37 : rf_cw 37 := rf_cw_code (rf_at 621 rfl rfl) rfl
set_option maxRecDepth 100000 in
theorem rf_cw38 : rf_cw 38 := rf_cw_code (rf_at 617 rfl rfl) rfl
set_option maxRecDepth 100000 in
theorem rf_cw39 : rf_cw 39 := rf_cw_with (rf_at 613 rfl rfl)
set_option maxRecDepth 100000 in
theorem rf_cw40 : rf_cw 40 := rf_cw_code (rf_at 1003 rfl rfl) rfl
set_option maxRecDepth 100000 in
theorem rf_cw41 : rf_cw 41 := rf_cw_code (rf_at 1007 rfl rfl) rfl
set_option maxRecDepth 100000 in
theorem rf_cw42 : rf_cw 42 := rf_cw_code (rf_at 999 rfl rfl) rfl
set_option maxRecDepth 100000 in
theorem rf_cw43 : rf_cw 43 := rf_cw_code (rf_at 995 rfl rfl) rfl
set_option maxRecDepth 100000 in
theorem rf_cw44 : rf_cw 44 := rf_cw_code (rf_at 632 rfl rfl) rfl
set_option maxRecDepth 100000 in
theorem rf_cw45 : rf_cw 45 := rf_cw_code (rf_at 628 rfl rfl) rfl
set_option maxRecDepth 100000 in
theorem rf_cw46 : rf_cw 46 := rf_cw_with (rf_at 624 rfl rfl)
set_option maxRecDepth 100000 in
theorem rf_cw47 : rf_cw 47 := rf_cw_code (rf_at 1014 rfl rfl) rfl
set_option maxRecDepth 100000 in
theorem rf_cw48 : rf_cw 48 := rf_cw_code (rf_at 1011 rfl rfl) rfl
set_option maxRecDepth 100000 in
theorem rf_cw49 : rf_cw 49 := rf_cw_code (rf_at 349 rfl rfl) rfl
set_option maxRecDepth 100000 in
theorem rf_cw50 : rf_cw 50 := rf_cw_code (rf_at 345 rfl rfl) rfl
set_option maxRecDepth 100000 in
theorem rf_cw51 : rf_cw 51 := rf_cw_code (rf_at 647 rfl rfl) rfl
set_option maxRecDepth 100000 in
theorem rf_cw52 : rf_cw 52 := rf_cw_code (rf_at 643 rfl rfl) rfl
set_option maxRecDepth 100000 in
theorem rf_cw53 : rf_cw 53 := rf_cw_code (rf_at 639 rfl rfl) rfl
set_option maxRecDepth 100000 in
theorem rf_cw54 : rf_cw 54 := rf_cw_with (rf_at 635 rfl rfl)
set_option maxRecDepth 100000 in
theorem rf_cw55 : rf_cw 55 := rf_cw_code (rf_at 1026 rfl rfl) rfl
set_option maxRecDepth 100000 in
theorem rf_cw56 : rf_cw 56 := rf_cw_code (rf_at 1022 rfl rfl) rfl
set_option maxRecDepth 100000 in
theorem rf_cw57 : rf_cw 57 := rf_cw_code (rf_at 660 rfl rfl) rfl
set_option maxRecDepth 100000 in
theorem rf_cw58 : rf_cw 58 := rf_cw_code (rf_at 656 rfl rfl) rfl
set_option maxRecDepth 100000 in
theorem rf_cw59 : rf_cw 59 := rf_cw_with (rf_at 652 rfl rfl)
set_option maxRecDepth 100000 in
theorem rf_cw60 : rf_cw 60 := rf_cw_code (rf_at 1030 rfl rfl) rfl
set_option maxRecDepth 100000 in
theorem rf_cw61 : rf_cw 61 := rf_cw_code (rf_at 667 rfl rfl) rfl
set_option maxRecDepth 100000 in
theorem rf_cw62 : rf_cw 62 := rf_cw_with (rf_at 663 rfl rfl)
set_option maxRecDepth 100000 in
theorem rf_cw63 : rf_cw 63 := rf_cw_code (rf_at 1034 rfl rfl) rfl
set_option maxRecDepth 100000 in
theorem rf_cw64 : rf_cw 64 := rf_cw_code (rf_at 674 rfl rfl) rfl
set_option maxRecDepth 100000 in
theorem rf_cw65 : rf_cw 65 := rf_cw_with (rf_at 670 rfl rfl)
set_option maxRecDepth 100000 in
theorem rf_cw66 : rf_cw 66 := rf_cw_code (rf_at 1038 rfl rfl) rfl
set_option maxRecDepth 100000 in
theorem rf_cw67 : rf_cw 67 := rf_cw_code (rf_at 333 rfl rfl) rfl
set_option maxRecDepth 100000 in
theorem rf_cw68 : rf_cw 68 := rf_cw_code (rf_at 341 rfl rfl) rfl
set_option maxRecDepth 100000 in
theorem rf_cw69 : rf_cw 69 := rf_cw_code (rf_at 353 rfl rfl) rfl
set_option maxRecDepth 100000 in
theorem rf_cw70 : rf_cw 70 := rf_cw_code (rf_at 329 rfl rfl) rfl
set_option maxRecDepth 100000 in
theorem rf_cw71 : rf_cw 71 := rf_cw_code (rf_at 1018 rfl rfl) rfl
set_option maxRecDepth 100000 in
theorem rf_cw72 : rf_cw 72 := rf_cw_code (rf_at 685 rfl rfl) rfl
set_option maxRecDepth 100000 in
theorem rf_cw73 : rf_cw 73 := rf_cw_code (rf_at 439 rfl rfl) rfl
set_option maxRecDepth 100000 in
theorem rf_cw74 : rf_cw 74 := rf_cw_code (rf_at 455 rfl rfl) rfl
set_option maxRecDepth 100000 in
theorem rf_cw75 : rf_cw 75 := rf_cw_code (rf_at 701 rfl rfl) rfl
set_option maxRecDepth 100000 in
theorem rf_cw76 : rf_cw 76 := rf_cw_code (rf_at 697 rfl rfl) rfl
set_option maxRecDepth 100000 in
theorem rf_cw77 : rf_cw 77 := rf_cw_code (rf_at 693 rfl rfl) rfl
set_option maxRecDepth 100000 in
theorem rf_cw78 : rf_cw 78 := rf_cw_code (rf_at 714 rfl rfl) rfl
set_option maxRecDepth 100000 in
theorem rf_cw79 : rf_cw 79 := rf_cw_code (rf_at 710 rfl rfl) rfl
set_option maxRecDepth 100000 in
theorem rf_cw80 : rf_cw 80 := rf_cw_code (rf_at 706 rfl rfl) rfl
set_option maxRecDepth 100000 in
theorem rf_cw81 : rf_cw 81 := rf_cw_code (rf_at 689 rfl rfl) rfl
set_option maxRecDepth 100000 in
theorem rf_cw82 : rf_cw 82 := rf_cw_code (rf_at 681 rfl rfl) rfl
set_option maxRecDepth 100000 in
theorem rf_cw83 : rf_cw 83 := rf_cw_with (rf_at 677 rfl rfl)
set_option maxRecDepth 100000 in
theorem rf_cw84 : rf_cw 84 := rf_cw_code (rf_at 1050 rfl rfl) rfl
set_option maxRecDepth 100000 in
theorem rf_cw85 : rf_cw 85 := rf_cw_code (rf_at 1058 rfl rfl) rfl
set_option maxRecDepth 100000 in
theorem rf_cw86 : rf_cw 86 := rf_cw_code (rf_at 1070 rfl rfl) rfl
set_option maxRecDepth 100000 in
theorem rf_cw87 : rf_cw 87 := rf_cw_code (rf_at 1066 rfl rfl) rfl
set_option maxRecDepth 100000 in
theorem rf_cw88 : rf_cw 88 := rf_cw_code (rf_at 1062 rfl rfl) rfl
set_option maxRecDepth 100000 in
theorem rf_cw89 : rf_cw 89 := rf_cw_code (rf_at 1054 rfl rfl) rfl
set_option maxRecDepth 100000 in
theorem rf_cw90 : rf_cw 90 := rf_cw_code (rf_at 1046 rfl rfl) rfl
set_option maxRecDepth 100000 in
theorem rf_cw91 : rf_cw 91 := rf_cw_code (rf_at 721 rfl rfl) rfl
set_option maxRecDepth 100000 in
theorem rf_cw92 : rf_cw 92 := rf_cw_with (rf_at 717 rfl rfl)
set_option maxRecDepth 100000 in
theorem rf_cw93 : rf_cw 93 := rf_cw_code (rf_at 1074 rfl rfl) rfl
set_option maxRecDepth 100000 in
theorem rf_cw94 : rf_cw 94 := rf_cw_code (rf_at 728 rfl rfl) rfl
set_option maxRecDepth 100000 in
theorem rf_cw95 : rf_cw 95 := rf_cw_with (rf_at 724 rfl rfl)
set_option maxRecDepth 100000 in
theorem rf_cw96 : rf_cw 96 := rf_cw_code (rf_at 1078 rfl rfl) rfl
set_option maxRecDepth 100000 in
theorem rf_cw97 : rf_cw 97 := rf_cw_code (rf_at 743 rfl rfl) rfl
set_option maxRecDepth 100000 in
theorem rf_cw98 : rf_cw 98 := rf_cw_code (rf_at 739 rfl rfl) rfl
set_option maxRecDepth 100000 in
theorem rf_cw99 : rf_cw 99 := rf_cw_code (rf_at 735 rfl rfl) rfl
set_option maxRecDepth 100000 in
theorem rf_cw100 : rf_cw 100 := rf_cw_with (rf_at 731 rfl rfl)
set_option maxRecDepth 100000 in
theorem rf_cw101 : rf_cw 101 := rf_cw_code (rf_at 1086 rfl rfl) rfl
set_option maxRecDepth 100000 in
theorem rf_cw102 : rf_cw 102 := rf_cw_code (rf_at 1082 rfl rfl) rfl
set_option maxRecDepth 100000 in
theorem rf_cw103 : rf_cw 103 := rf_cw_code (rf_at 451 rfl rfl) rfl
set_option maxRecDepth 100000 in
theorem rf_cw104 : rf_cw 104 := rf_cw_code (rf_at 371 rfl rfl) rfl
set_option maxRecDepth 100000 in
theorem rf_cw105 : rf_cw 105 := rf_cw_code (rf_at 463 rfl rfl) rfl
set_option maxRecDepth 100000 in
theorem rf_cw106 : rf_cw 106 := rf_cw_code (rf_at 459 rfl rfl) rfl
set_option maxRecDepth 100000 in
theorem rf_cw107 : rf_cw 107 := rf_cw_code (rf_at 447 rfl rfl) rfl
set_option maxRecDepth 100000 in
theorem rf_cw108 : rf_cw 108 := rf_cw_code (rf_at 443 rfl rfl) rfl
set_option maxRecDepth 100000 in
theorem rf_cw109 : rf_cw 109 := rf_cw_code (rf_at 762 rfl rfl) rfl
set_option maxRecDepth 100000 in
theorem rf_cw110 : rf_cw 110 := rf_cw_code (rf_at 758 rfl rfl) rfl
set_option maxRecDepth 100000 in
theorem rf_cw111 : rf_cw 111 := rf_cw_code (rf_at 754 rfl rfl) rfl
set_option maxRecDepth 100000 in
theorem rf_cw112 : rf_cw 112 := rf_cw_code (rf_at 770 rfl rfl) rfl
set_option maxRecDepth 100000 in
theorem rf_cw113 : rf_cw 113 := rf_cw_code (rf_at 778 rfl rfl) rfl
set_option maxRecDepth 100000 in
theorem rf_cw114 : rf_cw 114 := rf_cw_code (rf_at 782 rfl rfl) rfl
set_option maxRecDepth 100000 in
theorem rf_cw115 : rf_cw 115 := rf_cw_code (rf_at 789 rfl rfl) rfl
set_option maxRecDepth 100000 in
theorem rf_cw116 : rf_cw 116 := rf_cw_code (rf_at 774 rfl rfl) rfl
set_option maxRecDepth 100000 in
theorem rf_cw117 : rf_cw 117 := rf_cw_code (rf_at 766 rfl rfl) rfl
set_option maxRecDepth 100000 in
theorem rf_cw118 : rf_cw 118 := rf_cw_code (rf_at 805 rfl rfl) rfl
set_option maxRecDepth 100000 in
theorem rf_cw119 : rf_cw 119 := rf_cw_code (rf_at 386 rfl rfl) rfl
set_option maxRecDepth 100000 in
theorem rf_cw120 : rf_cw 120 := rf_cw_code (rf_at 379 rfl rfl) rfl
set_option maxRecDepth 100000 in
theorem rf_cw121 : rf_cw 121 := rf_cw_code (rf_at 368 rfl rfl) rfl
set_option maxRecDepth 100000 in
theorem rf_cw122 : rf_cw 122 := rf_cw_code (rf_at 364 rfl rfl) rfl
set_option maxRecDepth 100000 in
theorem rf_cw123 : rf_cw 123 := rf_cw_code (rf_at 810 rfl rfl) rfl
set_option maxRecDepth 100000 in
theorem rf_cw124 : rf_cw 124 := rf_cw_code (rf_at 801 rfl rfl) rfl
set_option maxRecDepth 100000 in
theorem rf_cw125 : rf_cw 125 := rf_cw_code (rf_at 797 rfl rfl) rfl
set_option maxRecDepth 100000 in
theorem rf_cw126 : rf_cw 126 := rf_cw_code (rf_at 793 rfl rfl) rfl
set_option maxRecDepth 100000 in
theorem rf_cw127 : rf_cw 127 := rf_cw_code (rf_at 750 rfl rfl) rfl
set_option maxRecDepth 100000 in
theorem rf_cw128 : rf_cw 128 := rf_cw_with (rf_at 746 rfl rfl)
set_option maxRecDepth 100000 in
theorem rf_cw129 : rf_cw 129 := rf_cw_code (rf_at 1097 rfl rfl) rfl
set_option maxRecDepth 100000 in
theorem rf_cw130 : rf_cw 130 := rf_cw_code (rf_at 1094 rfl rfl) rfl
set_option maxRecDepth 100000 in
theorem rf_cw131 : rf_cw 131 := rf_cw_code (rf_at 1101 rfl rfl) rfl
set_option maxRecDepth 100000 in
theorem rf_cw132 : rf_cw 132 := rf_cw_code (rf_at 1110 rfl rfl) rfl
set_option maxRecDepth 100000 in
theorem rf_cw133 : rf_cw 133 := rf_cw_code (rf_at 1115 rfl rfl) rfl
set_option maxRecDepth 100000 in
theorem rf_cw134 : rf_cw 134 := rf_cw_code (rf_at 1105 rfl rfl) rfl
set_option maxRecDepth 100000 in
theorem rf_cw135 : rf_cw 135 := rf_cw_code (rf_at 1090 rfl rfl) rfl
set_option maxRecDepth 100000 in
theorem rf_cw136 : rf_cw 136 := rf_cw_code (rf_at 819 rfl rfl) rfl
set_option maxRecDepth 100000 in
theorem rf_cw137 : rf_cw 137 := rf_cw_with (rf_at 815 rfl rfl)
set_option maxRecDepth 100000 in
theorem rf_cw138 : rf_cw 138 := rf_cw_code (rf_at 1119 rfl rfl) rfl
set_option maxRecDepth 100000 in
theorem rf_cw139 : rf_cw 139 := rf_cw_code (rf_at 826 rfl rfl) rfl
set_option maxRecDepth 100000 in
theorem rf_cw140 : rf_cw 140 := rf_cw_with (rf_at 822 rfl rfl)
set_option maxRecDepth 100000 in
theorem rf_cw141 : rf_cw 141 := rf_cw_code (rf_at 1123 rfl rfl) rfl
set_option maxRecDepth 100000 in
theorem rf_cw142 : rf_cw 142 := rf_cw_code (rf_at 833 rfl rfl) rfl
set_option maxRecDepth 100000 in
theorem rf_cw143 : rf_cw 143 := rf_cw_with (rf_at 829 rfl rfl)
set_option maxRecDepth 100000 in
theorem rf_cw144 : rf_cw 144 := rf_cw_code (rf_at 1127 rfl rfl) rfl
set_option maxRecDepth 100000 in
theorem rf_cw145 : rf_cw 145 := rf_cw_code (rf_at 840 rfl rfl) rfl
set_option maxRecDepth 100000 in
theorem rf_cw146 : rf_cw 146 := rf_cw_with (rf_at 836 rfl rfl)
set_option maxRecDepth 100000 in
theorem rf_cw147 : rf_cw 147 := rf_cw_code (rf_at 1131 rfl rfl) rfl
set_option maxRecDepth 100000 in
theorem rf_cw148 : rf_cw 148 := rf_cw_code (rf_at 357 rfl rfl) rfl
set_option maxRecDepth 100000 in
theorem rf_cw149 : rf_cw 149 := rf_cw_code (rf_at 1135 rfl rfl) rfl
set_option maxRecDepth 100000 in
theorem rf_cw150 : rf_cw 150 := rf_cw_code (rf_at 375 rfl rfl) rfl
set_option maxRecDepth 100000 in
theorem rf_cw151 : rf_cw 151 := rf_cw_code (rf_at 1139 rfl rfl) rfl
set_option maxRecDepth 100000 in
theorem rf_cw152 : rf_cw 152 := rf_cw_code (rf_at 393 rfl rfl) rfl
set_option maxRecDepth 100000 in
theorem rf_cw153 : rf_cw 153 := rf_cw_code (rf_at 1143 rfl rfl) rfl
set_option maxRecDepth 100000 in
theorem rf_cw154 : rf_cw 154 := rf_cw_code (rf_at 397 rfl rfl) rfl
set_option maxRecDepth 100000 in
theorem rf_cw155 : rf_cw 155 := rf_cw_code (rf_at 1147 rfl rfl) rfl
set_option maxRecDepth 100000 in
theorem rf_cw156 : rf_cw 156 := rf_cw_code (rf_at 405 rfl rfl) rfl
set_option maxRecDepth 100000 in
theorem rf_cw157 : rf_cw 157 := rf_cw_code (rf_at 401 rfl rfl) rfl
set_option maxRecDepth 100000 in
theorem rf_cw158 : rf_cw 158 := rf_cw_code (rf_at 966 rfl rfl) rfl
set_option maxRecDepth 100000 in
theorem rf_cw159 : rf_cw 159 := rf_cw_code (rf_at 427 rfl rfl) rfl
set_option maxRecDepth 100000 in
theorem rf_cw160 : rf_cw 160 := rf_cw_code (rf_at 431 rfl rfl) rfl
set_option maxRecDepth 100000 in
theorem rf_cw161 : rf_cw 161 := rf_cw_code (rf_at 419 rfl rfl) rfl
set_option maxRecDepth 100000 in
theorem rf_cw162 : rf_cw 162 := rf_cw_code (rf_at 1151 rfl rfl) rfl
set_option maxRecDepth 100000 in
theorem rf_cw163 : rf_cw 163 := rf_cw_code (rf_at 469 rfl rfl) rfl
set_option maxRecDepth 100000 in
theorem rf_cw164 : rf_cw 164 := rf_cw_code (rf_at 1042 rfl rfl) rfl
theorem rf_cwall : ∀ a, a < 165 → rf_cw a := by
  intro a ha
  by_cases h82 : a < 82
  · by_cases h41 : a < 41
    · by_cases h20 : a < 20
      · by_cases h10 : a < 10
        · by_cases h5 : a < 5
          · by_cases h2 : a < 2
            · by_cases h1 : a < 1
              · exact (show a = 0 by omega) ▸ rf_cw0
              · exact (show a = 1 by omega) ▸ rf_cw1
            · by_cases h3 : a < 3
              · exact (show a = 2 by omega) ▸ rf_cw2
              · by_cases h4 : a < 4
                · exact (show a = 3 by omega) ▸ rf_cw3
                · exact (show a = 4 by omega) ▸ rf_cw4
          · by_cases h7 : a < 7
            · by_cases h6 : a < 6
              · exact (show a = 5 by omega) ▸ rf_cw5
              · exact (show a = 6 by omega) ▸ rf_cw6
            · by_cases h8 : a < 8
              · exact (show a = 7 by omega) ▸ rf_cw7
              · by_cases h9 : a < 9
                · exact (show a = 8 by omega) ▸ rf_cw8
                · exact (show a = 9 by omega) ▸ rf_cw9
        · by_cases h15 : a < 15
          · by_cases h12 : a < 12
            · by_cases h11 : a < 11
              · exact (show a = 10 by omega) ▸ rf_cw10
              · exact (show a = 11 by omega) ▸ rf_cw11
            · by_cases h13 : a < 13
              · exact (show a = 12 by omega) ▸ rf_cw12
              · by_cases h14 : a < 14
                · exact (show a = 13 by omega) ▸ rf_cw13
                · exact (show a = 14 by omega) ▸ rf_cw14
          · by_cases h17 : a < 17
            · by_cases h16 : a < 16
              · exact (show a = 15 by omega) ▸ rf_cw15
              · exact (show a = 16 by omega) ▸ rf_cw16
            · by_cases h18 : a < 18
              · exact (show a = 17 by omega) ▸ rf_cw17
              · by_cases h19 : a < 19
                · exact (show a = 18 by omega) ▸ rf_cw18
                · exact (show a = 19 by omega) ▸ rf_cw19
      · by_cases h30 : a < 30
        · by_cases h25 : a < 25
          · by_cases h22 : a < 22
            · by_cases h21 : a < 21
              · exact (show a = 20 by omega) ▸ rf_cw20
              · exact (show a = 21 by omega) ▸ rf_cw21
            · by_cases h23 : a < 23
              · exact (show a = 22 by omega) ▸ rf_cw22
              · by_cases h24 : a < 24
                · exact (show a = 23 by omega) ▸ rf_cw23
                · exact (show a = 24 by omega) ▸ rf_cw24
          · by_cases h27 : a < 27
            · by_cases h26 : a < 26
              · exact (show a = 25 by omega) ▸ rf_cw25
              · exact (show a = 26 by omega) ▸ rf_cw26
            · by_cases h28 : a < 28
              · exact (show a = 27 by omega) ▸ rf_cw27
              · by_cases h29 : a < 29
                · exact (show a = 28 by omega) ▸ rf_cw28
                · exact (show a = 29 by omega) ▸ rf_cw29
        · by_cases h35 : a < 35
          · by_cases h32 : a < 32
            · by_cases h31 : a < 31
              · exact (show a = 30 by omega) ▸ rf_cw30
              · exact (show a = 31 by omega) ▸ rf_cw31
            · by_cases h33 : a < 33
              · exact (show a = 32 by omega) ▸ rf_cw32
              · by_cases h34 : a < 34
                · exact (show a = 33 by omega) ▸ rf_cw33
                · exact (show a = 34 by omega) ▸ rf_cw34
          · by_cases h38 : a < 38
            · by_cases h36 : a < 36
              · exact (show a = 35 by omega) ▸ rf_cw35
              · by_cases h37 : a < 37
                · exact (show a = 36 by omega) ▸ rf_cw36
                · exact (show a = 37 by omega) ▸ rf_cw37
            · by_cases h39 : a < 39
              · exact (show a = 38 by omega) ▸ rf_cw38
              · by_cases h40 : a < 40
                · exact (show a = 39 by omega) ▸ rf_cw39
                · exact (show a = 40 by omega) ▸ rf_cw40
    · by_cases h61 : a < 61
      · by_cases h51 : a < 51
        · by_cases h46 : a < 46
          · by_cases h43 : a < 43
            · by_cases h42 : a < 42
              · exact (show a = 41 by omega) ▸ rf_cw41
              · exact (show a = 42 by omega) ▸ rf_cw42
            · by_cases h44 : a < 44
              · exact (show a = 43 by omega) ▸ rf_cw43
              · by_cases h45 : a < 45
                · exact (show a = 44 by omega) ▸ rf_cw44
                · exact (show a = 45 by omega) ▸ rf_cw45
          · by_cases h48 : a < 48
            · by_cases h47 : a < 47
              · exact (show a = 46 by omega) ▸ rf_cw46
              · exact (show a = 47 by omega) ▸ rf_cw47
            · by_cases h49 : a < 49
              · exact (show a = 48 by omega) ▸ rf_cw48
              · by_cases h50 : a < 50
                · exact (show a = 49 by omega) ▸ rf_cw49
                · exact (show a = 50 by omega) ▸ rf_cw50
        · by_cases h56 : a < 56
          · by_cases h53 : a < 53
            · by_cases h52 : a < 52
              · exact (show a = 51 by omega) ▸ rf_cw51
              · exact (show a = 52 by omega) ▸ rf_cw52
            · by_cases h54 : a < 54
              · exact (show a = 53 by omega) ▸ rf_cw53
              · by_cases h55 : a < 55
                · exact (show a = 54 by omega) ▸ rf_cw54
                · exact (show a = 55 by omega) ▸ rf_cw55
          · by_cases h58 : a < 58
            · by_cases h57 : a < 57
              · exact (show a = 56 by omega) ▸ rf_cw56
              · exact (show a = 57 by omega) ▸ rf_cw57
            · by_cases h59 : a < 59
              · exact (show a = 58 by omega) ▸ rf_cw58
              · by_cases h60 : a < 60
                · exact (show a = 59 by omega) ▸ rf_cw59
                · exact (show a = 60 by omega) ▸ rf_cw60
      · by_cases h71 : a < 71
        · by_cases h66 : a < 66
          · by_cases h63 : a < 63
            · by_cases h62 : a < 62
              · exact (show a = 61 by omega) ▸ rf_cw61
              · exact (show a = 62 by omega) ▸ rf_cw62
            · by_cases h64 : a < 64
              · exact (show a = 63 by omega) ▸ rf_cw63
              · by_cases h65 : a < 65
                · exact (show a = 64 by omega) ▸ rf_cw64
                · exact (show a = 65 by omega) ▸ rf_cw65
          · by_cases h68 : a < 68
            · by_cases h67 : a < 67
              · exact (show a = 66 by omega) ▸ rf_cw66
              · exact (show a = 67 by omega) ▸ rf_cw67
            · by_cases h69 : a < 69
              · exact (show a = 68 by omega) ▸ rf_cw68
              · by_cases h70 : a < 70
                · exact (show a = 69 by omega) ▸ rf_cw69
                · exact (show a = 70 by omega) ▸ rf_cw70
        · by_cases h76 : a < 76
          · by_cases h73 : a < 73
            · by_cases h72 : a < 72
              · exact (show a = 71 by omega) ▸ rf_cw71
              · exact (show a = 72 by omega) ▸ rf_cw72
            · by_cases h74 : a < 74
              · exact (show a = 73 by omega) ▸ rf_cw73
              · by_cases h75 : a < 75
                · exact (show a = 74 by omega) ▸ rf_cw74
                · exact (show a = 75 by omega) ▸ rf_cw75
          · by_cases h79 : a < 79
            · by_cases h77 : a < 77
              · exact (show a = 76 by omega) ▸ rf_cw76
              · by_cases h78 : a < 78
                · exact (show a = 77 by omega) ▸ rf_cw77
                · exact (show a = 78 by omega) ▸ rf_cw78
            · by_cases h80 : a < 80
              · exact (show a = 79 by omega) ▸ rf_cw79
              · by_cases h81 : a < 81
                · exact (show a = 80 by omega) ▸ rf_cw80
                · exact (show a = 81 by omega) ▸ rf_cw81
  · by_cases h123 : a < 123
    · by_cases h102 : a < 102
      · by_cases h92 : a < 92
        · by_cases h87 : a < 87
          · by_cases h84 : a < 84
            · by_cases h83 : a < 83
              · exact (show a = 82 by omega) ▸ rf_cw82
              · exact (show a = 83 by omega) ▸ rf_cw83
            · by_cases h85 : a < 85
              · exact (show a = 84 by omega) ▸ rf_cw84
              · by_cases h86 : a < 86
                · exact (show a = 85 by omega) ▸ rf_cw85
                · exact (show a = 86 by omega) ▸ rf_cw86
          · by_cases h89 : a < 89
            · by_cases h88 : a < 88
              · exact (show a = 87 by omega) ▸ rf_cw87
              · exact (show a = 88 by omega) ▸ rf_cw88
            · by_cases h90 : a < 90
              · exact (show a = 89 by omega) ▸ rf_cw89
              · by_cases h91 : a < 91
                · exact (show a = 90 by omega) ▸ rf_cw90
                · exact (show a = 91 by omega) ▸ rf_cw91
        · by_cases h97 : a < 97
          · by_cases h94 : a < 94
            · by_cases h93 : a < 93
              · exact (show a = 92 by omega) ▸ rf_cw92
              · exact (show a = 93 by omega) ▸ rf_cw93
            · by_cases h95 : a < 95
              · exact (show a = 94 by omega) ▸ rf_cw94
              · by_cases h96 : a < 96
                · exact (show a = 95 by omega) ▸ rf_cw95
                · exact (show a = 96 by omega) ▸ rf_cw96
          · by_cases h99 : a < 99
            · by_cases h98 : a < 98
              · exact (show a = 97 by omega) ▸ rf_cw97
              · exact (show a = 98 by omega) ▸ rf_cw98
            · by_cases h100 : a < 100
              · exact (show a = 99 by omega) ▸ rf_cw99
              · by_cases h101 : a < 101
                · exact (show a = 100 by omega) ▸ rf_cw100
                · exact (show a = 101 by omega) ▸ rf_cw101
      · by_cases h112 : a < 112
        · by_cases h107 : a < 107
          · by_cases h104 : a < 104
            · by_cases h103 : a < 103
              · exact (show a = 102 by omega) ▸ rf_cw102
              · exact (show a = 103 by omega) ▸ rf_cw103
            · by_cases h105 : a < 105
              · exact (show a = 104 by omega) ▸ rf_cw104
              · by_cases h106 : a < 106
                · exact (show a = 105 by omega) ▸ rf_cw105
                · exact (show a = 106 by omega) ▸ rf_cw106
          · by_cases h109 : a < 109
            · by_cases h108 : a < 108
              · exact (show a = 107 by omega) ▸ rf_cw107
              · exact (show a = 108 by omega) ▸ rf_cw108
            · by_cases h110 : a < 110
              · exact (show a = 109 by omega) ▸ rf_cw109
              · by_cases h111 : a < 111
                · exact (show a = 110 by omega) ▸ rf_cw110
                · exact (show a = 111 by omega) ▸ rf_cw111
        · by_cases h117 : a < 117
          · by_cases h114 : a < 114
            · by_cases h113 : a < 113
              · exact (show a = 112 by omega) ▸ rf_cw112
              · exact (show a = 113 by omega) ▸ rf_cw113
            · by_cases h115 : a < 115
              · exact (show a = 114 by omega) ▸ rf_cw114
              · by_cases h116 : a < 116
                · exact (show a = 115 by omega) ▸ rf_cw115
                · exact (show a = 116 by omega) ▸ rf_cw116
          · by_cases h120 : a < 120
            · by_cases h118 : a < 118
              · exact (show a = 117 by omega) ▸ rf_cw117
              · by_cases h119 : a < 119
                · exact (show a = 118 by omega) ▸ rf_cw118
                · exact (show a = 119 by omega) ▸ rf_cw119
            · by_cases h121 : a < 121
              · exact (show a = 120 by omega) ▸ rf_cw120
              · by_cases h122 : a < 122
                · exact (show a = 121 by omega) ▸ rf_cw121
                · exact (show a = 122 by omega) ▸ rf_cw122
    · by_cases h144 : a < 144
      · by_cases h133 : a < 133
        · by_cases h128 : a < 128
          · by_cases h125 : a < 125
            · by_cases h124 : a < 124
              · exact (show a = 123 by omega) ▸ rf_cw123
              · exact (show a = 124 by omega) ▸ rf_cw124
            · by_cases h126 : a < 126
              · exact (show a = 125 by omega) ▸ rf_cw125
              · by_cases h127 : a < 127
                · exact (show a = 126 by omega) ▸ rf_cw126
                · exact (show a = 127 by omega) ▸ rf_cw127
          · by_cases h130 : a < 130
            · by_cases h129 : a < 129
              · exact (show a = 128 by omega) ▸ rf_cw128
              · exact (show a = 129 by omega) ▸ rf_cw129
            · by_cases h131 : a < 131
              · exact (show a = 130 by omega) ▸ rf_cw130
              · by_cases h132 : a < 132
                · exact (show a = 131 by omega) ▸ rf_cw131
                · exact (show a = 132 by omega) ▸ rf_cw132
        · by_cases h138 : a < 138
          · by_cases h135 : a < 135
            · by_cases h134 : a < 134
              · exact (show a = 133 by omega) ▸ rf_cw133
              · exact (show a = 134 by omega) ▸ rf_cw134
            · by_cases h136 : a < 136
              · exact (show a = 135 by omega) ▸ rf_cw135
              · by_cases h137 : a < 137
                · exact (show a = 136 by omega) ▸ rf_cw136
                · exact (show a = 137 by omega) ▸ rf_cw137
          · by_cases h141 : a < 141
            · by_cases h139 : a < 139
              · exact (show a = 138 by omega) ▸ rf_cw138
              · by_cases h140 : a < 140
                · exact (show a = 139 by omega) ▸ rf_cw139
                · exact (show a = 140 by omega) ▸ rf_cw140
            · by_cases h142 : a < 142
              · exact (show a = 141 by omega) ▸ rf_cw141
              · by_cases h143 : a < 143
                · exact (show a = 142 by omega) ▸ rf_cw142
                · exact (show a = 143 by omega) ▸ rf_cw143
      · by_cases h154 : a < 154
        · by_cases h149 : a < 149
          · by_cases h146 : a < 146
            · by_cases h145 : a < 145
              · exact (show a = 144 by omega) ▸ rf_cw144
              · exact (show a = 145 by omega) ▸ rf_cw145
            · by_cases h147 : a < 147
              · exact (show a = 146 by omega) ▸ rf_cw146
              · by_cases h148 : a < 148
                · exact (show a = 147 by omega) ▸ rf_cw147
                · exact (show a = 148 by omega) ▸ rf_cw148
          · by_cases h151 : a < 151
            · by_cases h150 : a < 150
              · exact (show a = 149 by omega) ▸ rf_cw149
              · exact (show a = 150 by omega) ▸ rf_cw150
            · by_cases h152 : a < 152
              · exact (show a = 151 by omega) ▸ rf_cw151
              · by_cases h153 : a < 153
                · exact (show a = 152 by omega) ▸ rf_cw152
                · exact (show a = 153 by omega) ▸ rf_cw153
        · by_cases h159 : a < 159
          · by_cases h156 : a < 156
            · by_cases h155 : a < 155
              · exact (show a = 154 by omega) ▸ rf_cw154
              · exact (show a = 155 by omega) ▸ rf_cw155
            · by_cases h157 : a < 157
              · exact (show a = 156 by omega) ▸ rf_cw156
              · by_cases h158 : a < 158
                · exact (show a = 157 by omega) ▸ rf_cw157
                · exact (show a = 158 by omega) ▸ rf_cw158
          · by_cases h162 : a < 162
            · by_cases h160 : a < 160
              · exact (show a = 159 by omega) ▸ rf_cw159
              · by_cases h161 : a < 161
                · exact (show a = 160 by omega) ▸ rf_cw160
                · exact (show a = 161 by omega) ▸ rf_cw161
            · by_cases h163 : a < 163
              · exact (show a = 162 by omega) ▸ rf_cw162
              · by_cases h164 : a < 164
                · exact (show a = 163 by omega) ▸ rf_cw163
                · exact (show a = 164 by omega) ▸ rf_cw164
