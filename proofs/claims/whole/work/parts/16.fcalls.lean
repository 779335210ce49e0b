-- FACTS of the calls: printed by wip/whole/tool/emit.py
def tf_yL : List (Nat × Nat × Nat × Nat × Nat) := [(328, 1, 326, 327, 1), (423, 1, 421, 422, 1), (455, 1, 453, 454, 1), (497, 1, 495, 496, 1), (504, 1, 502, 503, 1), (516, 1, 514, 515, 1), (540, 1, 538, 539, 1), (637, 1, 635, 636, 1), (648, 1, 646, 647, 1), (656, 1, 654, 655, 1), (663, 1, 661, 662, 1), (687, 1, 685, 686, 1), (694, 1, 692, 693, 1), (716, 1, 714, 715, 1), (723, 1, 721, 722, 1), (762, 1, 760, 761, 1), (806, 1, 804, 805, 1), (834, 1, 832, 833, 1), (407, 1, 406, 2, 2), (332, 1, 331, 0, 2), (444, 1, 443, 3, 2), (459, 1, 458, 4, 2), (448, 1, 447, 0, 0), (789, 1, 788, 0, 0), (482, 1, 481, 0, 0), (403, 2, 401, 402, 1), (774, 10, 773, 25, 2), (411, 3, 409, 410, 1), (471, 3, 469, 470, 1), (565, 3, 563, 564, 1), (463, 3, 461, 462, 1), (490, 3, 488, 489, 1), (467, 3, 466, 5, 2), (475, 3, 474, 6, 2), (479, 3, 478, 7, 2), (486, 3, 485, 8, 2), (509, 4, 507, 508, 1), (521, 4, 519, 520, 1), (533, 4, 531, 532, 1), (525, 4, 523, 524, 1), (529, 4, 527, 528, 1), (552, 5, 550, 551, 1), (641, 5, 639, 640, 1), (603, 5, 601, 602, 1), (569, 5, 567, 568, 1), (594, 5, 592, 593, 1), (598, 5, 596, 597, 1), (614, 5, 612, 613, 1), (622, 5, 620, 621, 1), (630, 5, 628, 629, 1), (415, 6, 413, 414, 1), (544, 6, 542, 543, 1), (838, 6, 836, 837, 1), (548, 6, 547, 9, 2), (559, 6, 558, 10, 2), (573, 6, 572, 11, 2), (577, 6, 576, 12, 2), (618, 6, 617, 16, 2), (626, 6, 625, 17, 2), (581, 6, 580, 13, 2), (590, 6, 589, 15, 2), (586, 6, 585, 14, 2), (667, 7, 665, 666, 1), (680, 7, 678, 679, 1), (674, 7, 673, 18, 2), (698, 8, 696, 697, 1), (707, 8, 706, 20, 2), (703, 8, 702, 19, 2), (728, 9, 726, 727, 1), (753, 9, 752, 23, 2), (735, 9, 734, 21, 2), (766, 10, 764, 765, 1), (826, 10, 824, 825, 1), (778, 10, 777, 26, 2), (794, 10, 793, 29, 2), (770, 10, 769, 24, 2), (786, 10, 785, 28, 2), (782, 10, 781, 27, 2), (951, 11, 949, 950, 1), (959, 11, 958, 30, 2), (967, 11, 966, 31, 2), (975, 11, 974, 32, 2), (955, 11, 953, 954, 1), (963, 11, 961, 962, 1), (987, 11, 986, 35, 2), (991, 11, 990, 36, 2), (983, 11, 982, 34, 2), (979, 11, 978, 33, 2), (971, 11, 969, 970, 1), (995, 11, 993, 994, 1), (999, 11, 997, 998, 1), (1003, 11, 1001, 1002, 1), (1031, 11, 1030, 42, 2), (1027, 11, 1026, 41, 2), (1015, 11, 1014, 38, 2), (1023, 11, 1022, 40, 2), (1011, 11, 1010, 37, 2), (1019, 11, 1018, 39, 2), (1055, 11, 1054, 47, 2), (1051, 11, 1050, 46, 2), (1060, 11, 1059, 48, 2), (1109, 11, 1108, 55, 2), (1081, 11, 1080, 50, 2), (1043, 11, 1042, 44, 2), (1047, 11, 1046, 45, 2), (1007, 11, 1005, 1006, 1), (1039, 11, 1038, 43, 2), (1035, 11, 1033, 1034, 1), (1064, 11, 1062, 1063, 1), (1069, 11, 1067, 1068, 1), (1077, 11, 1076, 49, 2), (1073, 11, 1071, 1072, 1), (1085, 11, 1083, 1084, 1), (1105, 11, 1104, 54, 2), (1097, 11, 1096, 52, 2), (1101, 11, 1100, 53, 2), (1093, 11, 1092, 51, 2), (1089, 11, 1087, 1088, 1), (1113, 11, 1111, 1112, 1), (1117, 11, 1115, 1116, 1), (1133, 11, 1132, 58, 2), (1141, 11, 1140, 60, 2), (1137, 11, 1136, 59, 2), (1129, 11, 1128, 57, 2), (1125, 11, 1124, 56, 2), (1121, 11, 1119, 1120, 1), (1145, 11, 1143, 1144, 1), (1149, 11, 1147, 1148, 1), (323, 0, 322, 0, 0), (418, 0, 417, 0, 0), (451, 0, 450, 0, 0), (493, 0, 492, 0, 0), (500, 0, 499, 0, 0), (512, 0, 511, 0, 0), (536, 0, 535, 0, 0), (633, 0, 632, 0, 0), (644, 0, 643, 0, 0), (652, 0, 651, 0, 0), (659, 0, 658, 0, 0), (683, 0, 682, 0, 0), (690, 0, 689, 0, 0), (712, 0, 711, 0, 0), (719, 0, 718, 0, 0), (758, 0, 757, 0, 0), (801, 0, 800, 0, 0), (830, 0, 829, 0, 0), (555, 17, 554, 0, 0), (670, 17, 669, 0, 0), (731, 17, 730, 0, 0), (740, 9, 739, 22, 2), (743, 9, 742, 0, 0), (746, 19, 745, 0, 0)]
def tf_yck (y : Nat) (e : Nat × Nat × Nat × Nat × Nat) : Bool := decide (tables_1[e.1]? = some (tf_cw y)) && goodWord (tf_cw y) && decide (tables_1[e.2.1]? = some (Cond.initialized (tf_nm y).cls)) && decide ((tf_nm y).cls = tf_cn (tf_oc y)) && plainFor (tf_nm y) &&
  decide ((tf_nm y).cls ≠ "java/lang/invoke/MethodHandle") && decide ((tf_nm y).cls ≠ "java/lang/invoke/VarHandle") && decide ((parseMethodDescriptor (tf_nm y).desc).map (fun d => d.parameters.length) = some (bif tf_vi y then tf_na y - 1 else tf_na y)) && Nat.ble 1 (tf_na y + (bif tf_vi y then 0 else 1)) &&
  (bif tf_vi y then decide (tables_1[e.2.2.1]? = some (Cond.instanceMethod (tf_nm y))) && (bif Nat.beq e.2.2.2.2 1 then decide (tables_1[e.2.2.2.1]? = some (Cond.selects (tf_cn (tf_oc y)) (tf_nm y) (tf_nm y))) else decide ((k2_sels lw_privs)[e.2.2.2.1]? = some (Cond.selects (tf_cn (tf_oc y)) (tf_nm y) (tf_nm y))))
   else decide (tables_1[e.2.2.1]? = some (Cond.static (tf_nm y))))
theorem tf_yck0 : ∀ i : Fin 25, (match tf_yL[i.val + 0]? with
  | some e => tf_yck (i.val + 0) e
  | none => false) = true := by decide +kernel
theorem tf_yck25 : ∀ i : Fin 25, (match tf_yL[i.val + 25]? with
  | some e => tf_yck (i.val + 25) e
  | none => false) = true := by decide +kernel
theorem tf_yck50 : ∀ i : Fin 25, (match tf_yL[i.val + 50]? with
  | some e => tf_yck (i.val + 50) e
  | none => false) = true := by decide +kernel
theorem tf_yck75 : ∀ i : Fin 25, (match tf_yL[i.val + 75]? with
  | some e => tf_yck (i.val + 75) e
  | none => false) = true := by decide +kernel
theorem tf_yck100 : ∀ i : Fin 25, (match tf_yL[i.val + 100]? with
  | some e => tf_yck (i.val + 100) e
  | none => false) = true := by decide +kernel
theorem tf_yck125 : ∀ i : Fin 25, (match tf_yL[i.val + 125]? with
  | some e => tf_yck (i.val + 125) e
  | none => false) = true := by decide +kernel
theorem tf_yck150 : ∀ i : Fin 2, (match tf_yL[i.val + 150]? with
  | some e => tf_yck (i.val + 150) e
  | none => false) = true := by decide +kernel
theorem tf_y0 {y : Nat} (h : tf_ok y = true) : ∃ e, tf_yL[y]? = some e ∧ tf_yck y e = true := by
  have hy : y < 152 := Nat.le_of_ble_eq_true h
  have key : (match tf_yL[y]? with
  | some e => tf_yck y e
  | none => false) = true := by
    by_cases h0 : y < 25
    · have q := tf_yck0 ⟨y - 0, by omega⟩
      have e : y - 0 + 0 = y := by omega
      simp only [e] at q
      exact q
    by_cases h25 : y < 50
    · have q := tf_yck25 ⟨y - 25, by omega⟩
      have e : y - 25 + 25 = y := by omega
      simp only [e] at q
      exact q
    by_cases h50 : y < 75
    · have q := tf_yck50 ⟨y - 50, by omega⟩
      have e : y - 50 + 50 = y := by omega
      simp only [e] at q
      exact q
    by_cases h75 : y < 100
    · have q := tf_yck75 ⟨y - 75, by omega⟩
      have e : y - 75 + 75 = y := by omega
      simp only [e] at q
      exact q
    by_cases h100 : y < 125
    · have q := tf_yck100 ⟨y - 100, by omega⟩
      have e : y - 100 + 100 = y := by omega
      simp only [e] at q
      exact q
    by_cases h125 : y < 150
    · have q := tf_yck125 ⟨y - 125, by omega⟩
      have e : y - 125 + 125 = y := by omega
      simp only [e] at q
      exact q
    by_cases h150 : y < 152
    · have q := tf_yck150 ⟨y - 150, by omega⟩
      have e : y - 150 + 150 = y := by omega
      simp only [e] at q
      exact q
    omega
  match he : tf_yL[y]?, key with
  | some e, key => exact ⟨e, rfl, key⟩
theorem tf_y1 {y : Nat} (h : tf_ok y = true) : tf_cw y ∈ tf_gt ∧ Cond.initialized (tf_nm y).cls ∈ tf_gt ∧ ((tf_nm y).cls ≠ "java/lang/invoke/MethodHandle" ∧ (tf_nm y).cls ≠ "java/lang/invoke/VarHandle") ∧ (parseMethodDescriptor (tf_nm y).desc).map (fun d => d.parameters.length) = some (bif tf_vi y then tf_na y - 1 else tf_na y) ∧ plainFor (tf_nm y) = true ∧ tf_cn (tf_oc y) = (tf_nm y).cls ∧
    (tf_vi y = true → 1 ≤ tf_na y ∧ Cond.instanceMethod (tf_nm y) ∈ tf_gt ∧ Cond.selects (tf_cn (tf_oc y)) (tf_nm y) (tf_nm y) ∈ tf_gt) ∧ (tf_vi y = false → Cond.static (tf_nm y) ∈ tf_gt) := by
  obtain ⟨e, -, h1⟩ := tf_y0 h
  unfold tf_yck at h1
  simp only [Bool.and_eq_true] at h1
  obtain ⟨⟨⟨⟨⟨⟨⟨⟨⟨a1, a2⟩, a3⟩, a4⟩, a5⟩, a6⟩, a7⟩, a8⟩, a9⟩, a10⟩ := h1
  refine ⟨tf_g _ (of_decide_eq_true a1) a2, tf_g _ (of_decide_eq_true a3) rfl, ⟨of_decide_eq_true a6, of_decide_eq_true a7⟩, of_decide_eq_true a8, a5, (of_decide_eq_true a4).symm, fun hv => ?_, fun hv => ?_⟩
  · rw [hv] at a9 a10
    simp only [cond_true, Bool.and_eq_true] at a10
    refine ⟨Nat.le_of_ble_eq_true a9, tf_g _ (of_decide_eq_true a10.1) rfl, ?_⟩
    cases hb : Nat.beq e.2.2.2.2 1 with
    | true =>
      have b := a10.2
      rw [hb] at b
      exact tf_g _ (of_decide_eq_true b) rfl
    | false =>
      have b := a10.2
      rw [hb] at b
      exact tf_gs _ (of_decide_eq_true b)
  · rw [hv] at a10
    exact tf_g _ (of_decide_eq_true a10) rfl
theorem tf_y_plain {y : Nat} (h : tf_ok y = true) : plainFor (tf_nm y) = true := (tf_y1 h).2.2.2.2.1
theorem tf_y_cls {y : Nat} (h : tf_ok y = true) : tf_cn (tf_oc y) = (tf_nm y).cls := (tf_y1 h).2.2.2.2.2.1
theorem tf_y_ok {y : Nat} (h : tf_ok y = true) : tf_cw y ∈ tf_gt ∧ Cond.initialized (tf_nm y).cls ∈ tf_gt ∧ ((tf_nm y).cls ≠ "java/lang/invoke/MethodHandle" ∧ (tf_nm y).cls ≠ "java/lang/invoke/VarHandle") ∧
    (tf_vi y = true → ∀ sig, parseMethodDescriptor (tf_nm y).desc = some sig → sig.parameters.length + 1 = tf_na y) ∧ (tf_vi y = false → ∀ sig, parseMethodDescriptor (tf_nm y).desc = some sig → sig.parameters.length = tf_na y) := by
  obtain ⟨a1, a2, a3, a4, -, -, a5, -⟩ := tf_y1 h
  refine ⟨a1, a2, a3, fun hv sig hs => ?_, fun hv sig hs => ?_⟩
  · rw [hs, hv] at a4
    have a4 : some sig.parameters.length = some (tf_na y - 1) := a4
    have := Option.some.inj a4
    have := (a5 hv).1
    omega
  · rw [hs, hv] at a4
    exact Option.some.inj a4
def tf_invL : List (Nat × Nat × Nat × Nat × Nat) := [(0, 82, 19, 0, 329), (0, 85, 25, 0, 400), (0, 89, 18, 0, 404), (0, 102, 20, 0, 441), (0, 106, 22, 0, 446), (0, 110, 21, 0, 456), (0, 117, 30, 0, 460), (0, 121, 31, 0, 487), (0, 124, 50, 0, 412), (0, 136, 36, 0, 506), (0, 142, 37, 0, 518), (0, 145, 39, 0, 522), (0, 149, 40, 0, 526), (0, 152, 38, 0, 530), (0, 155, 51, 0, 541), (0, 158, 42, 0, 638), (0, 172, 62, 0, 664), (0, 175, 63, 0, 677), (0, 179, 65, 0, 695), (0, 184, 68, 0, 725), (0, 189, 71, 0, 763), (0, 200, 72, 0, 823), (0, 204, 52, 0, 835), (0, 209, 27, 0, 408), (2, 46, 32, 0, 464), (2, 50, 28, 0, 468), (2, 54, 33, 0, 472), (2, 58, 34, 0, 476), (2, 61, 35, 0, 483), (2, 64, 24, 1, 7), (4, 44, 146, 0, 553), (4, 50, 24, 1, 11), (4, 54, 43, 0, 600), (4, 57, 900, 0, 604), (4, 64, 901, 0, 608), (5, 44, 53, 0, 545), (5, 52, 41, 0, 549), (5, 55, 54, 0, 556), (5, 58, 55, 0, 570), (5, 61, 57, 0, 615), (5, 64, 146, 0, 560), (5, 73, 28, 0, 561), (5, 79, 29, 0, 562), (5, 82, 44, 0, 566), (5, 85, 56, 0, 574), (5, 89, 47, 0, 611), (5, 92, 59, 0, 578), (5, 96, 60, 0, 587), (5, 99, 46, 0, 595), (5, 103, 48, 0, 619), (5, 107, 58, 0, 623), (5, 110, 49, 0, 627), (5, 116, 24, 1, 10), (5, 119, 61, 0, 583), (5, 123, 45, 0, 591), (6, 27, 147, 0, 668), (6, 33, 64, 0, 671), (6, 42, 24, 1, 12), (6, 46, 43, 0, 676), (7, 26, 146, 0, 699), (7, 32, 67, 0, 700), (7, 36, 66, 0, 704), (7, 45, 24, 1, 13), (7, 49, 43, 0, 709), (8, 40, 148, 0, 729), (8, 46, 70, 0, 732), (8, 51, 149, 0, 737), (8, 72, 24, 1, 15), (8, 76, 43, 0, 755), (8, 55, 150, 0, 741), (8, 59, 69, 0, 750), (8, 62, 151, 0, 744), (9, 36, 75, 0, 767), (9, 40, 26, 0, 771), (9, 44, 73, 0, 775), (9, 47, 902, 0, 796), (9, 55, 77, 0, 779), (9, 66, 76, 0, 783), (9, 69, 23, 1, 16), (9, 73, 24, 1, 17), (9, 76, 74, 0, 791), (9, 80, 43, 0, 795), (10, 92, 80, 0, 964), (10, 96, 79, 0, 956), (10, 103, 84, 0, 984), (10, 107, 85, 0, 988), (10, 114, 86, 0, 980), (10, 117, 81, 0, 972), (10, 120, 87, 0, 976), (10, 126, 93, 0, 1024), (10, 130, 92, 0, 1028), (10, 134, 94, 0, 1012), (10, 140, 97, 0, 1016), (10, 143, 95, 0, 1020), (10, 146, 99, 0, 1048), (10, 149, 98, 0, 1052), (10, 152, 104, 0, 1044), (10, 157, 100, 0, 1057), (10, 160, 96, 0, 1008), (10, 163, 103, 0, 1040), (10, 166, 106, 0, 1036), (10, 171, 102, 0, 1078), (10, 175, 110, 0, 1074), (10, 182, 115, 0, 1098), (10, 185, 113, 0, 1102), (10, 188, 114, 0, 1094), (10, 191, 101, 0, 1106), (10, 194, 116, 0, 1090), (10, 200, 120, 0, 1130), (10, 203, 122, 0, 1134), (10, 206, 121, 0, 1138), (10, 209, 123, 0, 1126), (10, 212, 124, 0, 1122), (11, 7, 0, 0, 325), (11, 15, 1, 0, 420), (11, 21, 2, 0, 452), (11, 25, 3, 0, 494), (11, 28, 4, 0, 501), (11, 31, 5, 0, 513), (11, 34, 6, 0, 537), (11, 37, 7, 0, 634), (11, 41, 8, 0, 645), (11, 45, 9, 0, 653), (11, 49, 10, 0, 660), (11, 52, 11, 0, 684), (11, 55, 12, 0, 691), (11, 58, 13, 0, 713), (11, 61, 14, 0, 720), (11, 65, 15, 0, 759), (11, 68, 16, 0, 803), (11, 73, 17, 0, 831), (11, 80, 128, 0, 321), (11, 85, 82, 0, 952), (11, 86, 78, 0, 948), (11, 89, 129, 0, 416), (11, 92, 83, 0, 960), (11, 93, 130, 0, 449), (11, 96, 89, 0, 992), (11, 97, 131, 0, 491), (11, 99, 88, 0, 968), (11, 100, 132, 0, 498), (11, 102, 90, 0, 996), (11, 103, 133, 0, 510), (11, 105, 91, 0, 1000), (11, 106, 134, 0, 534), (11, 108, 105, 0, 1004), (11, 109, 135, 0, 631), (11, 112, 107, 0, 1032), (11, 113, 136, 0, 642), (11, 115, 108, 0, 1061), (11, 116, 137, 0, 650), (11, 118, 109, 0, 1066), (11, 119, 138, 0, 657), (11, 121, 111, 0, 1070), (11, 122, 139, 0, 681), (11, 124, 112, 0, 1082), (11, 125, 140, 0, 688), (11, 127, 117, 0, 1086), (11, 128, 141, 0, 710), (11, 130, 118, 0, 1110), (11, 131, 142, 0, 717), (11, 134, 119, 0, 1114), (11, 135, 143, 0, 756), (11, 137, 125, 0, 1118), (11, 138, 144, 0, 799), (11, 140, 126, 0, 1142), (11, 141, 145, 0, 828), (11, 143, 127, 0, 1146)]
def tf_ick (e : Nat × Nat × Nat × Nat × Nat) : Bool := bif Nat.ble 900 e.2.2.1 then true else (bif Nat.beq e.2.2.2.1 0 then decide (tables_1[e.2.2.2.2]? = some (Cond.methodLink (tf_cn e.1) e.2.1 (tf_nm e.2.2.1))) else decide (tf_nt[e.2.2.2.2]? = some (Cond.methodLinkNest (tf_cn e.1) e.2.1 (tf_nm e.2.2.1) "TermForge")))
theorem tf_ickL : tf_invL.all tf_ick = true := by decide +kernel
theorem tf_invM {oc ix z : Nat} (h : tf_inv oc ix = some z) : ∃ k, (oc, ix, z, k) ∈ tf_invL := by
  have hoc : oc < 14 := by
    apply Classical.byContradiction
    intro hn
    have : Nat.blt oc 14 = false := by
      cases hb : Nat.blt oc 14 with
      | false => rfl
      | true => exact absurd (Nat.le_of_ble_eq_true hb) hn
    unfold tf_inv at h
    rw [this] at h
    cases h
  match oc, hoc with
  | 0, _ =>
    have h : (bif Nat.beq ix 82 then (some 19) else (bif Nat.beq ix 85 then (some 25) else (bif Nat.beq ix 89 then (some 18) else (bif Nat.beq ix 102 then (some 20) else (bif Nat.beq ix 106 then (some 22) else (bif Nat.beq ix 110 then (some 21) else (bif Nat.beq ix 117 then (some 30) else (bif Nat.beq ix 121 then (some 31) else (bif Nat.beq ix 124 then (some 50) else (bif Nat.beq ix 136 then (some 36) else (bif Nat.beq ix 142 then (some 37) else (bif Nat.beq ix 145 then (some 39) else (bif Nat.beq ix 149 then (some 40) else (bif Nat.beq ix 152 then (some 38) else (bif Nat.beq ix 155 then (some 51) else (bif Nat.beq ix 158 then (some 42) else (bif Nat.beq ix 172 then (some 62) else (bif Nat.beq ix 175 then (some 63) else (bif Nat.beq ix 179 then (some 65) else (bif Nat.beq ix 184 then (some 68) else (bif Nat.beq ix 189 then (some 71) else (bif Nat.beq ix 200 then (some 72) else (bif Nat.beq ix 204 then (some 52) else (bif Nat.beq ix 209 then (some 27) else (none))))))))))))))))))))))))) = some z := h
    by_cases e0 : ix = 82
    · subst e0; cases h; exact ⟨_, List.mem_of_getElem? (i := 0) rfl⟩
    rw [show Nat.beq ix 82 = false from (by cases hb : Nat.beq ix 82 with | false => rfl | true => exact absurd (Nat.eq_of_beq_eq_true hb) e0)] at h
    by_cases e1 : ix = 85
    · subst e1; cases h; exact ⟨_, List.mem_of_getElem? (i := 1) rfl⟩
    rw [show Nat.beq ix 85 = false from (by cases hb : Nat.beq ix 85 with | false => rfl | true => exact absurd (Nat.eq_of_beq_eq_true hb) e1)] at h
    by_cases e2 : ix = 89
    · subst e2; cases h; exact ⟨_, List.mem_of_getElem? (i := 2) rfl⟩
    rw [show Nat.beq ix 89 = false from (by cases hb : Nat.beq ix 89 with | false => rfl | true => exact absurd (Nat.eq_of_beq_eq_true hb) e2)] at h
    by_cases e3 : ix = 102
    · subst e3; cases h; exact ⟨_, List.mem_of_getElem? (i := 3) rfl⟩
    rw [show Nat.beq ix 102 = false from (by cases hb : Nat.beq ix 102 with | false => rfl | true => exact absurd (Nat.eq_of_beq_eq_true hb) e3)] at h
    by_cases e4 : ix = 106
    · subst e4; cases h; exact ⟨_, List.mem_of_getElem? (i := 4) rfl⟩
    rw [show Nat.beq ix 106 = false from (by cases hb : Nat.beq ix 106 with | false => rfl | true => exact absurd (Nat.eq_of_beq_eq_true hb) e4)] at h
    by_cases e5 : ix = 110
    · subst e5; cases h; exact ⟨_, List.mem_of_getElem? (i := 5) rfl⟩
    rw [show Nat.beq ix 110 = false from (by cases hb : Nat.beq ix 110 with | false => rfl | true => exact absurd (Nat.eq_of_beq_eq_true hb) e5)] at h
    by_cases e6 : ix = 117
    · subst e6; cases h; exact ⟨_, List.mem_of_getElem? (i := 6) rfl⟩
    rw [show Nat.beq ix 117 = false from (by cases hb : Nat.beq ix 117 with | false => rfl | true => exact absurd (Nat.eq_of_beq_eq_true hb) e6)] at h
    by_cases e7 : ix = 121
    · subst e7; cases h; exact ⟨_, List.mem_of_getElem? (i := 7) rfl⟩
    rw [show Nat.beq ix 121 = false from (by cases hb : Nat.beq ix 121 with | false => rfl | true => exact absurd (Nat.eq_of_beq_eq_true hb) e7)] at h
    by_cases e8 : ix = 124
    · subst e8; cases h; exact ⟨_, List.mem_of_getElem? (i := 8) rfl⟩
    rw [show Nat.beq ix 124 = false from (by cases hb : Nat.beq ix 124 with | false => rfl | true => exact absurd (Nat.eq_of_beq_eq_true hb) e8)] at h
    by_cases e9 : ix = 136
    · subst e9; cases h; exact ⟨_, List.mem_of_getElem? (i := 9) rfl⟩
    rw [show Nat.beq ix 136 = false from (by cases hb : Nat.beq ix 136 with | false => rfl | true => exact absurd (Nat.eq_of_beq_eq_true hb) e9)] at h
    by_cases e10 : ix = 142
    · subst e10; cases h; exact ⟨_, List.mem_of_getElem? (i := 10) rfl⟩
    rw [show Nat.beq ix 142 = false from (by cases hb : Nat.beq ix 142 with | false => rfl | true => exact absurd (Nat.eq_of_beq_eq_true hb) e10)] at h
    by_cases e11 : ix = 145
    · subst e11; cases h; exact ⟨_, List.mem_of_getElem? (i := 11) rfl⟩
    rw [show Nat.beq ix 145 = false from (by cases hb : Nat.beq ix 145 with | false => rfl | true => exact absurd (Nat.eq_of_beq_eq_true hb) e11)] at h
    by_cases e12 : ix = 149
    · subst e12; cases h; exact ⟨_, List.mem_of_getElem? (i := 12) rfl⟩
    rw [show Nat.beq ix 149 = false from (by cases hb : Nat.beq ix 149 with | false => rfl | true => exact absurd (Nat.eq_of_beq_eq_true hb) e12)] at h
    by_cases e13 : ix = 152
    · subst e13; cases h; exact ⟨_, List.mem_of_getElem? (i := 13) rfl⟩
    rw [show Nat.beq ix 152 = false from (by cases hb : Nat.beq ix 152 with | false => rfl | true => exact absurd (Nat.eq_of_beq_eq_true hb) e13)] at h
    by_cases e14 : ix = 155
    · subst e14; cases h; exact ⟨_, List.mem_of_getElem? (i := 14) rfl⟩
    rw [show Nat.beq ix 155 = false from (by cases hb : Nat.beq ix 155 with | false => rfl | true => exact absurd (Nat.eq_of_beq_eq_true hb) e14)] at h
    by_cases e15 : ix = 158
    · subst e15; cases h; exact ⟨_, List.mem_of_getElem? (i := 15) rfl⟩
    rw [show Nat.beq ix 158 = false from (by cases hb : Nat.beq ix 158 with | false => rfl | true => exact absurd (Nat.eq_of_beq_eq_true hb) e15)] at h
    by_cases e16 : ix = 172
    · subst e16; cases h; exact ⟨_, List.mem_of_getElem? (i := 16) rfl⟩
    rw [show Nat.beq ix 172 = false from (by cases hb : Nat.beq ix 172 with | false => rfl | true => exact absurd (Nat.eq_of_beq_eq_true hb) e16)] at h
    by_cases e17 : ix = 175
    · subst e17; cases h; exact ⟨_, List.mem_of_getElem? (i := 17) rfl⟩
    rw [show Nat.beq ix 175 = false from (by cases hb : Nat.beq ix 175 with | false => rfl | true => exact absurd (Nat.eq_of_beq_eq_true hb) e17)] at h
    by_cases e18 : ix = 179
    · subst e18; cases h; exact ⟨_, List.mem_of_getElem? (i := 18) rfl⟩
    rw [show Nat.beq ix 179 = false from (by cases hb : Nat.beq ix 179 with | false => rfl | true => exact absurd (Nat.eq_of_beq_eq_true hb) e18)] at h
    by_cases e19 : ix = 184
    · subst e19; cases h; exact ⟨_, List.mem_of_getElem? (i := 19) rfl⟩
    rw [show Nat.beq ix 184 = false from (by cases hb : Nat.beq ix 184 with | false => rfl | true => exact absurd (Nat.eq_of_beq_eq_true hb) e19)] at h
    by_cases e20 : ix = 189
    · subst e20; cases h; exact ⟨_, List.mem_of_getElem? (i := 20) rfl⟩
    rw [show Nat.beq ix 189 = false from (by cases hb : Nat.beq ix 189 with | false => rfl | true => exact absurd (Nat.eq_of_beq_eq_true hb) e20)] at h
    by_cases e21 : ix = 200
    · subst e21; cases h; exact ⟨_, List.mem_of_getElem? (i := 21) rfl⟩
    rw [show Nat.beq ix 200 = false from (by cases hb : Nat.beq ix 200 with | false => rfl | true => exact absurd (Nat.eq_of_beq_eq_true hb) e21)] at h
    by_cases e22 : ix = 204
    · subst e22; cases h; exact ⟨_, List.mem_of_getElem? (i := 22) rfl⟩
    rw [show Nat.beq ix 204 = false from (by cases hb : Nat.beq ix 204 with | false => rfl | true => exact absurd (Nat.eq_of_beq_eq_true hb) e22)] at h
    by_cases e23 : ix = 209
    · subst e23; cases h; exact ⟨_, List.mem_of_getElem? (i := 23) rfl⟩
    rw [show Nat.beq ix 209 = false from (by cases hb : Nat.beq ix 209 with | false => rfl | true => exact absurd (Nat.eq_of_beq_eq_true hb) e23)] at h
    cases h
  | 1, _ =>
    cases h
  | 2, _ =>
    have h : (bif Nat.beq ix 46 then (some 32) else (bif Nat.beq ix 50 then (some 28) else (bif Nat.beq ix 54 then (some 33) else (bif Nat.beq ix 58 then (some 34) else (bif Nat.beq ix 61 then (some 35) else (bif Nat.beq ix 64 then (some 24) else (none))))))) = some z := h
    by_cases e0 : ix = 46
    · subst e0; cases h; exact ⟨_, List.mem_of_getElem? (i := 24) rfl⟩
    rw [show Nat.beq ix 46 = false from (by cases hb : Nat.beq ix 46 with | false => rfl | true => exact absurd (Nat.eq_of_beq_eq_true hb) e0)] at h
    by_cases e1 : ix = 50
    · subst e1; cases h; exact ⟨_, List.mem_of_getElem? (i := 25) rfl⟩
    rw [show Nat.beq ix 50 = false from (by cases hb : Nat.beq ix 50 with | false => rfl | true => exact absurd (Nat.eq_of_beq_eq_true hb) e1)] at h
    by_cases e2 : ix = 54
    · subst e2; cases h; exact ⟨_, List.mem_of_getElem? (i := 26) rfl⟩
    rw [show Nat.beq ix 54 = false from (by cases hb : Nat.beq ix 54 with | false => rfl | true => exact absurd (Nat.eq_of_beq_eq_true hb) e2)] at h
    by_cases e3 : ix = 58
    · subst e3; cases h; exact ⟨_, List.mem_of_getElem? (i := 27) rfl⟩
    rw [show Nat.beq ix 58 = false from (by cases hb : Nat.beq ix 58 with | false => rfl | true => exact absurd (Nat.eq_of_beq_eq_true hb) e3)] at h
    by_cases e4 : ix = 61
    · subst e4; cases h; exact ⟨_, List.mem_of_getElem? (i := 28) rfl⟩
    rw [show Nat.beq ix 61 = false from (by cases hb : Nat.beq ix 61 with | false => rfl | true => exact absurd (Nat.eq_of_beq_eq_true hb) e4)] at h
    by_cases e5 : ix = 64
    · subst e5; cases h; exact ⟨_, List.mem_of_getElem? (i := 29) rfl⟩
    rw [show Nat.beq ix 64 = false from (by cases hb : Nat.beq ix 64 with | false => rfl | true => exact absurd (Nat.eq_of_beq_eq_true hb) e5)] at h
    cases h
  | 3, _ =>
    cases h
  | 4, _ =>
    have h : (bif Nat.beq ix 44 then (some 146) else (bif Nat.beq ix 50 then (some 24) else (bif Nat.beq ix 54 then (some 43) else (bif Nat.beq ix 57 then (some 900) else (bif Nat.beq ix 64 then (some 901) else (none)))))) = some z := h
    by_cases e0 : ix = 44
    · subst e0; cases h; exact ⟨_, List.mem_of_getElem? (i := 30) rfl⟩
    rw [show Nat.beq ix 44 = false from (by cases hb : Nat.beq ix 44 with | false => rfl | true => exact absurd (Nat.eq_of_beq_eq_true hb) e0)] at h
    by_cases e1 : ix = 50
    · subst e1; cases h; exact ⟨_, List.mem_of_getElem? (i := 31) rfl⟩
    rw [show Nat.beq ix 50 = false from (by cases hb : Nat.beq ix 50 with | false => rfl | true => exact absurd (Nat.eq_of_beq_eq_true hb) e1)] at h
    by_cases e2 : ix = 54
    · subst e2; cases h; exact ⟨_, List.mem_of_getElem? (i := 32) rfl⟩
    rw [show Nat.beq ix 54 = false from (by cases hb : Nat.beq ix 54 with | false => rfl | true => exact absurd (Nat.eq_of_beq_eq_true hb) e2)] at h
    by_cases e3 : ix = 57
    · subst e3; cases h; exact ⟨_, List.mem_of_getElem? (i := 33) rfl⟩
    rw [show Nat.beq ix 57 = false from (by cases hb : Nat.beq ix 57 with | false => rfl | true => exact absurd (Nat.eq_of_beq_eq_true hb) e3)] at h
    by_cases e4 : ix = 64
    · subst e4; cases h; exact ⟨_, List.mem_of_getElem? (i := 34) rfl⟩
    rw [show Nat.beq ix 64 = false from (by cases hb : Nat.beq ix 64 with | false => rfl | true => exact absurd (Nat.eq_of_beq_eq_true hb) e4)] at h
    cases h
  | 5, _ =>
    have h : (bif Nat.beq ix 44 then (some 53) else (bif Nat.beq ix 52 then (some 41) else (bif Nat.beq ix 55 then (some 54) else (bif Nat.beq ix 58 then (some 55) else (bif Nat.beq ix 61 then (some 57) else (bif Nat.beq ix 64 then (some 146) else (bif Nat.beq ix 73 then (some 28) else (bif Nat.beq ix 79 then (some 29) else (bif Nat.beq ix 82 then (some 44) else (bif Nat.beq ix 85 then (some 56) else (bif Nat.beq ix 89 then (some 47) else (bif Nat.beq ix 92 then (some 59) else (bif Nat.beq ix 96 then (some 60) else (bif Nat.beq ix 99 then (some 46) else (bif Nat.beq ix 103 then (some 48) else (bif Nat.beq ix 107 then (some 58) else (bif Nat.beq ix 110 then (some 49) else (bif Nat.beq ix 116 then (some 24) else (bif Nat.beq ix 119 then (some 61) else (bif Nat.beq ix 123 then (some 45) else (none))))))))))))))))))))) = some z := h
    by_cases e0 : ix = 44
    · subst e0; cases h; exact ⟨_, List.mem_of_getElem? (i := 35) rfl⟩
    rw [show Nat.beq ix 44 = false from (by cases hb : Nat.beq ix 44 with | false => rfl | true => exact absurd (Nat.eq_of_beq_eq_true hb) e0)] at h
    by_cases e1 : ix = 52
    · subst e1; cases h; exact ⟨_, List.mem_of_getElem? (i := 36) rfl⟩
    rw [show Nat.beq ix 52 = false from (by cases hb : Nat.beq ix 52 with | false => rfl | true => exact absurd (Nat.eq_of_beq_eq_true hb) e1)] at h
    by_cases e2 : ix = 55
    · subst e2; cases h; exact ⟨_, List.mem_of_getElem? (i := 37) rfl⟩
    rw [show Nat.beq ix 55 = false from (by cases hb : Nat.beq ix 55 with | false => rfl | true => exact absurd (Nat.eq_of_beq_eq_true hb) e2)] at h
    by_cases e3 : ix = 58
    · subst e3; cases h; exact ⟨_, List.mem_of_getElem? (i := 38) rfl⟩
    rw [show Nat.beq ix 58 = false from (by cases hb : Nat.beq ix 58 with | false => rfl | true => exact absurd (Nat.eq_of_beq_eq_true hb) e3)] at h
    by_cases e4 : ix = 61
    · subst e4; cases h; exact ⟨_, List.mem_of_getElem? (i := 39) rfl⟩
    rw [show Nat.beq ix 61 = false from (by cases hb : Nat.beq ix 61 with | false => rfl | true => exact absurd (Nat.eq_of_beq_eq_true hb) e4)] at h
    by_cases e5 : ix = 64
    · subst e5; cases h; exact ⟨_, List.mem_of_getElem? (i := 40) rfl⟩
    rw [show Nat.beq ix 64 = false from (by cases hb : Nat.beq ix 64 with | false => rfl | true => exact absurd (Nat.eq_of_beq_eq_true hb) e5)] at h
    by_cases e6 : ix = 73
    · subst e6; cases h; exact ⟨_, List.mem_of_getElem? (i := 41) rfl⟩
    rw [show Nat.beq ix 73 = false from (by cases hb : Nat.beq ix 73 with | false => rfl | true => exact absurd (Nat.eq_of_beq_eq_true hb) e6)] at h
    by_cases e7 : ix = 79
    · subst e7; cases h; exact ⟨_, List.mem_of_getElem? (i := 42) rfl⟩
    rw [show Nat.beq ix 79 = false from (by cases hb : Nat.beq ix 79 with | false => rfl | true => exact absurd (Nat.eq_of_beq_eq_true hb) e7)] at h
    by_cases e8 : ix = 82
    · subst e8; cases h; exact ⟨_, List.mem_of_getElem? (i := 43) rfl⟩
    rw [show Nat.beq ix 82 = false from (by cases hb : Nat.beq ix 82 with | false => rfl | true => exact absurd (Nat.eq_of_beq_eq_true hb) e8)] at h
    by_cases e9 : ix = 85
    · subst e9; cases h; exact ⟨_, List.mem_of_getElem? (i := 44) rfl⟩
    rw [show Nat.beq ix 85 = false from (by cases hb : Nat.beq ix 85 with | false => rfl | true => exact absurd (Nat.eq_of_beq_eq_true hb) e9)] at h
    by_cases e10 : ix = 89
    · subst e10; cases h; exact ⟨_, List.mem_of_getElem? (i := 45) rfl⟩
    rw [show Nat.beq ix 89 = false from (by cases hb : Nat.beq ix 89 with | false => rfl | true => exact absurd (Nat.eq_of_beq_eq_true hb) e10)] at h
    by_cases e11 : ix = 92
    · subst e11; cases h; exact ⟨_, List.mem_of_getElem? (i := 46) rfl⟩
    rw [show Nat.beq ix 92 = false from (by cases hb : Nat.beq ix 92 with | false => rfl | true => exact absurd (Nat.eq_of_beq_eq_true hb) e11)] at h
    by_cases e12 : ix = 96
    · subst e12; cases h; exact ⟨_, List.mem_of_getElem? (i := 47) rfl⟩
    rw [show Nat.beq ix 96 = false from (by cases hb : Nat.beq ix 96 with | false => rfl | true => exact absurd (Nat.eq_of_beq_eq_true hb) e12)] at h
    by_cases e13 : ix = 99
    · subst e13; cases h; exact ⟨_, List.mem_of_getElem? (i := 48) rfl⟩
    rw [show Nat.beq ix 99 = false from (by cases hb : Nat.beq ix 99 with | false => rfl | true => exact absurd (Nat.eq_of_beq_eq_true hb) e13)] at h
    by_cases e14 : ix = 103
    · subst e14; cases h; exact ⟨_, List.mem_of_getElem? (i := 49) rfl⟩
    rw [show Nat.beq ix 103 = false from (by cases hb : Nat.beq ix 103 with | false => rfl | true => exact absurd (Nat.eq_of_beq_eq_true hb) e14)] at h
    by_cases e15 : ix = 107
    · subst e15; cases h; exact ⟨_, List.mem_of_getElem? (i := 50) rfl⟩
    rw [show Nat.beq ix 107 = false from (by cases hb : Nat.beq ix 107 with | false => rfl | true => exact absurd (Nat.eq_of_beq_eq_true hb) e15)] at h
    by_cases e16 : ix = 110
    · subst e16; cases h; exact ⟨_, List.mem_of_getElem? (i := 51) rfl⟩
    rw [show Nat.beq ix 110 = false from (by cases hb : Nat.beq ix 110 with | false => rfl | true => exact absurd (Nat.eq_of_beq_eq_true hb) e16)] at h
    by_cases e17 : ix = 116
    · subst e17; cases h; exact ⟨_, List.mem_of_getElem? (i := 52) rfl⟩
    rw [show Nat.beq ix 116 = false from (by cases hb : Nat.beq ix 116 with | false => rfl | true => exact absurd (Nat.eq_of_beq_eq_true hb) e17)] at h
    by_cases e18 : ix = 119
    · subst e18; cases h; exact ⟨_, List.mem_of_getElem? (i := 53) rfl⟩
    rw [show Nat.beq ix 119 = false from (by cases hb : Nat.beq ix 119 with | false => rfl | true => exact absurd (Nat.eq_of_beq_eq_true hb) e18)] at h
    by_cases e19 : ix = 123
    · subst e19; cases h; exact ⟨_, List.mem_of_getElem? (i := 54) rfl⟩
    rw [show Nat.beq ix 123 = false from (by cases hb : Nat.beq ix 123 with | false => rfl | true => exact absurd (Nat.eq_of_beq_eq_true hb) e19)] at h
    cases h
  | 6, _ =>
    have h : (bif Nat.beq ix 27 then (some 147) else (bif Nat.beq ix 33 then (some 64) else (bif Nat.beq ix 42 then (some 24) else (bif Nat.beq ix 46 then (some 43) else (none))))) = some z := h
    by_cases e0 : ix = 27
    · subst e0; cases h; exact ⟨_, List.mem_of_getElem? (i := 55) rfl⟩
    rw [show Nat.beq ix 27 = false from (by cases hb : Nat.beq ix 27 with | false => rfl | true => exact absurd (Nat.eq_of_beq_eq_true hb) e0)] at h
    by_cases e1 : ix = 33
    · subst e1; cases h; exact ⟨_, List.mem_of_getElem? (i := 56) rfl⟩
    rw [show Nat.beq ix 33 = false from (by cases hb : Nat.beq ix 33 with | false => rfl | true => exact absurd (Nat.eq_of_beq_eq_true hb) e1)] at h
    by_cases e2 : ix = 42
    · subst e2; cases h; exact ⟨_, List.mem_of_getElem? (i := 57) rfl⟩
    rw [show Nat.beq ix 42 = false from (by cases hb : Nat.beq ix 42 with | false => rfl | true => exact absurd (Nat.eq_of_beq_eq_true hb) e2)] at h
    by_cases e3 : ix = 46
    · subst e3; cases h; exact ⟨_, List.mem_of_getElem? (i := 58) rfl⟩
    rw [show Nat.beq ix 46 = false from (by cases hb : Nat.beq ix 46 with | false => rfl | true => exact absurd (Nat.eq_of_beq_eq_true hb) e3)] at h
    cases h
  | 7, _ =>
    have h : (bif Nat.beq ix 26 then (some 146) else (bif Nat.beq ix 32 then (some 67) else (bif Nat.beq ix 36 then (some 66) else (bif Nat.beq ix 45 then (some 24) else (bif Nat.beq ix 49 then (some 43) else (none)))))) = some z := h
    by_cases e0 : ix = 26
    · subst e0; cases h; exact ⟨_, List.mem_of_getElem? (i := 59) rfl⟩
    rw [show Nat.beq ix 26 = false from (by cases hb : Nat.beq ix 26 with | false => rfl | true => exact absurd (Nat.eq_of_beq_eq_true hb) e0)] at h
    by_cases e1 : ix = 32
    · subst e1; cases h; exact ⟨_, List.mem_of_getElem? (i := 60) rfl⟩
    rw [show Nat.beq ix 32 = false from (by cases hb : Nat.beq ix 32 with | false => rfl | true => exact absurd (Nat.eq_of_beq_eq_true hb) e1)] at h
    by_cases e2 : ix = 36
    · subst e2; cases h; exact ⟨_, List.mem_of_getElem? (i := 61) rfl⟩
    rw [show Nat.beq ix 36 = false from (by cases hb : Nat.beq ix 36 with | false => rfl | true => exact absurd (Nat.eq_of_beq_eq_true hb) e2)] at h
    by_cases e3 : ix = 45
    · subst e3; cases h; exact ⟨_, List.mem_of_getElem? (i := 62) rfl⟩
    rw [show Nat.beq ix 45 = false from (by cases hb : Nat.beq ix 45 with | false => rfl | true => exact absurd (Nat.eq_of_beq_eq_true hb) e3)] at h
    by_cases e4 : ix = 49
    · subst e4; cases h; exact ⟨_, List.mem_of_getElem? (i := 63) rfl⟩
    rw [show Nat.beq ix 49 = false from (by cases hb : Nat.beq ix 49 with | false => rfl | true => exact absurd (Nat.eq_of_beq_eq_true hb) e4)] at h
    cases h
  | 8, _ =>
    have h : (bif Nat.beq ix 40 then (some 148) else (bif Nat.beq ix 46 then (some 70) else (bif Nat.beq ix 51 then (some 149) else (bif Nat.beq ix 72 then (some 24) else (bif Nat.beq ix 76 then (some 43) else (bif Nat.beq ix 55 then (some 150) else (bif Nat.beq ix 59 then (some 69) else (bif Nat.beq ix 62 then (some 151) else (none))))))))) = some z := h
    by_cases e0 : ix = 40
    · subst e0; cases h; exact ⟨_, List.mem_of_getElem? (i := 64) rfl⟩
    rw [show Nat.beq ix 40 = false from (by cases hb : Nat.beq ix 40 with | false => rfl | true => exact absurd (Nat.eq_of_beq_eq_true hb) e0)] at h
    by_cases e1 : ix = 46
    · subst e1; cases h; exact ⟨_, List.mem_of_getElem? (i := 65) rfl⟩
    rw [show Nat.beq ix 46 = false from (by cases hb : Nat.beq ix 46 with | false => rfl | true => exact absurd (Nat.eq_of_beq_eq_true hb) e1)] at h
    by_cases e2 : ix = 51
    · subst e2; cases h; exact ⟨_, List.mem_of_getElem? (i := 66) rfl⟩
    rw [show Nat.beq ix 51 = false from (by cases hb : Nat.beq ix 51 with | false => rfl | true => exact absurd (Nat.eq_of_beq_eq_true hb) e2)] at h
    by_cases e3 : ix = 72
    · subst e3; cases h; exact ⟨_, List.mem_of_getElem? (i := 67) rfl⟩
    rw [show Nat.beq ix 72 = false from (by cases hb : Nat.beq ix 72 with | false => rfl | true => exact absurd (Nat.eq_of_beq_eq_true hb) e3)] at h
    by_cases e4 : ix = 76
    · subst e4; cases h; exact ⟨_, List.mem_of_getElem? (i := 68) rfl⟩
    rw [show Nat.beq ix 76 = false from (by cases hb : Nat.beq ix 76 with | false => rfl | true => exact absurd (Nat.eq_of_beq_eq_true hb) e4)] at h
    by_cases e5 : ix = 55
    · subst e5; cases h; exact ⟨_, List.mem_of_getElem? (i := 69) rfl⟩
    rw [show Nat.beq ix 55 = false from (by cases hb : Nat.beq ix 55 with | false => rfl | true => exact absurd (Nat.eq_of_beq_eq_true hb) e5)] at h
    by_cases e6 : ix = 59
    · subst e6; cases h; exact ⟨_, List.mem_of_getElem? (i := 70) rfl⟩
    rw [show Nat.beq ix 59 = false from (by cases hb : Nat.beq ix 59 with | false => rfl | true => exact absurd (Nat.eq_of_beq_eq_true hb) e6)] at h
    by_cases e7 : ix = 62
    · subst e7; cases h; exact ⟨_, List.mem_of_getElem? (i := 71) rfl⟩
    rw [show Nat.beq ix 62 = false from (by cases hb : Nat.beq ix 62 with | false => rfl | true => exact absurd (Nat.eq_of_beq_eq_true hb) e7)] at h
    cases h
  | 9, _ =>
    have h : (bif Nat.beq ix 36 then (some 75) else (bif Nat.beq ix 40 then (some 26) else (bif Nat.beq ix 44 then (some 73) else (bif Nat.beq ix 47 then (some 902) else (bif Nat.beq ix 55 then (some 77) else (bif Nat.beq ix 66 then (some 76) else (bif Nat.beq ix 69 then (some 23) else (bif Nat.beq ix 73 then (some 24) else (bif Nat.beq ix 76 then (some 74) else (bif Nat.beq ix 80 then (some 43) else (none))))))))))) = some z := h
    by_cases e0 : ix = 36
    · subst e0; cases h; exact ⟨_, List.mem_of_getElem? (i := 72) rfl⟩
    rw [show Nat.beq ix 36 = false from (by cases hb : Nat.beq ix 36 with | false => rfl | true => exact absurd (Nat.eq_of_beq_eq_true hb) e0)] at h
    by_cases e1 : ix = 40
    · subst e1; cases h; exact ⟨_, List.mem_of_getElem? (i := 73) rfl⟩
    rw [show Nat.beq ix 40 = false from (by cases hb : Nat.beq ix 40 with | false => rfl | true => exact absurd (Nat.eq_of_beq_eq_true hb) e1)] at h
    by_cases e2 : ix = 44
    · subst e2; cases h; exact ⟨_, List.mem_of_getElem? (i := 74) rfl⟩
    rw [show Nat.beq ix 44 = false from (by cases hb : Nat.beq ix 44 with | false => rfl | true => exact absurd (Nat.eq_of_beq_eq_true hb) e2)] at h
    by_cases e3 : ix = 47
    · subst e3; cases h; exact ⟨_, List.mem_of_getElem? (i := 75) rfl⟩
    rw [show Nat.beq ix 47 = false from (by cases hb : Nat.beq ix 47 with | false => rfl | true => exact absurd (Nat.eq_of_beq_eq_true hb) e3)] at h
    by_cases e4 : ix = 55
    · subst e4; cases h; exact ⟨_, List.mem_of_getElem? (i := 76) rfl⟩
    rw [show Nat.beq ix 55 = false from (by cases hb : Nat.beq ix 55 with | false => rfl | true => exact absurd (Nat.eq_of_beq_eq_true hb) e4)] at h
    by_cases e5 : ix = 66
    · subst e5; cases h; exact ⟨_, List.mem_of_getElem? (i := 77) rfl⟩
    rw [show Nat.beq ix 66 = false from (by cases hb : Nat.beq ix 66 with | false => rfl | true => exact absurd (Nat.eq_of_beq_eq_true hb) e5)] at h
    by_cases e6 : ix = 69
    · subst e6; cases h; exact ⟨_, List.mem_of_getElem? (i := 78) rfl⟩
    rw [show Nat.beq ix 69 = false from (by cases hb : Nat.beq ix 69 with | false => rfl | true => exact absurd (Nat.eq_of_beq_eq_true hb) e6)] at h
    by_cases e7 : ix = 73
    · subst e7; cases h; exact ⟨_, List.mem_of_getElem? (i := 79) rfl⟩
    rw [show Nat.beq ix 73 = false from (by cases hb : Nat.beq ix 73 with | false => rfl | true => exact absurd (Nat.eq_of_beq_eq_true hb) e7)] at h
    by_cases e8 : ix = 76
    · subst e8; cases h; exact ⟨_, List.mem_of_getElem? (i := 80) rfl⟩
    rw [show Nat.beq ix 76 = false from (by cases hb : Nat.beq ix 76 with | false => rfl | true => exact absurd (Nat.eq_of_beq_eq_true hb) e8)] at h
    by_cases e9 : ix = 80
    · subst e9; cases h; exact ⟨_, List.mem_of_getElem? (i := 81) rfl⟩
    rw [show Nat.beq ix 80 = false from (by cases hb : Nat.beq ix 80 with | false => rfl | true => exact absurd (Nat.eq_of_beq_eq_true hb) e9)] at h
    cases h
  | 10, _ =>
    have h : (bif Nat.beq ix 92 then (some 80) else (bif Nat.beq ix 96 then (some 79) else (bif Nat.beq ix 103 then (some 84) else (bif Nat.beq ix 107 then (some 85) else (bif Nat.beq ix 114 then (some 86) else (bif Nat.beq ix 117 then (some 81) else (bif Nat.beq ix 120 then (some 87) else (bif Nat.beq ix 126 then (some 93) else (bif Nat.beq ix 130 then (some 92) else (bif Nat.beq ix 134 then (some 94) else (bif Nat.beq ix 140 then (some 97) else (bif Nat.beq ix 143 then (some 95) else (bif Nat.beq ix 146 then (some 99) else (bif Nat.beq ix 149 then (some 98) else (bif Nat.beq ix 152 then (some 104) else (bif Nat.beq ix 157 then (some 100) else (bif Nat.beq ix 160 then (some 96) else (bif Nat.beq ix 163 then (some 103) else (bif Nat.beq ix 166 then (some 106) else (bif Nat.beq ix 171 then (some 102) else (bif Nat.beq ix 175 then (some 110) else (bif Nat.beq ix 182 then (some 115) else (bif Nat.beq ix 185 then (some 113) else (bif Nat.beq ix 188 then (some 114) else (bif Nat.beq ix 191 then (some 101) else (bif Nat.beq ix 194 then (some 116) else (bif Nat.beq ix 200 then (some 120) else (bif Nat.beq ix 203 then (some 122) else (bif Nat.beq ix 206 then (some 121) else (bif Nat.beq ix 209 then (some 123) else (bif Nat.beq ix 212 then (some 124) else (none)))))))))))))))))))))))))))))))) = some z := h
    by_cases e0 : ix = 92
    · subst e0; cases h; exact ⟨_, List.mem_of_getElem? (i := 82) rfl⟩
    rw [show Nat.beq ix 92 = false from (by cases hb : Nat.beq ix 92 with | false => rfl | true => exact absurd (Nat.eq_of_beq_eq_true hb) e0)] at h
    by_cases e1 : ix = 96
    · subst e1; cases h; exact ⟨_, List.mem_of_getElem? (i := 83) rfl⟩
    rw [show Nat.beq ix 96 = false from (by cases hb : Nat.beq ix 96 with | false => rfl | true => exact absurd (Nat.eq_of_beq_eq_true hb) e1)] at h
    by_cases e2 : ix = 103
    · subst e2; cases h; exact ⟨_, List.mem_of_getElem? (i := 84) rfl⟩
    rw [show Nat.beq ix 103 = false from (by cases hb : Nat.beq ix 103 with | false => rfl | true => exact absurd (Nat.eq_of_beq_eq_true hb) e2)] at h
    by_cases e3 : ix = 107
    · subst e3; cases h; exact ⟨_, List.mem_of_getElem? (i := 85) rfl⟩
    rw [show Nat.beq ix 107 = false from (by cases hb : Nat.beq ix 107 with | false => rfl | true => exact absurd (Nat.eq_of_beq_eq_true hb) e3)] at h
    by_cases e4 : ix = 114
    · subst e4; cases h; exact ⟨_, List.mem_of_getElem? (i := 86) rfl⟩
    rw [show Nat.beq ix 114 = false from (by cases hb : Nat.beq ix 114 with | false => rfl | true => exact absurd (Nat.eq_of_beq_eq_true hb) e4)] at h
    by_cases e5 : ix = 117
    · subst e5; cases h; exact ⟨_, List.mem_of_getElem? (i := 87) rfl⟩
    rw [show Nat.beq ix 117 = false from (by cases hb : Nat.beq ix 117 with | false => rfl | true => exact absurd (Nat.eq_of_beq_eq_true hb) e5)] at h
    by_cases e6 : ix = 120
    · subst e6; cases h; exact ⟨_, List.mem_of_getElem? (i := 88) rfl⟩
    rw [show Nat.beq ix 120 = false from (by cases hb : Nat.beq ix 120 with | false => rfl | true => exact absurd (Nat.eq_of_beq_eq_true hb) e6)] at h
    by_cases e7 : ix = 126
    · subst e7; cases h; exact ⟨_, List.mem_of_getElem? (i := 89) rfl⟩
    rw [show Nat.beq ix 126 = false from (by cases hb : Nat.beq ix 126 with | false => rfl | true => exact absurd (Nat.eq_of_beq_eq_true hb) e7)] at h
    by_cases e8 : ix = 130
    · subst e8; cases h; exact ⟨_, List.mem_of_getElem? (i := 90) rfl⟩
    rw [show Nat.beq ix 130 = false from (by cases hb : Nat.beq ix 130 with | false => rfl | true => exact absurd (Nat.eq_of_beq_eq_true hb) e8)] at h
    by_cases e9 : ix = 134
    · subst e9; cases h; exact ⟨_, List.mem_of_getElem? (i := 91) rfl⟩
    rw [show Nat.beq ix 134 = false from (by cases hb : Nat.beq ix 134 with | false => rfl | true => exact absurd (Nat.eq_of_beq_eq_true hb) e9)] at h
    by_cases e10 : ix = 140
    · subst e10; cases h; exact ⟨_, List.mem_of_getElem? (i := 92) rfl⟩
    rw [show Nat.beq ix 140 = false from (by cases hb : Nat.beq ix 140 with | false => rfl | true => exact absurd (Nat.eq_of_beq_eq_true hb) e10)] at h
    by_cases e11 : ix = 143
    · subst e11; cases h; exact ⟨_, List.mem_of_getElem? (i := 93) rfl⟩
    rw [show Nat.beq ix 143 = false from (by cases hb : Nat.beq ix 143 with | false => rfl | true => exact absurd (Nat.eq_of_beq_eq_true hb) e11)] at h
    by_cases e12 : ix = 146
    · subst e12; cases h; exact ⟨_, List.mem_of_getElem? (i := 94) rfl⟩
    rw [show Nat.beq ix 146 = false from (by cases hb : Nat.beq ix 146 with | false => rfl | true => exact absurd (Nat.eq_of_beq_eq_true hb) e12)] at h
    by_cases e13 : ix = 149
    · subst e13; cases h; exact ⟨_, List.mem_of_getElem? (i := 95) rfl⟩
    rw [show Nat.beq ix 149 = false from (by cases hb : Nat.beq ix 149 with | false => rfl | true => exact absurd (Nat.eq_of_beq_eq_true hb) e13)] at h
    by_cases e14 : ix = 152
    · subst e14; cases h; exact ⟨_, List.mem_of_getElem? (i := 96) rfl⟩
    rw [show Nat.beq ix 152 = false from (by cases hb : Nat.beq ix 152 with | false => rfl | true => exact absurd (Nat.eq_of_beq_eq_true hb) e14)] at h
    by_cases e15 : ix = 157
    · subst e15; cases h; exact ⟨_, List.mem_of_getElem? (i := 97) rfl⟩
    rw [show Nat.beq ix 157 = false from (by cases hb : Nat.beq ix 157 with | false => rfl | true => exact absurd (Nat.eq_of_beq_eq_true hb) e15)] at h
    by_cases e16 : ix = 160
    · subst e16; cases h; exact ⟨_, List.mem_of_getElem? (i := 98) rfl⟩
    rw [show Nat.beq ix 160 = false from (by cases hb : Nat.beq ix 160 with | false => rfl | true => exact absurd (Nat.eq_of_beq_eq_true hb) e16)] at h
    by_cases e17 : ix = 163
    · subst e17; cases h; exact ⟨_, List.mem_of_getElem? (i := 99) rfl⟩
    rw [show Nat.beq ix 163 = false from (by cases hb : Nat.beq ix 163 with | false => rfl | true => exact absurd (Nat.eq_of_beq_eq_true hb) e17)] at h
    by_cases e18 : ix = 166
    · subst e18; cases h; exact ⟨_, List.mem_of_getElem? (i := 100) rfl⟩
    rw [show Nat.beq ix 166 = false from (by cases hb : Nat.beq ix 166 with | false => rfl | true => exact absurd (Nat.eq_of_beq_eq_true hb) e18)] at h
    by_cases e19 : ix = 171
    · subst e19; cases h; exact ⟨_, List.mem_of_getElem? (i := 101) rfl⟩
    rw [show Nat.beq ix 171 = false from (by cases hb : Nat.beq ix 171 with | false => rfl | true => exact absurd (Nat.eq_of_beq_eq_true hb) e19)] at h
    by_cases e20 : ix = 175
    · subst e20; cases h; exact ⟨_, List.mem_of_getElem? (i := 102) rfl⟩
    rw [show Nat.beq ix 175 = false from (by cases hb : Nat.beq ix 175 with | false => rfl | true => exact absurd (Nat.eq_of_beq_eq_true hb) e20)] at h
    by_cases e21 : ix = 182
    · subst e21; cases h; exact ⟨_, List.mem_of_getElem? (i := 103) rfl⟩
    rw [show Nat.beq ix 182 = false from (by cases hb : Nat.beq ix 182 with | false => rfl | true => exact absurd (Nat.eq_of_beq_eq_true hb) e21)] at h
    by_cases e22 : ix = 185
    · subst e22; cases h; exact ⟨_, List.mem_of_getElem? (i := 104) rfl⟩
    rw [show Nat.beq ix 185 = false from (by cases hb : Nat.beq ix 185 with | false => rfl | true => exact absurd (Nat.eq_of_beq_eq_true hb) e22)] at h
    by_cases e23 : ix = 188
    · subst e23; cases h; exact ⟨_, List.mem_of_getElem? (i := 105) rfl⟩
    rw [show Nat.beq ix 188 = false from (by cases hb : Nat.beq ix 188 with | false => rfl | true => exact absurd (Nat.eq_of_beq_eq_true hb) e23)] at h
    by_cases e24 : ix = 191
    · subst e24; cases h; exact ⟨_, List.mem_of_getElem? (i := 106) rfl⟩
    rw [show Nat.beq ix 191 = false from (by cases hb : Nat.beq ix 191 with | false => rfl | true => exact absurd (Nat.eq_of_beq_eq_true hb) e24)] at h
    by_cases e25 : ix = 194
    · subst e25; cases h; exact ⟨_, List.mem_of_getElem? (i := 107) rfl⟩
    rw [show Nat.beq ix 194 = false from (by cases hb : Nat.beq ix 194 with | false => rfl | true => exact absurd (Nat.eq_of_beq_eq_true hb) e25)] at h
    by_cases e26 : ix = 200
    · subst e26; cases h; exact ⟨_, List.mem_of_getElem? (i := 108) rfl⟩
    rw [show Nat.beq ix 200 = false from (by cases hb : Nat.beq ix 200 with | false => rfl | true => exact absurd (Nat.eq_of_beq_eq_true hb) e26)] at h
    by_cases e27 : ix = 203
    · subst e27; cases h; exact ⟨_, List.mem_of_getElem? (i := 109) rfl⟩
    rw [show Nat.beq ix 203 = false from (by cases hb : Nat.beq ix 203 with | false => rfl | true => exact absurd (Nat.eq_of_beq_eq_true hb) e27)] at h
    by_cases e28 : ix = 206
    · subst e28; cases h; exact ⟨_, List.mem_of_getElem? (i := 110) rfl⟩
    rw [show Nat.beq ix 206 = false from (by cases hb : Nat.beq ix 206 with | false => rfl | true => exact absurd (Nat.eq_of_beq_eq_true hb) e28)] at h
    by_cases e29 : ix = 209
    · subst e29; cases h; exact ⟨_, List.mem_of_getElem? (i := 111) rfl⟩
    rw [show Nat.beq ix 209 = false from (by cases hb : Nat.beq ix 209 with | false => rfl | true => exact absurd (Nat.eq_of_beq_eq_true hb) e29)] at h
    by_cases e30 : ix = 212
    · subst e30; cases h; exact ⟨_, List.mem_of_getElem? (i := 112) rfl⟩
    rw [show Nat.beq ix 212 = false from (by cases hb : Nat.beq ix 212 with | false => rfl | true => exact absurd (Nat.eq_of_beq_eq_true hb) e30)] at h
    cases h
  | 11, _ =>
    have h : (bif Nat.beq ix 7 then (some 0) else (bif Nat.beq ix 15 then (some 1) else (bif Nat.beq ix 21 then (some 2) else (bif Nat.beq ix 25 then (some 3) else (bif Nat.beq ix 28 then (some 4) else (bif Nat.beq ix 31 then (some 5) else (bif Nat.beq ix 34 then (some 6) else (bif Nat.beq ix 37 then (some 7) else (bif Nat.beq ix 41 then (some 8) else (bif Nat.beq ix 45 then (some 9) else (bif Nat.beq ix 49 then (some 10) else (bif Nat.beq ix 52 then (some 11) else (bif Nat.beq ix 55 then (some 12) else (bif Nat.beq ix 58 then (some 13) else (bif Nat.beq ix 61 then (some 14) else (bif Nat.beq ix 65 then (some 15) else (bif Nat.beq ix 68 then (some 16) else (bif Nat.beq ix 73 then (some 17) else (bif Nat.beq ix 80 then (some 128) else (bif Nat.beq ix 85 then (some 82) else (bif Nat.beq ix 86 then (some 78) else (bif Nat.beq ix 89 then (some 129) else (bif Nat.beq ix 92 then (some 83) else (bif Nat.beq ix 93 then (some 130) else (bif Nat.beq ix 96 then (some 89) else (bif Nat.beq ix 97 then (some 131) else (bif Nat.beq ix 99 then (some 88) else (bif Nat.beq ix 100 then (some 132) else (bif Nat.beq ix 102 then (some 90) else (bif Nat.beq ix 103 then (some 133) else (bif Nat.beq ix 105 then (some 91) else (bif Nat.beq ix 106 then (some 134) else (bif Nat.beq ix 108 then (some 105) else (bif Nat.beq ix 109 then (some 135) else (bif Nat.beq ix 112 then (some 107) else (bif Nat.beq ix 113 then (some 136) else (bif Nat.beq ix 115 then (some 108) else (bif Nat.beq ix 116 then (some 137) else (bif Nat.beq ix 118 then (some 109) else (bif Nat.beq ix 119 then (some 138) else (bif Nat.beq ix 121 then (some 111) else (bif Nat.beq ix 122 then (some 139) else (bif Nat.beq ix 124 then (some 112) else (bif Nat.beq ix 125 then (some 140) else (bif Nat.beq ix 127 then (some 117) else (bif Nat.beq ix 128 then (some 141) else (bif Nat.beq ix 130 then (some 118) else (bif Nat.beq ix 131 then (some 142) else (bif Nat.beq ix 134 then (some 119) else (bif Nat.beq ix 135 then (some 143) else (bif Nat.beq ix 137 then (some 125) else (bif Nat.beq ix 138 then (some 144) else (bif Nat.beq ix 140 then (some 126) else (bif Nat.beq ix 141 then (some 145) else (bif Nat.beq ix 143 then (some 127) else (none)))))))))))))))))))))))))))))))))))))))))))))))))))))))) = some z := h
    by_cases e0 : ix = 7
    · subst e0; cases h; exact ⟨_, List.mem_of_getElem? (i := 113) rfl⟩
    rw [show Nat.beq ix 7 = false from (by cases hb : Nat.beq ix 7 with | false => rfl | true => exact absurd (Nat.eq_of_beq_eq_true hb) e0)] at h
    by_cases e1 : ix = 15
    · subst e1; cases h; exact ⟨_, List.mem_of_getElem? (i := 114) rfl⟩
    rw [show Nat.beq ix 15 = false from (by cases hb : Nat.beq ix 15 with | false => rfl | true => exact absurd (Nat.eq_of_beq_eq_true hb) e1)] at h
    by_cases e2 : ix = 21
    · subst e2; cases h; exact ⟨_, List.mem_of_getElem? (i := 115) rfl⟩
    rw [show Nat.beq ix 21 = false from (by cases hb : Nat.beq ix 21 with | false => rfl | true => exact absurd (Nat.eq_of_beq_eq_true hb) e2)] at h
    by_cases e3 : ix = 25
    · subst e3; cases h; exact ⟨_, List.mem_of_getElem? (i := 116) rfl⟩
    rw [show Nat.beq ix 25 = false from (by cases hb : Nat.beq ix 25 with | false => rfl | true => exact absurd (Nat.eq_of_beq_eq_true hb) e3)] at h
    by_cases e4 : ix = 28
    · subst e4; cases h; exact ⟨_, List.mem_of_getElem? (i := 117) rfl⟩
    rw [show Nat.beq ix 28 = false from (by cases hb : Nat.beq ix 28 with | false => rfl | true => exact absurd (Nat.eq_of_beq_eq_true hb) e4)] at h
    by_cases e5 : ix = 31
    · subst e5; cases h; exact ⟨_, List.mem_of_getElem? (i := 118) rfl⟩
    rw [show Nat.beq ix 31 = false from (by cases hb : Nat.beq ix 31 with | false => rfl | true => exact absurd (Nat.eq_of_beq_eq_true hb) e5)] at h
    by_cases e6 : ix = 34
    · subst e6; cases h; exact ⟨_, List.mem_of_getElem? (i := 119) rfl⟩
    rw [show Nat.beq ix 34 = false from (by cases hb : Nat.beq ix 34 with | false => rfl | true => exact absurd (Nat.eq_of_beq_eq_true hb) e6)] at h
    by_cases e7 : ix = 37
    · subst e7; cases h; exact ⟨_, List.mem_of_getElem? (i := 120) rfl⟩
    rw [show Nat.beq ix 37 = false from (by cases hb : Nat.beq ix 37 with | false => rfl | true => exact absurd (Nat.eq_of_beq_eq_true hb) e7)] at h
    by_cases e8 : ix = 41
    · subst e8; cases h; exact ⟨_, List.mem_of_getElem? (i := 121) rfl⟩
    rw [show Nat.beq ix 41 = false from (by cases hb : Nat.beq ix 41 with | false => rfl | true => exact absurd (Nat.eq_of_beq_eq_true hb) e8)] at h
    by_cases e9 : ix = 45
    · subst e9; cases h; exact ⟨_, List.mem_of_getElem? (i := 122) rfl⟩
    rw [show Nat.beq ix 45 = false from (by cases hb : Nat.beq ix 45 with | false => rfl | true => exact absurd (Nat.eq_of_beq_eq_true hb) e9)] at h
    by_cases e10 : ix = 49
    · subst e10; cases h; exact ⟨_, List.mem_of_getElem? (i := 123) rfl⟩
    rw [show Nat.beq ix 49 = false from (by cases hb : Nat.beq ix 49 with | false => rfl | true => exact absurd (Nat.eq_of_beq_eq_true hb) e10)] at h
    by_cases e11 : ix = 52
    · subst e11; cases h; exact ⟨_, List.mem_of_getElem? (i := 124) rfl⟩
    rw [show Nat.beq ix 52 = false from (by cases hb : Nat.beq ix 52 with | false => rfl | true => exact absurd (Nat.eq_of_beq_eq_true hb) e11)] at h
    by_cases e12 : ix = 55
    · subst e12; cases h; exact ⟨_, List.mem_of_getElem? (i := 125) rfl⟩
    rw [show Nat.beq ix 55 = false from (by cases hb : Nat.beq ix 55 with | false => rfl | true => exact absurd (Nat.eq_of_beq_eq_true hb) e12)] at h
    by_cases e13 : ix = 58
    · subst e13; cases h; exact ⟨_, List.mem_of_getElem? (i := 126) rfl⟩
    rw [show Nat.beq ix 58 = false from (by cases hb : Nat.beq ix 58 with | false => rfl | true => exact absurd (Nat.eq_of_beq_eq_true hb) e13)] at h
    by_cases e14 : ix = 61
    · subst e14; cases h; exact ⟨_, List.mem_of_getElem? (i := 127) rfl⟩
    rw [show Nat.beq ix 61 = false from (by cases hb : Nat.beq ix 61 with | false => rfl | true => exact absurd (Nat.eq_of_beq_eq_true hb) e14)] at h
    by_cases e15 : ix = 65
    · subst e15; cases h; exact ⟨_, List.mem_of_getElem? (i := 128) rfl⟩
    rw [show Nat.beq ix 65 = false from (by cases hb : Nat.beq ix 65 with | false => rfl | true => exact absurd (Nat.eq_of_beq_eq_true hb) e15)] at h
    by_cases e16 : ix = 68
    · subst e16; cases h; exact ⟨_, List.mem_of_getElem? (i := 129) rfl⟩
    rw [show Nat.beq ix 68 = false from (by cases hb : Nat.beq ix 68 with | false => rfl | true => exact absurd (Nat.eq_of_beq_eq_true hb) e16)] at h
    by_cases e17 : ix = 73
    · subst e17; cases h; exact ⟨_, List.mem_of_getElem? (i := 130) rfl⟩
    rw [show Nat.beq ix 73 = false from (by cases hb : Nat.beq ix 73 with | false => rfl | true => exact absurd (Nat.eq_of_beq_eq_true hb) e17)] at h
    by_cases e18 : ix = 80
    · subst e18; cases h; exact ⟨_, List.mem_of_getElem? (i := 131) rfl⟩
    rw [show Nat.beq ix 80 = false from (by cases hb : Nat.beq ix 80 with | false => rfl | true => exact absurd (Nat.eq_of_beq_eq_true hb) e18)] at h
    by_cases e19 : ix = 85
    · subst e19; cases h; exact ⟨_, List.mem_of_getElem? (i := 132) rfl⟩
    rw [show Nat.beq ix 85 = false from (by cases hb : Nat.beq ix 85 with | false => rfl | true => exact absurd (Nat.eq_of_beq_eq_true hb) e19)] at h
    by_cases e20 : ix = 86
    · subst e20; cases h; exact ⟨_, List.mem_of_getElem? (i := 133) rfl⟩
    rw [show Nat.beq ix 86 = false from (by cases hb : Nat.beq ix 86 with | false => rfl | true => exact absurd (Nat.eq_of_beq_eq_true hb) e20)] at h
    by_cases e21 : ix = 89
    · subst e21; cases h; exact ⟨_, List.mem_of_getElem? (i := 134) rfl⟩
    rw [show Nat.beq ix 89 = false from (by cases hb : Nat.beq ix 89 with | false => rfl | true => exact absurd (Nat.eq_of_beq_eq_true hb) e21)] at h
    by_cases e22 : ix = 92
    · subst e22; cases h; exact ⟨_, List.mem_of_getElem? (i := 135) rfl⟩
    rw [show Nat.beq ix 92 = false from (by cases hb : Nat.beq ix 92 with | false => rfl | true => exact absurd (Nat.eq_of_beq_eq_true hb) e22)] at h
    by_cases e23 : ix = 93
    · subst e23; cases h; exact ⟨_, List.mem_of_getElem? (i := 136) rfl⟩
    rw [show Nat.beq ix 93 = false from (by cases hb : Nat.beq ix 93 with | false => rfl | true => exact absurd (Nat.eq_of_beq_eq_true hb) e23)] at h
    by_cases e24 : ix = 96
    · subst e24; cases h; exact ⟨_, List.mem_of_getElem? (i := 137) rfl⟩
    rw [show Nat.beq ix 96 = false from (by cases hb : Nat.beq ix 96 with | false => rfl | true => exact absurd (Nat.eq_of_beq_eq_true hb) e24)] at h
    by_cases e25 : ix = 97
    · subst e25; cases h; exact ⟨_, List.mem_of_getElem? (i := 138) rfl⟩
    rw [show Nat.beq ix 97 = false from (by cases hb : Nat.beq ix 97 with | false => rfl | true => exact absurd (Nat.eq_of_beq_eq_true hb) e25)] at h
    by_cases e26 : ix = 99
    · subst e26; cases h; exact ⟨_, List.mem_of_getElem? (i := 139) rfl⟩
    rw [show Nat.beq ix 99 = false from (by cases hb : Nat.beq ix 99 with | false => rfl | true => exact absurd (Nat.eq_of_beq_eq_true hb) e26)] at h
    by_cases e27 : ix = 100
    · subst e27; cases h; exact ⟨_, List.mem_of_getElem? (i := 140) rfl⟩
    rw [show Nat.beq ix 100 = false from (by cases hb : Nat.beq ix 100 with | false => rfl | true => exact absurd (Nat.eq_of_beq_eq_true hb) e27)] at h
    by_cases e28 : ix = 102
    · subst e28; cases h; exact ⟨_, List.mem_of_getElem? (i := 141) rfl⟩
    rw [show Nat.beq ix 102 = false from (by cases hb : Nat.beq ix 102 with | false => rfl | true => exact absurd (Nat.eq_of_beq_eq_true hb) e28)] at h
    by_cases e29 : ix = 103
    · subst e29; cases h; exact ⟨_, List.mem_of_getElem? (i := 142) rfl⟩
    rw [show Nat.beq ix 103 = false from (by cases hb : Nat.beq ix 103 with | false => rfl | true => exact absurd (Nat.eq_of_beq_eq_true hb) e29)] at h
    by_cases e30 : ix = 105
    · subst e30; cases h; exact ⟨_, List.mem_of_getElem? (i := 143) rfl⟩
    rw [show Nat.beq ix 105 = false from (by cases hb : Nat.beq ix 105 with | false => rfl | true => exact absurd (Nat.eq_of_beq_eq_true hb) e30)] at h
    by_cases e31 : ix = 106
    · subst e31; cases h; exact ⟨_, List.mem_of_getElem? (i := 144) rfl⟩
    rw [show Nat.beq ix 106 = false from (by cases hb : Nat.beq ix 106 with | false => rfl | true => exact absurd (Nat.eq_of_beq_eq_true hb) e31)] at h
    by_cases e32 : ix = 108
    · subst e32; cases h; exact ⟨_, List.mem_of_getElem? (i := 145) rfl⟩
    rw [show Nat.beq ix 108 = false from (by cases hb : Nat.beq ix 108 with | false => rfl | true => exact absurd (Nat.eq_of_beq_eq_true hb) e32)] at h
    by_cases e33 : ix = 109
    · subst e33; cases h; exact ⟨_, List.mem_of_getElem? (i := 146) rfl⟩
    rw [show Nat.beq ix 109 = false from (by cases hb : Nat.beq ix 109 with | false => rfl | true => exact absurd (Nat.eq_of_beq_eq_true hb) e33)] at h
    by_cases e34 : ix = 112
    · subst e34; cases h; exact ⟨_, List.mem_of_getElem? (i := 147) rfl⟩
    rw [show Nat.beq ix 112 = false from (by cases hb : Nat.beq ix 112 with | false => rfl | true => exact absurd (Nat.eq_of_beq_eq_true hb) e34)] at h
    by_cases e35 : ix = 113
    · subst e35; cases h; exact ⟨_, List.mem_of_getElem? (i := 148) rfl⟩
    rw [show Nat.beq ix 113 = false from (by cases hb : Nat.beq ix 113 with | false => rfl | true => exact absurd (Nat.eq_of_beq_eq_true hb) e35)] at h
    by_cases e36 : ix = 115
    · subst e36; cases h; exact ⟨_, List.mem_of_getElem? (i := 149) rfl⟩
    rw [show Nat.beq ix 115 = false from (by cases hb : Nat.beq ix 115 with | false => rfl | true => exact absurd (Nat.eq_of_beq_eq_true hb) e36)] at h
    by_cases e37 : ix = 116
    · subst e37; cases h; exact ⟨_, List.mem_of_getElem? (i := 150) rfl⟩
    rw [show Nat.beq ix 116 = false from (by cases hb : Nat.beq ix 116 with | false => rfl | true => exact absurd (Nat.eq_of_beq_eq_true hb) e37)] at h
    by_cases e38 : ix = 118
    · subst e38; cases h; exact ⟨_, List.mem_of_getElem? (i := 151) rfl⟩
    rw [show Nat.beq ix 118 = false from (by cases hb : Nat.beq ix 118 with | false => rfl | true => exact absurd (Nat.eq_of_beq_eq_true hb) e38)] at h
    by_cases e39 : ix = 119
    · subst e39; cases h; exact ⟨_, List.mem_of_getElem? (i := 152) rfl⟩
    rw [show Nat.beq ix 119 = false from (by cases hb : Nat.beq ix 119 with | false => rfl | true => exact absurd (Nat.eq_of_beq_eq_true hb) e39)] at h
    by_cases e40 : ix = 121
    · subst e40; cases h; exact ⟨_, List.mem_of_getElem? (i := 153) rfl⟩
    rw [show Nat.beq ix 121 = false from (by cases hb : Nat.beq ix 121 with | false => rfl | true => exact absurd (Nat.eq_of_beq_eq_true hb) e40)] at h
    by_cases e41 : ix = 122
    · subst e41; cases h; exact ⟨_, List.mem_of_getElem? (i := 154) rfl⟩
    rw [show Nat.beq ix 122 = false from (by cases hb : Nat.beq ix 122 with | false => rfl | true => exact absurd (Nat.eq_of_beq_eq_true hb) e41)] at h
    by_cases e42 : ix = 124
    · subst e42; cases h; exact ⟨_, List.mem_of_getElem? (i := 155) rfl⟩
    rw [show Nat.beq ix 124 = false from (by cases hb : Nat.beq ix 124 with | false => rfl | true => exact absurd (Nat.eq_of_beq_eq_true hb) e42)] at h
    by_cases e43 : ix = 125
    · subst e43; cases h; exact ⟨_, List.mem_of_getElem? (i := 156) rfl⟩
    rw [show Nat.beq ix 125 = false from (by cases hb : Nat.beq ix 125 with | false => rfl | true => exact absurd (Nat.eq_of_beq_eq_true hb) e43)] at h
    by_cases e44 : ix = 127
    · subst e44; cases h; exact ⟨_, List.mem_of_getElem? (i := 157) rfl⟩
    rw [show Nat.beq ix 127 = false from (by cases hb : Nat.beq ix 127 with | false => rfl | true => exact absurd (Nat.eq_of_beq_eq_true hb) e44)] at h
    by_cases e45 : ix = 128
    · subst e45; cases h; exact ⟨_, List.mem_of_getElem? (i := 158) rfl⟩
    rw [show Nat.beq ix 128 = false from (by cases hb : Nat.beq ix 128 with | false => rfl | true => exact absurd (Nat.eq_of_beq_eq_true hb) e45)] at h
    by_cases e46 : ix = 130
    · subst e46; cases h; exact ⟨_, List.mem_of_getElem? (i := 159) rfl⟩
    rw [show Nat.beq ix 130 = false from (by cases hb : Nat.beq ix 130 with | false => rfl | true => exact absurd (Nat.eq_of_beq_eq_true hb) e46)] at h
    by_cases e47 : ix = 131
    · subst e47; cases h; exact ⟨_, List.mem_of_getElem? (i := 160) rfl⟩
    rw [show Nat.beq ix 131 = false from (by cases hb : Nat.beq ix 131 with | false => rfl | true => exact absurd (Nat.eq_of_beq_eq_true hb) e47)] at h
    by_cases e48 : ix = 134
    · subst e48; cases h; exact ⟨_, List.mem_of_getElem? (i := 161) rfl⟩
    rw [show Nat.beq ix 134 = false from (by cases hb : Nat.beq ix 134 with | false => rfl | true => exact absurd (Nat.eq_of_beq_eq_true hb) e48)] at h
    by_cases e49 : ix = 135
    · subst e49; cases h; exact ⟨_, List.mem_of_getElem? (i := 162) rfl⟩
    rw [show Nat.beq ix 135 = false from (by cases hb : Nat.beq ix 135 with | false => rfl | true => exact absurd (Nat.eq_of_beq_eq_true hb) e49)] at h
    by_cases e50 : ix = 137
    · subst e50; cases h; exact ⟨_, List.mem_of_getElem? (i := 163) rfl⟩
    rw [show Nat.beq ix 137 = false from (by cases hb : Nat.beq ix 137 with | false => rfl | true => exact absurd (Nat.eq_of_beq_eq_true hb) e50)] at h
    by_cases e51 : ix = 138
    · subst e51; cases h; exact ⟨_, List.mem_of_getElem? (i := 164) rfl⟩
    rw [show Nat.beq ix 138 = false from (by cases hb : Nat.beq ix 138 with | false => rfl | true => exact absurd (Nat.eq_of_beq_eq_true hb) e51)] at h
    by_cases e52 : ix = 140
    · subst e52; cases h; exact ⟨_, List.mem_of_getElem? (i := 165) rfl⟩
    rw [show Nat.beq ix 140 = false from (by cases hb : Nat.beq ix 140 with | false => rfl | true => exact absurd (Nat.eq_of_beq_eq_true hb) e52)] at h
    by_cases e53 : ix = 141
    · subst e53; cases h; exact ⟨_, List.mem_of_getElem? (i := 166) rfl⟩
    rw [show Nat.beq ix 141 = false from (by cases hb : Nat.beq ix 141 with | false => rfl | true => exact absurd (Nat.eq_of_beq_eq_true hb) e53)] at h
    by_cases e54 : ix = 143
    · subst e54; cases h; exact ⟨_, List.mem_of_getElem? (i := 167) rfl⟩
    rw [show Nat.beq ix 143 = false from (by cases hb : Nat.beq ix 143 with | false => rfl | true => exact absurd (Nat.eq_of_beq_eq_true hb) e54)] at h
    cases h
  | 12, _ =>
    cases h
  | 13, _ =>
    cases h
theorem tf_inv_l {oc ix z : Nat} (h : tf_inv oc ix = some z) (hz : tf_ok z = true) : Cond.methodLink (tf_cn oc) ix (tf_nm z) ∈ tf_gt ∨ ∃ host, Cond.methodLinkNest (tf_cn oc) ix (tf_nm z) host ∈ tf_nt := by
  obtain ⟨k, hk⟩ := tf_invM h
  have h1 := List.all_eq_true.mp tf_ickL _ hk
  unfold tf_ick at h1
  have h9 : Nat.ble 900 z = false := by
    cases hb : Nat.ble 900 z with
    | false => rfl
    | true =>
      have a := Nat.le_of_ble_eq_true hb
      have b : z < 152 := Nat.le_of_ble_eq_true hz
      omega
  rw [h9] at h1
  cases hb : Nat.beq k.1 0 with
  | true =>
    rw [hb] at h1
    exact Or.inl (tf_g _ (of_decide_eq_true h1) rfl)
  | false =>
    rw [hb] at h1
    exact Or.inr ⟨_, List.mem_of_getElem? (of_decide_eq_true h1)⟩
theorem tf_inv_v {oc ix z : Nat} (h : tf_inv oc ix = some z) (hv : tf_vi z = true) (hz : tf_ok z = true) : (Cond.methodLink (tf_cn oc) ix (tf_nm z) ∈ tf_gt ∨ ∃ host, Cond.methodLinkNest (tf_cn oc) ix (tf_nm z) host ∈ tf_nt) ∧ Cond.instanceMethod (tf_nm z) ∈ tf_gt ∧ Cond.selects (tf_cn (tf_oc z)) (tf_nm z) (tf_nm z) ∈ tf_gt :=
  ⟨tf_inv_l h hz, ((tf_y1 hz).2.2.2.2.2.2.1 hv).2⟩
theorem tf_inv_s {oc ix z : Nat} (h : tf_inv oc ix = some z) (hv : tf_vi z = false) (hz : tf_ok z = true) : (Cond.methodLink (tf_cn oc) ix (tf_nm z) ∈ tf_gt ∨ ∃ host, Cond.methodLinkNest (tf_cn oc) ix (tf_nm z) host ∈ tf_nt) ∧ Cond.static (tf_nm z) ∈ tf_gt :=
  ⟨tf_inv_l h hz, (tf_y1 hz).2.2.2.2.2.2.2 hv⟩
