-- PART 73a: each word of the names stands in the tables, or follows from them (places counted by gen/idx.py)
theorem mem_of_idx {α : Type} {big ws : List α} (ps : List Nat) (h : ws = ps.filterMap (fun i => big[i]?)) : ∀ w ∈ ws, w ∈ big := by
  subst h
  intro w hw
  obtain ⟨i, -, hi⟩ := List.mem_filterMap.mp hw
  exact List.mem_of_getElem? hi
/-- private methods of the superclass, named through it: the tables have no word for them, they follow from a public one's -/
def selW : List Cond := [Cond.selects RJ4 ⟨"java/lang/AbstractStringBuilder", "appendNull", "()Ljava/lang/AbstractStringBuilder;"⟩ yJ5_appendNull_278bc, Cond.selects RJ4 ⟨"java/lang/AbstractStringBuilder", "ensureCapacityInternal", "(I)V"⟩ yJ5_ensureCapacityInternal_d00df, Cond.selects RJ4 ⟨"java/lang/AbstractStringBuilder", "newCapacity", "(I)I"⟩ yJ5_newCapacity_0f7a4, Cond.selects RJ4 ⟨"java/lang/AbstractStringBuilder", "putStringAt", "(ILjava/lang/String;)V"⟩ yJ5_putStringAt_47b60, Cond.selects RJ4 ⟨"java/lang/AbstractStringBuilder", "inflateIfNeededFor", "(Ljava/lang/String;)V"⟩ yJ5_inflateIfNeededFor_a7421, Cond.selects RJ4 ⟨"java/lang/AbstractStringBuilder", "inflate", "()V"⟩ yJ5_inflate_da8c8]
def lw_tb2 : List Cond := selW ++ lw_tbl
theorem sel_priv {C : String} {y z : MethodName} {s : State} {args : Array Value} (hy : y.cls ≠ "java/lang/invoke/MethodHandle" ∧ y.cls ≠ "java/lang/invoke/VarHandle") (hz : z.cls = y.cls) (h0 : (Cond.selects C z z).before args s = true) (hp : (Cond.privateMethod y).before args s = true) (hi : (Cond.instanceMethod y).before args s = true) : (Cond.selects C y y).before args s = true := by
  obtain ⟨c, r, m, hc, hr, hm, hs, k, hk, hni⟩ := Cond.selects_spec h0
  obtain ⟨mk, methM, hnamed, hmethM, -, -⟩ := Cond.instanceMethod_spec hi
  have hfound : s.methodFound? y.cls y.name y.desc = some mk := State.methodFound?_of_named hnamed hy
  have hcls : mk.cls = m.cls := Option.some.inj ((findClass_of_methodNamed hnamed).symm.trans (hz ▸ findClass_of_methodNamed hm))
  have hsel : selectMethod {} s.vm c mk = .method mk := selectMethod_private hmethM (Cond.privateMethod_at hp mk methM hnamed hmethM)
  simp only [Cond.before, Cond.holds, Cond.value, hc, hfound, hnamed, hsel, hcls, hk]
  simp
  exact hni
theorem mem_app3 {α : Type} {big l1 l2 : List α} {c : α} (h1 : ∀ w ∈ l1, w ∈ big) (hc : c ∈ big) (h2 : ∀ w ∈ l2, w ∈ big) : ∀ w ∈ l1 ++ c :: l2, w ∈ big := List.forall_mem_append.mpr ⟨h1, List.forall_mem_cons.mpr ⟨hc, h2⟩⟩
theorem in_r1 : ∀ w ∈ wsL_law_r1, w ∈ lw_tb2 := mem_of_idx [113, 1210, 50, 51, 29, 52, 53, 54, 55, 56, 57, 58, 59, 30, 331, 214, 215, 34, 332, 234, 235, 35, 333, 250] (by decide +kernel)
theorem in_r2 : ∀ w ∈ wsL_law_r2, w ∈ lw_tb2 := mem_of_idx [251, 36, 334, 301, 279, 335, 303, 336, 312, 263, 38, 337, 338, 61, 62, 63, 181, 184, 64, 65, 31, 187, 114, 115] (by decide +kernel)
theorem in_r3 : ∀ w ∈ wsL_law_r3, w ∈ lw_tb2 := mem_of_idx [32, 190, 156, 157, 33, 193, 67, 68, 69, 70, 73, 75, 78, 81, 84, 88, 89, 117, 118, 119, 120, 123, 126, 129] (by decide +kernel)
theorem in_r4 : ∀ w ∈ wsL_law_r4, w ∈ lw_tb2 := mem_of_idx [132, 159, 160, 161, 162, 163, 164, 216, 217, 218, 219, 220, 223, 236, 237, 238, 239, 240, 242, 249, 243, 253, 254, 255] (by decide +kernel)
theorem in_r5 : ∀ w ∈ wsL_law_r5, w ∈ lw_tb2 := mem_of_idx [256, 257, 37, 300, 298, 302, 259, 260, 261, 262, 278, 264, 265, 266, 267, 277, 268, 313, 314, 315, 316, 317, 319, 320] (by decide +kernel)
theorem in_r6 : ∀ w ∈ wsL_law_r6, w ∈ lw_tb2 := mem_of_idx [321, 322, 323, 324, 90, 326, 327, 328, 329, 135, 138, 560, 561, 562, 563, 226, 564, 565, 566, 567, 225, 224, 568, 521] (by decide +kernel)
theorem in_r7 : ∀ w ∈ wsL_law_r7, w ∈ lw_tb2 := mem_of_idx [522, 523, 195, 197, 525, 526, 527, 528, 39, 529, 530, 532, 531, 40, 533, 534, 535, 536, 538, 539, 540, 541, 543, 544] (by decide +kernel)
theorem in_r8 : ∀ w ∈ wsL_law_r8, w ∈ lw_tb2 := mem_of_idx [545, 546, 165, 167, 569, 570, 571, 572, 183, 186, 196, 189, 92, 192, 137, 198, 194, 169, 573, 484, 485, 574, 496, 497] (by decide +kernel)
theorem in_r9 : ∀ w ∈ wsL_law_r9, w ∈ lw_tb2 := mem_of_idx [575, 576, 577, 578, 579, 580, 581, 582, 583, 584, 585, 586, 587, 588, 589, 590, 591, 592, 593, 594, 604, 605, 606, 607] (by decide +kernel)
theorem in_r10 : ∀ w ∈ wsL_law_r10, w ∈ lw_tb2 := mem_of_idx [72, 595, 596, 597, 598, 599, 600, 601, 602, 603, 516, 517, 518, 715, 716, 717, 718, 520, 719, 721, 22, 722, 625, 626] (by decide +kernel)
theorem in_r11 : ∀ w ∈ wsL_law_r11, w ∈ lw_tb2 := mem_of_idx [627, 628, 136, 127, 133, 629, 630, 631, 632, 634, 636, 16, 637, 124, 638, 639, 641, 17, 642, 71, 643, 644, 645, 646] (by decide +kernel)
theorem in_r12 : ∀ w ∈ wsL_law_r12, w ∈ lw_tb2 := mem_of_idx [647, 648, 649, 650, 651, 653, 18, 654, 130, 79, 509, 510, 656, 658, 19, 659, 82, 660, 661, 662, 663, 664, 665, 666] (by decide +kernel)
theorem in_r13 : ∀ w ∈ wsL_law_r13, w ∈ lw_tb2 := mem_of_idx [667, 668, 670, 671, 672, 673, 675, 676, 677, 679, 20, 680, 87, 681, 682, 683, 684, 685, 686, 687, 688, 689, 690, 691] (by decide +kernel)
theorem in_r14 : ∀ w ∈ wsL_law_r14, w ∈ lw_tb2 := mem_of_idx [692, 121, 693, 694, 695, 696, 620, 621, 622, 623, 697, 698, 699, 700, 701, 702, 703, 704, 706, 707, 708, 709, 710, 712] (by decide +kernel)
set_option maxRecDepth 100000 in
theorem cm_15 : Cond.code yL_offices cL_offices 18 (some .boolean) ∈ lw_tb2 := List.mem_append_right selW (List.mem_append_right (k2_sels lw_privs) (List.mem_append_right _ (List.mem_append_right _ (List.mem_append_right _ (List.mem_append_right _ (List.mem_of_getElem? (i := 85) rfl))))))
theorem in_r15a : ∀ w ∈ ([Cond.selects RX6 yX6_stayWithoutToken yX6_stayWithoutToken, Cond.code yX6_stayWithoutToken cX6_stayWithoutToken 2 none, Cond.fieldLink RX6 75 "RingOffices$Tokens" "lastNumber" "I", Cond.methodLink RX6 190 yX2_openWithGreatestName, Cond.methodLink RL 144 yX9_comesIn, Cond.instanceMethod yX9_comesIn, Cond.selects RX9 yX9_comesIn yX9_comesIn, Cond.code yX9_comesIn cX9_comesIn 3 (some .int), Cond.methodLink RX9 98 yX2_has, Cond.instanceMethod yX2_has, Cond.selects RX2 yX2_has yX2_has, Cond.code yX2_has cX2_has 2 (some .boolean), Cond.methodLink RX9 237 yX8_standingAt, Cond.instanceMethod yX8_standingAt, Cond.selects RX8 yX8_standingAt yX8_standingAt, Cond.code yX8_standingAt cX8_standingAt 3 (some .int), Cond.methodLink RL 176 yL_offices, Cond.static yL_offices, Cond.initialized RL] : List Cond), w ∈ lw_tb2 := mem_of_idx [21, 713, 139, 714, 608, 609, 610, 611, 612, 613, 614, 615, 616, 617, 618, 619, 1071, 1072, 28] (by decide +kernel)
theorem in_r15b : ∀ w ∈ ([Cond.methodLink RL 93 yX9_busiest, Cond.instanceMethod yX9_busiest, Cond.selects RX9 yX9_busiest yX9_busiest, Cond.code yX9_busiest cX9_busiest 3 (some .int)] : List Cond), w ∈ lw_tb2 := mem_of_idx [1074, 1075, 1076, 1077] (by decide +kernel)
theorem in_r15 : ∀ w ∈ wsL_law_r15, w ∈ lw_tb2 := mem_app3 in_r15a cm_15 in_r15b
theorem in_r16 : ∀ w ∈ wsL_law_r16, w ∈ lw_tb2 := mem_of_idx [1049, 1045, 1046, 1047, 1048, 74, 77, 80, 86, 83, 1050, 1051, 1052, 1053, 1054, 1066, 1067, 1068, 1069, 122, 125, 128, 131, 134] (by decide +kernel)
theorem in_r17 : ∀ w ∈ wsL_law_r17, w ∈ lw_tb2 := mem_of_idx [1070, 1055, 1056, 1057, 1058, 760, 1059, 1060, 1061, 1062, 1063, 761, 1078, 1079, 1080, 1081, 753, 1082, 1083, 1084, 1085, 1086, 1087, 1088] (by decide +kernel)
set_option maxRecDepth 100000 in
theorem cm_18 : Cond.code yL_minutes cL_minutes 17 (some .boolean) ∈ lw_tb2 := List.mem_append_right selW (List.mem_append_right (k2_sels lw_privs) (List.mem_append_right _ (List.mem_append_right _ (List.mem_append_right _ (List.mem_append_right _ (List.mem_of_getElem? (i := 121) rfl))))))
theorem in_r18a : ∀ w ∈ ([Cond.instanceMethod yX0_remember, Cond.selects RX0 yX0_remember yX0_remember, Cond.code yX0_remember cX0_remember 2 none, Cond.methodLink RX0 22 yX0_copyTo, Cond.instanceMethod yX0_copyTo, Cond.selects RX0 yX0_copyTo yX0_copyTo, Cond.code yX0_copyTo cX0_copyTo 3 none, Cond.methodLink RX9 151 yX2_removeLetter, Cond.methodLink RX9 124 yX9_raise, Cond.methodLink RX9 132 yX1_add, Cond.methodLink RL 108 yX9_spoken, Cond.instanceMethod yX9_spoken, Cond.selects RX9 yX9_spoken yX9_spoken, Cond.code yX9_spoken cX9_spoken 1 (some .float), Cond.methodLink RL 112 yX9_meanLength, Cond.instanceMethod yX9_meanLength, Cond.selects RX9 yX9_meanLength yX9_meanLength, Cond.code yX9_meanLength cX9_meanLength 2 (some .double), Cond.methodLink RL 180 yL_minutes, Cond.static yL_minutes] : List Cond), w ∈ lw_tb2 := mem_of_idx [1089, 1090, 1091, 1092, 1094, 26, 1095, 1096, 1097, 1098, 1099, 1100, 1101, 1102, 1103, 1104, 1105, 1106, 1107, 1108] (by decide +kernel)
theorem in_r18b : ∀ w ∈ ([Cond.methodLink RL 116 yX9_ifPassed, Cond.instanceMethod yX9_ifPassed, Cond.selects RX9 yX9_ifPassed yX9_ifPassed] : List Cond), w ∈ lw_tb2 := mem_of_idx [1110, 1111, 1112] (by decide +kernel)
theorem in_r18 : ∀ w ∈ wsL_law_r18, w ∈ lw_tb2 := mem_app3 in_r18a cm_18 in_r18b
theorem in_r19 : ∀ w ∈ wsL_law_r19, w ∈ lw_tb2 := mem_of_idx [1113, 1114, 1115, 1116, 1117, 1119, 27, 1120, 1121, 1122, 1123, 1124, 1125, 1126, 1127, 1128, 1129, 1130, 1131, 477, 478, 1132, 1133, 1134] (by decide +kernel)
theorem in_r20 : ∀ w ∈ wsL_law_r20, w ∈ lw_tb2 := mem_of_idx [1135, 1136, 784, 785, 786, 787, 788, 42, 962, 790, 791, 792, 793, 794, 41, 795, 796, 798, 799, 910, 909, 797, 416, 417] (by decide +kernel)
