-- PART 73c: what the tables and the start give: the classes, the arrays, the strings, the tables of digits, the nest words
theorem wsL_law_in : ∀ w ∈ wsL_law, w ∈ lw_tb2 := (List.forall_mem_append.mpr ⟨(List.forall_mem_append.mpr ⟨(List.forall_mem_append.mpr ⟨(List.forall_mem_append.mpr ⟨(List.forall_mem_append.mpr ⟨(List.forall_mem_append.mpr ⟨(List.forall_mem_append.mpr ⟨(List.forall_mem_append.mpr ⟨(List.forall_mem_append.mpr ⟨(List.forall_mem_append.mpr ⟨(List.forall_mem_append.mpr ⟨(List.forall_mem_append.mpr ⟨(List.forall_mem_append.mpr ⟨(List.forall_mem_append.mpr ⟨in_r1, (List.forall_mem_append.mpr ⟨in_r2, (List.forall_mem_append.mpr ⟨in_r3, (List.forall_mem_append.mpr ⟨in_r4, (List.forall_mem_append.mpr ⟨in_r5, (List.forall_mem_append.mpr ⟨in_r6, (List.forall_mem_append.mpr ⟨in_r7, (List.forall_mem_append.mpr ⟨in_r8, (List.forall_mem_append.mpr ⟨in_r9, (List.forall_mem_append.mpr ⟨in_r10, (List.forall_mem_append.mpr ⟨in_r11, (List.forall_mem_append.mpr ⟨in_r12, (List.forall_mem_append.mpr ⟨in_r13, (List.forall_mem_append.mpr ⟨in_r14, (List.forall_mem_append.mpr ⟨in_r15, (List.forall_mem_append.mpr ⟨in_r16, (List.forall_mem_append.mpr ⟨in_r17, (List.forall_mem_append.mpr ⟨in_r18, (List.forall_mem_append.mpr ⟨in_r19, (List.forall_mem_append.mpr ⟨in_r20, (List.forall_mem_append.mpr ⟨in_r21, (List.forall_mem_append.mpr ⟨in_r22, (List.forall_mem_append.mpr ⟨in_r23, (List.forall_mem_append.mpr ⟨in_r24, (List.forall_mem_append.mpr ⟨in_r25, (List.forall_mem_append.mpr ⟨in_r26, (List.forall_mem_append.mpr ⟨in_r27, (List.forall_mem_append.mpr ⟨in_r28, (List.forall_mem_append.mpr ⟨in_r29, (List.forall_mem_append.mpr ⟨in_r30, (List.forall_mem_append.mpr ⟨in_r31, (List.forall_mem_append.mpr ⟨in_r32, (List.forall_mem_append.mpr ⟨in_r33, (List.forall_mem_append.mpr ⟨in_r34, (List.forall_mem_append.mpr ⟨in_r35, (List.forall_mem_append.mpr ⟨in_r36, (List.forall_mem_append.mpr ⟨in_r37, (List.forall_mem_append.mpr ⟨in_r38, (List.forall_mem_append.mpr ⟨in_r39, (List.forall_mem_append.mpr ⟨in_r40, (List.forall_mem_append.mpr ⟨in_r41, in_r42⟩)⟩)⟩)⟩)⟩)⟩)⟩)⟩)⟩)⟩)⟩)⟩)⟩)⟩)⟩)⟩)⟩)⟩)⟩)⟩)⟩)⟩)⟩)⟩)⟩)⟩)⟩)⟩)⟩)⟩)⟩)⟩)⟩)⟩)⟩)⟩)⟩)⟩)⟩)⟩)⟩), in_X9⟩), in_X6⟩), in_X0⟩), in_X5⟩), in_X4⟩), in_X3⟩), in_X7⟩), in_X2⟩), in_X8⟩), in_X1⟩), in_J4⟩), in_J0⟩), fun _ h => absurd h List.not_mem_nil⟩)
theorem nest_in : ∀ w ∈ nestW, w ∈ lw_tbl := by decide +kernel
def fG : List Cond := flatC (Cond.and given_1 narrow_1)
def strA : List (String × Nat) := [("RingOffices$Scanner", 73), ("RingOffices$Scanner", 75), ("RingOffices$Scanner", 77), ("RingOffices$Scanner", 79), ("RingOffices$Scanner", 81), ("RingOffices$Scanner", 83), ("RingOffices$Scanner", 85), ("RingOffices", 315), ("RingOffices", 321), ("RingOffices", 323), ("RingOffices", 336), ("RingOffices", 338), ("RingOffices", 340), ("RingOffices", 334), ("RingOfficesLaw", 50), ("RingOfficesLaw", 52)]
def tmS (i : Nat) : Term := Term.string ((strA.getD i ("", 0)).1) ((strA.getD i ("", 0)).2)
def exI : List Nat := [215, 224, 234, 245, 258, 270, 285, 300, 317, 336, 356, 377, 397, 420, 548, 576]
def neI : List (List Nat) := [[], [233], [243, 244], [255, 256, 257], [266, 267, 268, 269], [280, 281, 282, 283, 284], [294, 295, 296, 297, 298, 299], [310, 311, 312, 313, 314, 315, 316], [328, 329, 330, 331, 332, 333, 334, 335], [347, 348, 349, 350, 351, 352, 353, 354, 355], [367, 368, 369, 370, 371, 372, 373, 374, 375, 376], [386, 387, 388, 389, 390, 391, 392, 393, 394, 395, 396], [408, 409, 410, 411, 412, 413, 414, 415, 416, 417, 418, 419], [430, 431, 432, 433, 434, 435, 436, 437, 438, 439, 440, 441, 442], [558, 559, 560, 561, 562, 563, 564, 565, 566, 567, 568, 569, 570, 571], [581, 582, 583, 584, 585, 586, 587, 588, 589, 590, 591, 592, 593, 594, 599]]
theorem fg_ex : ∀ i, i < 16 → fG[exI.getD i 0]? = some (Cond.exactly (tmS i) "java/lang/String") := by decide +kernel
theorem fg_co : ∀ i, i < 16 → fG[exI.getD i 0 + 1]? = some (Cond.eq (.field (tmS i) "java/lang/String" "coder" "B") (.int 0)) := by decide +kernel
theorem fg_ar : ∀ i, i < 16 → fG[exI.getD i 0 + 2]? = some (Cond.arrayOf (.field (tmS i) "java/lang/String" "value" "[B") .byte) := by decide +kernel
theorem fg_le : ∀ i, i < 16 → fG[exI.getD i 0 + 3]? = some (Cond.eq (.length (.field (tmS i) "java/lang/String" "value" "[B")) (.int (Int32.ofNat (slen.getD i 0)))) := by decide +kernel
theorem fg_el : ∀ i, i < 16 → ∀ j, j < slen.getD i 0 → fG[exI.getD i 0 + 4 + j]? = some (Cond.eq (.elem (.field (tmS i) "java/lang/String" "value" "[B") (.int (Int32.ofNat j))) (.int ((sbyt.getD i []).getD j 0))) := by decide +kernel
theorem fg_ne : ∀ j, j < 16 → ∀ i, i < j → fG[(neI.getD j []).getD i 0]? = some (Cond.not (Cond.eq (tmS i) (tmS j))) := by decide +kernel
theorem fg_cs : fG[4]? = some (Cond.eq (Term.static "java/lang/String" "COMPACT_STRINGS" "Z") (.int 1)) := by decide +kernel
theorem fg_si : fG[5]? = some (Cond.isRef (Term.static "jdk/internal/util/Preconditions" "SIOOBE_FORMATTER" "Ljava/util/function/BiFunction;")) := by decide +kernel
theorem fg_a1 : fG[10]? = some (Cond.arrayOf (Term.static "java/lang/Integer" "DigitOnes" "[B") .byte) := by decide +kernel
theorem fg_l1 : fG[11]? = some (Cond.eq (.length (Term.static "java/lang/Integer" "DigitOnes" "[B")) (.int (Int32.ofNat 100))) := by decide +kernel
theorem fg_d1 : ∀ j, j < 100 → fG[12 + j]? = some (Cond.eq (.elem (Term.static "java/lang/Integer" "DigitOnes" "[B") (.int (Int32.ofNat j))) (.int (dg1 j))) := by decide +kernel
theorem fg_a10 : fG[113]? = some (Cond.arrayOf (Term.static "java/lang/Integer" "DigitTens" "[B") .byte) := by decide +kernel
theorem fg_l10 : fG[114]? = some (Cond.eq (.length (Term.static "java/lang/Integer" "DigitTens" "[B")) (.int (Int32.ofNat 100))) := by decide +kernel
theorem fg_d10 : ∀ j, j < 100 → fG[115 + j]? = some (Cond.eq (.elem (Term.static "java/lang/Integer" "DigitTens" "[B") (.int (Int32.ofNat j))) (.int (dg10 j))) := by decide +kernel
theorem fg_q29 : fG[460]? = some (Cond.eq (tmS 7) (Term.string "RingOfficesLaw" 29)) := by decide +kernel
theorem fg_q37 : fG[486]? = some (Cond.eq (tmS 8) (Term.string "RingOfficesLaw" 37)) := by decide +kernel
theorem fg_q42 : fG[513]? = some (Cond.eq (tmS 9) (Term.string "RingOfficesLaw" 42)) := by decide +kernel
theorem fg_q48 : fG[541]? = some (Cond.eq (tmS 10) (Term.string "RingOfficesLaw" 48)) := by decide +kernel
theorem fg_q54 : fG[623]? = some (Cond.eq (tmS 12) (Term.string "RingOfficesLaw" 54)) := by decide +kernel
theorem fg_q56 : fG[654]? = some (Cond.eq (tmS 13) (Term.string "RingOfficesLaw" 56)) := by decide +kernel
theorem tb_cs : Cond.laysStatic "java/lang/String" "COMPACT_STRINGS" "Z" ∈ lw_tbl := by decide +kernel
theorem tb_si : Cond.laysStatic "jdk/internal/util/Preconditions" "SIOOBE_FORMATTER" "Ljava/util/function/BiFunction;" ∈ lw_tbl := by decide +kernel
theorem tb_d1 : Cond.laysStatic "java/lang/Integer" "DigitOnes" "[B" ∈ lw_tbl := by decide +kernel
theorem tb_d10 : Cond.laysStatic "java/lang/Integer" "DigitTens" "[B" ∈ lw_tbl := by decide +kernel
theorem tb_is : Cond.initialized "java/lang/String" ∈ lw_tbl := by decide +kernel
theorem tb_ip : Cond.initialized "jdk/internal/util/Preconditions" ∈ lw_tbl := by decide +kernel
theorem tb_ii : Cond.initialized "java/lang/Integer" ∈ lw_tbl := by decide +kernel
theorem tb_ca : Cond.castable "[B" "java/lang/Cloneable" ∈ lw_tbl := by decide +kernel
theorem tb_ao : Cond.arrayOver (.object RX6) ∈ lw_tbl := by decide +kernel
theorem tb_sr : ∀ i, i < 14 → Cond.stringRef ((strT.getD i ("", 0, "")).1) ((strT.getD i ("", 0, "")).2.1) ((strT.getD i ("", 0, "")).2.2) ∈ lw_tbl := by decide +kernel
theorem tb_sl : ∀ q ∈ strL, Cond.stringRef RL q.1 q.2.1 ∈ lw_tbl := by decide +kernel
theorem tb_se : Cond.selects RJ4 ⟨"java/lang/AbstractStringBuilder", "isLatin1", "()Z"⟩ ⟨"java/lang/AbstractStringBuilder", "isLatin1", "()Z"⟩ ∈ lw_tbl := by decide +kernel
theorem tb_tA : ∀ i, i < 14 → tmS i = Term.string ((strT.getD i ("", 0, "")).1) ((strT.getD i ("", 0, "")).2.1) := by decide +kernel
theorem tp_appendNull : Cond.privateMethod yJ5_appendNull_278bc ∈ lw_tbl ∧ Cond.instanceMethod yJ5_appendNull_278bc ∈ lw_tbl := by decide +kernel
theorem tp_ensureCapacityInternal : Cond.privateMethod yJ5_ensureCapacityInternal_d00df ∈ lw_tbl ∧ Cond.instanceMethod yJ5_ensureCapacityInternal_d00df ∈ lw_tbl := by decide +kernel
theorem tp_newCapacity : Cond.privateMethod yJ5_newCapacity_0f7a4 ∈ lw_tbl ∧ Cond.instanceMethod yJ5_newCapacity_0f7a4 ∈ lw_tbl := by decide +kernel
theorem tp_putStringAt : Cond.privateMethod yJ5_putStringAt_47b60 ∈ lw_tbl ∧ Cond.instanceMethod yJ5_putStringAt_47b60 ∈ lw_tbl := by decide +kernel
theorem tp_inflateIfNeededFor : Cond.privateMethod yJ5_inflateIfNeededFor_a7421 ∈ lw_tbl ∧ Cond.instanceMethod yJ5_inflateIfNeededFor_a7421 ∈ lw_tbl := by decide +kernel
theorem tp_inflate : Cond.privateMethod yJ5_inflate_da8c8 ∈ lw_tbl ∧ Cond.instanceMethod yJ5_inflate_da8c8 ∈ lw_tbl := by decide +kernel
section KST
variable {s : State} {args : Array Value} {A : Nat → Prop}
theorem sel_start (hts : ∀ w ∈ lw_tbl, w.before args s = true) : ∀ w ∈ selW, w.before args s = true := by
  have g := hts _ tb_se
  intro w hw
  simp only [selW, List.mem_cons] at hw
  rcases hw with rfl | rfl | rfl | rfl | rfl | rfl | hw
  · exact sel_priv (z := ⟨"java/lang/AbstractStringBuilder", "isLatin1", "()Z"⟩) (y := yJ5_appendNull_278bc) (by decide) rfl g (hts _ tp_appendNull.1) (hts _ tp_appendNull.2)
  · exact sel_priv (z := ⟨"java/lang/AbstractStringBuilder", "isLatin1", "()Z"⟩) (y := yJ5_ensureCapacityInternal_d00df) (by decide) rfl g (hts _ tp_ensureCapacityInternal.1) (hts _ tp_ensureCapacityInternal.2)
  · exact sel_priv (z := ⟨"java/lang/AbstractStringBuilder", "isLatin1", "()Z"⟩) (y := yJ5_newCapacity_0f7a4) (by decide) rfl g (hts _ tp_newCapacity.1) (hts _ tp_newCapacity.2)
  · exact sel_priv (z := ⟨"java/lang/AbstractStringBuilder", "isLatin1", "()Z"⟩) (y := yJ5_putStringAt_47b60) (by decide) rfl g (hts _ tp_putStringAt.1) (hts _ tp_putStringAt.2)
  · exact sel_priv (z := ⟨"java/lang/AbstractStringBuilder", "isLatin1", "()Z"⟩) (y := yJ5_inflateIfNeededFor_a7421) (by decide) rfl g (hts _ tp_inflateIfNeededFor.1) (hts _ tp_inflateIfNeededFor.2)
  · exact sel_priv (z := ⟨"java/lang/AbstractStringBuilder", "isLatin1", "()Z"⟩) (y := yJ5_inflate_da8c8) (by decide) rfl g (hts _ tp_inflate.1) (hts _ tp_inflate.2)
  · exact absurd hw List.not_mem_nil
theorem hts_start (hts : ∀ w ∈ lw_tbl, w.before args s = true) : ∀ w ∈ wsL_law, w.before args s = true := fun w hw => by
  rcases List.mem_append.mp (wsL_law_in w hw) with h | h
  · exact sel_start hts w h
  · exact hts w h
theorem str_start (hg : (Cond.and given_1 narrow_1).before args s = true) (hts : ∀ w ∈ lw_tbl, w.before args s = true) (hA : ∀ a : Nat, a < s.heap.size → ¬ A a) : ∃ k1 k2 : Nat → Nat, vk_S 16 slen sbyt k1 k2 A s s.heap ∧ (∀ (i : Nat) (q : String × Nat × String), strT[i]? = some q → vk_R q.1 q.2.1 q.2.2 (k1 i) s) ∧ (∀ q ∈ strL, vk_R RL q.1 q.2.1 (k1 q.2.2) s) ∧ va_Z "java/lang/String" "COMPACT_STRINGS" "Z" (.int 1) A s s.heap ∧ va_Zq "jdk/internal/util/Preconditions" "SIOOBE_FORMATTER" "Ljava/util/function/BiFunction;" A s s.heap := by
  have hs : ∀ w ∈ fG, w.before args s = true := flat_of_before _ hg
  have hm : ∀ {i : Nat} {w : Cond}, fG[i]? = some w → w.before args s = true := fun h => hs _ (List.mem_of_getElem? h)
  obtain ⟨k1, k2, h1, h2⟩ := vk_Sof (args := args) (s := s) (N := 16) (tm := tmS) (len := slen) (byt := sbyt) (A := A) (by decide) (fun i hi => hm (fg_ex i hi)) (fun i hi => hm (fg_co i hi)) (fun i hi => hm (fg_ar i hi)) (fun i hi => hm (fg_le i hi)) (fun i hi j hj => hm (fg_el i hi j hj)) (fun i j hi hj hij => by
    rcases Nat.lt_or_ge i j with h | h
    · exact Or.inl (hm (fg_ne j hj i h))
    · exact Or.inr (hm (fg_ne i hi j (by omega)))) hA
  refine ⟨k1, k2, h1, fun i q hq => ?_, fun q hq => ?_, va_Zof (hts _ tb_cs) (hts _ tb_is) (va_eqt (hm fg_cs)) hA, va_Zqof (hts _ tb_si) (hts _ tb_ip) (hm fg_si) hA⟩
  · have hi : i < 14 := (List.getElem?_eq_some_iff.mp hq).1
    have e : strT.getD i ("", 0, "") = q := by rw [List.getD_eq_getElem?_getD, hq]; rfl
    have h3 := hts _ (tb_sr i hi)
    have h4 := h2 i (by omega)
    rw [tb_tA i hi] at h4
    rw [e] at h3 h4
    exact vk_R.of h3 h4
  · have h3 := hts _ (tb_sl q hq)
    simp only [strL, List.mem_cons] at hq
    rcases hq with rfl | rfl | rfl | rfl | rfl | rfl | rfl | rfl | hq
    · exact vk_R.of h3 (va_eqR (hm fg_q29) (h2 7 (by decide)))
    · exact vk_R.of h3 (va_eqR (hm fg_q37) (h2 8 (by decide)))
    · exact vk_R.of h3 (va_eqR (hm fg_q42) (h2 9 (by decide)))
    · exact vk_R.of h3 (va_eqR (hm fg_q48) (h2 10 (by decide)))
    · exact vk_R.of h3 (h2 14 (by decide))
    · exact vk_R.of h3 (h2 15 (by decide))
    · exact vk_R.of h3 (va_eqR (hm fg_q54) (h2 12 (by decide)))
    · exact vk_R.of h3 (va_eqR (hm fg_q56) (h2 13 (by decide)))
    · exact absurd hq List.not_mem_nil
theorem dig_start (hg : (Cond.and given_1 narrow_1).before args s = true) (hts : ∀ w ∈ lw_tbl, w.before args s = true) (hA : ∀ a : Nat, a < s.heap.size → ¬ A a) : ∃ t1 t10 : Nat, va_Z "java/lang/Integer" "DigitOnes" "[B" (.ref t1) A s s.heap ∧ va_T .byte t1 100 (fun j => .int (dg1 j)) A s s.heap ∧ va_Z "java/lang/Integer" "DigitTens" "[B" (.ref t10) A s s.heap ∧ va_T .byte t10 100 (fun j => .int (dg10 j)) A s s.heap := by
  have hs : ∀ w ∈ fG, w.before args s = true := flat_of_before _ hg
  have hm : ∀ {i : Nat} {w : Cond}, fG[i]? = some w → w.before args s = true := fun h => hs _ (List.mem_of_getElem? h)
  obtain ⟨t1, e1, v1⟩ := va_Tof (args := args) (s := s) (tm := Term.static "java/lang/Integer" "DigitOnes" "[B") (ty := .byte) (N := 100) (f := fun j => .int (dg1 j)) (A := A) (by decide) (hm fg_a1) (va_eqt (hm fg_l1)) (fun j hj => va_eqt (hm (fg_d1 j hj))) hA
  obtain ⟨t10, e10, v10⟩ := va_Tof (args := args) (s := s) (tm := Term.static "java/lang/Integer" "DigitTens" "[B") (ty := .byte) (N := 100) (f := fun j => .int (dg10 j)) (A := A) (by decide) (hm fg_a10) (va_eqt (hm fg_l10)) (fun j hj => va_eqt (hm (fg_d10 j hj))) hA
  exact ⟨t1, t10, va_Zof (hts _ tb_d1) (hts _ tb_ii) e1 hA, v1, va_Zof (hts _ tb_d10) (hts _ tb_ii) e10 hA, v10⟩
theorem arr_start {ty : FieldType} (hp : ∀ U : State, ∀ cA : ClassId, U.vm.findClass ("[" ++ ty.toString) = some cA → va_RA U cA ty) (h : (Cond.arrayClass ty).before args s = true) : ∃ cA : ClassId, ArrOfT s cA ty ∧ va_RA s cA ty := by
  obtain ⟨c, k, comp, h1, h2, h3⟩ := Cond.arrayClass_spec h
  exact ⟨c, fun n z => ⟨fun k h => (by cases h), k, h2, comp, h3⟩, hp s c h1⟩
theorem arr_startQ (h : va_AO RX6 s) : ∃ cA : ClassId, ArrOfT s cA (.object RX6) ∧ va_RA s cA (.object RX6) := by
  obtain ⟨comp, c, k, h1, h2, h3, h4, h5⟩ := Cond.arrayOver_spec h
  exact ⟨c, fun N z => ⟨(fun k h => by cases h), k, h3, comp, h4⟩, k, comp, h3, h4, h1, h5⟩
theorem vk_S.cong {N : Nat} {len : List Nat} {byt : List (List Int32)} {a1 a2 b1 b2 : Nat → Nat} {U : State} {H : Heap} (e1 : ∀ i, i < N → b1 i = a1 i) (e2 : ∀ i, i < N → b2 i = a2 i) (h : vk_S N len byt a1 a2 A U H) : vk_S N len byt b1 b2 A U H := by
  refine ⟨fun i hi => ?_, fun i j hi hj e => h.2 i j hi hj (by rw [← e1 i hi, ← e1 j hj]; exact e)⟩
  rw [e1 i hi, e2 i hi]
  exact h.1 i hi
def kF (t0 t1 t2 t3 d1 d10 : Nat) (k1 k2 : Nat → Nat) (n : Nat) : Nat := if n < 100 then [t0, t1, t2, t3].getD n t0 else if n < 200 then k1 (n - 100) else if n < 300 then k2 (n - 200) else if n = 300 then d1 else d10
theorem k_start (hg : (Cond.and given_1 narrow_1).before args s = true) (hts : ∀ w ∈ lw_tbl, w.before args s = true) (hA : ∀ a : Nat, a < s.heap.size → ¬ A a) : ∃ K : gK, KS K A s s.heap ∧ va_AO RX6 s := by
  have htl := hts_start hts
  have hao : va_AO RX6 s := va_AO.of (hts _ tb_ao)
  obtain ⟨k1, k2, s1, s2, s2b, s3, s4⟩ := str_start hg hts hA
  obtain ⟨d1, d10, w1, w2, w3, w4⟩ := dig_start hg hts hA
  obtain ⟨t0, a0, b0⟩ := arr_start (ty := .int) (fun U cA h => h) (htl _ ur_int)
  obtain ⟨t1, a1, b1⟩ := arr_start (ty := .byte) (fun U cA h => h) (htl _ ur_byte)
  obtain ⟨t2, a2, b2⟩ := arr_start (ty := .boolean) (fun U cA h => h) (htl _ ur_boolean)
  obtain ⟨t3, a3, b3⟩ := arr_startQ hao
  obtain ⟨c0, j0, g0⟩ := u_known (C := RX0) (T := TX0) (N := 3) (n := 3) htl inlX0 (htl _ ua_X0)
  obtain ⟨c1, j1, g1⟩ := u_known (C := RX1) (T := TX1) (N := 5) (n := 5) htl inlX1 (htl _ ua_X1)
  obtain ⟨c2, j2, g2⟩ := u_known (C := RX2) (T := TX2) (N := 9) (n := 9) htl inlX2 (htl _ ua_X2)
  obtain ⟨c3, j3, g3⟩ := u_known (C := RX3) (T := TX3) (N := 5) (n := 5) htl inlX3 (htl _ ua_X3)
  obtain ⟨c4, j4, g4⟩ := u_known (C := RX4) (T := TX4) (N := 3) (n := 3) htl inlX4 (htl _ ua_X4)
  obtain ⟨c5, j5, g5⟩ := u_known (C := RX5) (T := TX5) (N := 2) (n := 2) htl inlX5 (htl _ ua_X5)
  obtain ⟨c6, j6, g6⟩ := u_known (C := RX6) (T := TX6) (N := 7) (n := 7) htl inlX6 (htl _ ua_X6)
  obtain ⟨c7, j7, g7⟩ := u_known (C := RX7) (T := TX7) (N := 2) (n := 2) htl inlX7 (htl _ ua_X7)
  obtain ⟨c8, j8, g8⟩ := u_known (C := RX8) (T := TX8) (N := 7) (n := 7) htl inlX8 (htl _ ua_X8)
  obtain ⟨c9, j9, g9⟩ := u_known (C := RX9) (T := TX9) (N := 8) (n := 8) htl inlX9 (htl _ ua_X9)
  obtain ⟨c10, j10, g10⟩ := u_known (C := RJ0) (T := TJ0) (N := 4) (n := 4) htl inlJ0 (htl _ ua_J0)
  obtain ⟨c11, j11, g11⟩ := u_known (C := RJ4) (T := TJ4) (N := 4) (n := 4) htl inlJ4 (htl _ ua_J4)
  have f1 : ∀ i, i < 100 → kF t0 t1 t2 t3 d1 d10 k1 k2 (100 + i) = k1 i := fun i hi => by
    unfold kF
    rw [if_neg (by omega), if_pos (by omega), show 100 + i - 100 = i by omega]
  have f2 : ∀ i, i < 100 → kF t0 t1 t2 t3 d1 d10 k1 k2 (200 + i) = k2 i := fun i hi => by
    unfold kF
    rw [if_neg (by omega), if_neg (by omega), if_pos (by omega), show 200 + i - 200 = i by omega]
  refine ⟨((fun k => [c0, c1, c2, c3, c4, c5, c6, c7, c8, c9, c10, c11].getD k c0, fun k => [j0, j1, j2, j3, j4, j5, j6, j7, j8, j9, j10, j11].getD k j0), kF t0 t1 t2 t3 d1 d10 k1 k2), ⟨⟨⟨fun k q hq => ?_, fun k q hq => ?_⟩, fun w hw => va_Nw.of ?_ (hts w (nest_in w hw))⟩, s1.cong (fun i hi => f1 i (by omega)) (fun i hi => f2 i (by omega)), fun i q hq => ?_, fun q hq => ?_, s3, s4, w1, w2, w3, w4, va_Nw.of rfl (hts _ tb_ca)⟩, hao⟩
  · match k, hq with
    | 0, hq => cases hq; exact g0
    | 1, hq => cases hq; exact g1
    | 2, hq => cases hq; exact g2
    | 3, hq => cases hq; exact g3
    | 4, hq => cases hq; exact g4
    | 5, hq => cases hq; exact g5
    | 6, hq => cases hq; exact g6
    | 7, hq => cases hq; exact g7
    | 8, hq => cases hq; exact g8
    | 9, hq => cases hq; exact g9
    | 10, hq => cases hq; exact g10
    | 11, hq => cases hq; exact g11
    | k + 12, hq => exact absurd (List.getElem?_eq_some_iff.mp hq).1 (by show ¬ k + 12 < 12; omega)
  · match k, hq with
    | 0, hq => cases hq; exact ⟨a0, b0⟩
    | 1, hq => cases hq; exact ⟨a1, b1⟩
    | 2, hq => cases hq; exact ⟨a2, b2⟩
    | 3, hq => cases hq; exact ⟨a3, b3⟩
    | k + 4, hq => exact absurd (List.getElem?_eq_some_iff.mp hq).1 (by show ¬ k + 4 < 4; omega)
  · have h1 := List.all_eq_true.mp nestW_all w hw
    cases w <;> first | rfl | exact absurd h1 (by simp [isNest])
  · have hi : i < 14 := (List.getElem?_eq_some_iff.mp hq).1
    show vk_R q.1 q.2.1 q.2.2 (kF t0 t1 t2 t3 d1 d10 k1 k2 (100 + i)) s
    rw [f1 i (by omega)]
    exact s2 i q hq
  · have hj : q.2.2 < 100 := (show ∀ q ∈ strL, q.2.2 < 100 by decide +kernel) q hq
    show vk_R RL q.1 q.2.1 (kF t0 t1 t2 t3 d1 d10 k1 k2 (100 + q.2.2)) s
    rw [f1 _ hj]
    exact s2b q hq
end KST
