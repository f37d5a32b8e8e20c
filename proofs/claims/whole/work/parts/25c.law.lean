-- PART 25c: what the tables and the start give: the classes, the arrays, the strings, the nest words (wsL_law_in is out of the printed names)
theorem wsL_law_in : ∀ w ∈ wsL_law, w ∈ lw_tbl := (List.forall_mem_append.mpr ⟨(List.forall_mem_append.mpr ⟨(List.forall_mem_append.mpr ⟨(List.forall_mem_append.mpr ⟨(List.forall_mem_append.mpr ⟨(List.forall_mem_append.mpr ⟨(List.forall_mem_append.mpr ⟨(List.forall_mem_append.mpr ⟨(List.forall_mem_append.mpr ⟨(List.forall_mem_append.mpr ⟨(List.forall_mem_append.mpr ⟨(List.forall_mem_append.mpr ⟨(List.forall_mem_append.mpr ⟨in_r1, (List.forall_mem_append.mpr ⟨in_r2, (List.forall_mem_append.mpr ⟨in_r3, (List.forall_mem_append.mpr ⟨in_r4, (List.forall_mem_append.mpr ⟨in_r5, (List.forall_mem_append.mpr ⟨in_r6, (List.forall_mem_append.mpr ⟨in_r7, (List.forall_mem_append.mpr ⟨in_r8, (List.forall_mem_append.mpr ⟨in_r9, (List.forall_mem_append.mpr ⟨in_r10, (List.forall_mem_append.mpr ⟨in_r11, (List.forall_mem_append.mpr ⟨in_r12, (List.forall_mem_append.mpr ⟨in_r13, (List.forall_mem_append.mpr ⟨in_r14, (List.forall_mem_append.mpr ⟨in_r15, (List.forall_mem_append.mpr ⟨in_r16, (List.forall_mem_append.mpr ⟨in_r17, (List.forall_mem_append.mpr ⟨in_r18, (List.forall_mem_append.mpr ⟨in_r19, (List.forall_mem_append.mpr ⟨in_r20, (List.forall_mem_append.mpr ⟨in_r21, (List.forall_mem_append.mpr ⟨in_r22, (List.forall_mem_append.mpr ⟨in_r23, (List.forall_mem_append.mpr ⟨in_r24, (List.forall_mem_append.mpr ⟨in_r25, (List.forall_mem_append.mpr ⟨in_r26, (List.forall_mem_append.mpr ⟨in_r27, (List.forall_mem_append.mpr ⟨in_r28, (List.forall_mem_append.mpr ⟨in_r29, (List.forall_mem_append.mpr ⟨in_r30, (List.forall_mem_append.mpr ⟨in_r31, (List.forall_mem_append.mpr ⟨in_r32, (List.forall_mem_append.mpr ⟨in_r33, (List.forall_mem_append.mpr ⟨in_r34, (List.forall_mem_append.mpr ⟨in_r35, (List.forall_mem_append.mpr ⟨in_r36, (List.forall_mem_append.mpr ⟨in_r37, (List.forall_mem_append.mpr ⟨in_r38, (List.forall_mem_append.mpr ⟨in_r39, (List.forall_mem_append.mpr ⟨in_r40, (List.forall_mem_append.mpr ⟨in_r41, (List.forall_mem_append.mpr ⟨in_r42, (List.forall_mem_append.mpr ⟨in_r43, (List.forall_mem_append.mpr ⟨in_r44, (List.forall_mem_append.mpr ⟨in_r45, (List.forall_mem_append.mpr ⟨in_r46, (List.forall_mem_append.mpr ⟨in_r47, (List.forall_mem_append.mpr ⟨in_r48, (List.forall_mem_append.mpr ⟨in_r49, in_r50⟩)⟩)⟩)⟩)⟩)⟩)⟩)⟩)⟩)⟩)⟩)⟩)⟩)⟩)⟩)⟩)⟩)⟩)⟩)⟩)⟩)⟩)⟩)⟩)⟩)⟩)⟩)⟩)⟩)⟩)⟩)⟩)⟩)⟩)⟩)⟩)⟩)⟩)⟩)⟩)⟩)⟩)⟩)⟩)⟩)⟩)⟩)⟩)⟩), in_X9⟩), in_X10⟩), in_X6⟩), in_X0⟩), in_X5⟩), in_X4⟩), in_X3⟩), in_X7⟩), in_X2⟩), in_X8⟩), in_X1⟩), fun _ h => absurd h List.not_mem_nil⟩)
theorem nest_in : ∀ w ∈ nestW, w ∈ lw_tbl := by decide +kernel
def fG : List Cond := flatC (Cond.and given_1 narrow_1)
def tmS (i : Nat) : Term := Term.string ((strT.getD i ("", 0, "")).1) ((strT.getD i ("", 0, "")).2.1)
def exI : List Nat := [9, 18, 28, 39, 52, 64, 79, 94, 111, 130, 150, 171, 191, 214]
theorem fg_ex : ∀ i, i < 14 → fG[exI.getD i 0]? = some (Cond.exactly (tmS i) "java/lang/String") := by decide +kernel
theorem fg_co : ∀ i, i < 14 → fG[exI.getD i 0 + 1]? = some (Cond.eq (.field (tmS i) "java/lang/String" "coder" "B") (.int 0)) := by decide +kernel
theorem fg_ar : ∀ i, i < 14 → fG[exI.getD i 0 + 2]? = some (Cond.arrayOf (.field (tmS i) "java/lang/String" "value" "[B") .byte) := by decide +kernel
theorem fg_le : ∀ i, i < 14 → fG[exI.getD i 0 + 3]? = some (Cond.eq (.length (.field (tmS i) "java/lang/String" "value" "[B")) (.int (Int32.ofNat (slen.getD i 0)))) := by decide +kernel
theorem fg_el : ∀ i, i < 14 → ∀ j, j < slen.getD i 0 → fG[exI.getD i 0 + 4 + j]? = some (Cond.eq (.elem (.field (tmS i) "java/lang/String" "value" "[B") (.int (Int32.ofNat j))) (.int ((sbyt.getD i []).getD j 0))) := by decide +kernel
theorem fg_ne : ∀ j, j < 14 → ∀ i, i < j → fG[exI.getD j 0 + 4 + slen.getD j 0 + i]? = some (Cond.not (Cond.eq (tmS i) (tmS j))) := by decide +kernel
theorem fg_cs : fG[4]? = some (Cond.eq (Term.static "java/lang/String" "COMPACT_STRINGS" "Z") (.int 1)) := by decide +kernel
theorem fg_si : fG[5]? = some (Cond.isRef (Term.static "jdk/internal/util/Preconditions" "SIOOBE_FORMATTER" "Ljava/util/function/BiFunction;")) := by decide +kernel
theorem tb_cs : Cond.laysStatic "java/lang/String" "COMPACT_STRINGS" "Z" ∈ lw_tbl := by decide +kernel
theorem tb_si : Cond.laysStatic "jdk/internal/util/Preconditions" "SIOOBE_FORMATTER" "Ljava/util/function/BiFunction;" ∈ lw_tbl := by decide +kernel
theorem tb_is : Cond.initialized "java/lang/String" ∈ lw_tbl := by decide +kernel
theorem tb_ip : Cond.initialized "jdk/internal/util/Preconditions" ∈ lw_tbl := by decide +kernel
theorem tb_ao : Cond.arrayOver (.object RX6) ∈ lw_tbl := by decide +kernel
theorem tb_sr : ∀ i, i < 14 → Cond.stringRef ((strT.getD i ("", 0, "")).1) ((strT.getD i ("", 0, "")).2.1) ((strT.getD i ("", 0, "")).2.2) ∈ lw_tbl := by decide +kernel
section KST
variable {s : State} {args : Array Value} {A : Nat → Prop}
theorem str_start (hg : (Cond.and given_1 narrow_1).before args s = true) (hts : ∀ w ∈ lw_tbl, w.before args s = true) (hA : ∀ a : Nat, a < s.heap.size → ¬ A a) : ∃ k1 k2 : Nat → Nat, vk_S 14 slen sbyt k1 k2 A s s.heap ∧ (∀ (i : Nat) (q : String × Nat × String), strT[i]? = some q → vk_R q.1 q.2.1 q.2.2 (k1 i) s) ∧ va_Z "java/lang/String" "COMPACT_STRINGS" "Z" (.int 1) A s s.heap ∧ va_Zq "jdk/internal/util/Preconditions" "SIOOBE_FORMATTER" "Ljava/util/function/BiFunction;" A s s.heap := by
  have hs : ∀ w ∈ fG, w.before args s = true := flat_of_before _ hg
  have hm : ∀ {i : Nat} {w : Cond}, fG[i]? = some w → w.before args s = true := fun h => hs _ (List.mem_of_getElem? h)
  obtain ⟨k1, k2, h1, h2⟩ := vk_Sof (args := args) (s := s) (N := 14) (tm := tmS) (len := slen) (byt := sbyt) (A := A) (by decide) (fun i hi => hm (fg_ex i hi)) (fun i hi => hm (fg_co i hi)) (fun i hi => hm (fg_ar i hi)) (fun i hi => hm (fg_le i hi)) (fun i hi j hj => hm (fg_el i hi j hj)) (fun i j hi hj hij => by
    rcases Nat.lt_or_ge i j with h | h
    · exact Or.inl (hm (fg_ne j hj i h))
    · exact Or.inr (hm (fg_ne i hi j (by omega)))) hA
  refine ⟨k1, k2, h1, fun i q hq => ?_, va_Zof (hts _ tb_cs) (hts _ tb_is) (va_eqt (hm fg_cs)) hA, va_Zqof (hts _ tb_si) (hts _ tb_ip) (hm fg_si) hA⟩
  have hi : i < 14 := (List.getElem?_eq_some_iff.mp hq).1
  have e : strT.getD i ("", 0, "") = q := by rw [List.getD_eq_getElem?_getD, hq]; rfl
  have h3 := hts _ (tb_sr i hi)
  have h4 := h2 i hi
  unfold tmS at h4
  rw [e] at h3 h4
  exact vk_R.of h3 h4
theorem arr_start {ty : FieldType} (hp : ∀ U : State, ∀ cA : ClassId, U.vm.findClass ("[" ++ ty.toString) = some cA → va_RA U cA ty) (h : (Cond.arrayClass ty).before args s = true) : ∃ cA : ClassId, ArrOfT s cA ty ∧ va_RA s cA ty := by
  obtain ⟨c, k, comp, h1, h2, h3⟩ := Cond.arrayClass_spec h
  exact ⟨c, fun n z => ⟨fun k h => (by cases h), k, h2, comp, h3⟩, hp s c h1⟩
theorem arr_startQ (h : va_AO RX6 s) : ∃ cA : ClassId, ArrOfT s cA (.object RX6) ∧ va_RA s cA (.object RX6) := by
  obtain ⟨comp, c, k, h1, h2, h3, h4, h5⟩ := Cond.arrayOver_spec h
  exact ⟨c, fun N z => ⟨(fun k h => by cases h), k, h3, comp, h4⟩, k, comp, h3, h4, h1, h5⟩
theorem vk_S.cong {N : Nat} {len : List Nat} {byt : List (List Int32)} {a1 a2 b1 b2 : Nat → Nat} {U : State} {H : Heap} (e1 : ∀ i, i < N → b1 i = a1 i) (e2 : ∀ i, i < N → b2 i = a2 i) (h : vk_S N len byt a1 a2 A U H) : vk_S N len byt b1 b2 A U H := by
  refine ⟨fun i hi => ?_, fun i j hi hj e => h.2 i j hi hj (by rw [← e1 i hi, ← e1 j hj]; exact e)⟩
  rw [e1 i hi, e2 i hi]
  exact h.1 i hi
theorem k_start (hg : (Cond.and given_1 narrow_1).before args s = true) (hts : ∀ w ∈ lw_tbl, w.before args s = true) (hA : ∀ a : Nat, a < s.heap.size → ¬ A a) : ∃ K : gK, KS K A s s.heap ∧ va_AO RX6 s := by
  have htl : ∀ w ∈ wsL_law, w.before args s = true := fun w h => hts w (wsL_law_in w h)
  have hao : va_AO RX6 s := va_AO.of (hts _ tb_ao)
  obtain ⟨k1, k2, s1, s2, s3, s4⟩ := str_start hg hts hA
  obtain ⟨t0, a0, b0⟩ := arr_start (ty := .int) (fun U cA h => h) (htl _ ur_int)
  obtain ⟨t1, a1, b1⟩ := arr_start (ty := .byte) (fun U cA h => h) (htl _ ur_byte)
  obtain ⟨t2, a2, b2⟩ := arr_start (ty := .boolean) (fun U cA h => h) (htl _ ur_boolean)
  obtain ⟨t3, a3, b3⟩ := arr_startQ hao
  obtain ⟨c0, j0, g0⟩ := u_known (C := RX0) (T := TX0) (N := 3) (n := 3) htl inlX0 (htl _ ua_X0)
  obtain ⟨c1, j1, g1⟩ := u_known (C := RX1) (T := TX1) (N := 5) (n := 5) htl inlX1 (htl _ ua_X1)
  obtain ⟨c2, j2, g2⟩ := u_known (C := RX2) (T := TX2) (N := 9) (n := 9) htl inlX2 (htl _ ua_X2)
  obtain ⟨c3, j3, g3⟩ := u_known (C := RX3) (T := TX3) (N := 5) (n := 5) htl inlX3 (htl _ ua_X3)
  obtain ⟨c4, j4, g4⟩ := u_known (C := RX4) (T := TX4) (N := 3) (n := 3) htl inlX4 (htl _ ua_X4)
  obtain ⟨c5, j5, g5⟩ := u_known (C := RX5) (T := TX5) (N := 2) (n := 2) htl inlX5 (htl _ ua_X5)
  obtain ⟨c6, j6, g6⟩ := u_known (C := RX6) (T := TX6) (N := 7) (n := 7) htl inlX6 (htl _ ua_X6)
  obtain ⟨c7, j7, g7⟩ := u_known (C := RX7) (T := TX7) (N := 2) (n := 2) htl inlX7 (htl _ ua_X7)
  obtain ⟨c8, j8, g8⟩ := u_known (C := RX8) (T := TX8) (N := 7) (n := 7) htl inlX8 (htl _ ua_X8)
  obtain ⟨c9, j9, g9⟩ := u_known (C := RX9) (T := TX9) (N := 8) (n := 8) htl inlX9 (htl _ ua_X9)
  obtain ⟨c10, j10, g10⟩ := u_known (C := RX10) (T := TX10) (N := 18) (n := 18) htl inlX10 (htl _ ua_X10)
  refine ⟨((fun k => [c0, c1, c2, c3, c4, c5, c6, c7, c8, c9, c10].getD k c0, fun k => [j0, j1, j2, j3, j4, j5, j6, j7, j8, j9, j10].getD k j0), fun n => if n < 100 then [t0, t1, t2, t3].getD n t0 else if n < 200 then k1 (n - 100) else k2 (n - 200)), ⟨⟨⟨fun k q hq => ?_, fun k q hq => ?_⟩, fun w hw => va_Nw.of ?_ (hts w (nest_in w hw))⟩, s1.cong (fun i hi => ?_) (fun i hi => ?_), fun i q hq => ?_, s3, s4⟩, hao⟩
  · match k, hq with
    | 0, hq => cases hq; exact g0
    | 1, hq => cases hq; exact g1
    | 2, hq => cases hq; exact g2
    | 3, hq => cases hq; exact g3
    | 4, hq => cases hq; exact g4
    | 5, hq => cases hq; exact g5
    | 6, hq => cases hq; exact g6
    | 7, hq => cases hq; exact g7
    | 8, hq => cases hq; exact g8
    | 9, hq => cases hq; exact g9
    | 10, hq => cases hq; exact g10
    | k + 11, hq => exact absurd (List.getElem?_eq_some_iff.mp hq).1 (by show ¬ k + 11 < 11; omega)
  · match k, hq with
    | 0, hq => cases hq; exact ⟨a0, b0⟩
    | 1, hq => cases hq; exact ⟨a1, b1⟩
    | 2, hq => cases hq; exact ⟨a2, b2⟩
    | 3, hq => cases hq; exact ⟨a3, b3⟩
    | k + 4, hq => exact absurd (List.getElem?_eq_some_iff.mp hq).1 (by show ¬ k + 4 < 4; omega)
  · have h1 := List.all_eq_true.mp nestW_all w hw
    cases w <;> first | rfl | exact absurd h1 (by simp [isNest])
  · show (if 100 + i < 100 then _ else if 100 + i < 200 then k1 (100 + i - 100) else _) = k1 i
    rw [if_neg (by omega), if_pos (by omega), show 100 + i - 100 = i by omega]
  · show (if 200 + i < 100 then _ else if 200 + i < 200 then _ else k2 (200 + i - 200)) = k2 i
    rw [if_neg (by omega), if_neg (by omega), show 200 + i - 200 = i by omega]
  · have hi : i < 14 := (List.getElem?_eq_some_iff.mp hq).1
    have e : (if 100 + i < 100 then [t0, t1, t2, t3].getD (100 + i) t0 else if 100 + i < 200 then k1 (100 + i - 100) else k2 (100 + i - 200)) = k1 i := by rw [if_neg (by omega), if_pos (by omega), show 100 + i - 100 = i by omega]
    show vk_R q.1 q.2.1 q.2.2 (if 100 + i < 100 then [t0, t1, t2, t3].getD (100 + i) t0 else if 100 + i < 200 then k1 (100 + i - 100) else k2 (100 + i - 200)) s
    rw [e]
    exact s2 i q hq
end KST
