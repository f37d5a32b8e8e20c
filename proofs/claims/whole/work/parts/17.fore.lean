-- PART 17: letters READ in minutes are not many, and never fewer than none
def Gr (b : Nat) (S S' : SM) : Prop := (∃ j, j ≤ b ∧ S' 1 1 = S 1 1 + iN j) ∧ S' 18 3 = S 18 3
section GRD
variable {c tc B B' k a b : Nat} {S S' S'' : SM} {m m' : Nat → Int32}
theorem Gr.of (h1 : S' 1 1 = S 1 1) (h3 : S' 18 3 = S 18 3) : Gr 0 S S' := ⟨⟨0, Nat.le_refl _, by rw [h1]; exact (Int32.add_zero _).symm⟩, h3⟩
theorem Gr.trans (h : Gr a S S') (h' : Gr b S' S'') : Gr (a + b) S S'' := by
  obtain ⟨⟨i, hi, ei⟩, e3⟩ := h
  obtain ⟨⟨j, hj, ej⟩, f3⟩ := h'
  exact ⟨⟨i + j, by omega, by rw [ej, ei, Int32.add_assoc, iN_add]⟩, f3.trans e3⟩
theorem Gr.mono (h : Gr a S S') (hab : a ≤ b) : Gr b S S' := by
  obtain ⟨⟨i, hi, ei⟩, e3⟩ := h
  exact ⟨⟨i, by omega, ei⟩, e3⟩
theorem raise_o (g : Nat → Int32) {k : Nat} (hk : k < 9) (h1 : k ≠ 1) : raise_ 9 g (iN k) 1 = g 1 := by
  rw [raise_in (by decide) hk, upd_ne (Ne.symm h1)]
theorem rem8_1 (S : SM) (x : Int32) : s_X8_remove S x 1 = S 1 := by
  unfold s_X8_remove
  split
  · rfl
  · rfl
theorem come_1 (S : SM) (x : Int32) : Gr 0 S (s_X6_comeNearer S x) := by
  refine Gr.of ?_ ?_
  · unfold s_X6_comeNearer s_X6_comeNearer_L26
    repeat' split
    all_goals rfl
  · unfold s_X6_comeNearer s_X6_comeNearer_L26
    repeat' split
    all_goals rfl
theorem begin_1 (S : SM) (x : Int32) : Gr 0 S (s_X6_beginOrSetOut S x) := by
  refine Gr.of ?_ ?_
  · unfold s_X6_beginOrSetOut s_X6_beginOrSetOut_L41 s_X6_beginOrSetOut_L42 s_X6_beginOrSetOut_L87
    repeat' split
    all_goals rfl
  · unfold s_X6_beginOrSetOut s_X6_beginOrSetOut_L41 s_X6_beginOrSetOut_L42 s_X6_beginOrSetOut_L87
    repeat' split
    all_goals rfl
theorem end_1 (S : SM) (x : Int32) : Gr 1 S (s_X6_endLetter S x) := by
  unfold s_X6_endLetter
  split
  · unfold s_X6_endLetter_L76 s_X6_endLetter_L91
    refine Gr.mono (Gr.of ?_ ?_) (by decide)
    · rw [rem_j _ _ _ (by decide) (by decide) (by decide), logAdd_j _ _ _ _ (by decide), sU_eq]
      exact raise_o (S 1) (k := 2) (by decide) (by decide)
    · rw [rem_j _ _ _ (by decide) (by decide) (by decide), logAdd_k _ _ _ _ (by decide)]
      rfl
  · unfold s_X6_endLetter_L39 s_X6_endLetter_L50 s_X6_endLetter_L65 s_X6_endLetter_L91
    refine ⟨⟨1, Nat.le_refl _, ?_⟩, ?_⟩
    · rw [rem_j _ _ _ (by decide) (by decide) (by decide), logAdd_j _ _ _ _ (by decide), sU_ne (by decide), sU_eq]
      show raise_ 9 (S 1) (iN 1) 1 = S 1 1 + 1
      rw [raise_in (by decide) (by decide), upd_eq]
    · rw [rem_j _ _ _ (by decide) (by decide) (by decide), logAdd_k _ _ _ _ (by decide)]
      rfl
theorem read_1 (S : SM) (x : Int32) : Gr 1 S (s_X6_readOn S x) := by
  unfold s_X6_readOn s_X6_readOn_L38 s_X6_readOn_L49 s_X6_readOn_L60
  obtain ⟨Z, hZ⟩ : ∃ Z, (sU (sU (sU (sU S 14 (put_ 3 (S 14) x ((at_ 3 (S 14) x) - 1))) 13 (raise_ 3 (sU S 14 (put_ 3 (S 14) x ((at_ 3 (S 14) x) - 1)) 13) x)) 5 (raise_ 10 (sU (sU S 14 (put_ 3 (S 14) x ((at_ 3 (S 14) x) - 1))) 13 (raise_ 3 (sU S 14 (put_ 3 (S 14) x ((at_ 3 (S 14) x) - 1)) 13) x) 5) (at_ 3 (S 11) x))) 1 (raise_ 9 (sU (sU (sU S 14 (put_ 3 (S 14) x ((at_ 3 (S 14) x) - 1))) 13 (raise_ 3 (sU S 14 (put_ 3 (S 14) x ((at_ 3 (S 14) x) - 1)) 13) x)) 5 (raise_ 10 (sU (sU S 14 (put_ 3 (S 14) x ((at_ 3 (S 14) x) - 1))) 13 (raise_ 3 (sU S 14 (put_ 3 (S 14) x ((at_ 3 (S 14) x) - 1)) 13) x) 5) (at_ 3 (S 11) x)) 1) 8)) = Z := ⟨_, rfl⟩
  have g0 : Gr 0 S Z := by
    rw [← hZ]
    refine Gr.of ?_ rfl
    exact raise_o (S 1) (k := 8) (by decide) (by decide)
  rw [hZ]
  unfold s_X6_readOn_L69
  split
  · exact (g0.trans (end_1 Z _)).mono (by decide)
  · exact g0.mono (by decide)
theorem tear_1 : ∀ n (S : SM) (x y : Int32), s_X6_tearUpWhereTwoMeet_L4 n S x y 1 1 = S 1 1 := by
  intro n
  induction n with
  | zero =>
    intro S x y
    rfl
  | succ n ih =>
    intro S x y
    rw [s_X6_tearUpWhereTwoMeet_L4]
    split
    · split
      · exact ih _ _ _
      · rw [ih, rem8_1, sU_eq]
        have e := raise_o (s_X1_add S 3 (at_ 3 (S 10) x) (at_ 3 (S 11) x) 1) (k := 5) (by decide) (by decide)
        refine Eq.trans e ?_
        rw [logAdd_j _ _ _ _ (by decide)]
    · rfl
theorem tokAdd_1 (S : SM) (x : Int32) : s_X8_add S x 1 = S 1 := by
  unfold s_X8_add
  split <;> rfl
theorem stay_1 (S : SM) : s_X6_stayWithoutToken S 1 1 = S 1 1 := by
  unfold s_X6_stayWithoutToken s_X6_stayWithoutToken_L10
  split
  · rfl
  · split
    · rfl
    · unfold s_X6_stayWithoutToken_L45 s_X6_stayWithoutToken_L53 s_X6_stayWithoutToken_L61
      rw [logAdd_j _ _ _ _ (by decide), sU_eq]
      refine Eq.trans (raise_o (s_X8_add _ _ 1) (k := 4) (by decide) (by decide)) ?_
      rw [tokAdd_1]
      rfl
theorem L119_1 (S : SM) (x : Int32) : s_X6_passMinute_L119 S x 1 1 = S 1 1 := by
  unfold s_X6_passMinute_L119
  split
  · rfl
  · exact stay_1 S
theorem L99_1 (S : SM) (x : Int32) : s_X6_passMinute_L99 S x 1 1 = S 1 1 := by
  unfold s_X6_passMinute_L99
  split
  · exact L119_1 S x
  · rw [L119_1]
    exact raise_o (S 1) (k := 7) (by decide) (by decide)
theorem L29_1 (ht : tc ≤ 3) : ∀ d k (S : SM) n, k + d = tc → S 18 3 = iN tc → d < n → ∃ j, j ≤ d ∧ s_X6_passMinute_L29 n S (iN k) 1 1 = S 1 1 + iN j := by
  intro d
  induction d with
  | zero =>
    intro k S n e h3 h1
    obtain ⟨n, rfl⟩ := some_succ h1
    rw [s_X6_passMinute_L29, h3, show k = tc by omega, if_neg (iN_nlt (by omega)), L99_1]
    refine ⟨0, Nat.le_refl _, ?_⟩
    unfold s_X6_tearUpWhereTwoMeet
    rw [tear_1]
    exact (Int32.add_zero _).symm
  | succ d ih =>
    intro k S n e h3 h1
    obtain ⟨n, rfl⟩ := some_succ h1
    have g : ∀ S', Gr 1 S S' → ∃ j, j ≤ d + 1 ∧ s_X6_passMinute_L29 n S' (iN k + 1) 1 1 = S 1 1 + iN j := by
      intro S' hS
      obtain ⟨⟨i, hi, ei⟩, e3⟩ := hS
      obtain ⟨j, hj, ej⟩ := ih (k + 1) S' n (by omega) (e3.trans h3) (by omega)
      rw [iN_s, ej, ei, Int32.add_assoc, iN_add]
      exact ⟨i + j, by omega, rfl⟩
    rw [s_X6_passMinute_L29, h3, if_pos (iN_ylt (by omega) (by omega))]
    split
    · exact g _ ((come_1 S _).mono (by decide))
    · split
      · exact g _ (read_1 S _)
      · exact g _ ((begin_1 S _).mono (by decide))
theorem day_1 : ∀ n (S : SM) (x : Int32), s_X2_beginDay_L2 n S x 1 = S 1 ∧ s_X2_beginDay_L2 n S x 18 = S 18 := by
  intro n
  induction n with
  | zero =>
    intro S x
    exact ⟨rfl, rfl⟩
  | succ n ih =>
    intro S x
    rw [s_X2_beginDay_L2]
    split
    · obtain ⟨h1, h2⟩ := ih (sU S 5 (put_ 10 (S 5) x 0)) (x + 1)
      exact ⟨h1, h2⟩
    · exact ⟨rfl, rfl⟩
theorem min_reads (h3 : S 18 3 = iN tc) (ht : tc ≤ 3) : ∃ j, j ≤ 3 ∧ s_X6_passMinute S 1 1 = S 1 1 + iN j := by
  have g : ∀ Z : SM, Z 1 = S 1 → Z 18 3 = iN tc → ∃ j, j ≤ 3 ∧ s_X6_passMinute_L27 Z 1 1 = S 1 1 + iN j := by
    intro Z e1 e3
    obtain ⟨j, hj, ej⟩ := L29_1 ht tc 0 Z (mu 0 + 1) (by omega) e3 (by rw [mu_0]; omega)
    refine ⟨j, by omega, ?_⟩
    rw [← e1]
    exact ej
  unfold s_X6_passMinute s_X6_passMinute_L10
  have z1 : sF S 0 (S 18 0 + 1) 1 = S 1 := rfl
  have z3 : sF S 0 (S 18 0 + 1) 18 3 = iN tc := h3
  split
  · obtain ⟨d1, d18⟩ := day_1 (mu 0 + 1) (sF S 0 (S 18 0 + 1)) 0
    have d1' : s_X2_beginDay (sF S 0 (S 18 0 + 1)) 1 = S 1 := d1
    have d18' : s_X2_beginDay (sF S 0 (S 18 0 + 1)) 18 = sF S 0 (S 18 0 + 1) 18 := d18
    exact g _ d1' (by rw [d18']; exact z3)
  · exact g _ z1 z3
theorem many_reads : ∀ d (S : SM) (m : Nat → Int32) tc B, Iv c tc B S m → ∃ j, j ≤ 3 * d ∧ pM d S 1 1 = S 1 1 + iN j := by
  intro d
  induction d with
  | zero =>
    intro S m tc B h
    exact ⟨0, Nat.le_refl _, (Int32.add_zero _).symm⟩
  | succ d ih =>
    intro S m tc B h
    obtain ⟨i, hi, ei⟩ := min_reads h.et h.t3
    obtain ⟨m1, tc1, e1, I1, -, -⟩ := q_minute h
    obtain ⟨j, hj, ej⟩ := ih _ m1 tc1 (B + 1) I1
    rw [pM_s, ej, ei, Int32.add_assoc, iN_add]
    exact ⟨i + j, by omega, rfl⟩
end GRD
