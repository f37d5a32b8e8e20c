-- PART 17c: value
section VL
variable {c tc B B' k : Nat} {S S' S0 : SM} {m m' : Nat → Int32} {X X' : SM} {Y Y' : RS} {o t i : Nat}
theorem q_value (h : Iv c tc B (Y 0) (X 0)) (hu : Y 4 0 3 = X 8 0) (x1 : Int32) : o_X10_value X x1 = some (v_X9_value Y x1) := by
  unfold o_X10_value v_X9_value
  by_cases q0 : x1 = 0
  · subst q0
    rw [if_pos (show (0 : Int32) = 0 from rfl)]
    rw [if_neg (show ¬ v_X9_isWithin 0 0 2 = 0 by decide)]
    rw [if_pos (show gin 0 336 = true by decide), nK0, h.1.2.2.2.1 0 (by decide)]
    exact congrArg some (at_in (n := 3) (g := Y 0 0) (i := 0) (by decide) (by decide)).symm
  · skip
    by_cases q1 : x1 = 1
    · subst q1
      rw [if_neg (show ¬ (1 : Int32) = 0 by decide), if_pos (show (1 : Int32) = 1 from rfl)]
      rw [if_neg (show ¬ v_X9_isWithin 1 0 2 = 0 by decide)]
      rw [if_pos (show gin 1 336 = true by decide), nK1, h.1.2.2.2.1 1 (by decide)]
      exact congrArg some (at_in (n := 3) (g := Y 0 0) (i := 1) (by decide) (by decide)).symm
    · skip
      by_cases q2 : x1 = 2
      · subst q2
        rw [if_neg (show ¬ (2 : Int32) = 0 by decide), if_neg (show ¬ (2 : Int32) = 1 by decide), if_pos (show (2 : Int32) = 2 from rfl)]
        rw [if_neg (show ¬ v_X9_isWithin 2 0 2 = 0 by decide)]
        rw [if_pos (show gin 2 336 = true by decide), nK2, h.1.2.2.2.1 2 (by decide)]
        exact congrArg some (at_in (n := 3) (g := Y 0 0) (i := 2) (by decide) (by decide)).symm
      · skip
        by_cases q3 : x1 = 3
        · subst q3
          rw [if_neg (show ¬ (3 : Int32) = 0 by decide), if_neg (show ¬ (3 : Int32) = 1 by decide), if_neg (show ¬ (3 : Int32) = 2 by decide), if_pos (show (3 : Int32) = 3 from rfl)]
          rw [if_pos (show v_X9_isWithin 3 0 2 = 0 by decide), if_pos (show v_X9_isWithin 3 10 18 = 0 by decide), if_pos (show (3 : Int32) = 3 from rfl)]
          rw [if_pos (show gin 3 336 = true by decide), nK3, h.1.2.2.2.2.2.1]
        · skip
          by_cases q4 : x1 = 4
          · subst q4
            rw [if_neg (show ¬ (4 : Int32) = 0 by decide), if_neg (show ¬ (4 : Int32) = 1 by decide), if_neg (show ¬ (4 : Int32) = 2 by decide), if_neg (show ¬ (4 : Int32) = 3 by decide), if_pos (show (4 : Int32) = 4 from rfl)]
            rw [if_pos (show v_X9_isWithin 4 0 2 = 0 by decide), if_pos (show v_X9_isWithin 4 10 18 = 0 by decide), if_neg (show ¬ (4 : Int32) = 3 by decide), if_pos (show (4 : Int32) = 4 from rfl)]
            rw [if_pos (show gin 4 336 = true by decide), nK4, h.mc, h.ec]
          · skip
            by_cases q5 : x1 = 5
            · subst q5
              rw [if_neg (show ¬ (5 : Int32) = 0 by decide), if_neg (show ¬ (5 : Int32) = 1 by decide), if_neg (show ¬ (5 : Int32) = 2 by decide), if_neg (show ¬ (5 : Int32) = 3 by decide), if_neg (show ¬ (5 : Int32) = 4 by decide), if_pos (show (5 : Int32) = 5 from rfl)]
              rw [if_pos (show v_X9_isWithin 5 0 2 = 0 by decide), if_pos (show v_X9_isWithin 5 10 18 = 0 by decide), if_neg (show ¬ (5 : Int32) = 3 by decide), if_neg (show ¬ (5 : Int32) = 4 by decide), if_pos (show (5 : Int32) = 5 from rfl)]
              rw [q_openAll h.1.1, Option.bind_some]
            · skip
              by_cases q6 : x1 = 6
              · subst q6
                rw [if_neg (show ¬ (6 : Int32) = 0 by decide), if_neg (show ¬ (6 : Int32) = 1 by decide), if_neg (show ¬ (6 : Int32) = 2 by decide), if_neg (show ¬ (6 : Int32) = 3 by decide), if_neg (show ¬ (6 : Int32) = 4 by decide), if_neg (show ¬ (6 : Int32) = 5 by decide), if_pos (show (6 : Int32) = 6 from rfl)]
                rw [if_pos (show v_X9_isWithin 6 0 2 = 0 by decide), if_pos (show v_X9_isWithin 6 10 18 = 0 by decide), if_neg (show ¬ (6 : Int32) = 3 by decide), if_neg (show ¬ (6 : Int32) = 4 by decide), if_neg (show ¬ (6 : Int32) = 5 by decide), if_pos (show (6 : Int32) = 6 from rfl)]
                rw [nK5, h.mt, h.et]
              · skip
                by_cases q7 : x1 = 7
                · subst q7
                  rw [if_neg (show ¬ (7 : Int32) = 0 by decide), if_neg (show ¬ (7 : Int32) = 1 by decide), if_neg (show ¬ (7 : Int32) = 2 by decide), if_neg (show ¬ (7 : Int32) = 3 by decide), if_neg (show ¬ (7 : Int32) = 4 by decide), if_neg (show ¬ (7 : Int32) = 5 by decide), if_neg (show ¬ (7 : Int32) = 6 by decide), if_pos (show (7 : Int32) = 7 from rfl)]
                  rw [if_pos (show v_X9_isWithin 7 0 2 = 0 by decide), if_pos (show v_X9_isWithin 7 10 18 = 0 by decide), if_neg (show ¬ (7 : Int32) = 3 by decide), if_neg (show ¬ (7 : Int32) = 4 by decide), if_neg (show ¬ (7 : Int32) = 5 by decide), if_neg (show ¬ (7 : Int32) = 6 by decide), if_pos (show (7 : Int32) = 7 from rfl)]
                  rw [nK6, h.1.2.2.2.2.2.2]
                · skip
                  by_cases q8 : x1 = 8
                  · subst q8
                    rw [if_neg (show ¬ (8 : Int32) = 0 by decide), if_neg (show ¬ (8 : Int32) = 1 by decide), if_neg (show ¬ (8 : Int32) = 2 by decide), if_neg (show ¬ (8 : Int32) = 3 by decide), if_neg (show ¬ (8 : Int32) = 4 by decide), if_neg (show ¬ (8 : Int32) = 5 by decide), if_neg (show ¬ (8 : Int32) = 6 by decide), if_neg (show ¬ (8 : Int32) = 7 by decide), if_pos (show (8 : Int32) = 8 from rfl)]
                    rw [if_pos (show v_X9_isWithin 8 0 2 = 0 by decide), if_pos (show v_X9_isWithin 8 10 18 = 0 by decide), if_neg (show ¬ (8 : Int32) = 3 by decide), if_neg (show ¬ (8 : Int32) = 4 by decide), if_neg (show ¬ (8 : Int32) = 5 by decide), if_neg (show ¬ (8 : Int32) = 6 by decide), if_neg (show ¬ (8 : Int32) = 7 by decide), if_pos (show (8 : Int32) = 8 from rfl)]
                    rw [q_lettersAll h.1.1, Option.bind_some]
                  · skip
                    by_cases q9 : x1 = 9
                    · subst q9
                      rw [if_neg (show ¬ (9 : Int32) = 0 by decide), if_neg (show ¬ (9 : Int32) = 1 by decide), if_neg (show ¬ (9 : Int32) = 2 by decide), if_neg (show ¬ (9 : Int32) = 3 by decide), if_neg (show ¬ (9 : Int32) = 4 by decide), if_neg (show ¬ (9 : Int32) = 5 by decide), if_neg (show ¬ (9 : Int32) = 6 by decide), if_neg (show ¬ (9 : Int32) = 7 by decide), if_neg (show ¬ (9 : Int32) = 8 by decide), if_pos (show (9 : Int32) = 9 from rfl)]
                      rw [if_pos (show v_X9_isWithin 9 0 2 = 0 by decide), if_pos (show v_X9_isWithin 9 10 18 = 0 by decide), if_neg (show ¬ (9 : Int32) = 3 by decide), if_neg (show ¬ (9 : Int32) = 4 by decide), if_neg (show ¬ (9 : Int32) = 5 by decide), if_neg (show ¬ (9 : Int32) = 6 by decide), if_neg (show ¬ (9 : Int32) = 7 by decide), if_neg (show ¬ (9 : Int32) = 8 by decide), if_pos (show (9 : Int32) = 9 from rfl)]
                      rw [q_lengthAll h.1.1, Option.bind_some]
                    · skip
                      by_cases q10 : x1 = 10
                      · subst q10
                        rw [if_neg (show ¬ (10 : Int32) = 0 by decide), if_neg (show ¬ (10 : Int32) = 1 by decide), if_neg (show ¬ (10 : Int32) = 2 by decide), if_neg (show ¬ (10 : Int32) = 3 by decide), if_neg (show ¬ (10 : Int32) = 4 by decide), if_neg (show ¬ (10 : Int32) = 5 by decide), if_neg (show ¬ (10 : Int32) = 6 by decide), if_neg (show ¬ (10 : Int32) = 7 by decide), if_neg (show ¬ (10 : Int32) = 8 by decide), if_neg (show ¬ (10 : Int32) = 9 by decide), if_pos (show (10 : Int32) = 10 from rfl)]
                        rw [if_pos (show v_X9_isWithin 10 0 2 = 0 by decide), if_neg (show ¬ v_X9_isWithin 10 10 18 = 0 by decide)]
                        rw [show (8 : Int32) + 10 - 10 = iN 8 from rfl, if_pos (show gin (iN 8) 336 = true by decide), iN_nat (by decide), show (10 : Int32) - 10 = iN 0 from rfl, at9 _ (by decide)]
                        exact congrArg some (h.1.2.2.2.2.1 0 (by decide))
                      · skip
                        by_cases q11 : x1 = 11
                        · subst q11
                          rw [if_neg (show ¬ (11 : Int32) = 0 by decide), if_neg (show ¬ (11 : Int32) = 1 by decide), if_neg (show ¬ (11 : Int32) = 2 by decide), if_neg (show ¬ (11 : Int32) = 3 by decide), if_neg (show ¬ (11 : Int32) = 4 by decide), if_neg (show ¬ (11 : Int32) = 5 by decide), if_neg (show ¬ (11 : Int32) = 6 by decide), if_neg (show ¬ (11 : Int32) = 7 by decide), if_neg (show ¬ (11 : Int32) = 8 by decide), if_neg (show ¬ (11 : Int32) = 9 by decide), if_neg (show ¬ (11 : Int32) = 10 by decide), if_pos (show (11 : Int32) = 11 from rfl)]
                          rw [if_pos (show v_X9_isWithin 11 0 2 = 0 by decide), if_neg (show ¬ v_X9_isWithin 11 10 18 = 0 by decide)]
                          rw [show (8 : Int32) + 11 - 10 = iN 9 from rfl, if_pos (show gin (iN 9) 336 = true by decide), iN_nat (by decide), show (11 : Int32) - 10 = iN 1 from rfl, at9 _ (by decide)]
                          exact congrArg some (h.1.2.2.2.2.1 1 (by decide))
                        · skip
                          by_cases q12 : x1 = 12
                          · subst q12
                            rw [if_neg (show ¬ (12 : Int32) = 0 by decide), if_neg (show ¬ (12 : Int32) = 1 by decide), if_neg (show ¬ (12 : Int32) = 2 by decide), if_neg (show ¬ (12 : Int32) = 3 by decide), if_neg (show ¬ (12 : Int32) = 4 by decide), if_neg (show ¬ (12 : Int32) = 5 by decide), if_neg (show ¬ (12 : Int32) = 6 by decide), if_neg (show ¬ (12 : Int32) = 7 by decide), if_neg (show ¬ (12 : Int32) = 8 by decide), if_neg (show ¬ (12 : Int32) = 9 by decide), if_neg (show ¬ (12 : Int32) = 10 by decide), if_neg (show ¬ (12 : Int32) = 11 by decide), if_pos (show (12 : Int32) = 12 from rfl)]
                            rw [if_pos (show v_X9_isWithin 12 0 2 = 0 by decide), if_neg (show ¬ v_X9_isWithin 12 10 18 = 0 by decide)]
                            rw [show (8 : Int32) + 12 - 10 = iN 10 from rfl, if_pos (show gin (iN 10) 336 = true by decide), iN_nat (by decide), show (12 : Int32) - 10 = iN 2 from rfl, at9 _ (by decide)]
                            exact congrArg some (h.1.2.2.2.2.1 2 (by decide))
                          · skip
                            by_cases q13 : x1 = 13
                            · subst q13
                              rw [if_neg (show ¬ (13 : Int32) = 0 by decide), if_neg (show ¬ (13 : Int32) = 1 by decide), if_neg (show ¬ (13 : Int32) = 2 by decide), if_neg (show ¬ (13 : Int32) = 3 by decide), if_neg (show ¬ (13 : Int32) = 4 by decide), if_neg (show ¬ (13 : Int32) = 5 by decide), if_neg (show ¬ (13 : Int32) = 6 by decide), if_neg (show ¬ (13 : Int32) = 7 by decide), if_neg (show ¬ (13 : Int32) = 8 by decide), if_neg (show ¬ (13 : Int32) = 9 by decide), if_neg (show ¬ (13 : Int32) = 10 by decide), if_neg (show ¬ (13 : Int32) = 11 by decide), if_neg (show ¬ (13 : Int32) = 12 by decide), if_pos (show (13 : Int32) = 13 from rfl)]
                              rw [if_pos (show v_X9_isWithin 13 0 2 = 0 by decide), if_neg (show ¬ v_X9_isWithin 13 10 18 = 0 by decide)]
                              rw [show (8 : Int32) + 13 - 10 = iN 11 from rfl, if_pos (show gin (iN 11) 336 = true by decide), iN_nat (by decide), show (13 : Int32) - 10 = iN 3 from rfl, at9 _ (by decide)]
                              exact congrArg some (h.1.2.2.2.2.1 3 (by decide))
                            · skip
                              by_cases q14 : x1 = 14
                              · subst q14
                                rw [if_neg (show ¬ (14 : Int32) = 0 by decide), if_neg (show ¬ (14 : Int32) = 1 by decide), if_neg (show ¬ (14 : Int32) = 2 by decide), if_neg (show ¬ (14 : Int32) = 3 by decide), if_neg (show ¬ (14 : Int32) = 4 by decide), if_neg (show ¬ (14 : Int32) = 5 by decide), if_neg (show ¬ (14 : Int32) = 6 by decide), if_neg (show ¬ (14 : Int32) = 7 by decide), if_neg (show ¬ (14 : Int32) = 8 by decide), if_neg (show ¬ (14 : Int32) = 9 by decide), if_neg (show ¬ (14 : Int32) = 10 by decide), if_neg (show ¬ (14 : Int32) = 11 by decide), if_neg (show ¬ (14 : Int32) = 12 by decide), if_neg (show ¬ (14 : Int32) = 13 by decide), if_pos (show (14 : Int32) = 14 from rfl)]
                                rw [if_pos (show v_X9_isWithin 14 0 2 = 0 by decide), if_neg (show ¬ v_X9_isWithin 14 10 18 = 0 by decide)]
                                rw [show (8 : Int32) + 14 - 10 = iN 12 from rfl, if_pos (show gin (iN 12) 336 = true by decide), iN_nat (by decide), show (14 : Int32) - 10 = iN 4 from rfl, at9 _ (by decide)]
                                exact congrArg some (h.1.2.2.2.2.1 4 (by decide))
                              · skip
                                by_cases q15 : x1 = 15
                                · subst q15
                                  rw [if_neg (show ¬ (15 : Int32) = 0 by decide), if_neg (show ¬ (15 : Int32) = 1 by decide), if_neg (show ¬ (15 : Int32) = 2 by decide), if_neg (show ¬ (15 : Int32) = 3 by decide), if_neg (show ¬ (15 : Int32) = 4 by decide), if_neg (show ¬ (15 : Int32) = 5 by decide), if_neg (show ¬ (15 : Int32) = 6 by decide), if_neg (show ¬ (15 : Int32) = 7 by decide), if_neg (show ¬ (15 : Int32) = 8 by decide), if_neg (show ¬ (15 : Int32) = 9 by decide), if_neg (show ¬ (15 : Int32) = 10 by decide), if_neg (show ¬ (15 : Int32) = 11 by decide), if_neg (show ¬ (15 : Int32) = 12 by decide), if_neg (show ¬ (15 : Int32) = 13 by decide), if_neg (show ¬ (15 : Int32) = 14 by decide), if_pos (show (15 : Int32) = 15 from rfl)]
                                  rw [if_pos (show v_X9_isWithin 15 0 2 = 0 by decide), if_neg (show ¬ v_X9_isWithin 15 10 18 = 0 by decide)]
                                  rw [show (8 : Int32) + 15 - 10 = iN 13 from rfl, if_pos (show gin (iN 13) 336 = true by decide), iN_nat (by decide), show (15 : Int32) - 10 = iN 5 from rfl, at9 _ (by decide)]
                                  exact congrArg some (h.1.2.2.2.2.1 5 (by decide))
                                · skip
                                  by_cases q16 : x1 = 16
                                  · subst q16
                                    rw [if_neg (show ¬ (16 : Int32) = 0 by decide), if_neg (show ¬ (16 : Int32) = 1 by decide), if_neg (show ¬ (16 : Int32) = 2 by decide), if_neg (show ¬ (16 : Int32) = 3 by decide), if_neg (show ¬ (16 : Int32) = 4 by decide), if_neg (show ¬ (16 : Int32) = 5 by decide), if_neg (show ¬ (16 : Int32) = 6 by decide), if_neg (show ¬ (16 : Int32) = 7 by decide), if_neg (show ¬ (16 : Int32) = 8 by decide), if_neg (show ¬ (16 : Int32) = 9 by decide), if_neg (show ¬ (16 : Int32) = 10 by decide), if_neg (show ¬ (16 : Int32) = 11 by decide), if_neg (show ¬ (16 : Int32) = 12 by decide), if_neg (show ¬ (16 : Int32) = 13 by decide), if_neg (show ¬ (16 : Int32) = 14 by decide), if_neg (show ¬ (16 : Int32) = 15 by decide), if_pos (show (16 : Int32) = 16 from rfl)]
                                    rw [if_pos (show v_X9_isWithin 16 0 2 = 0 by decide), if_neg (show ¬ v_X9_isWithin 16 10 18 = 0 by decide)]
                                    rw [show (8 : Int32) + 16 - 10 = iN 14 from rfl, if_pos (show gin (iN 14) 336 = true by decide), iN_nat (by decide), show (16 : Int32) - 10 = iN 6 from rfl, at9 _ (by decide)]
                                    exact congrArg some (h.1.2.2.2.2.1 6 (by decide))
                                  · skip
                                    by_cases q17 : x1 = 17
                                    · subst q17
                                      rw [if_neg (show ¬ (17 : Int32) = 0 by decide), if_neg (show ¬ (17 : Int32) = 1 by decide), if_neg (show ¬ (17 : Int32) = 2 by decide), if_neg (show ¬ (17 : Int32) = 3 by decide), if_neg (show ¬ (17 : Int32) = 4 by decide), if_neg (show ¬ (17 : Int32) = 5 by decide), if_neg (show ¬ (17 : Int32) = 6 by decide), if_neg (show ¬ (17 : Int32) = 7 by decide), if_neg (show ¬ (17 : Int32) = 8 by decide), if_neg (show ¬ (17 : Int32) = 9 by decide), if_neg (show ¬ (17 : Int32) = 10 by decide), if_neg (show ¬ (17 : Int32) = 11 by decide), if_neg (show ¬ (17 : Int32) = 12 by decide), if_neg (show ¬ (17 : Int32) = 13 by decide), if_neg (show ¬ (17 : Int32) = 14 by decide), if_neg (show ¬ (17 : Int32) = 15 by decide), if_neg (show ¬ (17 : Int32) = 16 by decide), if_pos (show (17 : Int32) = 17 from rfl)]
                                      rw [if_pos (show v_X9_isWithin 17 0 2 = 0 by decide), if_neg (show ¬ v_X9_isWithin 17 10 18 = 0 by decide)]
                                      rw [show (8 : Int32) + 17 - 10 = iN 15 from rfl, if_pos (show gin (iN 15) 336 = true by decide), iN_nat (by decide), show (17 : Int32) - 10 = iN 7 from rfl, at9 _ (by decide)]
                                      exact congrArg some (h.1.2.2.2.2.1 7 (by decide))
                                    · skip
                                      by_cases q18 : x1 = 18
                                      · subst q18
                                        rw [if_neg (show ¬ (18 : Int32) = 0 by decide), if_neg (show ¬ (18 : Int32) = 1 by decide), if_neg (show ¬ (18 : Int32) = 2 by decide), if_neg (show ¬ (18 : Int32) = 3 by decide), if_neg (show ¬ (18 : Int32) = 4 by decide), if_neg (show ¬ (18 : Int32) = 5 by decide), if_neg (show ¬ (18 : Int32) = 6 by decide), if_neg (show ¬ (18 : Int32) = 7 by decide), if_neg (show ¬ (18 : Int32) = 8 by decide), if_neg (show ¬ (18 : Int32) = 9 by decide), if_neg (show ¬ (18 : Int32) = 10 by decide), if_neg (show ¬ (18 : Int32) = 11 by decide), if_neg (show ¬ (18 : Int32) = 12 by decide), if_neg (show ¬ (18 : Int32) = 13 by decide), if_neg (show ¬ (18 : Int32) = 14 by decide), if_neg (show ¬ (18 : Int32) = 15 by decide), if_neg (show ¬ (18 : Int32) = 16 by decide), if_neg (show ¬ (18 : Int32) = 17 by decide), if_pos (show (18 : Int32) = 18 from rfl)]
                                        rw [if_pos (show v_X9_isWithin 18 0 2 = 0 by decide), if_neg (show ¬ v_X9_isWithin 18 10 18 = 0 by decide)]
                                        rw [show (8 : Int32) + 18 - 10 = iN 16 from rfl, if_pos (show gin (iN 16) 336 = true by decide), iN_nat (by decide), show (18 : Int32) - 10 = iN 8 from rfl, at9 _ (by decide)]
                                        exact congrArg some (h.1.2.2.2.2.1 8 (by decide))
                                      · skip
                                        by_cases q19 : x1 = 19
                                        · subst q19
                                          rw [if_neg (show ¬ (19 : Int32) = 0 by decide), if_neg (show ¬ (19 : Int32) = 1 by decide), if_neg (show ¬ (19 : Int32) = 2 by decide), if_neg (show ¬ (19 : Int32) = 3 by decide), if_neg (show ¬ (19 : Int32) = 4 by decide), if_neg (show ¬ (19 : Int32) = 5 by decide), if_neg (show ¬ (19 : Int32) = 6 by decide), if_neg (show ¬ (19 : Int32) = 7 by decide), if_neg (show ¬ (19 : Int32) = 8 by decide), if_neg (show ¬ (19 : Int32) = 9 by decide), if_neg (show ¬ (19 : Int32) = 10 by decide), if_neg (show ¬ (19 : Int32) = 11 by decide), if_neg (show ¬ (19 : Int32) = 12 by decide), if_neg (show ¬ (19 : Int32) = 13 by decide), if_neg (show ¬ (19 : Int32) = 14 by decide), if_neg (show ¬ (19 : Int32) = 15 by decide), if_neg (show ¬ (19 : Int32) = 16 by decide), if_neg (show ¬ (19 : Int32) = 17 by decide), if_neg (show ¬ (19 : Int32) = 18 by decide), if_pos (show (19 : Int32) = 19 from rfl)]
                                          rw [if_pos (show v_X9_isWithin 19 0 2 = 0 by decide), if_pos (show v_X9_isWithin 19 10 18 = 0 by decide), if_neg (show ¬ (19 : Int32) = 3 by decide), if_neg (show ¬ (19 : Int32) = 4 by decide), if_neg (show ¬ (19 : Int32) = 5 by decide), if_neg (show ¬ (19 : Int32) = 6 by decide), if_neg (show ¬ (19 : Int32) = 7 by decide), if_neg (show ¬ (19 : Int32) = 8 by decide), if_neg (show ¬ (19 : Int32) = 9 by decide), if_neg (show ¬ (19 : Int32) = 10 by decide), if_neg (show ¬ (19 : Int32) = 11 by decide), if_neg (show ¬ (19 : Int32) = 12 by decide), if_neg (show ¬ (19 : Int32) = 13 by decide), if_neg (show ¬ (19 : Int32) = 14 by decide), if_neg (show ¬ (19 : Int32) = 15 by decide), if_neg (show ¬ (19 : Int32) = 16 by decide), if_neg (show ¬ (19 : Int32) = 17 by decide), if_neg (show ¬ (19 : Int32) = 18 by decide), if_pos (show (19 : Int32) = 19 from rfl)]
                                          obtain ⟨lc, od, -, -, e6, e215, -⟩ := h.1.2.2.1
                                          rw [nK215, e215, e6]
                                        · skip
                                          by_cases q20 : x1 = 20
                                          · subst q20
                                            rw [if_neg (show ¬ (20 : Int32) = 0 by decide), if_neg (show ¬ (20 : Int32) = 1 by decide), if_neg (show ¬ (20 : Int32) = 2 by decide), if_neg (show ¬ (20 : Int32) = 3 by decide), if_neg (show ¬ (20 : Int32) = 4 by decide), if_neg (show ¬ (20 : Int32) = 5 by decide), if_neg (show ¬ (20 : Int32) = 6 by decide), if_neg (show ¬ (20 : Int32) = 7 by decide), if_neg (show ¬ (20 : Int32) = 8 by decide), if_neg (show ¬ (20 : Int32) = 9 by decide), if_neg (show ¬ (20 : Int32) = 10 by decide), if_neg (show ¬ (20 : Int32) = 11 by decide), if_neg (show ¬ (20 : Int32) = 12 by decide), if_neg (show ¬ (20 : Int32) = 13 by decide), if_neg (show ¬ (20 : Int32) = 14 by decide), if_neg (show ¬ (20 : Int32) = 15 by decide), if_neg (show ¬ (20 : Int32) = 16 by decide), if_neg (show ¬ (20 : Int32) = 17 by decide), if_neg (show ¬ (20 : Int32) = 18 by decide), if_neg (show ¬ (20 : Int32) = 19 by decide), if_pos (show (20 : Int32) = 20 from rfl)]
                                            rw [if_pos (show v_X9_isWithin 20 0 2 = 0 by decide), if_pos (show v_X9_isWithin 20 10 18 = 0 by decide), if_neg (show ¬ (20 : Int32) = 3 by decide), if_neg (show ¬ (20 : Int32) = 4 by decide), if_neg (show ¬ (20 : Int32) = 5 by decide), if_neg (show ¬ (20 : Int32) = 6 by decide), if_neg (show ¬ (20 : Int32) = 7 by decide), if_neg (show ¬ (20 : Int32) = 8 by decide), if_neg (show ¬ (20 : Int32) = 9 by decide), if_neg (show ¬ (20 : Int32) = 10 by decide), if_neg (show ¬ (20 : Int32) = 11 by decide), if_neg (show ¬ (20 : Int32) = 12 by decide), if_neg (show ¬ (20 : Int32) = 13 by decide), if_neg (show ¬ (20 : Int32) = 14 by decide), if_neg (show ¬ (20 : Int32) = 15 by decide), if_neg (show ¬ (20 : Int32) = 16 by decide), if_neg (show ¬ (20 : Int32) = 17 by decide), if_neg (show ¬ (20 : Int32) = 18 by decide), if_neg (show ¬ (20 : Int32) = 19 by decide), if_pos (show (20 : Int32) = 20 from rfl)]
                                            rw [hu]
                                          · skip
                                            rw [if_neg q0, if_neg q1, if_neg q2, if_neg q3, if_neg q4, if_neg q5, if_neg q6, if_neg q7, if_neg q8, if_neg q9, if_neg q10, if_neg q11, if_neg q12, if_neg q13, if_neg q14, if_neg q15, if_neg q16, if_neg q17, if_neg q18, if_neg q19, if_neg q20]
                                            have w1 : v_X9_isWithin x1 0 2 = 0 := by
                                              by_cases z : v_X9_isWithin x1 0 2 = 0
                                              · exact z
                                              · obtain ⟨n, -, hn, rfl⟩ := within_iN (a := 0) (b := 2) (by decide) (by decide) z
                                                rcases (by omega : n = 0 ∨ n = 1 ∨ n = 2) with rfl | rfl | rfl
                                                · exact absurd rfl q0
                                                · exact absurd rfl q1
                                                · exact absurd rfl q2
                                            have w2 : v_X9_isWithin x1 10 18 = 0 := by
                                              by_cases z : v_X9_isWithin x1 10 18 = 0
                                              · exact z
                                              · obtain ⟨n, hn0, hn, rfl⟩ := within_iN (a := 10) (b := 18) (by decide) (by decide) z
                                                rcases (by omega : n = 10 ∨ n = 11 ∨ n = 12 ∨ n = 13 ∨ n = 14 ∨ n = 15 ∨ n = 16 ∨ n = 17 ∨ n = 18) with rfl | rfl | rfl | rfl | rfl | rfl | rfl | rfl | rfl
                                                · exact absurd rfl q10
                                                · exact absurd rfl q11
                                                · exact absurd rfl q12
                                                · exact absurd rfl q13
                                                · exact absurd rfl q14
                                                · exact absurd rfl q15
                                                · exact absurd rfl q16
                                                · exact absurd rfl q17
                                                · exact absurd rfl q18
                                            rw [if_pos w1, if_pos w2, if_neg q3, if_neg q4, if_neg q5, if_neg q6, if_neg q7, if_neg q8, if_neg q9, if_neg q10, if_neg q11, if_neg q12, if_neg q13, if_neg q14, if_neg q15, if_neg q16, if_neg q17, if_neg q18, if_neg q19, if_neg q20]
end VL
