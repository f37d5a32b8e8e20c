-- PART 14: what is told of now
section QY
variable {c tc B k : Nat} {S : SM} {m : Nat → Int32} {X : SM} {Y : RS} {o t i : Nat}
theorem in_within (x a b : Int32) : v_X10_in x a b = v_X9_isWithin x a b := rfl
theorem c_has (h2 : S 18 2 = iN c) (hc : c ≤ 10) (x : Int32) : v_X2_has S x = 0 ∨ ∃ o, o < c ∧ x = iN o ∧ v_X2_has S x = 1 := by
  unfold v_X2_has
  by_cases q : x < 0
  · rw [if_pos q]
    exact Or.inl rfl
  · rw [if_neg q, h2]
    by_cases q2 : x < iN c
    · obtain ⟨a, ha, rfl⟩ := iN_between (by omega) q q2
      rw [if_pos q2]
      exact Or.inr ⟨a, ha, rfl, rfl⟩
    · rw [if_neg q2]
      exact Or.inl rfl
theorem c_hasT (h2 : S 18 3 = iN tc) (hc : tc ≤ 3) (x : Int32) : v_X8_has S x = 0 ∨ ∃ o, o < tc ∧ x = iN o ∧ v_X8_has S x = 1 := by
  unfold v_X8_has
  by_cases q : x < 0
  · rw [if_pos q]
    exact Or.inl rfl
  · rw [if_neg q, h2]
    by_cases q2 : x < iN tc
    · obtain ⟨a, ha, rfl⟩ := iN_between (by omega) q q2
      rw [if_pos q2]
      exact Or.inr ⟨a, ha, rfl, rfl⟩
    · rw [if_neg q2]
      exact Or.inl rfl
theorem q_isOffice (h2 : S 18 2 = iN c) (hm : X 0 4 = iN c) (hc : c ≤ 10) (h1 : 1 ≤ c) (x : Int32) : o_X10_isOffice X x = some (v_X2_has S x) := by
  unfold o_X10_isOffice v_X2_has v_X10_in
  rw [nK4, hm, h2, iN_1 h1]
  by_cases q : x < 0
  · rw [if_pos q, if_pos q]
  · rw [if_neg q, if_neg q]
    obtain ⟨a, ha, rfl⟩ := iN_of q
    by_cases q2 : a < c
    · rw [if_neg (fun z => by have := (iN_lt (by omega) ha).mp z; omega), if_pos (iN_ylt q2 (by omega))]
    · rw [if_pos ((iN_lt (by omega) ha).mpr (by omega)), if_neg (fun z => by have := (iN_lt ha (by omega)).mp z; omega)]
theorem q_isToken (h2 : S 18 3 = iN tc) (hm : X 0 5 = iN tc) (hc : tc ≤ 3) (x : Int32) : o_X10_isToken X x = some (v_X8_has S x) := by
  unfold o_X10_isToken v_X8_has v_X10_in
  rw [nK5, hm, h2]
  by_cases q : x < 0
  · rw [if_pos q, if_pos q]
  · rw [if_neg q, if_neg q]
    obtain ⟨a, ha, rfl⟩ := iN_of q
    by_cases q2 : a < tc
    · rw [iN_1 (by omega), if_neg (fun z => by have := (iN_lt (by omega) ha).mp z; omega), if_pos (iN_ylt q2 (by omega))]
    · rw [if_neg (show ¬ iN a < iN tc from fun z => by have := (iN_lt ha (by omega)).mp z; omega)]
      by_cases q3 : tc = 0
      · rw [q3, if_pos ?_]
        rw [Int32.lt_iff_toInt_lt, iN_toInt ha, show (iN 0 - 1).toInt = -1 from rfl]
        omega
      · rw [iN_1 (by omega), if_pos ((iN_lt (by omega) ha).mpr (by omega))]
theorem Iv.c10 (h : Iv c tc B S m) : c ≤ 10 := h.2.1.1
theorem Iv.t3 (h : Iv c tc B S m) : tc ≤ 3 := h.2.2.1.1
theorem Iv.ec (h : Iv c tc B S m) : S 18 2 = iN c := h.2.1.2.1
theorem Iv.et (h : Iv c tc B S m) : S 18 3 = iN tc := h.2.2.1.2.1
theorem Iv.mc (h : Iv c tc B S m) : m 4 = iN c := h.1.1.2.2.1
theorem Iv.mt (h : Iv c tc B S m) : m 5 = iN tc := h.1.2.1.2.2.1
theorem q_token (h : Iv c tc B (Y 0) (X 0)) (x1 x2 : Int32) : o_X10_token X x1 x2 = some (v_X9_token Y x1 x2) := by
  have t3 := h.t3
  unfold o_X10_token v_X9_token
  rw [q_isToken h.et h.mt t3, Option.bind_some]
  rcases c_hasT h.et t3 x1 with e | ⟨t, ht, rfl, e⟩
  · rw [e, if_pos rfl, if_pos rfl]
  · have k3 : t < 3 := by omega
    have hT := h.1.2.1
    rw [e, if_neg (show ¬ (1 : Int32) = 0 by decide), if_neg (show ¬ (1 : Int32) = 0 by decide), in_within]
    by_cases q0 : x2 = 0
    · subst q0
      rw [if_neg (show ¬ v_X9_isWithin 0 0 4 = 0 by decide), if_pos rfl, tA0, if_pos (gT' k3 (by decide)), nT k3 (by decide), hT.f0 ht, at_in (by decide) k3]
    · by_cases q1 : x2 = 1
      · subst q1
        rw [if_neg (show ¬ v_X9_isWithin 1 0 4 = 0 by decide), if_neg q0, if_pos rfl, tA1, if_pos (gT' k3 (by decide)), nT k3 (by decide), hT.f1 ht, at_in (by decide) k3]
      · by_cases q2 : x2 = 2
        · subst q2
          rw [if_neg (show ¬ v_X9_isWithin 2 0 4 = 0 by decide), if_neg q0, if_neg q1, if_pos rfl, tA2, if_pos (gT' k3 (by decide)), nT k3 (by decide), hT.f2 ht, at_in (by decide) k3]
        · by_cases q3 : x2 = 3
          · subst q3
            rw [if_neg (show ¬ v_X9_isWithin 3 0 4 = 0 by decide), if_neg q0, if_neg q1, if_neg q2, if_pos rfl, tA3, if_pos (gT' k3 (by decide)), nT k3 (by decide), hT.f3 ht, at_in (by decide) k3]
          · by_cases q4 : x2 = 4
            · subst q4
              rw [if_neg (show ¬ v_X9_isWithin 4 0 4 = 0 by decide), if_neg q0, if_neg q1, if_neg q2, if_neg q3, if_pos rfl, tA4, if_pos (gT' k3 (by decide)), nT k3 (by decide), hT.f4 ht, at_in (by decide) k3]
            · rw [if_neg q0, if_neg q1, if_neg q2, if_neg q3, if_neg q4, if_pos ?_]
              unfold v_X9_isWithin
              by_cases qn : x2 < 0
              · rw [if_pos qn]
              · rw [if_neg qn]
                obtain ⟨a, ha, rfl⟩ := iN_of qn
                rw [if_pos ?_]
                refine (iN_lt (a := 4) (by decide) ha).mpr ?_
                have g0 : a ≠ 0 := fun z => q0 (by rw [z]; rfl)
                have g1 : a ≠ 1 := fun z => q1 (by rw [z]; rfl)
                have g2 : a ≠ 2 := fun z => q2 (by rw [z]; rfl)
                have g3 : a ≠ 3 := fun z => q3 (by rw [z]; rfl)
                have g4 : a ≠ 4 := fun z => q4 (by rw [z]; rfl)
                omega
theorem q_office (h : Iv c tc B (Y 0) (X 0)) (h1 : 1 ≤ c) (x1 x2 : Int32) : o_X10_office X x1 x2 = some (v_X9_office Y x1 x2) := by
  have c10 := h.c10
  unfold o_X10_office v_X9_office
  rw [q_isOffice h.ec h.mc c10 h1, Option.bind_some]
  rcases c_has h.ec c10 x1 with e | ⟨o, ho, rfl, e⟩
  · rw [e, if_pos rfl, if_pos rfl]
  · have k10 : o < 10 := by omega
    have hO := h.1.1
    rw [e, if_neg (show ¬ (1 : Int32) = 0 by decide), if_neg (show ¬ (1 : Int32) = 0 by decide)]
    by_cases q0 : x2 = 0
    · subst q0
      rw [if_pos rfl, if_pos rfl, oA0, if_pos (gO k10 (by decide)), nO k10 (by decide), hO.f0 ho, at_in (by decide) k10]
    · rw [if_neg q0, if_neg q0]
      by_cases q1 : x2 = 1
      · subst q1
        rw [if_pos rfl, if_pos rfl, oA1, if_pos (gO k10 (by decide)), nO k10 (by decide), hO.f1 ho, at_in (by decide) k10]
      · rw [if_neg q1, if_neg q1]
        by_cases q2 : x2 = 2
        · subst q2
          rw [if_pos rfl, if_pos rfl, oA2, if_pos (gO k10 (by decide)), nO k10 (by decide), hO.f2 ho, at_in (by decide) k10]
        · rw [if_neg q2, if_neg q2]
          by_cases q3 : x2 = 3
          · subst q3
            rw [if_pos rfl, if_pos rfl, oA3, if_pos (gO k10 (by decide)), nO k10 (by decide), hO.f3 ho, at_in (by decide) k10]
          · rw [if_neg q3, if_neg q3]
            by_cases q4 : x2 = 4
            · subst q4
              rw [if_pos rfl, if_pos rfl, oA4, if_pos (gO k10 (by decide)), nO k10 (by decide), hO.f4 ho, at_in (by decide) k10]
            · rw [if_neg q4, if_neg q4]
              by_cases q5 : x2 = 5
              · rw [if_pos q5, if_pos q5, q_lengthOf hO ho, Option.bind_some]
              · rw [if_neg q5, if_neg q5]
                by_cases q6 : x2 = 6
                · rw [if_pos q6, if_pos q6, q_tokenOn h.1.2.1, Option.bind_some]
                · rw [if_neg q6, if_neg q6]
                  by_cases q7 : x2 = 7
                  · rw [if_pos q7, if_pos q7, oA5, if_pos (gO k10 (by decide)), nO k10 (by decide), hO.f5 ho, at_in (by decide) k10]
                  · rw [if_neg q7, if_neg q7]
                    by_cases q8 : x2 = 8
                    · rw [if_pos q8, if_pos q8, q_lettersTo hO, Option.bind_some]
                    · rw [if_neg q8, if_neg q8]
theorem q_queue (h : Iv c tc B (Y 0) (X 0)) (h1 : 1 ≤ c) (x1 x2 x3 : Int32) : o_X10_queue X x1 x2 x3 = some (v_X9_queue Y x1 x2 x3) := by
  have c10 := h.c10
  unfold o_X10_queue v_X9_queue
  rw [q_isOffice h.ec h.mc c10 h1, Option.bind_some]
  rcases c_has h.ec c10 x1 with e | ⟨o, ho, rfl, e⟩
  · rw [e, if_pos rfl, if_pos rfl]
  · have k10 : o < 10 := by omega
    have hO := h.1.1
    obtain ⟨w, hw, e7, hq⟩ := hO.q ho
    rw [e, if_neg (show ¬ (1 : Int32) = 0 by decide), if_neg (show ¬ (1 : Int32) = 0 by decide), in_within]
    by_cases q : x2 < 0
    · rw [if_pos q, if_pos q]
    · rw [if_neg q, if_neg q]
      by_cases q3 : v_X9_isWithin x3 0 2 = 0
      · rw [if_pos q3, if_pos q3]
      · rw [if_neg q3, if_neg q3, oA4, if_pos (gO k10 (by decide)), nO k10 (by decide), hO.f4 ho, at_in (by decide) k10, e7]
        by_cases ql : x2 < iN w
        · obtain ⟨i, hi, rfl⟩ := iN_between (by omega) q ql
          rw [if_pos ql, if_pos ql]
          have hl := hq i hi
          have i6 : i < 6 := by omega
          by_cases q30 : x3 = 0
          · subst q30
            rw [if_pos (show (0 : Int32) < 2 by decide), if_pos rfl, lA0, if_pos (gL k10 i6 (by decide)), nL' k10 i6 (by decide), hl.1, v_toOf k10 i6]
          · by_cases q31 : x3 = 1
            · subst q31
              rw [if_pos (show (1 : Int32) < 2 by decide), if_neg q30, if_neg (show ¬ (1 : Int32) = 2 by decide), lA1, if_pos (gL k10 i6 (by decide)), nL' k10 i6 (by decide), hl.2]
              unfold v_X9_queue_L91
              rw [v_lengthOf k10 i6]
            · have q32 : x3 = 2 := by
                unfold v_X9_isWithin at q3
                by_cases qn : x3 < 0
                · rw [if_pos qn] at q3
                  exact absurd rfl q3
                · rw [if_neg qn] at q3
                  by_cases qb : 2 < x3
                  · rw [if_pos qb] at q3
                    exact absurd rfl q3
                  · obtain ⟨a, ha, rfl⟩ := iN_of qn
                    have : ¬ 2 < a := fun z => qb ((iN_lt (a := 2) (by decide) ha).mpr z)
                    rcases (by omega : a = 0 ∨ a = 1 ∨ a = 2) with rfl | rfl | rfl
                    · exact absurd rfl q30
                    · exact absurd rfl q31
                    · rfl
              subst q32
              have eL : o_X10_queue_L77 X (iN o) (iN i) 2 = some (v_X9_queue_L91 Y (iN o) (iN i) 2 (v_X8_leftAt (Y 0) (iN o))) := by
                unfold o_X10_queue_L77 v_X9_queue_L91
                rw [lA1, if_pos (gL k10 i6 (by decide)), nL' k10 i6 (by decide), hl.2, v_lengthOf k10 i6]
              rw [if_neg (show ¬ (2 : Int32) < 2 by decide), if_neg q30, if_pos rfl, q_leftAt h.1.2.1, Option.bind_some, Option.bind_some, eL]
              by_cases qi : iN i = 0
              · rw [if_pos qi, if_pos qi]
                by_cases ql : 0 < v_X8_leftAt (Y 0) (iN o)
                · rw [if_pos ql, if_pos ql]
                · rw [if_neg ql, if_neg ql]
              · rw [if_neg qi, if_neg qi]
        · rw [if_neg ql, if_neg ql]
theorem q_why (h : Iv c tc B (Y 0) (X 0)) (h1 : 1 ≤ c) (x1 : Int32) : o_X10_why X x1 = some (v_X9_why Y x1) := by
  have c10 := h.c10
  unfold o_X10_why v_X9_why
  rw [q_isOffice h.ec h.mc c10 h1, Option.bind_some]
  rcases c_has h.ec c10 x1 with e | ⟨o, ho, rfl, e⟩
  · rw [e, if_pos rfl, if_pos rfl]
  · have k10 : o < 10 := by omega
    rw [e, if_neg (show ¬ (1 : Int32) = 0 by decide), if_neg (show ¬ (1 : Int32) = 0 by decide), q_tokenOn h.1.2.1, Option.bind_some, q_leftAt h.1.2.1, Option.bind_some, q_isOpen h.1.1 ho, Option.bind_some]
    have el : v_X8_leftAt (Y 0) (iN o) = at_ 3 (Y 0 14) (v_X8_standingAt (Y 0) (iN o)) := rfl
    rw [el]
    by_cases q1 : 0 < at_ 3 (Y 0 14) (v_X8_standingAt (Y 0) (iN o))
    · rw [if_pos q1, if_pos q1]
    · rw [if_neg q1, if_neg q1]
      by_cases q2 : v_X2_isOpen (Y 0) (iN o) = 0
      · rw [if_pos q2, if_pos q2]
      · rw [if_neg q2, if_neg q2]
        rcases v_stand h.et h.t3 (iN o) with ⟨z1, -⟩ | ⟨t, z1, z2, -⟩
        · rw [z1, if_pos m2_neg, if_pos rfl]
        · have := h.t3
          rw [z2, if_neg (iN_neg (by omega)), if_neg (iN_m2 (by omega)), q_whyNot h.1 h.2.1 z1 ho, Option.bind_some]
theorem q_log (h : Iv c tc B (Y 0) (X 0)) (x1 x2 : Int32) : o_X10_log X x1 x2 = some (v_X9_log Y x1 x2) := by
  obtain ⟨lc, od, hlc, hod, e6, e215, e5, hq⟩ := h.1.2.2.1
  unfold o_X10_log v_X9_log
  rw [in_within]
  by_cases q : x1 < 0
  · rw [if_pos q, if_pos q]
  · rw [if_neg q, if_neg q]
    by_cases q2 : v_X9_isWithin x2 0 2 = 0
    · rw [if_pos q2, if_pos q2]
    · rw [if_neg q2, if_neg q2, nK215, e215, e6]
      by_cases ql : x1 < iN lc
      · obtain ⟨i, hi, rfl⟩ := iN_between (by omega) q ql
        have hm : (od + i) % 40 < 40 := Nat.mod_lt _ (by decide)
        rw [if_pos ql, if_pos ql, pG_0]
        unfold v_X1_part
        rw [e5, iN_add, show (40 : Int32) = iN 40 from rfl, iN_rem (by omega) (by decide), at_in (by decide) hm, at_in (by decide) hm, at_in (by decide) hm]
        have hl := hq i hi
        have i40 : i < 40 := by omega
        unfold v_X9_isWithin at q2
        by_cases qn : x2 < 0
        · rw [if_pos qn] at q2
          exact absurd rfl q2
        · rw [if_neg qn] at q2
          by_cases qb : 2 < x2
          · rw [if_pos qb] at q2
            exact absurd rfl q2
          · obtain ⟨a, ha, rfl⟩ := iN_of qn
            have : ¬ 2 < a := fun z => qb ((iN_lt (a := 2) (by decide) ha).mpr z)
            rw [show iN (pG i 0) + iN a = iN (pG i a) from iN_add _ _, if_pos (gG i40 (by omega)), nG i40 (by omega)]
            rcases (by omega : a = 0 ∨ a = 1 ∨ a = 2) with rfl | rfl | rfl
            · rw [if_pos (show iN 0 = 0 from rfl), hl.1]
            · rw [if_neg (show ¬ iN 1 = 0 by decide), if_pos (show iN 1 = 1 from rfl), hl.2.1]
            · rw [if_neg (show ¬ iN 2 = 0 by decide), if_neg (show ¬ iN 2 = 1 by decide), hl.2.2]
      · rw [if_neg ql, if_neg ql]
end QY
