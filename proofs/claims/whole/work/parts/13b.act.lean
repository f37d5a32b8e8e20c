-- PART 13b: a letter is read to its end; a token speaks
section AC2
variable {c tc c' tc' B k : Nat} {S S' : SM} {m m' : Nat → Int32} {o t i : Nat}
theorem q_offR (h : RO c S m) (ho : o < c) (hf : ∀ j, 2 ≤ j → j ≤ 9 → S' j = sU S 6 (upd (S 6) o (S 6 o + 1)) j) (h18 : S' 18 2 = S 18 2) : RO c S' (upd m (pO o 5) (m (pO o 5) + 1)) := by
  have h10 := h.1
  refine ⟨h.1, h18.trans h.2.1, ?_, fun u hu => ?_⟩
  · rw [upd_ne (by unfold pO; omega)]
    exact h.2.2.1
  · have hq := h.2.2.2 u hu
    rw [hf 2 (by decide) (by decide), hf 3 (by decide) (by decide), hf 4 (by decide) (by decide), hf 5 (by decide) (by decide), hf 6 (by decide) (by decide), hf 7 (by decide) (by decide), hf 8 (by decide) (by decide), hf 9 (by decide) (by decide)]
    simp (disch := omega) only [upd_get, sU_get, qOO, qLO, Nat.reduceEqDiff, ↓reduceIte, and_true, and_false, if_false]
    refine ⟨?_, ?_⟩
    · by_cases q : u = o
      · subst q
        simp only [↓reduceIte]
        rw [hq.1.2.2.2.2.2]
        exact ⟨hq.1.1, hq.1.2.1, hq.1.2.2.1, hq.1.2.2.2.1, hq.1.2.2.2.2.1, rfl⟩
      · simp only [q, ↓reduceIte]
        exact hq.1
    · obtain ⟨w, hw, e7, hl⟩ := hq.2
      refine ⟨w, hw, e7, fun i hi => ?_⟩
      have := hl i hi
      simp (disch := omega) only [qLO, if_false]
      exact this
theorem R4.offF (h : R4 c tc S m) (ho : o < c) : R4 c tc (sU S 5 (upd (S 5) o (S 5 o + 1))) (upd m (pO o 3) (m (pO o 3) + 1)) := by
  have h10 := h.1.1
  exact h.O (q_offF h.1 ho (fun j a b => rfl) rfl) (fun j j1 j2 => sU_ne (by omega)) (fun k k1 => rfl) (fun k k1 k2 => upd_ne (by unfold pO; omega))
theorem R4.offR (h : R4 c tc S m) (ho : o < c) : R4 c tc (sU S 6 (upd (S 6) o (S 6 o + 1))) (upd m (pO o 5) (m (pO o 5) + 1)) := by
  have h10 := h.1.1
  exact h.O (q_offR h.1 ho (fun j a b => rfl) rfl) (fun j j1 j2 => sU_ne (by omega)) (fun k k1 => rfl) (fun k k1 k2 => upd_ne (by unfold pO; omega))
theorem rem_eq (S : SM) (x y : Int32) : s_X2_removeLetter S x y = sU (sU (sU S 8 (takeOut_ 60 (S 8) (x * 6 + y) (x * 6 + at_ 10 (S 7) x))) 9 (takeOut_ 60 (S 9) (x * 6 + y) (x * 6 + at_ 10 (S 7) x))) 7 (put_ 10 (S 7) x (at_ 10 (S 7) x - 1)) := by
  unfold s_X2_removeLetter s_X2_removeLetter_L29 s_X2_removeLetter_L43
  simp only [sU_get, Nat.reduceEqDiff, ↓reduceIte]
theorem add_rem {lc od : Nat} (hl : lc ≤ 40) (ho : od < 40) (e6 : S 18 6 = iN lc) (e5 : S 18 5 = iN od) (x y z a b : Int32) : s_X2_removeLetter (s_X1_add S x y z) a b = s_X1_add (s_X2_removeLetter S a b) x y z := by
  have r18 : s_X2_removeLetter S a b 18 = S 18 := by
    rw [rem_eq, sU_ne (by decide), sU_ne (by decide), sU_ne (by decide)]
  rw [v_logAdd (S := s_X2_removeLetter S a b) hl ho (by rw [r18]; exact e6) (by rw [r18]; exact e5), v_logAdd hl ho e6 e5, rem_eq, rem_eq]
  funext j
  by_cases h7 : j = 7
  · subst h7
    simp only [sU_get, Nat.reduceEqDiff, ↓reduceIte]
  · by_cases h8 : j = 8
    · subst h8
      simp only [sU_get, Nat.reduceEqDiff, ↓reduceIte]
    · by_cases h9 : j = 9
      · subst h9
        simp only [sU_get, Nat.reduceEqDiff, ↓reduceIte]
      · simp only [sU_get, h7, h8, h9, Nat.reduceEqDiff, ↓reduceIte]
theorem rem_sU (S : SM) {j : Nat} (h7 : j ≠ 7) (h8 : j ≠ 8) (h9 : j ≠ 9) (g : Nat → Int32) (a b : Int32) : s_X2_removeLetter (sU S j g) a b = sU (s_X2_removeLetter S a b) j g := by
  rw [rem_eq, rem_eq]
  funext u
  rw [sU_ne (show 8 ≠ j by omega), sU_ne (show 7 ≠ j by omega), sU_ne (show 9 ≠ j by omega)]
  simp only [sU_get]
  by_cases q : u = j
  · subst q
    simp only [h7, h8, h9, ↓reduceIte]
  · simp only [q, ↓reduceIte]
theorem rem_j (S : SM) (x y : Int32) {j : Nat} (h7 : j ≠ 7) (h8 : j ≠ 8) (h9 : j ≠ 9) : s_X2_removeLetter S x y j = S j := by
  rw [rem_eq, sU_ne h7, sU_ne h9, sU_ne h8]
/-- what is left of the offices when a letter goes -/
theorem OI.rem (h : OI c S) (ho : o < c) {w : Nat} (hw : w ≤ 6) (e7 : S 7 o = iN w) (hi : i < w) : OI c (s_X2_removeLetter S (iN o) (iN i)) := by
  have h10 := h.1
  obtain ⟨a8, a9, a7, aj⟩ := v_letDrop (S := S) (show o < 10 by omega) hw hi e7
  refine ⟨h.1, by rw [aj 18 (by decide) (by decide) (by decide)]; exact h.2.1, fun u hu => ?_⟩
  obtain ⟨b1, b2, b3, w2, hw2, e72, hl⟩ := h.2.2 u hu
  rw [aj 2 (by decide) (by decide) (by decide), aj 3 (by decide) (by decide) (by decide), aj 4 (by decide) (by decide) (by decide), a7]
  refine ⟨b1, b2, b3, ?_⟩
  by_cases q : u = o
  · subst q
    have hww : w2 = w := (iN_inj (by omega) (by omega)).mp (e72.symm.trans e7)
    refine ⟨w - 1, by omega, upd_eq .., fun j hj => ?_⟩
    rw [a8, a9]
    by_cases q : i ≤ j
    · rw [if_pos (by omega), if_pos (by omega)]
      exact hl (j + 1) (by omega)
    · rw [if_neg (by omega), if_neg (by omega)]
      exact hl j (by omega)
  · refine ⟨w2, hw2, by rw [upd_ne q]; exact e72, fun j hj => ?_⟩
    rw [a8, a9, if_neg (by omega), if_neg (by omega)]
    exact hl j hj
theorem e_through {p q len : Nat} {m1 : Nat → Int32} (p10 : p < 10) (l0 : m (pL p 0 0) = iN q ∧ m (pL p 0 1) = iN len) (em1' : o_X10_dropLetter m (iN p) 0 = some m1) : o_X10_isThrough m (iN p) = (o_X10_isOpen m1 (iN q)).bind (fun r2 => if r2 = 0 then (o_X10_tells (upd m1 10 (m1 10 + 1)) 2 (100 * iN p + iN q) (iN len)).bind (fun r4 => some r4) else if gin (v_X10_officeAt (iN q) 5) 336 = true then (if gin (v_X10_officeAt (iN q) 5) 336 = true then (o_X10_tells (upd (upd m1 9 (m1 9 + 1)) (v_X10_officeAt (iN q) 5).toNatClampNeg ((upd m1 9 (m1 9 + 1)) (v_X10_officeAt (iN q) 5).toNatClampNeg + 1)) 1 (100 * iN p + iN q) (iN len)).bind (fun r7 => some r7) else none) else none) := by
  unfold o_X10_isThrough
  rw [lA00, lA01, if_pos (gL p10 (by decide) (by decide)), if_pos (gL p10 (by decide) (by decide)), nL' p10 (by decide) (by decide), nL' p10 (by decide) (by decide), l0.1, l0.2, em1', Option.bind_some]
  simp only [lt1, nK9, nK10]
theorem v_end {p q len lc od : Nat} (p10 : p < 10) (q10 : q < 10) (hlc : lc ≤ 40) (hod : od < 40) (e6 : S 18 6 = iN lc) (e5 : S 18 5 = iN od) (eto : S 8 (6 * p) = iN q) (elen : S 9 (6 * p) = iN len) : s_X6_endLetter S (iN p) = if S 4 q = 1 then s_X1_add (sU (sU (s_X2_removeLetter S (iN p) 0) 1 (raise_ 9 (S 1) 1)) 6 (upd (S 6) q (S 6 q + 1))) 1 (100 * iN p + iN q) (iN len) else s_X1_add (sU (s_X2_removeLetter S (iN p) 0) 1 (raise_ 9 (S 1) 2)) 2 (100 * iN p + iN q) (iN len) := by
  unfold s_X6_endLetter
  rw [v_toOf0 p10, v_lengthOf0 p10, eto, elen, v_isOpen q10]
  by_cases q4 : S 4 q = 1
  · rw [if_pos q4, if_pos q4, if_neg (show ¬ (1 : Int32) = 0 by decide)]
    unfold s_X6_endLetter_L39 s_X6_endLetter_L50 s_X6_endLetter_L65 s_X6_endLetter_L91
    rw [sU_ne (show (6 : Nat) ≠ 1 by decide), raise_in (by decide) q10]
    rw [add_rem (S := sU (sU S 1 (raise_ 9 (S 1) 1)) 6 (upd (S 6) q (S 6 q + 1))) hlc hod e6 e5, rem_sU _ (by decide) (by decide) (by decide), rem_sU _ (by decide) (by decide) (by decide)]
  · rw [if_neg q4, if_neg q4, if_pos rfl]
    unfold s_X6_endLetter_L76 s_X6_endLetter_L91
    rw [add_rem (S := sU S 1 (raise_ 9 (S 1) 2)) hlc hod e6 e5, rem_sU _ (by decide) (by decide) (by decide)]
theorem a_through (h : R4 c tc S m) (hO : OI c S) {p w : Nat} (hp : p < c) (hw : w ≤ 6) (e7 : S 7 p = iN w) (h1 : 1 ≤ w) : ∃ m', o_X10_isThrough m (iN p) = some m' ∧ R4 c tc (s_X6_endLetter S (iN p)) m' ∧ OI c (s_X6_endLetter S (iN p)) ∧ s_X6_endLetter S (iN p) 7 = upd (S 7) p (iN (w - 1)) ∧ (∀ j, j = 0 ∨ j = 2 ∨ j = 3 ∨ j = 4 ∨ j = 5 ∨ (10 ≤ j ∧ j ≤ 14) → s_X6_endLetter S (iN p) j = S j) ∧ ∀ j, j < 5 → s_X6_endLetter S (iN p) 18 j = S 18 j := by
  have p10 := h.1.lt hp
  obtain ⟨lc, od, hlc, hod, e6, -, e5, -⟩ := h.2.2.1
  obtain ⟨-, -, -, w2, hw2, e72, hl⟩ := hO.2.2 p hp
  have hww : w2 = w := (iN_inj (by omega) (by omega)).mp (e72.symm.trans e7)
  obtain ⟨⟨q, hq, eto⟩, len, hlen1, hlen9, elen⟩ := hl 0 (by omega)
  rw [Nat.add_zero] at eto elen
  have q10 := h.1.lt hq
  obtain ⟨w3, hw3, e73, hl3⟩ := h.1.q hp
  have hww3 : w3 = w := (iN_inj (by omega) (by omega)).mp (e73.symm.trans e7)
  have l0 := hl3 0 (by omega)
  rw [Nat.add_zero] at l0
  obtain ⟨m1, em1, R1, -⟩ := q_dropLetter h hp (i := 0) hw (by omega) e7
  have em1' : o_X10_dropLetter m (iN p) 0 = some m1 := em1
  have hO1 : OI c (s_X2_removeLetter S (iN p) (iN 0)) := hO.rem hp hw e7 (by omega)
  obtain ⟨a8, a9, a7, aj⟩ := v_letDrop (S := S) p10 hw (i := 0) (by omega) e7
  have rj : ∀ j, j ≠ 7 → j ≠ 8 → j ≠ 9 → s_X2_removeLetter S (iN p) (iN 0) j = S j := aj
  generalize hD : s_X2_removeLetter S (iN p) (iN 0) = D at *
  have hD' : s_X2_removeLetter S (iN p) 0 = D := hD
  have em := e_through (m := m) (q := q) (len := len) p10 ⟨by rw [l0.1, eto], by rw [l0.2, elen]⟩ em1'
  have ee := v_end p10 q10 hlc hod e6 e5 eto elen
  rw [hD'] at ee
  rw [em, ee, q_isOpen R1.1 hq, Option.bind_some, v_isOpen q10, rj 4 (by decide) (by decide) (by decide)]
  have d1 : D 1 = S 1 := rj 1 (by decide) (by decide) (by decide)
  have d6 : D 6 = S 6 := rj 6 (by decide) (by decide) (by decide)
  by_cases q4 : S 4 q = 1
  · rw [if_pos q4, if_pos q4, if_neg (show ¬ (1 : Int32) = 0 by decide), oA5, if_pos (gO q10 (by decide)), if_pos (gO q10 (by decide)), nO q10 (by decide)]
    have R2 := (q_raise R1 (k := 1) (by decide)).offR hq
    obtain ⟨m', e', R3, -⟩ := q_tell4 R2 1 (100 * iN p + iN q) (iN len)
    have e'' : o_X10_tells (upd (upd m1 9 (m1 9 + 1)) (pO q 5) (upd m1 9 (m1 9 + 1) (pO q 5) + 1)) 1 (100 * iN p + iN q) (iN len) = some m' := e'
    rw [e'', Option.bind_some]
    have eS : sU (sU D 1 (raise_ 9 (D 1) (iN 1))) 6 (upd (sU D 1 (raise_ 9 (D 1) (iN 1)) 6) q (sU D 1 (raise_ 9 (D 1) (iN 1)) 6 q + 1)) = sU (sU D 1 (raise_ 9 (S 1) 1)) 6 (upd (S 6) q (S 6 q + 1)) := by
      rw [sU_ne (show (6 : Nat) ≠ 1 by decide), d1, d6]
      rfl
    rw [eS] at R3
    have g : ∀ j, j ≤ 14 → j ≠ 1 → j ≠ 6 → s_X1_add (sU (sU D 1 (raise_ 9 (S 1) 1)) 6 (upd (S 6) q (S 6 q + 1))) 1 (100 * iN p + iN q) (iN len) j = D j := fun j hj h1 h6 => by
      rw [logAdd_j _ _ _ _ hj, sU_ne h6, sU_ne h1]
    refine ⟨m', rfl, R3, hO1.fr (fun j hj => g j (by omega) (by omega) (by omega)) ?_, ?_, fun j hj => ?_, fun j hj => ?_⟩
    · rw [logAdd_k _ _ _ _ (k := 2) (by decide), sU_ne (by decide), sU_ne (by decide)]
    · rw [g 7 (by decide) (by decide) (by decide), a7]
    · rw [g j (by omega) (by omega) (by omega), rj j (by omega) (by omega) (by omega)]
    · rw [logAdd_k _ _ _ _ (by omega), sU_ne (by decide), sU_ne (by decide), rj 18 (by decide) (by decide) (by decide)]
  · rw [if_neg q4, if_neg q4, if_pos rfl]
    have R2 := q_raise R1 (k := 2) (by decide)
    obtain ⟨m', e', R3, -⟩ := q_tell4 R2 2 (100 * iN p + iN q) (iN len)
    have e'' : o_X10_tells (upd m1 10 (m1 10 + 1)) 2 (100 * iN p + iN q) (iN len) = some m' := e'
    rw [e'', Option.bind_some]
    have eS : sU D 1 (raise_ 9 (D 1) (iN 2)) = sU D 1 (raise_ 9 (S 1) 2) := by
      rw [d1]
      rfl
    rw [eS] at R3
    have g : ∀ j, j ≤ 14 → j ≠ 1 → s_X1_add (sU D 1 (raise_ 9 (S 1) 2)) 2 (100 * iN p + iN q) (iN len) j = D j := fun j hj h1 => by
      rw [logAdd_j _ _ _ _ hj, sU_ne h1]
    refine ⟨m', rfl, R3, hO1.fr (fun j hj => g j (by omega) (by omega)) ?_, ?_, fun j hj => ?_, fun j hj => ?_⟩
    · rw [logAdd_k _ _ _ _ (k := 2) (by decide), sU_ne (by decide)]
    · rw [g 7 (by decide) (by decide), a7]
    · rw [g j (by omega) (by omega), rj j (by omega) (by omega) (by omega)]
    · rw [logAdd_k _ _ _ _ (by omega), sU_ne (by decide), rj 18 (by decide) (by decide) (by decide)]
end AC2
