-- PART 12d: an office more; letters; setting out
section U4
variable {c tc c' tc' : Nat} {S S' : SM} {m m' : Nat → Int32} {o t i : Nat}
def zer (a e : Nat) (m : Nat → Int32) : Nat → Int32 := fun j => if a ≤ j ∧ j < e then 0 else m j
theorem zer_step {a k : Nat} (m : Nat → Int32) : upd (zer a (a + k) m) (a + k) 0 = zer a (a + k + 1) m := by
  funext j
  unfold upd zer
  by_cases h : j = a + k
  · subst h
    rw [if_pos rfl, if_pos (by omega)]
  · rw [if_neg h]
    by_cases h2 : a ≤ j ∧ j < a + k
    · rw [if_pos h2, if_pos (by omega)]
    · rw [if_neg h2, if_neg (by omega)]
theorem zer_0 {a : Nat} (m : Nat → Int32) : zer a (a + 0) m = m := by
  funext j
  unfold zer
  rw [if_neg (by omega)]
theorem o_addOffL (hc : c < 10) {x1 x2 x3 : Int32} : ∀ d k n, k + d = 18 → d < n → o_X10_addOffice_L8 n (zer (pO c 0) (pO c 0 + k) m) x1 x2 x3 (iN c) (iN k) = some (upd (upd (upd (upd (zer (pO c 0) (pO c 0 + 18) m) (pO c 0) x1) (pO c 1) x2) (pO c 2) x3) 4 (m 4 + 1)) := by
  intro d
  induction d with
  | zero =>
    intro k n e h
    obtain ⟨n, rfl⟩ := some_succ h
    rw [o_X10_addOffice_L8, show k = 18 by omega, if_neg (show ¬ iN 18 < 18 by decide)]
    simp (disch := omega) only [lt1, oA0, oA1, oA2, gO, nO, nK4, upd_get, qkO, if_true, if_false, ↓reduceIte]
    rw [show zer (pO c 0) (pO c 0 + 18) m 4 = m 4 from if_neg (by unfold pO; omega)]
  | succ d ih =>
    intro k n e h
    obtain ⟨n, rfl⟩ := some_succ h
    rw [o_X10_addOffice_L8, if_pos (show iN k < 18 from iN_ylt (b := 18) (by omega) (by omega)), officeAt_iN, if_pos (gO hc (by omega)), nO hc (by omega), iN_s]
    simp only [lt1]
    rw [show pO c k = pO c 0 + k by unfold pO; omega, zer_step]
    exact ih (k + 1) n (by omega) (by omega)
theorem v_offAdd (h2 : S 18 2 = iN c) (hc : c < 10) (x y z : Int32) :
    s_X2_add S x y z 2 = upd (S 2) c x ∧ s_X2_add S x y z 3 = upd (S 3) c y ∧ s_X2_add S x y z 4 = upd (S 4) c z ∧ s_X2_add S x y z 5 = upd (S 5) c 0 ∧ s_X2_add S x y z 6 = upd (S 6) c 0 ∧ s_X2_add S x y z 7 = upd (S 7) c 0 ∧ s_X2_add S x y z 18 2 = iN (c + 1) ∧ (∀ j, (j < 2 ∨ 7 < j) → j ≠ 18 → s_X2_add S x y z j = S j) ∧ ∀ k, k ≠ 2 → s_X2_add S x y z 18 k = S 18 k := by
  have e : s_X2_add S x y z = s_X2_add_L22 (sU S 2 (put_ 10 (S 2) (S 18 2) x)) x y z := if_pos (by rw [h2]; exact iN_ylt (b := 10) hc (by decide))
  rw [e]
  unfold s_X2_add_L22 s_X2_add_L34 s_X2_add_L46 s_X2_add_L58 s_X2_add_L70 s_X2_add_L82
  refine ⟨?_, ?_, ?_, ?_, ?_, ?_, ?_, fun j hj hj2 => ?_, fun k hk => ?_⟩
  all_goals simp (disch := omega) only [sF, sU_get, upd_get, h2, put_in, Nat.reduceEqDiff, ↓reduceIte, if_neg, iN_s]
theorem q_addOffice (h : R4 c tc S m) (hc : c < 10) (x y z : Int32) : ∃ m', o_X10_addOffice m x y z = some m' ∧ R4 (c + 1) tc (s_X2_add S x y z) m' := by
  obtain ⟨a2, a3, a4, a5, a6, a7, a8, aj, ak⟩ := v_offAdd h.1.2.1 hc x y z
  have hm := o_addOffL (m := m) hc (x1 := x) (x2 := y) (x3 := z) 18 0 4000 (by omega) (by omega)
  rw [zer_0] at hm
  refine ⟨_, by
    unfold o_X10_addOffice
    rw [nK4, h.1.2.2.1]
    exact hm, ?_⟩
  have hO := h.1
  refine h.O ⟨by omega, a8, ?_, fun o ho => ?_⟩ (fun j j1 j2 => aj j (by omega) j2) (fun k k1 => ak k k1) (fun k k1 k2 => ?_)
  · rw [upd_eq, hO.2.2.1, iN_s]
  · rw [a2, a3, a4, a5, a6, a7, aj 8 (by decide) (by decide), aj 9 (by decide) (by decide)]
    by_cases q : o = c
    · subst q
      have g : ∀ f, 3 ≤ f → f < 18 → zer (pO o 0) (pO o 0 + 18) m (pO o f) = 0 := fun f h1 h2 => if_pos (by unfold pO; omega)
      simp (disch := omega) only [upd_get, qOO, qOk, g, Nat.reduceEqDiff, ↓reduceIte, and_false, and_true, if_false]
      exact ⟨by simp, 0, by decide, rfl, fun i hi => absurd hi (by omega)⟩
    · have g : ∀ f, f < 18 → zer (pO c 0) (pO c 0 + 18) m (pO o f) = m (pO o f) := fun f h2 => if_neg (by unfold pO; omega)
      have g2 : ∀ i f, i < 6 → f < 2 → zer (pO c 0) (pO c 0 + 18) m (pL o i f) = m (pL o i f) := fun i f h1 h2 => if_neg (by unfold pO pL; omega)
      have hq := hO.2.2.2 o (by omega)
      simp (disch := omega) only [upd_get, qOO, qOk, g, q, false_and, Nat.reduceEqDiff, ↓reduceIte, if_false]
      refine ⟨hq.1, ?_⟩
      obtain ⟨w, hw, e7, hl⟩ := hq.2
      refine ⟨w, hw, e7, fun i hi => ?_⟩
      have := hl i hi
      simp (disch := omega) only [qLO, qLk, g2, if_false]
      exact this
  · have : ∀ f, f < 18 → k ≠ pO c f := fun f hf => by unfold pO; omega
    rw [upd_ne k1, upd_ne (this 2 (by decide)), upd_ne (this 1 (by decide)), upd_ne (this 0 (by decide))]
    exact if_neg (by unfold pO; omega)
/-- a field of an office -/
theorem q_offF (h : RO c S m) (ho : o < c) (hf : ∀ j, 2 ≤ j → j ≤ 9 → S' j = sU S 5 (upd (S 5) o (S 5 o + 1)) j) (h18 : S' 18 2 = S 18 2) : RO c S' (upd m (pO o 3) (m (pO o 3) + 1)) := by
  have h10 := h.1
  refine ⟨h.1, h18.trans h.2.1, ?_, fun u hu => ?_⟩
  · rw [upd_ne (by unfold pO; omega)]
    exact h.2.2.1
  · have hq := h.2.2.2 u hu
    rw [hf 2 (by decide) (by decide), hf 3 (by decide) (by decide), hf 4 (by decide) (by decide), hf 5 (by decide) (by decide), hf 6 (by decide) (by decide), hf 7 (by decide) (by decide), hf 8 (by decide) (by decide), hf 9 (by decide) (by decide)]
    simp (disch := omega) only [upd_get, sU_get, qOO, qLO, Nat.reduceEqDiff, ↓reduceIte, and_true, and_false, if_false]
    refine ⟨?_, ?_⟩
    · by_cases q : u = o
      · subst q
        simp only [↓reduceIte]
        rw [hq.1.2.2.2.1]
        exact ⟨hq.1.1, hq.1.2.1, hq.1.2.2.1, rfl, hq.1.2.2.2.2⟩
      · simp only [q, ↓reduceIte]
        exact hq.1
    · obtain ⟨w, hw, e7, hl⟩ := hq.2
      refine ⟨w, hw, e7, fun i hi => ?_⟩
      have := hl i hi
      simp (disch := omega) only [qLO, if_false]
      exact this
/-- a letter more -/
theorem v_letAdd (ho : o < 10) {w : Nat} (hw : w < 6) (e7 : S 7 o = iN w) (x y : Int32) :
    s_X2_addLetter S (iN o) x y = sU (sU (sU S 8 (upd (S 8) (6 * o + w) x)) 9 (upd (S 9) (6 * o + w) y)) 7 (upd (S 7) o (iN (w + 1))) := by
  have e6 : iN o * 6 + iN w = iN (6 * o + w) := by
    show iN o * iN 6 + iN w = _
    rw [iN_mul, iN_add, Nat.mul_comm]
  have ea : at_ 10 (S 7) (iN o) = iN w := by rw [at_in (by decide) ho, e7]
  have e : s_X2_addLetter S (iN o) x y = s_X2_addLetter_L33 (sU S 8 (put_ 60 (S 8) (iN o * 6 + iN w) x)) (iN o) x y (iN w) := by
    unfold s_X2_addLetter
    rw [ea]
    exact if_pos (iN_ylt (b := 6) hw (by decide))
  rw [e]
  unfold s_X2_addLetter_L33 s_X2_addLetter_L48
  rw [e6, iN_s]
  simp (disch := omega) only [sU_get, put_in, Nat.reduceEqDiff, ↓reduceIte]
theorem q_addLetter (h : R4 c tc S m) (ho : o < c) {w : Nat} (hw : w < 6) (e7 : S 7 o = iN w) (x y : Int32) : ∃ m', o_X10_addLetter m (iN o) x y = some m' ∧ R4 c tc (sU (s_X2_addLetter S (iN o) x y) 1 (raise_ 9 (S 1) 0)) m' := by
  have hO := h.1
  have h10 := hO.lt ho
  have e : o_X10_addLetter m (iN o) x y = some (upd (upd (upd (upd m (pL o w 0) x) (pL o w 1) y) (pO o 4) (iN (w + 1))) 8 (m 8 + 1)) := by
    unfold o_X10_addLetter
    simp (disch := omega) only [lt1, oA4, gO, nO, hO.f4 ho, e7, lA0, lA1, gL, nL', upd_get, qLO, qOL, qkL, qkO, nK8, if_true, if_false, ↓reduceIte]
    rw [iN_s]
  refine ⟨_, e, ?_⟩
  rw [v_letAdd h10 hw e7]
  have hR : R4 c tc (sU (sU (sU S 8 (upd (S 8) (6 * o + w) x)) 9 (upd (S 9) (6 * o + w) y)) 7 (upd (S 7) o (iN (w + 1)))) (upd (upd (upd m (pL o w 0) x) (pL o w 1) y) (pO o 4) (iN (w + 1))) := by
    refine h.O ⟨hO.1, hO.2.1, ?_, fun u hu => ?_⟩ (fun j j1 j2 => ?_) (fun k k1 => rfl) (fun k k1 k2 => ?_)
    · rw [upd_ne (by unfold pO; omega), upd_ne (by unfold pL; omega), upd_ne (by unfold pL; omega)]
      exact hO.2.2.1
    · have hq := hO.2.2.2 u hu
      obtain ⟨w2, hw2, e72, hl⟩ := hq.2
      simp (disch := omega) only [upd_get, sU_get, qOO, qOL, Nat.reduceEqDiff, ↓reduceIte, and_true, and_false, if_false]
      by_cases q : u = o
      · subst q
        simp only [↓reduceIte]
        refine ⟨⟨hq.1.1, hq.1.2.1, hq.1.2.2.1, hq.1.2.2.2.1, trivial, hq.1.2.2.2.2.2⟩, w + 1, by omega, rfl, fun i hi => ?_⟩
        simp (disch := omega) only [qLO, qLL, if_false, Nat.reduceEqDiff, and_true, true_and, and_false]
        by_cases q2 : i = w
        · subst q2
          simp only [↓reduceIte, and_self]
        · have hww : w2 = w := (iN_inj (by omega) (by omega)).mp (e72.symm.trans e7)
          have := hl i (by omega)
          rw [if_neg q2, if_neg q2, if_neg (by omega), if_neg (by omega)]
          exact this
      · simp only [q, ↓reduceIte]
        refine ⟨hq.1, w2, hw2, e72, fun i hi => ?_⟩
        have := hl i hi
        simp (disch := omega) only [qLO, qLL, q, false_and, if_false]
        rw [if_neg (by omega), if_neg (by omega)]
        exact this
    · rw [sU_ne (by omega), sU_ne (by omega), sU_ne (by omega)]
    · rw [upd_ne (by unfold pO; omega), upd_ne (by unfold pL; omega), upd_ne (by unfold pL; omega)]
  have hR2 := q_raise hR (k := 0) (by decide)
  have e8 : (upd (upd (upd m (pL o w 0) x) (pL o w 1) y) (pO o 4) (iN (w + 1))) (8 + 0) = m 8 := by
    rw [upd_ne (by unfold pO; omega), upd_ne (by unfold pL; omega), upd_ne (by unfold pL; omega)]
  rw [e8] at hR2
  exact hR2
end U4
