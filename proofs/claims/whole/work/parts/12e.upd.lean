-- PART 12e: a letter goes; setting out
section U5
variable {c tc c' tc' : Nat} {S S' : SM} {m m' : Nat → Int32} {o t i : Nat}
theorem o_dropLetL (ho : o < 10) {a b z : Nat} {y : Int32} (hz : z < 6) (ha : a = pL o i 0) (hb : b = pL o z 0) (e4 : m (pO o 4) = iN z) : ∀ d k n, a + k + d = b → d < n → o_X10_dropLetter_L18 n (shf a (a + k) 2 m) (iN o) y (iN (a + k)) = some (shf a b 2 m) := by
  have hr : ∀ k, shf a (a + k) 2 m (pO o 4) = iN z := fun k => by
    unfold shf
    rw [if_neg (by rw [ha]; unfold pL pO; omega), e4]
  have hb2 : b < 197 := by rw [hb]; exact lL ho hz (by decide)
  intro d
  induction d with
  | zero =>
    intro k n e h
    obtain ⟨n, rfl⟩ := some_succ h
    rw [o_X10_dropLetter_L18, oA4, if_pos (gO ho (by decide)), nO ho (by decide), hr, lA0, ← hb, show a + k = b by omega, if_neg (iN_nlt (by omega))]
  | succ d ih =>
    intro k n e h
    obtain ⟨n, rfl⟩ := some_succ h
    rw [o_X10_dropLetter_L18, oA4, if_pos (gO ho (by decide)), nO ho (by decide), hr, lA0, ← hb, if_pos (iN_ylt (by omega) (by omega)), show iN (a + k) + 2 = iN (a + k + 2) from iN_add _ 2, if_pos (gin_iN (by omega) (by omega)), if_pos (gin_iN (by omega) (by omega)), iN_nat (by omega), iN_nat (by omega), shf_step m (by decide), iN_s]
    exact ih (k + 1) n (by omega) (by omega)
theorem v_letDrop (ho : o < 10) {w : Nat} (hw : w ≤ 6) (hi : i < w) (e7 : S 7 o = iN w) :
    (∀ j, s_X2_removeLetter S (iN o) (iN i) 8 j = if 6 * o + i ≤ j ∧ j + 1 < 6 * o + w then S 8 (j + 1) else S 8 j) ∧ (∀ j, s_X2_removeLetter S (iN o) (iN i) 9 j = if 6 * o + i ≤ j ∧ j + 1 < 6 * o + w then S 9 (j + 1) else S 9 j) ∧ s_X2_removeLetter S (iN o) (iN i) 7 = upd (S 7) o (iN (w - 1)) ∧ ∀ j, j ≠ 7 → j ≠ 8 → j ≠ 9 → s_X2_removeLetter S (iN o) (iN i) j = S j := by
  have e6 : ∀ k, iN o * 6 + iN k = iN (6 * o + k) := fun k => by
    show iN o * iN 6 + iN k = _
    rw [iN_mul, iN_add, Nat.mul_comm]
  have ea : at_ 10 (S 7) (iN o) = iN w := by rw [at_in (by decide) ho, e7]
  have hp : ∀ g : Nat → Int32, ∀ u, takeOut_ 60 g (iN (6 * o + i)) (iN (6 * o + w)) u = if 6 * o + i ≤ u ∧ u + 1 < 6 * o + w then g (u + 1) else g u := fun g u => takeOut_in (by decide) (by omega) (by omega) u
  unfold s_X2_removeLetter s_X2_removeLetter_L29 s_X2_removeLetter_L43
  rw [ea, e6, e6, show iN w - 1 = iN (w - 1) from iN_sub (b := 1) (by omega)]
  refine ⟨fun j => ?_, fun j => ?_, ?_, fun j h1 h2 h3 => ?_⟩
  all_goals simp (disch := omega) only [sU_get, put_in, hp, Nat.reduceEqDiff, ↓reduceIte, if_neg]
theorem q_dropLetter (h : R4 c tc S m) (ho : o < c) {w : Nat} (hw : w ≤ 6) (hi : i < w) (e7 : S 7 o = iN w) : ∃ m', o_X10_dropLetter m (iN o) (iN i) = some m' ∧ R4 c tc (s_X2_removeLetter S (iN o) (iN i)) m' ∧ ∀ k, (k < 17 ∨ 197 ≤ k) → m' k = m k := by
  have hO := h.1
  have h10 := hO.lt ho
  obtain ⟨a8, a9, a7, aj⟩ := v_letDrop h10 hw hi e7
  have hm := o_dropLetL (m := upd m (pO o 4) (iN (w - 1))) (i := i) h10 (a := pL o i 0) (b := pL o (w - 1) 0) (z := w - 1) (y := iN i) (by omega) rfl rfl (upd_eq ..) (2 * (w - 1 - i)) 0 4000 (by unfold pL; omega) (by omega)
  rw [shf_0] at hm
  have e : o_X10_dropLetter m (iN o) (iN i) = some (shf (pL o i 0) (pL o (w - 1) 0) 2 (upd m (pO o 4) (iN (w - 1)))) := by
    unfold o_X10_dropLetter
    simp only [lt1]
    rw [oA4, if_pos (gO h10 (by decide)), if_pos (gO h10 (by decide)), nO h10 (by decide), hO.f4 ho, e7, lA0, show iN w - 1 = iN (w - 1) from iN_sub (b := 1) (by omega)]
    exact hm
  have hfr : ∀ k, (k < 17 ∨ 197 ≤ k) → shf (pL o i 0) (pL o (w - 1) 0) 2 (upd m (pO o 4) (iN (w - 1))) k = m k := by
    intro k k2
    unfold shf
    rw [if_neg (by unfold pL; omega), upd_ne (by unfold pO; omega)]
  refine ⟨_, e, ?_, hfr⟩
  refine h.O ⟨hO.1, by rw [aj 18 (by decide) (by decide) (by decide)]; exact hO.2.1, by rw [hfr 4 (by decide)]; exact hO.2.2.1, fun u hu => ?_⟩ (fun j j1 j2 => aj j (by omega) (by omega) (by omega)) (fun k k1 => by rw [aj 18 (by decide) (by decide) (by decide)]) (fun k k1 k2 => hfr k k2)
  have hq := hO.2.2.2 u hu
  have g : ∀ f, f < 6 → shf (pL o i 0) (pL o (w - 1) 0) 2 (upd m (pO o 4) (iN (w - 1))) (pO u f) = upd m (pO o 4) (iN (w - 1)) (pO u f) := fun f hf => if_neg (by unfold pL pO; omega)
  rw [g 0 (by decide), g 1 (by decide), g 2 (by decide), g 3 (by decide), g 4 (by decide), g 5 (by decide), aj 2 (by decide) (by decide) (by decide), aj 3 (by decide) (by decide) (by decide), aj 4 (by decide) (by decide) (by decide), aj 5 (by decide) (by decide) (by decide), aj 6 (by decide) (by decide) (by decide), a7]
  obtain ⟨w2, hw2, e72, hl⟩ := hq.2
  simp (disch := omega) only [upd_get, qOO, Nat.reduceEqDiff, and_true, and_false, if_false]
  by_cases q : u = o
  · subst q
    have hww : w2 = w := (iN_inj (by omega) (by omega)).mp (e72.symm.trans e7)
    simp only [↓reduceIte]
    refine ⟨⟨hq.1.1, hq.1.2.1, hq.1.2.2.1, hq.1.2.2.2.1, trivial, hq.1.2.2.2.2.2⟩, w - 1, by omega, rfl, fun j hj => ?_⟩
    rw [a8, a9]
    have g2 : ∀ f, f < 2 → shf (pL u i 0) (pL u (w - 1) 0) 2 (upd m (pO u 4) (iN (w - 1))) (pL u j f) = if i ≤ j then m (pL u (j + 1) f) else m (pL u j f) := by
      intro f hf
      unfold shf
      by_cases q : i ≤ j
      · rw [if_pos q, if_pos (by unfold pL; omega), upd_ne (by unfold pL pO; omega), show pL u j f + 2 = pL u (j + 1) f by unfold pL; omega]
      · rw [if_neg q, if_neg (by unfold pL; omega), upd_ne (by unfold pL pO; omega)]
    rw [g2 0 (by decide), g2 1 (by decide)]
    by_cases q : i ≤ j
    · have := hl (j + 1) (by omega)
      simp only [if_pos q, if_pos (show 6 * u + i ≤ 6 * u + j ∧ 6 * u + j + 1 < 6 * u + w by omega)]
      exact this
    · have := hl j (by omega)
      simp only [if_neg q, if_neg (show ¬ (6 * u + i ≤ 6 * u + j ∧ 6 * u + j + 1 < 6 * u + w) by omega)]
      exact this
  · simp only [q, ↓reduceIte]
    refine ⟨hq.1, w2, hw2, e72, fun j hj => ?_⟩
    rw [a8, a9, if_neg (by omega), if_neg (by omega)]
    have g2 : ∀ f, f < 2 → shf (pL o i 0) (pL o (w - 1) 0) 2 (upd m (pO o 4) (iN (w - 1))) (pL u j f) = m (pL u j f) := by
      intro f hf
      unfold shf
      rw [if_neg (by unfold pL; omega), upd_ne (by unfold pL pO; omega)]
    rw [g2 0 (by decide), g2 1 (by decide)]
    exact hl j hj
/-- setting out -/
theorem v_leave {p : Nat} (ht : t < 3) (hp : p < c) (hc : c ≤ 10) (h2 : S 18 2 = iN c) : s_X6_leave S (iN t) (iN p) = sU (sU (sU S 11 (upd (S 11) t (iN ((p + 1) % c)))) 12 (upd (S 12) t (S 2 p))) 13 (upd (S 13) t 0) := by
  have eb : v_X2_behind S (iN p) = iN ((p + 1) % c) := by
    unfold v_X2_behind
    rw [iN_s, h2]
    by_cases q : p + 1 < c
    · rw [if_pos (iN_ylt q (by omega)), Nat.mod_eq_of_lt q]
    · rw [if_neg (fun z => q ((iN_lt (by omega) (by omega)).mp z)), show p + 1 = c by omega, Nat.mod_self]
      rfl
  unfold s_X6_leave s_X8_setOut s_X8_setOut_L9 s_X8_setOut_L18
  rw [eb, at_in (by decide) (show p < 10 by omega)]
  simp (disch := omega) only [sU_get, put_in, Nat.reduceEqDiff, ↓reduceIte]
theorem q_setsOut (h : R4 c tc S m) (ht : t < tc) {p : Nat} (hp : p < c) (e11 : S 11 t = iN p) (e14 : S 14 t = 0) (hw : ¬ S 2 p = 0) : ∃ m', o_X10_setsOut m (iN t) = some m' ∧ R4 c tc (s_X6_leave S (iN t) (iN p)) m' := by
  have hT := h.2.1
  have hO := h.1
  have t3 := hT.lt ht
  have p10 := hO.lt hp
  have c10 := hO.1
  have e : o_X10_setsOut m (iN t) = some (upd (upd (upd (upd (upd m (pT t 1) (iN ((p + 1) % c))) (pT t 2) (S 2 p)) (pT t 3) 0) (pT t 4) 0) (pT t 5) 0) := by
    have hc0 : ¬ iN c = 0 := fun z => by
      have := (iN_inj (a := c) (b := 0) (by omega) (by decide)).mp z
      omega
    unfold o_X10_setsOut
    simp (disch := omega) only [lt1, tA1, tA2, tA3, tA4, tA5, gT', nT, nK4, hO.2.2.1, hT.f1 ht, e11, oA0, gO, nO, upd_get, qOT, hO.f0 hp, if_true, if_false, ↓reduceIte]
    rw [if_pos hc0, iN_s, iN_rem (by omega) (by omega)]
  refine ⟨_, e, ?_⟩
  rw [v_leave t3 hp c10 hO.2.1]
  have hT' : RT tc (sU (sU (sU S 11 (upd (S 11) t (iN ((p + 1) % c)))) 12 (upd (S 12) t (S 2 p))) 13 (upd (S 13) t 0)) (upd (upd (upd (upd (upd m (pT t 1) (iN ((p + 1) % c))) (pT t 2) (S 2 p)) (pT t 3) 0) (pT t 4) 0) (pT t 5) 0) := by
    refine ⟨hT.1, hT.2.1, ?_, ?_, fun u hu => ?_⟩
    · rw [upd_ne (by unfold pT; omega), upd_ne (by unfold pT; omega), upd_ne (by unfold pT; omega), upd_ne (by unfold pT; omega), upd_ne (by unfold pT; omega)]
      exact hT.2.2.1
    · rw [upd_ne (by unfold pT; omega), upd_ne (by unfold pT; omega), upd_ne (by unfold pT; omega), upd_ne (by unfold pT; omega), upd_ne (by unfold pT; omega)]
      exact hT.2.2.2.1
    · have hq := hT.2.2.2.2 u hu
      simp (disch := omega) only [upd_get, sU_get, qTT, Nat.reduceEqDiff, ↓reduceIte, and_true, and_false]
      by_cases q : u = t
      · subst q
        simp only [↓reduceIte]
        exact ⟨hq.1, trivial, trivial, trivial, e14.symm, by rw [if_neg hw]⟩
      · simp only [q, ↓reduceIte]
        exact hq
  refine h.T hT' (fun j hj => ?_) (fun j h1 h2 => ?_) (fun k h1 h2 => rfl) (fun k h1 h2 h3 => ?_)
  · rw [sU_ne (by omega), sU_ne (by omega), sU_ne (by omega)]
  · rw [sU_ne (by omega), sU_ne (by omega), sU_ne (by omega)]
  · rw [upd_ne (by unfold pT; omega), upd_ne (by unfold pT; omega), upd_ne (by unfold pT; omega), upd_ne (by unfold pT; omega), upd_ne (by unfold pT; omega)]
end U5
