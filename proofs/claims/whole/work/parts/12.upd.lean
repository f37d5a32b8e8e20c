-- PART 12: what changes: the log, offices, letters, tokens
section U1
variable {c tc : Nat} {S : SM} {m : Nat → Int32} {o t i : Nat}
theorem pG_0 (l : Nat) : (216 : Int32) + 3 * iN l = iN (pG l 0) := by
  show iN 216 + iN 3 * iN l = _
  rw [iN_mul, iN_add]
  rfl
theorem pG_1 (l : Nat) : iN (pG l 0) + 1 = iN (pG l 1) := iN_add _ 1
theorem pG_2 (l : Nat) : iN (pG l 0) + 2 = iN (pG l 2) := iN_add _ 2
theorem o_tells53 {l : Nat} {x y z : Int32} (hl : l < 40) (e : m 215 = iN l) : o_X10_tells_L53 m x y z = some (upd (upd (upd (upd m (pG l 0) x) (pG l 1) y) (pG l 2) z) 215 (iN (l + 1))) := by
  unfold o_X10_tells_L53
  simp (disch := omega) only [lt1, nK215, e, pG_0, pG_1, pG_2, upd_get, qkG, gG, nG, if_true, if_false, ↓reduceIte]
  rw [iN_s]
def sh3 (k : Nat) (m : Nat → Int32) : Nat → Int32 := fun j => if 216 ≤ j ∧ j < 216 + k then m (j + 3) else m j
theorem sh3_step (k : Nat) (m : Nat → Int32) : upd (sh3 k m) (216 + k) (sh3 k m (216 + k + 3)) = sh3 (k + 1) m := by
  funext j
  unfold upd sh3
  by_cases h : j = 216 + k
  · subst h
    rw [if_pos rfl, if_neg (by omega), if_pos (by omega)]
  · rw [if_neg h]
    by_cases h2 : 216 ≤ j ∧ j < 216 + k
    · rw [if_pos h2, if_pos (by omega)]
    · rw [if_neg h2, if_neg (by omega)]
theorem sh3_0 (m : Nat → Int32) : sh3 0 m = m := by
  funext j
  unfold sh3
  rw [if_neg (by omega)]
theorem o_tells13 {x y z : Int32} : ∀ d k n, k + d = 117 → d < n → o_X10_tells_L13 n (sh3 k m) x y z (iN k) = o_X10_tells_L53 (upd (sh3 117 m) 215 (sh3 117 m 215 - 1)) x y z := by
  intro d
  induction d with
  | zero =>
    intro k n e h
    obtain ⟨n, rfl⟩ := some_succ h
    rw [o_X10_tells_L13, show k = 117 by omega, if_neg (show ¬ iN 117 < 117 by decide)]
    rfl
  | succ d ih =>
    intro k n e h
    obtain ⟨n, rfl⟩ := some_succ h
    rw [o_X10_tells_L13, if_pos (show iN k < 117 from iN_ylt (b := 117) (by omega) (by omega))]
    rw [show (216 : Int32) + iN k = iN (216 + k) from iN_add 216 k, show iN (216 + k) + 3 = iN (216 + k + 3) from iN_add (216 + k) 3, if_pos (gin_iN (by omega) (by omega)), if_pos (gin_iN (by omega) (by omega)), iN_nat (by omega), iN_nat (by omega), sh3_step, iN_s]
    exact ih (k + 1) n (by omega) (by omega)
theorem v_logAdd {lc od : Nat} (hl : lc ≤ 40) (ho : od < 40) (e6 : S 18 6 = iN lc) (e5 : S 18 5 = iN od) (x y z : Int32) : s_X1_add S x y z = sU (sU (sU (sU S 15 (upd (S 15) ((od + lc) % 40) x)) 16 (upd (S 16) ((od + lc) % 40) y)) 17 (upd (S 17) ((od + lc) % 40) z)) 18 (if lc < 40 then upd (S 18) 6 (iN (lc + 1)) else upd (S 18) 5 (iN ((od + 1) % 40))) := by
  have hm : (od + lc) % 40 < 40 := Nat.mod_lt _ (by decide)
  unfold s_X1_add s_X1_add_L24 s_X1_add_L34 s_X1_add_L44
  rw [e6, e5, iN_add, show (40 : Int32) = iN 40 from rfl, iN_rem (by omega) (by decide), put_in (by decide) hm]
  simp only [sU_get, sF, Nat.reduceEqDiff, ↓reduceIte]
  rw [put_in (by decide) hm, put_in (by decide) hm, e6, e5]
  by_cases q : lc < 40
  · rw [if_pos (iN_ylt q (by omega)), if_pos q, iN_s]
  · rw [if_neg (fun w => q ((iN_lt (by omega) (by omega)).mp w)), if_neg q, iN_s, iN_rem (by omega) (by decide)]
/-- the log told to -/
theorem q_tells (h : RG S m) (x y z : Int32) : ∃ m', o_X10_tells m x y z = some m' ∧ RG (s_X1_add S x y z) m' ∧ ∀ k, k < 215 → m' k = m k := by
  obtain ⟨lc, od, hl, ho, e6, e215, e5, hq⟩ := h
  unfold o_X10_tells
  rw [nK215, e215, show (40 : Int32) = iN 40 from rfl]
  rw [v_logAdd hl ho e6 e5]
  by_cases q : lc = 40
  · subst q
    rw [if_pos rfl]
    have hz := o_tells13 (m := m) (x := x) (y := y) (z := z) 117 0 4000 (by omega) (by omega)
    rw [sh3_0] at hz
    rw [show (0 : Int32) = iN 0 from rfl, hz, o_tells53 (l := 39) (by decide) (by
      rw [upd_eq]
      unfold sh3
      rw [if_neg (by omega), e215]
      rfl)]
    refine ⟨_, rfl, ?_, fun k hk => ?_⟩
    · rw [if_neg (by omega)]
      refine ⟨40, (od + 1) % 40, by omega, Nat.mod_lt _ (by decide), ?_, ?_, ?_, fun i hi => ?_⟩
      · simp only [sU_get, upd_get, Nat.reduceEqDiff, ↓reduceIte]
        exact e6
      · rw [upd_eq]
      · simp only [sU_get, upd_get, Nat.reduceEqDiff, ↓reduceIte]
      · simp (disch := omega) only [sU_get, upd_get, Nat.reduceEqDiff, ↓reduceIte, qGG, qGk]
        by_cases q : i = 39
        · subst q
          rw [show ((od + 1) % 40 + 39) % 40 = (od + 40) % 40 by omega]
          simp
        · have h1 := hq (i + 1) (by omega)
          have e1 : ∀ f, f < 3 → sh3 117 m (pG i f) = m (pG (i + 1) f) := by
            intro f hf
            unfold sh3 pG
            rw [if_pos (by omega), show 216 + 3 * i + f + 3 = 216 + 3 * (i + 1) + f by omega]
          rw [show ((od + 1) % 40 + i) % 40 = (od + (i + 1)) % 40 by omega]
          have e2 : ¬ (od + (i + 1)) % 40 = (od + 40) % 40 := by omega
          simp only [q, e2, false_and, ↓reduceIte]
          rw [e1 0 (by decide), e1 1 (by decide), e1 2 (by decide)]
          exact h1
    · rw [upd_ne (by omega), upd_ne (by unfold pG; omega), upd_ne (by unfold pG; omega), upd_ne (by unfold pG; omega), upd_ne (by omega)]
      unfold sh3
      rw [if_neg (by omega)]
  · rw [if_neg (fun w => q ((iN_inj (by omega) (by omega)).mp w)), o_tells53 (l := lc) (by omega) e215]
    refine ⟨_, rfl, ?_, fun k hk => ?_⟩
    · rw [if_pos (by omega)]
      refine ⟨lc + 1, od, by omega, ho, ?_, ?_, ?_, fun i hi => ?_⟩
      · simp only [sU_get, upd_get, Nat.reduceEqDiff, ↓reduceIte]
      · rw [upd_eq]
      · simp only [sU_get, upd_get, Nat.reduceEqDiff, ↓reduceIte]
        exact e5
      · simp (disch := omega) only [sU_get, upd_get, Nat.reduceEqDiff, ↓reduceIte, qGG, qGk]
        by_cases q2 : i = lc
        · subst q2
          simp
        · have h1 := hq i (by omega)
          have e2 : ¬ (od + i) % 40 = (od + lc) % 40 := by omega
          simp only [q2, e2, false_and, ↓reduceIte]
          exact h1
    · rw [upd_ne (by omega), upd_ne (by unfold pG; omega), upd_ne (by unfold pG; omega), upd_ne (by unfold pG; omega)]
end U1
