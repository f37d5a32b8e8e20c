-- PART 30: what the class's own small functions do to a State (rows of whole's proof, by gen/pick.py)
section PK
variable {c tc : Nat} {S S' : SM} {X : SM} {Y : RS} {o t i : Nat}
theorem v_lengthOf (ho : o < 10) (hi : i < 6) : v_X2_lengthOf S (iN o) (iN i) = S 9 (6 * o + i) := by
  unfold v_X2_lengthOf
  rw [show iN o * 6 + iN i = iN (6 * o + i) by
    show iN o * iN 6 + iN i = _
    rw [iN_mul, iN_add, Nat.mul_comm]]
  exact at_in (by decide) (by omega)
theorem v_toOf (ho : o < 10) (hi : i < 6) : v_X2_toOf S (iN o) (iN i) = S 8 (6 * o + i) := by
  unfold v_X2_toOf
  rw [show iN o * 6 + iN i = iN (6 * o + i) by
    show iN o * iN 6 + iN i = _
    rw [iN_mul, iN_add, Nat.mul_comm]]
  exact at_in (by decide) (by omega)
theorem v_lengthOf0 (ho : o < 10) : v_X2_lengthOf S (iN o) 0 = S 9 (6 * o) := v_lengthOf (i := 0) ho (by decide)
theorem v_toOf0 (ho : o < 10) : v_X2_toOf S (iN o) 0 = S 8 (6 * o) := v_toOf (i := 0) ho (by decide)
theorem v_isOpen (ho : o < 10) : v_X2_isOpen S (iN o) = if S 4 o = 1 then 1 else 0 := by
  unfold v_X2_isOpen
  rw [at_in (by decide) ho]
theorem logAdd_j (S : SM) (x y z : Int32) {j : Nat} (hj : j ≤ 14) : s_X1_add S x y z j = S j := by
  unfold s_X1_add s_X1_add_L24 s_X1_add_L34 s_X1_add_L44
  split <;> simp (disch := omega) only [sF, sU_ne]
theorem logAdd_k (S : SM) (x y z : Int32) {k : Nat} (hk : k ≤ 4) : s_X1_add S x y z 18 k = S 18 k := by
  unfold s_X1_add s_X1_add_L24 s_X1_add_L34 s_X1_add_L44
  split <;> simp (disch := omega) only [sF, sU_eq, sU_ne, upd_ne]
theorem v_tokAdd (h3 : S 18 3 = iN tc) (ht : tc < 3) (x : Int32) :
    s_X8_add S x 10 = upd (S 10) tc (S 18 4 + 1) ∧ s_X8_add S x 11 = upd (S 11) tc x ∧ s_X8_add S x 12 = upd (S 12) tc 0 ∧ s_X8_add S x 13 = upd (S 13) tc 0 ∧ s_X8_add S x 14 = upd (S 14) tc 0 ∧ s_X8_add S x 18 3 = iN (tc + 1) ∧ s_X8_add S x 18 4 = S 18 4 + 1 ∧ (∀ j, j < 10 → s_X8_add S x j = S j) ∧ (∀ j, 14 < j → j < 18 → s_X8_add S x j = S j) ∧ ∀ k, k ≠ 3 → k ≠ 4 → s_X8_add S x 18 k = S 18 k := by
  have e : s_X8_add S x = s_X8_add_L19 (sF S 4 (S 18 4 + 1)) x := if_pos (by rw [h3]; exact iN_ylt (b := 3) ht (by decide))
  rw [e]
  unfold s_X8_add_L19 s_X8_add_L34 s_X8_add_L46 s_X8_add_L58 s_X8_add_L70 s_X8_add_L82
  refine ⟨?_, ?_, ?_, ?_, ?_, ?_, ?_, fun j hj => ?_, fun j hj hj2 => ?_, fun k hk hk2 => ?_⟩
  all_goals simp (disch := omega) only [sF, sU_get, upd_get, h3, put_in, Nat.reduceEqDiff, ↓reduceIte, if_neg, iN_s]
theorem v_has (h2 : S 18 2 = iN c) (hc : c ≤ 10) (ho : o < c) : v_X2_has S (iN o) = 1 := by
  unfold v_X2_has
  rw [if_neg (iN_neg (by omega)), h2, if_pos (iN_ylt ho (by omega))]
theorem v_hasT (h3 : S 18 3 = iN tc) (hc : tc ≤ 3) (ht : t < tc) : v_X8_has S (iN t) = 1 := by
  unfold v_X8_has
  rw [if_neg (iN_neg (by omega)), h3, if_pos (iN_ylt ht (by omega))]
theorem v_tokDrop (h3 : S 18 3 = iN tc) (hc : tc ≤ 3) (ht : t < tc) :
    (∀ j u, 10 ≤ j → j ≤ 14 → s_X8_remove S (iN t) j u = if t ≤ u ∧ u + 1 < tc then S j (u + 1) else S j u) ∧ s_X8_remove S (iN t) 18 3 = iN (tc - 1) ∧ (∀ j, j < 10 → s_X8_remove S (iN t) j = S j) ∧ (∀ j, 14 < j → j < 18 → s_X8_remove S (iN t) j = S j) ∧ ∀ k, k ≠ 3 → s_X8_remove S (iN t) 18 k = S 18 k := by
  have e : s_X8_remove S (iN t) = s_X8_remove_L21 (sU S 10 (takeOut_ 3 (S 10) (iN t) (S 18 3))) (iN t) := if_neg (by rw [v_hasT h3 hc ht]; decide)
  have hp : ∀ g : Nat → Int32, ∀ u, takeOut_ 3 g (iN t) (iN tc) u = if t ≤ u ∧ u + 1 < tc then g (u + 1) else g u := fun g u => takeOut_in (by decide) ht hc u
  rw [e]
  unfold s_X8_remove_L21 s_X8_remove_L33 s_X8_remove_L45 s_X8_remove_L57 s_X8_remove_L69
  refine ⟨fun j u h1 h2 => ?_, ?_, fun j hj => ?_, fun j h1 h2 => ?_, fun k hk => ?_⟩
  · rcases (by omega : j = 10 ∨ j = 11 ∨ j = 12 ∨ j = 13 ∨ j = 14) with rfl | rfl | rfl | rfl | rfl <;> simp (disch := omega) only [sF, sU_get, upd_get, h3, hp, Nat.reduceEqDiff, ↓reduceIte]
  · simp only [sF, sU_get, upd_get, h3, Nat.reduceEqDiff, ↓reduceIte]
    exact iN_sub (b := 1) (by omega)
  · simp (disch := omega) only [sF, sU_ne]
  · simp (disch := omega) only [sF, sU_ne]
  · simp (disch := omega) only [sF, sU_get, upd_ne, Nat.reduceEqDiff, ↓reduceIte]
theorem v_offAdd (h2 : S 18 2 = iN c) (hc : c < 10) (x y z : Int32) :
    s_X2_add S x y z 2 = upd (S 2) c x ∧ s_X2_add S x y z 3 = upd (S 3) c y ∧ s_X2_add S x y z 4 = upd (S 4) c z ∧ s_X2_add S x y z 5 = upd (S 5) c 0 ∧ s_X2_add S x y z 6 = upd (S 6) c 0 ∧ s_X2_add S x y z 7 = upd (S 7) c 0 ∧ s_X2_add S x y z 18 2 = iN (c + 1) ∧ (∀ j, (j < 2 ∨ 7 < j) → j ≠ 18 → s_X2_add S x y z j = S j) ∧ ∀ k, k ≠ 2 → s_X2_add S x y z 18 k = S 18 k := by
  have e : s_X2_add S x y z = s_X2_add_L22 (sU S 2 (put_ 10 (S 2) (S 18 2) x)) x y z := if_pos (by rw [h2]; exact iN_ylt (b := 10) hc (by decide))
  rw [e]
  unfold s_X2_add_L22 s_X2_add_L34 s_X2_add_L46 s_X2_add_L58 s_X2_add_L70 s_X2_add_L82
  refine ⟨?_, ?_, ?_, ?_, ?_, ?_, ?_, fun j hj hj2 => ?_, fun k hk => ?_⟩
  all_goals simp (disch := omega) only [sF, sU_get, upd_get, h2, put_in, Nat.reduceEqDiff, ↓reduceIte, if_neg, iN_s]
theorem v_letAdd (ho : o < 10) {w : Nat} (hw : w < 6) (e7 : S 7 o = iN w) (x y : Int32) :
    s_X2_addLetter S (iN o) x y = sU (sU (sU S 8 (upd (S 8) (6 * o + w) x)) 9 (upd (S 9) (6 * o + w) y)) 7 (upd (S 7) o (iN (w + 1))) := by
  have e6 : iN o * 6 + iN w = iN (6 * o + w) := by
    show iN o * iN 6 + iN w = _
    rw [iN_mul, iN_add, Nat.mul_comm]
  have ea : at_ 10 (S 7) (iN o) = iN w := by rw [at_in (by decide) ho, e7]
  have e : s_X2_addLetter S (iN o) x y = s_X2_addLetter_L33 (sU S 8 (put_ 60 (S 8) (iN o * 6 + iN w) x)) (iN o) x y (iN w) := by
    unfold s_X2_addLetter
    rw [ea]
    exact if_pos (iN_ylt (b := 6) hw (by decide))
  rw [e]
  unfold s_X2_addLetter_L33 s_X2_addLetter_L48
  rw [e6, iN_s]
  simp (disch := omega) only [sU_get, put_in, Nat.reduceEqDiff, ↓reduceIte]
theorem v_letDrop (ho : o < 10) {w : Nat} (hw : w ≤ 6) (hi : i < w) (e7 : S 7 o = iN w) :
    (∀ j, s_X2_removeLetter S (iN o) (iN i) 8 j = if 6 * o + i ≤ j ∧ j + 1 < 6 * o + w then S 8 (j + 1) else S 8 j) ∧ (∀ j, s_X2_removeLetter S (iN o) (iN i) 9 j = if 6 * o + i ≤ j ∧ j + 1 < 6 * o + w then S 9 (j + 1) else S 9 j) ∧ s_X2_removeLetter S (iN o) (iN i) 7 = upd (S 7) o (iN (w - 1)) ∧ ∀ j, j ≠ 7 → j ≠ 8 → j ≠ 9 → s_X2_removeLetter S (iN o) (iN i) j = S j := by
  have e6 : ∀ k, iN o * 6 + iN k = iN (6 * o + k) := fun k => by
    show iN o * iN 6 + iN k = _
    rw [iN_mul, iN_add, Nat.mul_comm]
  have ea : at_ 10 (S 7) (iN o) = iN w := by rw [at_in (by decide) ho, e7]
  have hp : ∀ g : Nat → Int32, ∀ u, takeOut_ 60 g (iN (6 * o + i)) (iN (6 * o + w)) u = if 6 * o + i ≤ u ∧ u + 1 < 6 * o + w then g (u + 1) else g u := fun g u => takeOut_in (by decide) (by omega) (by omega) u
  unfold s_X2_removeLetter s_X2_removeLetter_L29 s_X2_removeLetter_L43
  rw [ea, e6, e6, show iN w - 1 = iN (w - 1) from iN_sub (b := 1) (by omega)]
  refine ⟨fun j => ?_, fun j => ?_, ?_, fun j h1 h2 h3 => ?_⟩
  all_goals simp (disch := omega) only [sU_get, put_in, hp, Nat.reduceEqDiff, ↓reduceIte, if_neg]
theorem yF_4 (Y : RS) (j : Nat) (v : Int32) : yF Y j v 4 0 = upd (Y 4 0) j v := by
  unfold yF
  rw [yU_eq, sU_eq]
theorem yF_42 (Y : RS) (j : Nat) (v : Int32) : yF Y j v 4 2 = Y 4 2 := by
  unfold yF
  rw [yU_eq, sU_ne (by decide)]
theorem yF_k (Y : RS) (j : Nat) (v : Int32) {k : Nat} (h : k ≠ 4) : yF Y j v k = Y k := yU_ne h
theorem v_rem {hn hc : Nat} (h1 : hn < 8) (h2 : hc ≤ 8) (e2 : Y 4 0 2 = iN hn) (e3 : Y 4 0 3 = iN hc) : (∀ k, k < 5 → k ≠ 4 → s_X0_remember Y k = Y k) ∧ (∀ k, 5 ≤ k → k ≠ 5 + hn → s_X0_remember Y k = Y k) ∧ s_X0_remember Y (5 + hn) = Y 0 ∧ s_X0_remember Y 4 0 2 = iN ((hn + 1) % 8) ∧ s_X0_remember Y 4 0 3 = iN (if hc < 8 then hc + 1 else hc) ∧ s_X0_remember Y 4 0 0 = Y 4 0 0 ∧ s_X0_remember Y 4 2 = Y 4 2 := by
  have ec : s_X0_copyTo Y = yU Y (5 + hn) (Y 0) := by
    unfold s_X0_copyTo
    rw [e2, if_neg (iN_neg (by omega)), if_pos (show iN hn < 8 from iN_ylt (b := 8) h1 (by decide)), show Int32.toNatClampNeg (iN hn) = hn from iN_nat (by omega)]
  have e40 : yU Y (5 + hn) (Y 0) 4 = Y 4 := yU_ne (by omega)
  have em : s_X0_remember Y = if hc < 8 then yF (yF (yU Y (5 + hn) (Y 0)) 2 (iN ((hn + 1) % 8))) 3 (iN (hc + 1)) else yF (yU Y (5 + hn) (Y 0)) 2 (iN ((hn + 1) % 8)) := by
    unfold s_X0_remember s_X0_remember_L5 s_X0_remember_L18
    rw [ec, e40, e2, iN_s, show (8 : Int32) = iN 8 from rfl, iN_rem (by omega) (by decide), yF_4, upd_ne (show (3 : Nat) ≠ 2 by decide), e40, e3]
    by_cases q : hc < 8
    · rw [if_pos q, if_pos (iN_ylt q (by decide)), iN_s]
    · rw [if_neg q, if_neg (fun z => q ((iN_lt (by omega) (by decide)).mp z))]
  rw [em]
  by_cases q : hc < 8
  · rw [if_pos q, if_pos q]
    refine ⟨fun k a b => by rw [yF_k _ _ _ b, yF_k _ _ _ b, yU_ne (by omega)], fun k a b => by rw [yF_k _ _ _ (by omega), yF_k _ _ _ (by omega), yU_ne b], by rw [yF_k _ _ _ (by omega), yF_k _ _ _ (by omega), yU_eq], ?_, ?_, ?_, ?_⟩
    · rw [yF_4, upd_ne (by decide), yF_4, upd_eq]
    · rw [yF_4, upd_eq]
    · rw [yF_4, upd_ne (by decide), yF_4, upd_ne (by decide), e40]
    · rw [yF_42, yF_42, e40]
  · rw [if_neg q, if_neg q]
    refine ⟨fun k a b => by rw [yF_k _ _ _ b, yU_ne (by omega)], fun k a b => by rw [yF_k _ _ _ (by omega), yU_ne b], by rw [yF_k _ _ _ (by omega), yU_eq], ?_, ?_, ?_, ?_⟩
    · rw [yF_4, upd_eq]
    · rw [yF_4, upd_ne (by decide), e40, e3]
    · rw [yF_4, upd_ne (by decide), e40]
    · rw [yF_42, e40]
end PK
