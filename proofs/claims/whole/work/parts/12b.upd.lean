-- PART 12b: frames; counts; tokens come and go
section U2
variable {c tc : Nat} {S S' : SM} {m m' : Nat → Int32} {o t i : Nat}
theorem RO.fr (h : RO c S m) (hS : ∀ j, 2 ≤ j → j ≤ 9 → S' j = S j) (h18 : S' 18 2 = S 18 2) (h4 : m' 4 = m 4) (hm : ∀ k, 17 ≤ k → k < 197 → m' k = m k) : RO c S' m' := by
  obtain ⟨h1, h2, h3, hq⟩ := h
  refine ⟨h1, h18.trans h2, h4.trans h3, fun o ho => ?_⟩
  obtain ⟨z, w, hw, e7, hl⟩ := hq o ho
  have a : ∀ f, f < 18 → m' (pO o f) = m (pO o f) := fun f hf => hm _ (by unfold pO; omega) (by unfold pO; omega)
  rw [a 0 (by decide), a 1 (by decide), a 2 (by decide), a 3 (by decide), a 4 (by decide), a 5 (by decide), hS 2 (by decide) (by decide), hS 3 (by decide) (by decide), hS 4 (by decide) (by decide), hS 5 (by decide) (by decide), hS 6 (by decide) (by decide), hS 7 (by decide) (by decide), hS 8 (by decide) (by decide), hS 9 (by decide) (by decide)]
  refine ⟨z, w, hw, e7, fun i hi => ?_⟩
  rw [hm (pL o i 0) (by unfold pL; omega) (by unfold pL; omega), hm (pL o i 1) (by unfold pL; omega) (by unfold pL; omega)]
  exact hl i hi
theorem RT.fr (h : RT tc S m) (hS : ∀ j, 10 ≤ j → j ≤ 14 → S' j = S j) (h3' : S' 18 3 = S 18 3) (h4' : S' 18 4 = S 18 4) (h5 : m' 5 = m 5) (h7 : m' 7 = m 7) (hm : ∀ k, 197 ≤ k → k < 215 → m' k = m k) : RT tc S' m' := by
  obtain ⟨h1, h2, h3, h4, hq⟩ := h
  refine ⟨h1, h3'.trans h2, h5.trans h3, by rw [h7, h4', h4], fun t ht => ?_⟩
  have a : ∀ f, f < 6 → m' (pT t f) = m (pT t f) := fun f hf => hm _ (by unfold pT; omega) (by unfold pT; omega)
  rw [a 0 (by decide), a 1 (by decide), a 2 (by decide), a 3 (by decide), a 4 (by decide), a 5 (by decide), hS 10 (by decide) (by decide), hS 11 (by decide) (by decide), hS 12 (by decide) (by decide), hS 13 (by decide) (by decide), hS 14 (by decide) (by decide)]
  exact hq t ht
theorem RG.fr (h : RG S m) (h15 : S' 15 = S 15) (h16 : S' 16 = S 16) (h17 : S' 17 = S 17) (h5 : S' 18 5 = S 18 5) (h6 : S' 18 6 = S 18 6) (hm : ∀ k, 215 ≤ k → k < 336 → m' k = m k) : RG S' m' := by
  obtain ⟨lc, od, hl, ho, e6, e215, e5, hq⟩ := h
  refine ⟨lc, od, hl, ho, h6.trans e6, (hm 215 (by decide) (by decide)).trans e215, h5.trans e5, fun i hi => ?_⟩
  have a : ∀ f, f < 3 → m' (pG i f) = m (pG i f) := fun f hf => hm _ (by unfold pG; omega) (by unfold pG; omega)
  rw [a 0 (by decide), a 1 (by decide), a 2 (by decide), h15, h16, h17]
  exact hq i hi
theorem RC.fr (h : RC S m) (h0 : S' 0 = S 0) (h1 : S' 1 = S 1) (ht : S' 18 0 = S 18 0) (hs : S' 18 1 = S 18 1) (hm : ∀ k, k < 17 → k ≠ 4 → k ≠ 5 → k ≠ 7 → m' k = m k) : RC S' m' := by
  obtain ⟨a, b, d, e⟩ := h
  refine ⟨fun k hk => ?_, fun k hk => ?_, ?_, ?_⟩
  · rw [hm k (by omega) (by omega) (by omega) (by omega), h0]
    exact a k hk
  · rw [hm (8 + k) (by omega) (by omega) (by omega) (by omega), h1]
    exact b k hk
  · rw [hm 3 (by omega) (by omega) (by omega) (by omega), ht]
    exact d
  · rw [hm 6 (by omega) (by omega) (by omega) (by omega), hs]
    exact e
def R4 (c tc : Nat) (S : SM) (m : Nat → Int32) : Prop := RO c S m ∧ RT tc S m ∧ RG S m ∧ RC S m
/-- one of the counts goes up -/
theorem q_raise (h : R4 c tc S m) {k : Nat} (hk : k < 9) : R4 c tc (sU S 1 (raise_ 9 (S 1) (iN k))) (upd m (8 + k) (m (8 + k) + 1)) := by
  obtain ⟨h1, h2, h3, h4⟩ := h
  rw [raise_in (by decide) hk]
  refine ⟨h1.fr (fun j a b => sU_ne (by omega)) rfl (upd_ne (by omega)) (fun j a b => upd_ne (by omega)), h2.fr (fun j a b => sU_ne (by omega)) rfl rfl (upd_ne (by omega)) (upd_ne (by omega)) (fun j a b => upd_ne (by omega)), h3.fr rfl rfl rfl rfl rfl (fun j a b => upd_ne (by omega)), ?_⟩
  obtain ⟨a, b, d, e⟩ := h4
  refine ⟨fun j hj => ?_, fun j hj => ?_, ?_, ?_⟩
  · rw [upd_ne (by omega), sU_ne (by omega)]
    exact a j hj
  · rw [sU_eq, upd_get, upd_get]
    by_cases q : j = k
    · rw [if_pos (by omega), if_pos q, b k hk]
    · rw [if_neg (by omega), if_neg q, b j hj]
  · rw [upd_ne (by omega)]
    exact d
  · rw [upd_ne (by omega)]
    exact e
theorem logAdd_j (S : SM) (x y z : Int32) {j : Nat} (hj : j ≤ 14) : s_X1_add S x y z j = S j := by
  unfold s_X1_add s_X1_add_L24 s_X1_add_L34 s_X1_add_L44
  split <;> simp (disch := omega) only [sF, sU_ne]
theorem logAdd_k (S : SM) (x y z : Int32) {k : Nat} (hk : k ≤ 4) : s_X1_add S x y z 18 k = S 18 k := by
  unfold s_X1_add s_X1_add_L24 s_X1_add_L34 s_X1_add_L44
  split <;> simp (disch := omega) only [sF, sU_eq, sU_ne, upd_ne]
theorem q_tell4 (h : R4 c tc S m) (x y z : Int32) : ∃ m', o_X10_tells m x y z = some m' ∧ R4 c tc (s_X1_add S x y z) m' ∧ ∀ k, k < 215 → m' k = m k := by
  obtain ⟨h1, h2, h3, h4⟩ := h
  obtain ⟨m', e, hg, hf⟩ := q_tells h3 x y z
  refine ⟨m', e, ⟨h1.fr (fun j a b => logAdd_j S x y z (by omega)) (logAdd_k S x y z (by decide)) (hf 4 (by decide)) (fun k a b => hf k (by omega)), h2.fr (fun j a b => logAdd_j S x y z (by omega)) (logAdd_k S x y z (by decide)) (logAdd_k S x y z (by decide)) (hf 5 (by decide)) (hf 7 (by decide)) (fun k a b => hf k (by omega)), hg, h4.fr (logAdd_j S x y z (by decide)) (logAdd_j S x y z (by decide)) (logAdd_k S x y z (by decide)) (logAdd_k S x y z (by decide)) (fun k a b d e => hf k (by omega))⟩, hf⟩
/-- a token more -/
theorem v_tokAdd (h3 : S 18 3 = iN tc) (ht : tc < 3) (x : Int32) :
    s_X8_add S x 10 = upd (S 10) tc (S 18 4 + 1) ∧ s_X8_add S x 11 = upd (S 11) tc x ∧ s_X8_add S x 12 = upd (S 12) tc 0 ∧ s_X8_add S x 13 = upd (S 13) tc 0 ∧ s_X8_add S x 14 = upd (S 14) tc 0 ∧ s_X8_add S x 18 3 = iN (tc + 1) ∧ s_X8_add S x 18 4 = S 18 4 + 1 ∧ (∀ j, j < 10 → s_X8_add S x j = S j) ∧ (∀ j, 14 < j → j < 18 → s_X8_add S x j = S j) ∧ ∀ k, k ≠ 3 → k ≠ 4 → s_X8_add S x 18 k = S 18 k := by
  have e : s_X8_add S x = s_X8_add_L19 (sF S 4 (S 18 4 + 1)) x := if_pos (by rw [h3]; exact iN_ylt (b := 3) ht (by decide))
  rw [e]
  unfold s_X8_add_L19 s_X8_add_L34 s_X8_add_L46 s_X8_add_L58 s_X8_add_L70 s_X8_add_L82
  refine ⟨?_, ?_, ?_, ?_, ?_, ?_, ?_, fun j hj => ?_, fun j hj hj2 => ?_, fun k hk hk2 => ?_⟩
  all_goals simp (disch := omega) only [sF, sU_get, upd_get, h3, put_in, Nat.reduceEqDiff, ↓reduceIte, if_neg, iN_s]
theorem q_addToken (h : R4 c tc S m) (ht : tc < 3) (x : Int32) : ∃ m', o_X10_addToken m x = some (S 18 4 + 1, m') ∧ R4 c (tc + 1) (s_X8_add S x) m' ∧ (∀ k, k ≠ 5 → k ≠ 7 → (k < 197 ∨ 215 ≤ k) → m' k = m k) := by
  obtain ⟨h1, h2, h3, h4⟩ := h
  obtain ⟨a10, a11, a12, a13, a14, a3, a4, aj, aj2, ak⟩ := v_tokAdd (S := S) h2.2.1 ht x
  have e : o_X10_addToken m x = some (S 18 4 + 1, upd (upd (upd (upd (upd (upd (upd (upd m 7 (S 18 4 + 1)) (pT tc 0) (S 18 4 + 1)) (pT tc 1) x) (pT tc 2) 0) (pT tc 3) 0) (pT tc 4) 0) (pT tc 5) 1) 5 (iN (tc + 1))) := by
    unfold o_X10_addToken
    simp (disch := omega) only [lt1, nK5, nK7, h2.2.2.1, h2.2.2.2.1, tA0, tA1, tA2, tA3, tA4, tA5, gT', nT, upd_get, qkT, qTk, if_true, if_false, iN_s, ↓reduceIte, Nat.reduceEqDiff]
  refine ⟨_, e, ?_, fun k k1 k2 k3 => ?_⟩
  · refine ⟨h1.fr (fun j a b => aj j (by omega)) (ak 2 (by decide) (by decide)) ?_ (fun k a b => ?_), ?_, h3.fr (aj2 15 (by decide) (by decide)) (aj2 16 (by decide) (by decide)) (aj2 17 (by decide) (by decide)) (ak 5 (by decide) (by decide)) (ak 6 (by decide) (by decide)) (fun k a b => ?_), h4.fr (aj 0 (by decide)) (aj 1 (by decide)) (ak 0 (by decide) (by decide)) (ak 1 (by decide) (by decide)) (fun k a b d e => ?_)⟩
    · simp (disch := omega) only [upd_get, qkT, if_false, Nat.reduceEqDiff, ↓reduceIte]
    · simp (disch := omega) only [upd_get, qkT, if_false, if_neg]
    · refine ⟨by omega, a3, upd_eq .., ?_, fun t ht2 => ?_⟩
      · rw [a4]
        simp (disch := omega) only [upd_get, qkT, if_false, Nat.reduceEqDiff, ↓reduceIte]
      · rw [a10, a11, a12, a13, a14]
        by_cases q : t = tc
        · subst q
          simp (disch := omega) only [upd_get, qTT, qTk, if_false, Nat.reduceEqDiff, ↓reduceIte, and_true, and_false, true_and, and_self]
        · have hq := h2.2.2.2.2 t (by omega)
          simp (disch := omega) only [upd_get, qTT, qTk, q, if_false, Nat.reduceEqDiff, ↓reduceIte, and_true, and_false, true_and, false_and]
          exact hq
    · have : ∀ f, f < 6 → k ≠ pT tc f := fun f hf => by unfold pT; omega
      rw [upd_ne (by omega), upd_ne (this 5 (by decide)), upd_ne (this 4 (by decide)), upd_ne (this 3 (by decide)), upd_ne (this 2 (by decide)), upd_ne (this 1 (by decide)), upd_ne (this 0 (by decide)), upd_ne (by omega)]
    · simp (disch := omega) only [upd_get, qkT, if_false, if_neg]
  · have : ∀ f, f < 6 → k ≠ pT tc f := fun f hf => by unfold pT; omega
    rw [upd_ne (by omega), upd_ne (this 5 (by decide)), upd_ne (this 4 (by decide)), upd_ne (this 3 (by decide)), upd_ne (this 2 (by decide)), upd_ne (this 1 (by decide)), upd_ne (this 0 (by decide)), upd_ne (by omega)]
end U2
