-- PART 12c: a token goes; offices and letters come and go; single fields
section U3
variable {c tc c' tc' : Nat} {S S' : SM} {m m' : Nat → Int32} {o t i : Nat}
theorem R4.T (h : R4 c tc S m) (hT : RT tc' S' m') (h1 : ∀ j, j < 10 → S' j = S j) (h2 : ∀ j, 14 < j → j < 18 → S' j = S j) (h3 : ∀ k, k ≠ 3 → k ≠ 4 → S' 18 k = S 18 k) (h4 : ∀ k, k ≠ 5 → k ≠ 7 → (k < 197 ∨ 215 ≤ k) → m' k = m k) : R4 c tc' S' m' :=
  ⟨h.1.fr (fun j a b => h1 j (by omega)) (h3 2 (by decide) (by decide)) (h4 4 (by decide) (by decide) (by decide)) (fun k a b => h4 k (by omega) (by omega) (by omega)), hT,
   h.2.2.1.fr (h2 15 (by decide) (by decide)) (h2 16 (by decide) (by decide)) (h2 17 (by decide) (by decide)) (h3 5 (by decide) (by decide)) (h3 6 (by decide) (by decide)) (fun k a b => h4 k (by omega) (by omega) (by omega)),
   h.2.2.2.fr (h1 0 (by decide)) (h1 1 (by decide)) (h3 0 (by decide) (by decide)) (h3 1 (by decide) (by decide)) (fun k a b d e => h4 k (by omega) (by omega) (by omega))⟩
theorem R4.O (h : R4 c tc S m) (hO : RO c' S' m') (h1 : ∀ j, (j < 2 ∨ 9 < j) → j ≠ 18 → S' j = S j) (h3 : ∀ k, k ≠ 2 → S' 18 k = S 18 k) (h4 : ∀ k, k ≠ 4 → (k < 17 ∨ 197 ≤ k) → m' k = m k) : R4 c' tc S' m' :=
  ⟨hO, h.2.1.fr (fun j a b => h1 j (by omega) (by omega)) (h3 3 (by decide)) (h3 4 (by decide)) (h4 5 (by decide) (by decide)) (h4 7 (by decide) (by decide)) (fun k a b => h4 k (by omega) (by omega)),
   h.2.2.1.fr (h1 15 (by decide) (by decide)) (h1 16 (by decide) (by decide)) (h1 17 (by decide) (by decide)) (h3 5 (by decide)) (h3 6 (by decide)) (fun k a b => h4 k (by omega) (by omega)),
   h.2.2.2.fr (h1 0 (by decide) (by decide)) (h1 1 (by decide) (by decide)) (h3 0 (by decide)) (h3 1 (by decide)) (fun k a b d e => h4 k (by omega) (by omega))⟩
/-- a field of a token -/
theorem q_tokF (h : RT tc S m) (ht : t < tc) {f : Nat} (hf : f < 5) (hf2 : f ≠ 2) (v : Int32) : RT tc (sU S (10 + f) (upd (S (10 + f)) t v)) (upd m (pT t f) v) := by
  have h3 := h.1
  refine ⟨h.1, ?_, ?_, ?_, fun u hu => ?_⟩
  · rw [sU_ne (by omega)]
    exact h.2.1
  · rw [upd_ne (by unfold pT; omega)]
    exact h.2.2.1
  · rw [upd_ne (by unfold pT; omega), sU_ne (by omega)]
    exact h.2.2.2.1
  · have hq := h.2.2.2.2 u hu
    have e : ∀ g, g < 5 → m (pT u g) = S (10 + g) u → upd m (pT t f) v (pT u g) = sU S (10 + f) (upd (S (10 + f)) t v) (10 + g) u := by
      intro g hg z
      rw [upd_get, sU_get]
      by_cases q : g = f
      · subst q
        rw [if_pos rfl, upd_get]
        by_cases q2 : u = t
        · subst q2
          rw [if_pos rfl, if_pos rfl]
        · rw [if_neg (fun w => q2 ((qTT (by omega) (by omega)).mp w).1), if_neg q2, z]
      · rw [if_neg (fun w => q ((qTT (by omega) (by omega)).mp w).2), if_neg (by omega), z]
    refine ⟨e 0 (by decide) hq.1, e 1 (by decide) hq.2.1, e 2 (by decide) hq.2.2.1, e 3 (by decide) hq.2.2.2.1, e 4 (by decide) hq.2.2.2.2.1, ?_⟩
    rw [upd_ne (fun w => by have := ((qTT (by omega) (by omega)).mp w).2; omega), sU_ne (by omega)]
    exact hq.2.2.2.2.2
theorem q_tok2 (h : RT tc S m) (ht : t < tc) (v : Int32) : RT tc (sU S 12 (upd (S 12) t v)) (upd (upd m (pT t 2) v) (pT t 5) (if v = 0 then 1 else 0)) := by
  have h3 := h.1
  refine ⟨h.1, h.2.1, ?_, ?_, fun u hu => ?_⟩
  · rw [upd_ne (by unfold pT; omega), upd_ne (by unfold pT; omega)]
    exact h.2.2.1
  · rw [upd_ne (by unfold pT; omega), upd_ne (by unfold pT; omega)]
    exact h.2.2.2.1
  · have hq := h.2.2.2.2 u hu
    simp (disch := omega) only [upd_get, sU_get, qTT, Nat.reduceEqDiff, ↓reduceIte, and_true, and_false]
    by_cases q : u = t
    · subst q
      simp only [↓reduceIte]
      exact ⟨hq.1, hq.2.1, trivial, hq.2.2.2.1, hq.2.2.2.2.1, trivial⟩
    · simp only [q, ↓reduceIte]
      exact hq
theorem upd_self {k : Nat} {v : Int32} (h : m k = v) : upd m k v = m := by
  funext j
  rw [upd_get]
  by_cases q : j = k
  · rw [if_pos q, q, h]
  · rw [if_neg q]
/-- a token goes -/
theorem v_has (h2 : S 18 2 = iN c) (hc : c ≤ 10) (ho : o < c) : v_X2_has S (iN o) = 1 := by
  unfold v_X2_has
  rw [if_neg (iN_neg (by omega)), h2, if_pos (iN_ylt ho (by omega))]
theorem v_hasT (h3 : S 18 3 = iN tc) (hc : tc ≤ 3) (ht : t < tc) : v_X8_has S (iN t) = 1 := by
  unfold v_X8_has
  rw [if_neg (iN_neg (by omega)), h3, if_pos (iN_ylt ht (by omega))]
theorem v_tokDrop (h3 : S 18 3 = iN tc) (hc : tc ≤ 3) (ht : t < tc) :
    (∀ j u, 10 ≤ j → j ≤ 14 → s_X8_remove S (iN t) j u = if t ≤ u ∧ u + 1 < tc then S j (u + 1) else S j u) ∧ s_X8_remove S (iN t) 18 3 = iN (tc - 1) ∧ (∀ j, j < 10 → s_X8_remove S (iN t) j = S j) ∧ (∀ j, 14 < j → j < 18 → s_X8_remove S (iN t) j = S j) ∧ ∀ k, k ≠ 3 → s_X8_remove S (iN t) 18 k = S 18 k := by
  have e : s_X8_remove S (iN t) = s_X8_remove_L21 (sU S 10 (takeOut_ 3 (S 10) (iN t) (S 18 3))) (iN t) := if_neg (by rw [v_hasT h3 hc ht]; decide)
  have hp : ∀ g : Nat → Int32, ∀ u, takeOut_ 3 g (iN t) (iN tc) u = if t ≤ u ∧ u + 1 < tc then g (u + 1) else g u := fun g u => takeOut_in (by decide) ht hc u
  rw [e]
  unfold s_X8_remove_L21 s_X8_remove_L33 s_X8_remove_L45 s_X8_remove_L57 s_X8_remove_L69
  refine ⟨fun j u h1 h2 => ?_, ?_, fun j hj => ?_, fun j h1 h2 => ?_, fun k hk => ?_⟩
  · rcases (by omega : j = 10 ∨ j = 11 ∨ j = 12 ∨ j = 13 ∨ j = 14) with rfl | rfl | rfl | rfl | rfl <;> simp (disch := omega) only [sF, sU_get, upd_get, h3, hp, Nat.reduceEqDiff, ↓reduceIte]
  · simp only [sF, sU_get, upd_get, h3, Nat.reduceEqDiff, ↓reduceIte]
    exact iN_sub (b := 1) (by omega)
  · simp (disch := omega) only [sF, sU_ne]
  · simp (disch := omega) only [sF, sU_ne]
  · simp (disch := omega) only [sF, sU_get, upd_ne, Nat.reduceEqDiff, ↓reduceIte]
def shf (a e s : Nat) (m : Nat → Int32) : Nat → Int32 := fun j => if a ≤ j ∧ j < e then m (j + s) else m j
theorem shf_step {a k s : Nat} (m : Nat → Int32) (hs : 1 ≤ s) : upd (shf a (a + k) s m) (a + k) (shf a (a + k) s m (a + k + s)) = shf a (a + k + 1) s m := by
  funext j
  unfold upd shf
  by_cases h : j = a + k
  · subst h
    rw [if_pos rfl, if_neg (by omega), if_pos (by omega)]
  · rw [if_neg h]
    by_cases h2 : a ≤ j ∧ j < a + k
    · rw [if_pos h2, if_pos (by omega)]
    · rw [if_neg h2, if_neg (by omega)]
theorem shf_0 {a s : Nat} (m : Nat → Int32) : shf a (a + 0) s m = m := by
  funext j
  unfold shf
  rw [if_neg (by omega)]
theorem shf_e {a e s : Nat} (m : Nat → Int32) (h : e ≤ a) : shf a e s m = m := by
  funext j
  unfold shf
  rw [if_neg (by omega)]
theorem o_dropTokL {a b z : Nat} {y : Int32} (ha : 197 ≤ a) (hb : b ≤ 209) (hz : z < 3) (hb2 : b = pT z 0) (e5 : m 5 = iN z) : ∀ d k n, a + k + d = b → d < n → o_X10_dropToken_L13 n (shf a (a + k) 6 m) y (iN (a + k)) = some (shf a b 6 m) := by
  intro d
  induction d with
  | zero =>
    intro k n e h
    obtain ⟨n, rfl⟩ := some_succ h
    rw [o_X10_dropToken_L13, nK5, show shf a (a + k) 6 m 5 = m 5 from if_neg (by omega), e5, tA0, ← hb2, show a + k = b by omega, if_neg (iN_nlt (by omega))]
  | succ d ih =>
    intro k n e h
    obtain ⟨n, rfl⟩ := some_succ h
    rw [o_X10_dropToken_L13, nK5, show shf a (a + k) 6 m 5 = m 5 from if_neg (by omega), e5, tA0, ← hb2, if_pos (iN_ylt (by omega) (by omega)), show iN (a + k) + 6 = iN (a + k + 6) from iN_add _ 6, if_pos (gin_iN (by omega) (by omega)), if_pos (gin_iN (by omega) (by omega)), iN_nat (by omega), iN_nat (by omega), shf_step m (by decide), iN_s]
    exact ih (k + 1) n (by omega) (by omega)
theorem q_dropToken (h : R4 c tc S m) (ht : t < tc) : ∃ m', o_X10_dropToken m (iN t) = some m' ∧ R4 c (tc - 1) (s_X8_remove S (iN t)) m' ∧ ∀ k, k ≠ 5 → (k < 197 ∨ 215 ≤ k) → m' k = m k := by
  have h3 := h.2.1.1
  obtain ⟨a1, a2, a3, a4, a5⟩ := v_tokDrop h.2.1.2.1 h3 ht
  have hm := o_dropTokL (m := upd m 5 (iN (tc - 1))) (a := pT t 0) (b := pT (tc - 1) 0) (z := tc - 1) (y := iN t) (by unfold pT; omega) (by unfold pT; omega) (by omega) rfl (upd_eq ..) (6 * (tc - 1 - t)) 0 4000 (by unfold pT; omega) (by omega)
  rw [shf_0] at hm
  have e : o_X10_dropToken m (iN t) = some (shf (pT t 0) (pT (tc - 1) 0) 6 (upd m 5 (iN (tc - 1)))) := by
    unfold o_X10_dropToken
    simp only [lt1]
    rw [nK5, h.2.1.2.2.1, tA0, show iN tc - 1 = iN (tc - 1) from iN_sub (b := 1) (by omega)]
    exact hm
  have hfr : ∀ k, k ≠ 5 → (k < 197 ∨ 215 ≤ k) → shf (pT t 0) (pT (tc - 1) 0) 6 (upd m 5 (iN (tc - 1))) k = m k := by
    intro k k1 k2
    unfold shf
    rw [if_neg (by unfold pT; omega), upd_ne k1]
  refine ⟨_, e, ?_, hfr⟩
  refine h.T ?_ a3 a4 (fun k k1 k2 => a5 k k1) (fun k k1 k2 k3 => hfr k k1 k3)
  have hT := h.2.1
  refine ⟨by omega, a2, ?_, ?_, fun u hu => ?_⟩
  · unfold shf
    rw [if_neg (by unfold pT; omega), upd_eq]
  · unfold shf
    rw [if_neg (by unfold pT; omega), upd_ne (by decide), a5 4 (by decide)]
    exact hT.2.2.2.1
  · have g : ∀ f, f < 6 → shf (pT t 0) (pT (tc - 1) 0) 6 (upd m 5 (iN (tc - 1))) (pT u f) = if t ≤ u then m (pT (u + 1) f) else m (pT u f) := by
      intro f hf
      unfold shf
      by_cases q : t ≤ u
      · rw [if_pos q, if_pos (by unfold pT; omega), upd_ne (by unfold pT; omega), show pT u f + 6 = pT (u + 1) f by unfold pT; omega]
      · rw [if_neg q, if_neg (by unfold pT; omega), upd_ne (by unfold pT; omega)]
    rw [g 0 (by decide), g 1 (by decide), g 2 (by decide), g 3 (by decide), g 4 (by decide), g 5 (by decide), a1 10 u (by decide) (by decide), a1 11 u (by decide) (by decide), a1 12 u (by decide) (by decide), a1 13 u (by decide) (by decide), a1 14 u (by decide) (by decide)]
    by_cases q : t ≤ u
    · have hq := hT.2.2.2.2 (u + 1) (by omega)
      simp only [if_pos q, if_pos (show t ≤ u ∧ u + 1 < tc by omega)]
      exact hq
    · have hq := hT.2.2.2.2 u (by omega)
      simp only [if_neg q, if_neg (show ¬ (t ≤ u ∧ u + 1 < tc) by omega)]
      exact hq
end U3
