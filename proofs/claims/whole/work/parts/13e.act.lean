-- PART 13e: a minute
section AC5
variable {c tc c' tc' B k : Nat} {S S' : SM} {m m' : Nat → Int32} {o t i : Nat}
/-- the reference's minute, from the count of those that speak on -/
def o_min2 (m : Nat → Int32) : Option (Nat → Int32) := (o_X10_speakers m).bind (fun r1 => if 1 < r1 then o_X10_minutes_L78 (upd m 15 (m 15 + 1)) (-2) else o_X10_minutes_L78 m (-2))
theorem e_tears (h : R4 c tc S m) (ht : t < tc) : o_X10_tears m (iN t) = (o_X10_tells (upd m 13 (m 13 + 1)) 3 (S 10 t) (S 11 t)).bind (fun r2 => (o_X10_dropToken r2 (iN t)).bind (fun r3 => some r3)) := by
  have t3 := h.2.1.lt ht
  unfold o_X10_tears
  simp only [lt1]
  rw [nK13, tA0, tA1, if_pos (gT' t3 (by decide)), if_pos (gT' t3 (by decide)), nT t3 (by decide), nT t3 (by decide), upd_ne (by unfold pT; omega), upd_ne (by unfold pT; omega), h.2.1.f0 ht, h.2.1.f1 ht]
theorem a_tear : ∀ e t (tc : Nat) (S : SM) (m : Nat → Int32) n1 n2 j, j + e = 3 → tc - t ≤ e → t ≤ j → R4 c tc S m → OI c S → TI c tc B S → (∀ u, u < t → u < tc → ¬ FW tc S u) → e < n1 → e < n2 → ∃ tc' m', tc' ≤ tc ∧ (o_X10_olderOne m).bind (fun r => o_X10_minutes_L45 n1 m r) = o_min2 m' ∧ R4 c tc' (s_X6_tearUpWhereTwoMeet_L4 n2 S (iN t) (iN j)) m' ∧ OI c (s_X6_tearUpWhereTwoMeet_L4 n2 S (iN t) (iN j)) ∧ TI c tc' B (s_X6_tearUpWhereTwoMeet_L4 n2 S (iN t) (iN j)) ∧ TD tc' (s_X6_tearUpWhereTwoMeet_L4 n2 S (iN t) (iN j)) ∧ s_X6_tearUpWhereTwoMeet_L4 n2 S (iN t) (iN j) 0 = S 0 ∧ ∀ i, i ≤ 4 → i ≠ 3 → s_X6_tearUpWhereTwoMeet_L4 n2 S (iN t) (iN j) 18 i = S 18 i := by
  intro e
  induction e with
  | zero =>
    intro t tc S m n1 n2 j hj htc htj h hO hT hF h1 h2
    obtain ⟨n1, rfl⟩ := some_succ h1
    obtain ⟨n2, rfl⟩ := some_succ h2
    have t3 := hT.1
    have es : s_X6_tearUpWhereTwoMeet_L4 (n2 + 1) S (iN t) (iN j) = S := by
      rw [s_X6_tearUpWhereTwoMeet_L4, show j = 3 by omega, if_neg (show ¬ iN 3 < 3 by decide)]
    rw [es]
    refine ⟨tc, m, Nat.le_refl _, ?_, h, hO, hT, ?_, rfl, fun i _ _ => rfl⟩
    · unfold o_X10_olderOne
      rcases q_older h hT tc 0 4000 (by omega) (by omega) with ⟨z1, z2⟩ | ⟨u, z1, z2, z3, z4, z5⟩
      · rw [show (0 : Int32) = iN 0 from rfl, z1, Option.bind_some, o_X10_minutes_L45, if_pos m2_neg]
        rfl
      · exact absurd z4 (hF u (by omega) z2)
    · intro a b hab hb ha0 hb0 hne
      exact hF a (by omega) (by omega) ⟨ha0, b, hab, hb, hb0, hne.symm⟩
  | succ e ih =>
    intro t tc S m n1 n2 j hj htc htj h hO hT hF h1 h2
    obtain ⟨n1, rfl⟩ := some_succ h1
    obtain ⟨n2, rfl⟩ := some_succ h2
    have t3 := hT.1
    have hj3 : iN j < 3 := iN_ylt (b := 3) (by omega) (by decide)
    by_cases ht : t < tc
    · rcases v_follow hT ht with ⟨z1, z2⟩ | ⟨z1, z2⟩
      · have es : s_X6_tearUpWhereTwoMeet_L4 (n2 + 1) S (iN t) (iN j) = s_X6_tearUpWhereTwoMeet_L4 n2 S (iN (t + 1)) (iN (j + 1)) := by
          rw [s_X6_tearUpWhereTwoMeet_L4, if_pos hj3, if_pos z1, iN_s, iN_s]
        rw [es]
        exact ih (t + 1) tc S m (n1 + 1) n2 (j + 1) (by omega) (by omega) (by omega) h hO hT (fun u a b => by
          by_cases q : u = t
          · rw [q]
            exact z2
          · exact hF u (by omega) b) (by omega) (by omega)
      · obtain ⟨m1, m2, e1, e2, -, R2, hO2, hT2, g1, g2, g3⟩ := q_gone h hO hT ht (k := 5) (by decide) 3
        have es : s_X6_tearUpWhereTwoMeet_L4 (n2 + 1) S (iN t) (iN j) = s_X6_tearUpWhereTwoMeet_L4 n2 (s_X8_remove (sU (s_X1_add S 3 (S 10 t) (S 11 t)) 1 (raise_ 9 (S 1) (iN 5))) (iN t)) (iN t) (iN (j + 1)) := by
          rw [s_X6_tearUpWhereTwoMeet_L4, if_pos hj3, if_neg (by rw [z1]; decide), iN_s, at_in (by decide) (show t < 3 by omega), at_in (by decide) (show t < 3 by omega), logAdd_j _ _ _ _ (j := 1) (by decide)]
          rfl
        have em : (o_X10_olderOne m).bind (fun r => o_X10_minutes_L45 (n1 + 1) m r) = (o_X10_olderOne m2).bind (fun r => o_X10_minutes_L45 n1 m2 r) := by
          have eo : o_X10_olderOne m = some (iN t) := by
            unfold o_X10_olderOne
            rcases q_older h hT tc 0 4000 (by omega) (by omega) with ⟨y1, y2⟩ | ⟨u, y1, y2, y3, y4, y5⟩
            · exact absurd z2 (y2 t (by omega) ht)
            · rw [show (0 : Int32) = iN 0 from rfl, y3]
              rcases Nat.lt_trichotomy u t with q | q | q
              · exact absurd y4 (hF u q y2)
              · rw [q]
              · exact absurd z2 (y5 t (by omega) q)
          rw [eo, Option.bind_some, o_X10_minutes_L45, if_neg (iN_neg (by omega)), e_tears h ht]
          have e1' : o_X10_tells (upd m 13 (m 13 + 1)) 3 (S 10 t) (S 11 t) = some m1 := e1
          rw [e1', Option.bind_some, e2, Option.bind_some, Option.bind_some]
        rw [es, em]
        obtain ⟨tc', m', w1, w2, w3, w4, w5, w6, w7, w8⟩ := ih t (tc - 1) _ m2 n1 n2 (j + 1) (by omega) (by omega) (by omega) R2 hO2 hT2 (fun u a b => by
          rintro ⟨y1, v, y2, y3, y4, y5⟩
          refine hF u a (by omega) ⟨?_, ?_⟩
          · rw [g1 12 u (by decide) (by decide), if_neg (by omega)] at y1
            exact y1
          · rw [g1 12 v (by decide) (by decide)] at y4
            rw [g1 11 v (by decide) (by decide), g1 11 u (by decide) (by decide), if_neg (show ¬ (t ≤ u ∧ u + 1 < tc) by omega)] at y5
            by_cases q : t ≤ v ∧ v + 1 < tc
            · rw [if_pos q] at y4 y5
              exact ⟨v + 1, by omega, by omega, y4, y5⟩
            · rw [if_neg q] at y4 y5
              exact ⟨v, by omega, by omega, y4, y5⟩) (by omega) (by omega)
        exact ⟨tc', m', by omega, w2, w3, w4, w5, w6, w7.trans (g2 0 (by decide) (by decide)), fun i a b => (w8 i a b).trans (g3 i a b)⟩
    · have es : s_X6_tearUpWhereTwoMeet_L4 (n2 + 1) S (iN t) (iN j) = s_X6_tearUpWhereTwoMeet_L4 n2 S (iN (t + 1)) (iN (j + 1)) := by
        rw [s_X6_tearUpWhereTwoMeet_L4, if_pos hj3, if_pos (v_followB hT (by omega) (by omega)), iN_s, iN_s]
      rw [es]
      exact ih (t + 1) tc S m (n1 + 1) n2 (j + 1) (by omega) (by omega) (by omega) h hO hT (fun u a b => hF u (by omega) b) (by omega) (by omega)
/-- time and silence -/
theorem q_time (h : R4 c tc S m) (v : Int32) : R4 c tc (sF S 0 v) (upd m 3 v) := by
  unfold sF
  refine ⟨h.1.fr (fun j a b => sU_ne (by omega)) ?_ (upd_ne (by omega)) (fun j a b => upd_ne (by omega)), h.2.1.fr (fun j a b => sU_ne (by omega)) ?_ ?_ (upd_ne (by omega)) (upd_ne (by omega)) (fun j a b => upd_ne (by omega)), h.2.2.1.fr (sU_ne (by decide)) (sU_ne (by decide)) (sU_ne (by decide)) ?_ ?_ (fun j a b => upd_ne (by omega)), ?_⟩
  · rw [sU_eq, upd_ne (by decide)]
  · rw [sU_eq, upd_ne (by decide)]
  · rw [sU_eq, upd_ne (by decide)]
  · rw [sU_eq, upd_ne (by decide)]
  · rw [sU_eq, upd_ne (by decide)]
  · obtain ⟨a, b, d, e⟩ := h.2.2.2
    refine ⟨fun j hj => ?_, fun j hj => ?_, ?_, ?_⟩
    · rw [upd_ne (by omega), sU_ne (by decide)]
      exact a j hj
    · rw [upd_ne (by omega), sU_ne (by decide)]
      exact b j hj
    · rw [upd_eq, sU_eq, upd_eq]
    · rw [upd_ne (by decide), sU_eq, upd_ne (by decide)]
      exact e
theorem q_sil (h : R4 c tc S m) (v : Int32) : R4 c tc (sF S 1 v) (upd m 6 v) := by
  unfold sF
  refine ⟨h.1.fr (fun j a b => sU_ne (by omega)) ?_ (upd_ne (by omega)) (fun j a b => upd_ne (by omega)), h.2.1.fr (fun j a b => sU_ne (by omega)) ?_ ?_ (upd_ne (by omega)) (upd_ne (by omega)) (fun j a b => upd_ne (by omega)), h.2.2.1.fr (sU_ne (by decide)) (sU_ne (by decide)) (sU_ne (by decide)) ?_ ?_ (fun j a b => upd_ne (by omega)), ?_⟩
  · rw [sU_eq, upd_ne (by decide)]
  · rw [sU_eq, upd_ne (by decide)]
  · rw [sU_eq, upd_ne (by decide)]
  · rw [sU_eq, upd_ne (by decide)]
  · rw [sU_eq, upd_ne (by decide)]
  · obtain ⟨a, b, d, e⟩ := h.2.2.2
    refine ⟨fun j hj => ?_, fun j hj => ?_, ?_, ?_⟩
    · rw [upd_ne (by omega), sU_ne (by decide)]
      exact a j hj
    · rw [upd_ne (by omega), sU_ne (by decide)]
      exact b j hj
    · rw [upd_ne (by decide), sU_eq, upd_ne (by decide)]
      exact d
    · rw [upd_eq, sU_eq, upd_eq]
/-- a new day -/
theorem q_off0 (h : R4 c tc S m) (ho : o < c) (v : Int32) : R4 c tc (sU S 5 (upd (S 5) o v)) (upd m (pO o 3) v) := by
  have h10 := h.1.1
  refine h.O ⟨h.1.1, h.1.2.1, ?_, fun u hu => ?_⟩ (fun j j1 j2 => sU_ne (by omega)) (fun k k1 => rfl) (fun k k1 k2 => upd_ne (by unfold pO; omega))
  · rw [upd_ne (by unfold pO; omega)]
    exact h.1.2.2.1
  · have hq := h.1.2.2.2 u hu
    simp (disch := omega) only [upd_get, sU_get, qOO, qLO, Nat.reduceEqDiff, ↓reduceIte, and_true, and_false, if_false]
    refine ⟨?_, ?_⟩
    · by_cases q : u = o
      · subst q
        simp only [↓reduceIte]
        exact ⟨hq.1.1, hq.1.2.1, hq.1.2.2.1, trivial, hq.1.2.2.2.2⟩
      · simp only [q, ↓reduceIte]
        exact hq.1
    · obtain ⟨w, hw, e7, hl⟩ := hq.2
      refine ⟨w, hw, e7, fun i hi => ?_⟩
      have := hl i hi
      simp (disch := omega) only [qLO, if_false]
      exact this
theorem q_newDay : ∀ d k (S : SM) (m : Nat → Int32) n1 n2, k + d = c → R4 c tc S m → d < n1 → d < n2 → ∃ m', o_X10_newDay_L2 n1 m (iN k) = some m' ∧ R4 c tc (s_X2_beginDay_L2 n2 S (iN k)) m' ∧ ∀ j, j ≠ 5 → s_X2_beginDay_L2 n2 S (iN k) j = S j := by
  intro d
  induction d with
  | zero =>
    intro k S m n1 n2 e h h1 h2
    obtain ⟨n1, rfl⟩ := some_succ h1
    obtain ⟨n2, rfl⟩ := some_succ h2
    have c10 := h.1.1
    rw [o_X10_newDay_L2, s_X2_beginDay_L2, nK4, h.1.2.2.1, h.1.2.1, show k = c by omega, if_neg (iN_nlt (by omega)), if_neg (iN_nlt (by omega))]
    exact ⟨m, rfl, h, fun j _ => rfl⟩
  | succ d ih =>
    intro k S m n1 n2 e h h1 h2
    obtain ⟨n1, rfl⟩ := some_succ h1
    obtain ⟨n2, rfl⟩ := some_succ h2
    have c10 := h.1.1
    have hk : k < c := by omega
    have k10 : k < 10 := by omega
    obtain ⟨m', e1, R, f⟩ := ih (k + 1) _ _ n1 n2 (by omega) (q_off0 h hk 0) (by omega) (by omega)
    rw [o_X10_newDay_L2, s_X2_beginDay_L2, nK4, h.1.2.2.1, h.1.2.1, if_pos (iN_ylt hk (by omega)), if_pos (iN_ylt hk (by omega)), oA3, if_pos (gO k10 (by decide)), nO k10 (by decide), put_in (by decide) k10, iN_s]
    exact ⟨m', e1, R, fun j hj => by rw [f j hj, sU_ne hj]⟩
theorem lt_2 (x : Int32) : (x < 2) ↔ ¬ (1 < x) := by
  rw [Int32.lt_iff_toInt_lt, Int32.lt_iff_toInt_lt, show (1 : Int32).toInt = 1 from rfl, show (2 : Int32).toInt = 2 from rfl]
  omega
theorem tokAdd_sil (h3 : S 18 3 = iN tc) (ht : tc < 3) (x v : Int32) : s_X8_add (sF S 1 v) x = sF (s_X8_add S x) 1 v := by
  have h3' : sF S 1 v 18 3 = iN tc := h3
  obtain ⟨a10, a11, a12, a13, a14, a3, a4, aj, aj2, ak⟩ := v_tokAdd (S := S) h3 ht x
  obtain ⟨b10, b11, b12, b13, b14, b3, b4, bj, bj2, bk⟩ := v_tokAdd (S := sF S 1 v) h3' ht x
  have fj : ∀ j, j ≠ 18 → ∀ Z : SM, sF Z 1 v j = Z j := fun j hj Z => sU_ne hj
  have f18 : ∀ k, k ≠ 1 → ∀ Z : SM, sF Z 1 v 18 k = Z 18 k := fun k hk Z => by unfold sF; rw [sU_eq, upd_ne hk]
  funext j
  by_cases q18 : j = 18
  · subst q18
    funext k
    by_cases q1 : k = 1
    · subst q1
      rw [bk 1 (by decide) (by decide)]
      unfold sF
      rw [sU_eq, sU_eq, upd_eq, upd_eq]
    · rw [f18 k q1]
      by_cases q3 : k = 3
      · rw [q3, b3, a3]
      · by_cases q4 : k = 4
        · rw [q4, b4, a4, f18 4 (by decide)]
        · rw [bk k q3 q4, ak k q3 q4, f18 k q1]
  · rw [fj j q18]
    by_cases l10 : j < 10
    · rw [bj j l10, aj j l10, fj j q18]
    · by_cases l14 : 14 < j
      · by_cases l18 : j < 18
        · rw [bj2 j l14 l18, aj2 j l14 l18, fj j q18]
        · have e : ∀ Z : SM, s_X8_add Z x j = Z j := by
            intro Z
            unfold s_X8_add s_X8_add_L19 s_X8_add_L34 s_X8_add_L46 s_X8_add_L58 s_X8_add_L70 s_X8_add_L82 sF
            split <;> simp (disch := omega) only [sU_ne]
          rw [e, e, fj j q18]
      · rcases (by omega : j = 10 ∨ j = 11 ∨ j = 12 ∨ j = 13 ∨ j = 14) with rfl | rfl | rfl | rfl | rfl
        · rw [b10, a10, fj 10 (by decide), f18 4 (by decide)]
        · rw [b11, a11, fj 11 (by decide)]
        · rw [b12, a12, fj 12 (by decide)]
        · rw [b13, a13, fj 13 (by decide)]
        · rw [b14, a14, fj 14 (by decide)]
end AC5
