-- PART 13d: all tokens have their minute; where two meet the older one is torn up
def TD (tc : Nat) (S : SM) : Prop := ∀ t u, t < u → u < tc → S 12 t = 0 → S 12 u = 0 → S 11 t ≠ S 11 u
section AC4
variable {c tc c' tc' B k : Nat} {S S' : SM} {m m' : Nat → Int32} {o t i : Nat}
theorem Step.bd {r : Option (Nat → Int32)} (h : Step c tc B k S' S r) : Step c tc B k S' S (r.bind (fun z => some z)) := by
  obtain ⟨m', e, h⟩ := h
  exact ⟨m', by rw [e, Option.bind_some], h⟩
theorem a_acts (h : R4 c tc S m) (hO : OI c S) (hT : TI c tc B S) (hJ : TJ tc k S) (hk : k < tc) : Step c tc B k (if 0 < at_ 3 (S 12) (iN k) then s_X6_comeNearer S (iN k) else if 0 < at_ 3 (S 14) (iN k) then s_X6_readOn S (iN k) else s_X6_beginOrSetOut S (iN k)) S (o_X10_acts m (iN k)) := by
  have k3 := h.2.1.lt hk
  obtain ⟨n, p, g, l, b1, b2, b3, b4, b5, b6, b7, b8, b9, b10, b11⟩ := hT.pl hk
  unfold o_X10_acts
  rw [tA5, if_pos (gT' k3 (by decide)), nT k3 (by decide), h.2.1.f5 hk, tA4, if_pos (gT' k3 (by decide)), nT k3 (by decide), h.2.1.f4 hk, at_in (by decide) k3, at_in (by decide) k3]
  by_cases q : g = 0
  · have e12 : S 12 k = 0 := by rw [b7, q]; rfl
    rw [e12, if_pos rfl, if_neg (show ¬ (1 : Int32) = 0 by decide), if_neg (show ¬ (0 : Int32) < 0 by decide), b8]
    by_cases q2 : l = 0
    · have e14 : S 14 k = 0 := by rw [b8, q2]; rfl
      rw [if_neg (fun z => by have := (iN_pos (by omega)).mp z; omega), if_neg (fun z => by have := (iN_pos (by omega)).mp z; omega)]
      exact (a_begins h hO hT hJ hk e12 e14).bd
    · have e14 : S 14 k ≠ 0 := fun z => q2 ((iN_0 (by omega)).mp (b8.symm.trans z))
      rw [if_pos ((iN_pos (by omega)).mpr (by omega)), if_pos ((iN_pos (by omega)).mpr (by omega))]
      exact (a_speaks h hO hT hJ hk e14).bd
  · have e12 : S 12 k ≠ 0 := fun z => q ((iN_0 (by omega)).mp (b7.symm.trans z))
    rw [if_neg e12, if_pos rfl, b7, if_pos ((iN_pos (by omega)).mpr (by omega))]
    exact (a_drives h hO hT hJ hk e12).bd
theorem a_loop : ∀ d k (S : SM) (m : Nat → Int32) n1 n2, k + d = tc → R4 c tc S m → OI c S → TI c tc B S → TJ tc k S → d < n1 → d < n2 → ∃ S' m', s_X6_passMinute_L29 n2 S (iN k) = s_X6_passMinute_L99 (s_X6_tearUpWhereTwoMeet S') (iN tc) ∧ o_X10_minutes_L22 n1 m (iN k) = (o_X10_olderOne m').bind (fun r2 => o_X10_minutes_L45 4000 m' r2) ∧ R4 c tc S' m' ∧ OI c S' ∧ TI c tc B S' ∧ S' 0 = S 0 ∧ ∀ j, j < 5 → S' 18 j = S 18 j := by
  intro d
  induction d with
  | zero =>
    intro k S m n1 n2 e h hO hT hJ h1 h2
    obtain ⟨n1, rfl⟩ := some_succ h1
    obtain ⟨n2, rfl⟩ := some_succ h2
    have t3 := h.2.1.1
    refine ⟨S, m, ?_, ?_, h, hO, hT, rfl, fun j hj => rfl⟩
    · rw [s_X6_passMinute_L29, h.2.1.2.1, show k = tc by omega, if_neg (iN_nlt (by omega))]
    · rw [o_X10_minutes_L22, nK5, h.2.1.2.2.1, show k = tc by omega, if_neg (iN_nlt (by omega))]
  | succ d ih =>
    intro k S m n1 n2 e h hO hT hJ h1 h2
    obtain ⟨n1, rfl⟩ := some_succ h1
    obtain ⟨n2, rfl⟩ := some_succ h2
    have t3 := h.2.1.1
    have hk : k < tc := by omega
    obtain ⟨m1, e1, R1, hO1, hT1, hJ1, f0, f18⟩ := a_acts h hO hT hJ hk
    obtain ⟨S', m', g1, g2, R2, hO2, hT2, g0, g18⟩ := ih (k + 1) _ m1 n1 n2 (by omega) R1 hO1 hT1 hJ1 (by omega) (by omega)
    refine ⟨S', m', ?_, ?_, R2, hO2, hT2, g0.trans f0, fun j hj => (g18 j hj).trans (f18 j hj)⟩
    · rw [← g1, s_X6_passMinute_L29, h.2.1.2.1, if_pos (iN_ylt hk (by omega)), iN_s]
      by_cases q1 : 0 < at_ 3 (S 12) (iN k)
      · rw [if_pos q1, if_pos q1]
      · rw [if_neg q1, if_neg q1]
        by_cases q2 : 0 < at_ 3 (S 14) (iN k)
        · rw [if_pos q2, if_pos q2]
        · rw [if_neg q2, if_neg q2]
    · rw [← g2, o_X10_minutes_L22, nK5, h.2.1.2.2.1, if_pos (iN_ylt hk (by omega)), iN_s, e1, Option.bind_some]
/-- a newer token is there too -/
def FW (tc : Nat) (S : SM) (t : Nat) : Prop := S 12 t = 0 ∧ ∃ u, t < u ∧ u < tc ∧ S 12 u = 0 ∧ S 11 u = S 11 t
theorem v_followL (h3 : S 18 3 = iN tc) (hc : tc ≤ 3) (x : Int32) : ∀ d k n1 n2, k + d = tc → d < n1 → d < n2 → v_X8_isFollowedThere_L17 n1 S x (iN k) = if v_X8_standingAt_L2 n2 S (at_ 3 (S 11) x) (iN k) = -2 then 0 else 1 := by
  intro d
  induction d with
  | zero =>
    intro k n1 n2 e h1 h2
    obtain ⟨n1, rfl⟩ := some_succ h1
    obtain ⟨n2, rfl⟩ := some_succ h2
    rw [v_X8_isFollowedThere_L17, v_X8_standingAt_L2, h3, show k = tc by omega, if_neg (iN_nlt (by omega)), if_neg (iN_nlt (by omega)), if_pos rfl]
  | succ d ih =>
    intro k n1 n2 e h1 h2
    obtain ⟨n1, rfl⟩ := some_succ h1
    obtain ⟨n2, rfl⟩ := some_succ h2
    rw [v_X8_isFollowedThere_L17, v_X8_standingAt_L2, h3, if_pos (iN_ylt (by omega) (by omega)), if_pos (iN_ylt (by omega) (by omega)), iN_s]
    by_cases q : v_X8_isAt S (iN k) (at_ 3 (S 11) x) = 0
    · rw [if_pos q, if_pos q]
      exact ih (k + 1) n1 n2 (by omega) (by omega) (by omega)
    · rw [if_neg q, if_neg q, if_neg (iN_m2 (by omega))]
theorem v_follow (hT : TI c tc B S) (ht : t < tc) : v_X8_isFollowedThere S (iN t) = 0 ∧ ¬ FW tc S t ∨ v_X8_isFollowedThere S (iN t) = 1 ∧ FW tc S t := by
  have t3 := hT.1
  obtain ⟨n, p, g, l, b1, b2, b3, b4, b5, b6, b7, b8, b9, b10, b11⟩ := hT.pl ht
  unfold v_X8_isFollowedThere
  rw [at_in (by decide) (show t < 3 by omega), b7, iN_s]
  by_cases q : g = 0
  · rw [q, if_neg (show ¬ 0 < iN 0 by decide), v_followL hT.2.1 t3 (iN t) (tc - (t + 1)) (t + 1) _ (mu 0 + 1) (by omega) (by rw [mu_iN (by omega)]; omega) (by rw [mu_0]; omega), at_in (by decide) (show t < 3 by omega)]
    have e12 : S 12 t = 0 := by rw [b7, q]; rfl
    rcases v_standL hT.2.1 t3 (S 11 t) (tc - (t + 1)) (t + 1) (mu 0 + 1) (by omega) (by rw [mu_0]; omega) with ⟨z1, z2⟩ | ⟨u, z1, z2, z3, z4, z5, z6⟩
    · rw [if_pos z1]
      refine Or.inl ⟨rfl, ?_⟩
      rintro ⟨-, u, y1, y2, y3, y4⟩
      exact z2 u (by omega) y2 ⟨y3, y4⟩
    · rw [if_neg (by rw [z3]; exact iN_m2 (by omega))]
      exact Or.inr ⟨rfl, e12, u, by omega, z2, z4, z5⟩
  · rw [if_pos ((iN_pos (by omega)).mpr (by omega))]
    exact Or.inl ⟨rfl, fun z => q ((iN_0 (by omega)).mp (b7.symm.trans z.1))⟩
theorem v_followB (hT : TI c tc B S) (ht : tc ≤ t) (ht3 : t < 3) : v_X8_isFollowedThere S (iN t) = 0 := by
  have t3 := hT.1
  unfold v_X8_isFollowedThere
  split
  · rfl
  · rw [iN_s, v_X8_isFollowedThere_L17, hT.2.1, if_neg (fun z => by have := (iN_lt (by omega) (by omega)).mp z; omega)]
theorem q_older (h : R4 c tc S m) (hT : TI c tc B S) : ∀ d k n, k + d = tc → d < n → (o_X10_olderOne_L2 n m (iN k) = some (-2) ∧ ∀ t, k ≤ t → t < tc → ¬ FW tc S t) ∨ ∃ t, k ≤ t ∧ t < tc ∧ o_X10_olderOne_L2 n m (iN k) = some (iN t) ∧ FW tc S t ∧ ∀ u, k ≤ u → u < t → ¬ FW tc S u := by
  have t3 := hT.1
  intro d
  induction d with
  | zero =>
    intro k n e h1
    obtain ⟨n, rfl⟩ := some_succ h1
    rw [o_X10_olderOne_L2, nK5, h.2.1.2.2.1, show k = tc by omega, if_neg (iN_nlt (by omega))]
    exact Or.inl ⟨rfl, fun t a b => absurd b (by omega)⟩
  | succ d ih =>
    intro k n e h1
    obtain ⟨n, rfl⟩ := some_succ h1
    have hk : k < tc := by omega
    have k3 : k < 3 := by omega
    obtain ⟨a, p, g, l, b1, b2, b3, b4, b5, b6, b7, b8, b9, b10, b11⟩ := hT.pl hk
    have hno : ¬ FW tc S k → o_X10_olderOne_L2 (n + 1) m (iN k) = o_X10_olderOne_L2 n m (iN (k + 1)) → (o_X10_olderOne_L2 (n + 1) m (iN k) = some (-2) ∧ ∀ t, k ≤ t → t < tc → ¬ FW tc S t) ∨ ∃ t, k ≤ t ∧ t < tc ∧ o_X10_olderOne_L2 (n + 1) m (iN k) = some (iN t) ∧ FW tc S t ∧ ∀ u, k ≤ u → u < t → ¬ FW tc S u := by
      intro hf he
      rw [he]
      rcases ih (k + 1) n (by omega) (by omega) with ⟨z1, z2⟩ | ⟨t, z1, z2, z3, z4, z5⟩
      · refine Or.inl ⟨z1, fun t y1 y2 => ?_⟩
        by_cases e : t = k
        · rw [e]
          exact hf
        · exact z2 t (by omega) y2
      · refine Or.inr ⟨t, by omega, z2, z3, z4, fun u y1 y2 => ?_⟩
        by_cases e : u = k
        · rw [e]
          exact hf
        · exact z5 u (by omega) y2
    have em : o_X10_olderOne_L2 (n + 1) m (iN k) = if S 12 k = 0 then (if v_X8_standingAt_L2 (mu 0 + 1) S (S 11 k) (iN (k + 1)) < 0 then o_X10_olderOne_L2 n m (iN (k + 1)) else some (iN k)) else o_X10_olderOne_L2 n m (iN (k + 1)) := by
      rw [o_X10_olderOne_L2, nK5, h.2.1.2.2.1, if_pos (iN_ylt hk (by omega)), tA5, tA1, if_pos (gT' k3 (by decide)), if_pos (gT' k3 (by decide)), nT k3 (by decide), nT k3 (by decide), h.2.1.f5 hk, h.2.1.f1 hk, iN_s]
      by_cases q : S 12 k = 0
      · rw [if_pos q, if_pos q, if_pos rfl]
        unfold o_X10_tokenOn
        rw [q_tokenOnL h.2.1 (S 11 k) (iN (k + 1)) (tc - (k + 1)) (k + 1) 4000 (mu 0 + 1) (by omega) (by omega) (by rw [mu_0]; omega), Option.bind_some]
      · rw [if_neg q, if_neg q, if_neg (show ¬ (0 : Int32) = 1 by decide)]
    by_cases q : S 12 k = 0
    · rcases v_standL hT.2.1 t3 (S 11 k) (tc - (k + 1)) (k + 1) (mu 0 + 1) (by omega) (by rw [mu_0]; omega) with ⟨z1, z2⟩ | ⟨u, z1, z2, z3, z4, z5, z6⟩
      · refine hno ?_ ?_
        · rintro ⟨-, u, y1, y2, y3, y4⟩
          exact z2 u (by omega) y2 ⟨y3, y4⟩
        · rw [em, if_pos q, z1, if_pos m2_neg]
      · rw [em, if_pos q, z3, if_neg (iN_neg (by omega))]
        exact Or.inr ⟨k, Nat.le_refl _, hk, rfl, ⟨q, u, by omega, z2, z4, z5⟩, fun u a b => absurd b (by omega)⟩
    · refine hno (fun z => q z.1) ?_
      rw [em, if_neg q]
theorem T1.mv {u : Nat} (h : T1 c B S u) (h10 : S' 10 t = S 10 u) (h11 : S' 11 t = S 11 u) (h12 : S' 12 t = S 12 u) (h13 : S' 13 t = S 13 u) (h14 : S' 14 t = S 14 u) (h4 : S' 4 = S 4) (h7 : S' 7 = S 7) : T1 c B S' t := by
  unfold T1
  rw [h10, h11, h12, h13, h14, h4, h7]
  exact h
/-- a token goes: what holds of the others -/
theorem TI.drop (h : TI c tc B S) (ht : t < tc) (h1 : ∀ j, j < 10 → S' j = S j) (h2 : ∀ j u, 10 ≤ j → j ≤ 14 → S' j u = if t ≤ u ∧ u + 1 < tc then S j (u + 1) else S j u) (h3 : S' 18 3 = iN (tc - 1)) (h4 : S' 18 4 = S 18 4) : TI c (tc - 1) B S' := by
  have t3 := h.1
  refine ⟨by omega, h3, by rw [h4]; exact h.2.2.1, fun u hu => ?_⟩
  by_cases q : t ≤ u
  · have e : ∀ j, 10 ≤ j → j ≤ 14 → S' j u = S j (u + 1) := fun j a b => by rw [h2 j u a b, if_pos ⟨q, by omega⟩]
    exact (h.pl (show u + 1 < tc by omega)).mv (e 10 (by decide) (by decide)) (e 11 (by decide) (by decide)) (e 12 (by decide) (by decide)) (e 13 (by decide) (by decide)) (e 14 (by decide) (by decide)) (h1 4 (by decide)) (h1 7 (by decide))
  · have e : ∀ j, 10 ≤ j → j ≤ 14 → S' j u = S j u := fun j a b => by rw [h2 j u a b, if_neg (fun z => q z.1)]
    exact (h.pl (show u < tc by omega)).mv (e 10 (by decide) (by decide)) (e 11 (by decide) (by decide)) (e 12 (by decide) (by decide)) (e 13 (by decide) (by decide)) (e 14 (by decide) (by decide)) (h1 4 (by decide)) (h1 7 (by decide))
/-- a token torn up (x = 3, k = 5) or lost (x = 5, k = 6): raised and told in this order, then dropped -/
theorem q_gone (h : R4 c tc S m) (hO : OI c S) (hT : TI c tc B S) (ht : t < tc) {k : Nat} (hk : k < 9) (x : Int32) : ∃ m1 m', o_X10_tells (upd m (8 + k) (m (8 + k) + 1)) x (S 10 t) (S 11 t) = some m1 ∧ o_X10_dropToken m1 (iN t) = some m' ∧ (∀ j, j < 215 → m1 j = upd m (8 + k) (m (8 + k) + 1) j) ∧ R4 c (tc - 1) (s_X8_remove (sU (s_X1_add S x (S 10 t) (S 11 t)) 1 (raise_ 9 (S 1) (iN k))) (iN t)) m' ∧ OI c (s_X8_remove (sU (s_X1_add S x (S 10 t) (S 11 t)) 1 (raise_ 9 (S 1) (iN k))) (iN t)) ∧ TI c (tc - 1) B (s_X8_remove (sU (s_X1_add S x (S 10 t) (S 11 t)) 1 (raise_ 9 (S 1) (iN k))) (iN t)) ∧ (∀ j u, 10 ≤ j → j ≤ 14 → s_X8_remove (sU (s_X1_add S x (S 10 t) (S 11 t)) 1 (raise_ 9 (S 1) (iN k))) (iN t) j u = if t ≤ u ∧ u + 1 < tc then S j (u + 1) else S j u) ∧ (∀ j, j < 10 → j ≠ 1 → s_X8_remove (sU (s_X1_add S x (S 10 t) (S 11 t)) 1 (raise_ 9 (S 1) (iN k))) (iN t) j = S j) ∧ (∀ j, j ≤ 4 → j ≠ 3 → s_X8_remove (sU (s_X1_add S x (S 10 t) (S 11 t)) 1 (raise_ 9 (S 1) (iN k))) (iN t) 18 j = S 18 j) := by
  have t3 := hT.1
  have R1 := q_raise h hk
  obtain ⟨m1, e1, R2, f1⟩ := q_tell4 R1 x (S 10 t) (S 11 t)
  have ec : s_X1_add (sU S 1 (raise_ 9 (S 1) (iN k))) x (S 10 t) (S 11 t) = sU (s_X1_add S x (S 10 t) (S 11 t)) 1 (raise_ 9 (S 1) (iN k)) := by
    obtain ⟨lc, od, hlc, hod, e6, -, e5, -⟩ := h.2.2.1
    rw [v_logAdd (S := sU S 1 (raise_ 9 (S 1) (iN k))) hlc hod e6 e5, v_logAdd hlc hod e6 e5]
    funext j
    by_cases q : j = 1
    · subst q
      simp only [sU_get, Nat.reduceEqDiff, ↓reduceIte]
    · simp only [sU_get, q, Nat.reduceEqDiff, ↓reduceIte]
  rw [ec] at R2
  obtain ⟨Z, hZ⟩ : ∃ Z, sU (s_X1_add S x (S 10 t) (S 11 t)) 1 (raise_ 9 (S 1) (iN k)) = Z := ⟨_, rfl⟩
  have zj : ∀ j, j ≤ 14 → j ≠ 1 → Z j = S j := fun j a b => by rw [← hZ, sU_ne b, logAdd_j _ _ _ _ a]
  have zk : ∀ j, j ≤ 4 → Z 18 j = S 18 j := fun j a => by rw [← hZ, sU_ne (by decide), logAdd_k _ _ _ _ a]
  rw [hZ] at R2 ⊢
  obtain ⟨m', e', R3, f3⟩ := q_dropToken R2 ht
  have z3 : Z 18 3 = iN tc := by rw [zk 3 (by decide)]; exact hT.2.1
  obtain ⟨d1, d2, d3, d4, d5⟩ := v_tokDrop z3 t3 ht
  have d1' : ∀ j u, 10 ≤ j → j ≤ 14 → s_X8_remove Z (iN t) j u = if t ≤ u ∧ u + 1 < tc then S j (u + 1) else S j u := fun j u a b => by rw [d1 j u a b, zj j b (by omega)]
  have d3' : ∀ j, j < 10 → j ≠ 1 → s_X8_remove Z (iN t) j = S j := fun j a b => by rw [d3 j a, zj j (by omega) b]
  have d5' : ∀ j, j ≤ 4 → j ≠ 3 → s_X8_remove Z (iN t) 18 j = S 18 j := fun j a b => by rw [d5 j b, zk j a]
  refine ⟨m1, m', e1, e', f1, R3, hO.fr (fun j hj => d3' j (by omega) (by omega)) (d5' 2 (by decide) (by decide)), ?_, d1', d3', d5'⟩
  have hTZ : TI c tc B Z := ⟨t3, z3, by rw [zk 4 (by decide)]; exact hT.2.2.1, fun u hu => (hT.pl hu).mv (by rw [zj 10 (by decide) (by decide)]) (by rw [zj 11 (by decide) (by decide)]) (by rw [zj 12 (by decide) (by decide)]) (by rw [zj 13 (by decide) (by decide)]) (by rw [zj 14 (by decide) (by decide)]) (zj 4 (by decide) (by decide)) (zj 7 (by decide) (by decide))⟩
  exact hTZ.drop ht d3 d1 d2 (d5 4 (by decide))
end AC4
