-- PART 16b: lose, shut
section OP2
variable {c tc B B' k : Nat} {S S' : SM} {m m' : Nat → Int32} {X X' : SM} {Y Y' : RS} {o t i : Nat}
theorem Int32_add_sub (a b : Int32) : a + b - a = b := by
  rw [Int32.add_comm, Int32.add_sub_cancel]
theorem Int32_sub_self (a : Int32) : a - a = 0 := Int32.sub_self a
/-- as q_gone, without what holds of the tokens -/
theorem q_gone0 (h : R4 c tc S m) (hO : OI c S) (ht : t < tc) {k : Nat} (hk : k < 9) (x : Int32) : ∃ m1 m', o_X10_tells (upd m (8 + k) (m (8 + k) + 1)) x (S 10 t) (S 11 t) = some m1 ∧ o_X10_dropToken m1 (iN t) = some m' ∧ R4 c (tc - 1) (s_X8_remove (sU (s_X1_add S x (S 10 t) (S 11 t)) 1 (raise_ 9 (S 1) (iN k))) (iN t)) m' ∧ OI c (s_X8_remove (sU (s_X1_add S x (S 10 t) (S 11 t)) 1 (raise_ 9 (S 1) (iN k))) (iN t)) ∧ (∀ j u, 10 ≤ j → j ≤ 14 → s_X8_remove (sU (s_X1_add S x (S 10 t) (S 11 t)) 1 (raise_ 9 (S 1) (iN k))) (iN t) j u = if t ≤ u ∧ u + 1 < tc then S j (u + 1) else S j u) ∧ (∀ j, j < 10 → j ≠ 1 → s_X8_remove (sU (s_X1_add S x (S 10 t) (S 11 t)) 1 (raise_ 9 (S 1) (iN k))) (iN t) j = S j) ∧ s_X8_remove (sU (s_X1_add S x (S 10 t) (S 11 t)) 1 (raise_ 9 (S 1) (iN k))) (iN t) 1 = upd (S 1) k (S 1 k + 1) ∧ (∀ j, j ≤ 4 → j ≠ 3 → s_X8_remove (sU (s_X1_add S x (S 10 t) (S 11 t)) 1 (raise_ 9 (S 1) (iN k))) (iN t) 18 j = S 18 j) ∧ s_X8_remove (sU (s_X1_add S x (S 10 t) (S 11 t)) 1 (raise_ 9 (S 1) (iN k))) (iN t) 18 3 = iN (tc - 1) := by
  have t3 := h.2.1.1
  have et := h.2.1.2.1
  have R1 := q_raise h hk
  obtain ⟨m1, e1, R2, f1⟩ := q_tell4 R1 x (S 10 t) (S 11 t)
  have ec : s_X1_add (sU S 1 (raise_ 9 (S 1) (iN k))) x (S 10 t) (S 11 t) = sU (s_X1_add S x (S 10 t) (S 11 t)) 1 (raise_ 9 (S 1) (iN k)) := by
    obtain ⟨lc, od, hlc, hod, e6, -, e5, -⟩ := h.2.2.1
    rw [v_logAdd (S := sU S 1 (raise_ 9 (S 1) (iN k))) hlc hod e6 e5, v_logAdd hlc hod e6 e5]
    funext j
    by_cases q : j = 1
    · subst q
      simp only [sU_get, Nat.reduceEqDiff, ↓reduceIte]
    · simp only [sU_get, q, Nat.reduceEqDiff, ↓reduceIte]
  rw [ec] at R2
  obtain ⟨Z, hZ⟩ : ∃ Z, sU (s_X1_add S x (S 10 t) (S 11 t)) 1 (raise_ 9 (S 1) (iN k)) = Z := ⟨_, rfl⟩
  have zj : ∀ j, j ≤ 14 → j ≠ 1 → Z j = S j := fun j a b => by rw [← hZ, sU_ne b, logAdd_j _ _ _ _ a]
  have z1 : Z 1 = upd (S 1) k (S 1 k + 1) := by rw [← hZ, sU_eq, raise_in (by decide) hk]
  have zk : ∀ j, j ≤ 4 → Z 18 j = S 18 j := fun j a => by rw [← hZ, sU_ne (by decide), logAdd_k _ _ _ _ a]
  rw [hZ] at R2 ⊢
  obtain ⟨m', e', R3, f3⟩ := q_dropToken R2 ht
  have z3 : Z 18 3 = iN tc := by rw [zk 3 (by decide)]; exact et
  obtain ⟨d1, d2, d3, d4, d5⟩ := v_tokDrop z3 t3 ht
  have d3' : ∀ j, j < 10 → j ≠ 1 → s_X8_remove Z (iN t) j = S j := fun j a b => by rw [d3 j a, zj j (by omega) b]
  have d5' : ∀ j, j ≤ 4 → j ≠ 3 → s_X8_remove Z (iN t) 18 j = S 18 j := fun j a b => by rw [d5 j b, zk j a]
  exact ⟨m1, m', e1, e', R3, hO.fr (fun j hj => d3' j (by omega) (by omega)) (d5' 2 (by decide) (by decide)), fun j u a b => by rw [d1 j u a b, zj j b (by omega)], d3', by rw [d3 1 (by decide), z1], d5', d2⟩
theorem TD.drop (h : TD tc S) (h2 : ∀ j u, 10 ≤ j → j ≤ 14 → S' j u = if t ≤ u ∧ u + 1 < tc then S j (u + 1) else S j u) : TD (tc - 1) S' := by
  intro a b hab hb ha0 hb0
  rw [h2 12 a (by decide) (by decide)] at ha0
  rw [h2 12 b (by decide) (by decide)] at hb0
  rw [h2 11 a (by decide) (by decide), h2 11 b (by decide) (by decide)]
  by_cases qa : t ≤ a ∧ a + 1 < tc
  · rw [if_pos qa] at ha0 ⊢
    rw [if_pos (by omega)] at hb0 ⊢
    exact h (a + 1) (b + 1) (by omega) (by omega) ha0 hb0
  · rw [if_neg qa] at ha0 ⊢
    by_cases qb : t ≤ b ∧ b + 1 < tc
    · rw [if_pos qb] at hb0 ⊢
      exact h a (b + 1) (by omega) (by omega) ha0 hb0
    · rw [if_neg qb] at hb0 ⊢
      exact h a b hab (by omega) ha0 hb0
theorem e_loses (h : R4 c tc S m) (ht : t < tc) : o_X10_loses m (iN t) = (o_X10_tells (upd m 14 (m 14 + 1)) 5 (S 10 t) (S 11 t)).bind (fun r2 => (o_X10_dropToken r2 (iN t)).bind (fun r3 => some r3)) := by
  have t3 := h.2.1.lt ht
  unfold o_X10_loses
  simp only [lt1]
  rw [nK14, tA0, tA1, if_pos (gT' t3 (by decide)), if_pos (gT' t3 (by decide)), nT t3 (by decide), nT t3 (by decide), upd_ne (by unfold pT; omega), upd_ne (by unfold pT; omega), h.2.1.f0 ht, h.2.1.f1 ht]
theorem v_lose (t3 : t < 3) : s_X6_loseToken S (iN t) = s_X8_remove (sU (s_X1_add S 5 (S 10 t) (S 11 t)) 1 (raise_ 9 (S 1) (iN 6))) (iN t) := by
  unfold s_X6_loseToken s_X6_loseToken_L30 s_X6_loseToken_L39
  rw [at_in (by decide) t3, at_in (by decide) t3, logAdd_j _ _ _ _ (j := 1) (by decide)]
  rfl
theorem q_lose (h : Iv c tc B S m) (ht : t < tc) : ∃ m', o_X10_loses m (iN t) = some m' ∧ Iv c (tc - 1) B (s_X6_loseToken S (iN t)) m' ∧ s_X6_loseToken S (iN t) 18 0 = S 18 0 := by
  have t3 := h.t3
  obtain ⟨m1, m', e1, e2, -, R, O, T, g1, g2, g3⟩ := q_gone h.1 h.2.1 h.2.2.1 ht (k := 6) (by decide) 5
  have e1' : o_X10_tells (upd m 14 (m 14 + 1)) 5 (S 10 t) (S 11 t) = some m1 := e1
  rw [e_loses h.1 ht, e1', Option.bind_some, e2, Option.bind_some, v_lose (by omega)]
  exact ⟨m', rfl, ⟨R, O, T, h.2.2.2.1.drop g1, h.2.2.2.2.fr (g2 0 (by decide) (by decide))⟩, g3 0 (by decide) (by decide)⟩
theorem t_lose (h : Top B Y X) (x1 : Int32) : OpR B (p_X9_lose Y x1) (o_X10_lose X x1) := by
  obtain ⟨c, tc, hc2, hI, tm, htm, etm⟩ := h.1
  have t3 := hI.t3
  unfold p_X9_lose o_X10_lose
  rw [q_isToken hI.et hI.mt t3, Option.bind_some]
  rcases c_hasT hI.et t3 x1 with e | ⟨t, ht, rfl, e⟩
  · rw [e, if_pos rfl, if_pos rfl]
    exact OpR.same h _
  rw [e, if_neg (show ¬ (1 : Int32) = 0 by decide), if_neg (show ¬ (1 : Int32) = 0 by decide)]
  have k3 : t < 3 := by omega
  obtain ⟨X1, ek, hT1, x0, y0, -⟩ := t_keepUndo h
  rw [ek, Option.bind_some, x0, tA0, if_pos (gT' k3 (by decide)), nT k3 (by decide)]
  obtain ⟨m1, e1, I1, f0⟩ := q_lose hI ht
  rw [e1, Option.bind_some]
  simp only [lt1]
  unfold p_X9_lose_L27
  rw [y0, at_in (by decide) k3, hI.1.2.1.f0 ht]
  exact ⟨_, rfl, hT1.now (Nat.le_refl B) ⟨c, tc - 1, hc2, I1, tm, htm, f0.trans etm⟩⟩
/-- an office is shut or opens -/
theorem q_off2 (h : R4 c tc S m) (ho : o < c) (v : Int32) : R4 c tc (sU S 4 (upd (S 4) o v)) (upd m (pO o 2) v) := by
  have h10 := h.1.1
  refine h.O ⟨h.1.1, h.1.2.1, ?_, fun u hu => ?_⟩ (fun j j1 j2 => sU_ne (by omega)) (fun k k1 => rfl) (fun k k1 k2 => upd_ne (by unfold pO; omega))
  · rw [upd_ne (by unfold pO; omega)]
    exact h.1.2.2.1
  · have hq := h.1.2.2.2 u hu
    simp (disch := omega) only [upd_get, sU_get, qOO, qLO, Nat.reduceEqDiff, ↓reduceIte, and_true, and_false, if_false]
    refine ⟨?_, ?_⟩
    · by_cases q : u = o
      · subst q
        simp only [↓reduceIte]
        exact ⟨hq.1.1, hq.1.2.1, trivial, hq.1.2.2.2⟩
      · simp only [q, ↓reduceIte]
        exact hq.1
    · obtain ⟨w, hw, e7, hl⟩ := hq.2
      refine ⟨w, hw, e7, fun i hi => ?_⟩
      have := hl i hi
      simp (disch := omega) only [qLO, if_false]
      exact this
theorem OI.off2 (h : OI c S) (ho : o < c) {v : Int32} (hv : v = 0 ∨ v = 1) : OI c (sU S 4 (upd (S 4) o v)) := by
  refine ⟨h.1, h.2.1, fun u hu => ?_⟩
  obtain ⟨b1, b2, b3, b4⟩ := h.2.2 u hu
  simp only [sU_get, Nat.reduceEqDiff, ↓reduceIte]
  refine ⟨b1, b2, ?_, b4⟩
  rw [upd_get]
  by_cases q : u = o
  · rw [if_pos q]
    exact hv
  · rw [if_neg q]
    exact b3
theorem T1.off2 (h : T1 c B S t) {v : Int32} (h4 : ∀ p, S 11 t = iN p → S 12 t = 0 → p = o → v = 1) (hr : ∀ j, 10 ≤ j → j ≤ 14 → S' j i = S j t) (e4 : S' 4 = upd (S 4) o v) (e7 : S' 7 = S 7) : T1 c B S' i := by
  obtain ⟨n, p, g, l, b1, b2, b3, b4, b5, b6, b7, b8, b9, b10, b11⟩ := h
  refine ⟨n, p, g, l, b1, b2, b3, b4, (hr 10 (by decide) (by decide)).trans b5, (hr 11 (by decide) (by decide)).trans b6, (hr 12 (by decide) (by decide)).trans b7, (hr 14 (by decide) (by decide)).trans b8, ?_, fun z => ?_, ?_⟩
  · rw [hr 13 (by decide) (by decide)]
    exact b9
  · rw [e4, upd_get]
    by_cases q : p = o
    · rw [if_pos q]
      exact h4 p b6 (by rw [b7, z]; rfl) q
    · rw [if_neg q]
      exact b10 z
  · rw [e7]
    exact b11
theorem v_shut (o10 : o < 10) (x : Int32) : s_X6_shutOrOpen S (iN o) x = s_X6_shutOrOpen_L23 (s_X1_add (sU S 4 (upd (S 4) o x)) 7 (iN o) x) (iN o) x := by
  unfold s_X6_shutOrOpen s_X6_shutOrOpen_L12
  rw [put_in (by decide) o10]
theorem q_shuts (h : Iv c tc B S m) (ho : o < c) {x : Int32} (hx : x = 0 ∨ x = 1) (hne : S 4 o ≠ x) : ∃ m' tc' v, o_X10_shuts m (iN o) x = some (v, m') ∧ Iv c tc' B (s_X6_shutOrOpen S (iN o) x) m' ∧ v = s_X6_shutOrOpen S (iN o) x 1 6 - S 1 6 ∧ s_X6_shutOrOpen S (iN o) x 18 0 = S 18 0 := by
  have c10 := h.c10
  have t3 := h.t3
  have o10 : o < 10 := by omega
  have R1 := q_off2 h.1 ho x
  have O1 := h.2.1.off2 ho hx
  obtain ⟨m2, e2, R2, f2⟩ := q_tell4 R1 7 (iN o) x
  unfold o_X10_shuts
  simp only [lt1]
  rw [oA2, if_pos (gO o10 (by decide)), nO o10 (by decide), e2, Option.bind_some, v_shut o10]
  obtain ⟨Z, hZ⟩ : ∃ Z, s_X1_add (sU S 4 (upd (S 4) o x)) 7 (iN o) x = Z := ⟨_, rfl⟩
  have zj : ∀ j, j ≤ 14 → j ≠ 4 → Z j = S j := fun j a b => by rw [← hZ, logAdd_j _ _ _ _ a, sU_ne b]
  have z4 : Z 4 = upd (S 4) o x := by rw [← hZ, logAdd_j _ _ _ _ (by decide), sU_eq]
  have zk : ∀ j, j ≤ 4 → Z 18 j = S 18 j := fun j a => by rw [← hZ, logAdd_k _ _ _ _ a, sU_ne (by decide)]
  have OZ : OI c Z := by
    rw [← hZ]
    exact O1.fr (fun j hj => logAdd_j _ _ _ _ (by omega)) (logAdd_k _ _ _ _ (by decide))
  rw [hZ] at R2 ⊢
  rw [q_tokenOn R2.2.1, Option.bind_some]
  unfold s_X6_shutOrOpen_L23
  have et : Z 18 3 = iN tc := (zk 3 (by decide)).trans h.et
  rcases v_stand et t3 (iN o) with ⟨z1, z2⟩ | ⟨t, z1, z2, z3, z4', z5⟩
  · rw [z1, if_pos rfl, o_X10_shuts_L26, if_pos m2_neg]
    refine ⟨m2, tc, 0, rfl, ⟨R2, OZ, ⟨t3, et, by rw [zk 4 (by decide)]; exact h.2.2.1.2.2.1, fun u hu => (h.2.2.1.pl hu).off2 (o := o) (v := x) (fun p d1 d2 d3 => ?_) (fun j a b => by rw [zj j b (by omega)]) z4 (zj 7 (by decide) (by decide))⟩, h.2.2.2.1.fr (zj 11 (by decide) (by decide)) (zj 12 (by decide) (by decide)), h.2.2.2.2.fr (zj 0 (by decide) (by decide))⟩, ?_, zk 0 (by decide)⟩
    · rw [d3] at d1
      exact absurd ⟨by rw [zj 12 (by decide) (by decide)]; exact d2, by rw [zj 11 (by decide) (by decide)]; exact d1⟩ (z2 u hu)
    · rw [zj 1 (by decide) (by decide), Int32_sub_self]
  · rw [zj 12 (by decide) (by decide)] at z3
    rw [zj 11 (by decide) (by decide)] at z4'
    obtain ⟨n, p, g, l, b1, b2, b3, b4, b5, b6, b7, b8, b9, b10, b11⟩ := h.2.2.1.pl z1
    have g0 : g = 0 := (iN_0 (by omega)).mp (b7.symm.trans z3)
    have po : p = o := (iN_inj (by omega) (by omega)).mp (b6.symm.trans z4')
    have s4 : S 4 o = 1 := by rw [← po]; exact b10 g0
    have x0 : x = 0 := by
      rcases hx with q | q
      · exact q
      · exact absurd (s4.trans q.symm) hne
    have k3 : t < 3 := by omega
    obtain ⟨m3, m4, e3, e4, R4', O4, g1, g2, g21, g3, g33⟩ := q_gone0 R2 OZ z1 (k := 6) (by decide) 5
    have e3' : o_X10_tells (upd m2 14 (m2 14 + 1)) 5 (Z 10 t) (Z 11 t) = some m3 := e3
    rw [z2, if_neg (iN_m2 (by omega)), o_X10_shuts_L26, if_neg (iN_neg (by omega)), if_pos x0, e_loses R2 z1, e3', Option.bind_some, e4, Option.bind_some, Option.bind_some, v_lose k3]
    obtain ⟨W, hW⟩ : ∃ W, s_X8_remove (sU (s_X1_add Z 5 (Z 10 t) (Z 11 t)) 1 (raise_ 9 (Z 1) (iN 6))) (iN t) = W := ⟨_, rfl⟩
    rw [hW] at R4' O4 g1 g2 g21 g3 g33 ⊢
    have g1' : ∀ j u, 10 ≤ j → j ≤ 14 → W j u = if t ≤ u ∧ u + 1 < tc then S j (u + 1) else S j u := fun j u a b => by rw [g1 j u a b, zj j b (by omega)]
    rw [q_tokenOn R4'.2.1, Option.bind_some]
    have TW : TD (tc - 1) W := h.2.2.2.1.drop g1'
    have hstd : ∀ u, u < tc → u ≠ t → S 12 u = 0 → S 11 u ≠ iN o := by
      intro u hu hut e12 e11
      rcases Nat.lt_or_gt_of_ne hut with q | q
      · exact h.2.2.2.1 u t q z1 e12 z3 (e11.trans z4'.symm)
      · exact h.2.2.2.1 t u q hu z3 e12 (z4'.trans e11.symm)
    have hno : v_X8_standingAt W (iN o) = -2 := by
      rcases v_stand g33 (by omega) (iN o) with ⟨y1, -⟩ | ⟨u, y1, y2, y3, y4, y5⟩
      · exact y1
      · rw [g1' 12 u (by decide) (by decide)] at y3
        rw [g1' 11 u (by decide) (by decide)] at y4
        by_cases q : t ≤ u ∧ u + 1 < tc
        · rw [if_pos q] at y3 y4
          exact absurd y4 (hstd (u + 1) (by omega) (by omega) y3)
        · rw [if_neg q] at y3 y4
          exact absurd y4 (hstd u (by omega) (by omega) y3)
    rw [hno, o_X10_shuts_L26, if_pos m2_neg]
    refine ⟨m4, tc - 1, 0 + 1, rfl, ⟨R4', O4, ⟨by omega, g33, by rw [g3 4 (by decide) (by decide), zk 4 (by decide)]; exact h.2.2.1.2.2.1, fun u hu => ?_⟩, TW, h.2.2.2.2.fr (by rw [g2 0 (by decide) (by decide), zj 0 (by decide) (by decide)])⟩, ?_, by rw [g3 0 (by decide) (by decide), zk 0 (by decide)]⟩
    · by_cases q : t ≤ u ∧ u + 1 < tc
      · refine (h.2.2.1.pl (show u + 1 < tc by omega)).off2 (o := o) (v := x) (fun p e1 e2 e3 => ?_) (fun j a b => by rw [g1' j u a b, if_pos q]) (by rw [g2 4 (by decide) (by decide), z4]) (by rw [g2 7 (by decide) (by decide), zj 7 (by decide) (by decide)])
        rw [e3] at e1
        exact absurd e1 (hstd (u + 1) (by omega) (by omega) e2)
      · refine (h.2.2.1.pl (show u < tc by omega)).off2 (o := o) (v := x) (fun p e1 e2 e3 => ?_) (fun j a b => by rw [g1' j u a b, if_neg q]) (by rw [g2 4 (by decide) (by decide), z4]) (by rw [g2 7 (by decide) (by decide), zj 7 (by decide) (by decide)])
        rw [e3] at e1
        exact absurd e1 (hstd u (by omega) (by omega) e2)
    · rw [g21, upd_eq, zj 1 (by decide) (by decide), Int32_add_sub]
      rfl
theorem t_shut (h : Top B Y X) (x1 x2 : Int32) : OpR B (p_X9_shut Y x1 x2) (o_X10_shut X x1 x2) := by
  obtain ⟨c, tc, hc2, hI, tm, htm, etm⟩ := h.1
  have c10 := hI.c10
  unfold p_X9_shut o_X10_shut
  rw [q_isOffice hI.ec hI.mc c10 (by omega), Option.bind_some]
  rcases c_has hI.ec c10 x1 with e | ⟨o, ho, rfl, e⟩
  · rw [e, if_pos rfl, if_pos rfl]
    exact OpR.same h _
  rw [e, if_neg (show ¬ (1 : Int32) = 0 by decide), if_neg (show ¬ (1 : Int32) = 0 by decide), in_within]
  have o10 : o < 10 := by omega
  by_cases q : v_X9_isWithin x2 0 1 = 0
  · rw [if_pos q, if_pos q]
    exact OpR.same h _
  rw [if_neg q, if_neg q, oA2, if_pos (gO o10 (by decide)), nO o10 (by decide), hI.1.1.f2 ho, at_in (by decide) o10]
  have hx : x2 = 0 ∨ x2 = 1 := by
    obtain ⟨n, -, hn1, rfl⟩ := within_iN (a := 0) (b := 1) (by decide) (by decide) q
    rcases (by omega : n = 0 ∨ n = 1) with rfl | rfl
    · exact Or.inl rfl
    · exact Or.inr rfl
  by_cases q2 : Y 0 4 o = x2
  · rw [if_pos q2, if_pos q2]
    exact OpR.same h _
  rw [if_neg q2, if_neg q2]
  obtain ⟨X1, ek, hT1, x0, y0, -⟩ := t_keepUndo h
  obtain ⟨m', tc', v, e1, I1, ev, f0⟩ := q_shuts hI ho hx q2
  rw [ek, Option.bind_some, x0, e1, Option.bind_some]
  simp only [lt1]
  unfold p_X9_shut_L57 p_X9_shut_L79
  rw [y0, yU_eq]
  have a6 : ∀ g, at_ 9 g 6 = g 6 := fun g => at_in (i := 6) (by decide) (by decide)
  rw [a6, a6, ← ev]
  exact ⟨_, rfl, hT1.now (Nat.le_refl B) ⟨c, tc', hc2, I1, tm, htm, f0.trans etm⟩⟩
end OP2
