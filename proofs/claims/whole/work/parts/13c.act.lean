-- PART 13c: a token speaks, begins; a token's minute
section AC3
variable {c tc c' tc' B k : Nat} {S S' : SM} {m m' : Nat → Int32} {o t i : Nat}
theorem e_speaks {p l : Nat} (k3 : k < 3) (p10 : p < 10) (e1 : m (pT k 1) = iN p) (e4 : m (pT k 4) = iN l) (hl : 1 ≤ l) {a1 a2 a3 a4 : Nat → Int32} (h1 : upd m (pT k 4) (iN (l - 1)) = a1) (h2 : upd a1 (pT k 3) (a1 (pT k 3) + 1) = a2) (h3 : upd a2 (pO p 3) (a2 (pO p 3) + 1) = a3) (h4 : upd a3 16 (a3 16 + 1) = a4) : o_X10_speaks m (iN k) = if a4 (pT k 4) = 0 then (o_X10_isThrough a4 (iN p)).bind (fun r5 => some r5) else some a4 := by
  unfold o_X10_speaks
  rw [tA1, tA4, tA3, if_pos (gT' k3 (by decide)), if_pos (gT' k3 (by decide)), if_pos (gT' k3 (by decide)), nT k3 (by decide), nT k3 (by decide), nT k3 (by decide), e1, e4, iN_1 hl, h1]
  simp only [lt1]
  rw [if_pos (gT' k3 (by decide)), if_pos (gT' k3 (by decide)), h2, oA3, if_pos (gO p10 (by decide)), if_pos (gO p10 (by decide)), nO p10 (by decide), h3, nK16, h4, if_pos (gT' k3 (by decide))]
theorem v_readOn {p l : Nat} (k3 : k < 3) (p10 : p < 10) (e11 : S 11 k = iN p) (e14 : S 14 k = iN l) (hl : 1 ≤ l) : s_X6_readOn S (iN k) = s_X6_readOn_L69 (sU (sU (sU (sU S 14 (upd (S 14) k (iN (l - 1)))) 13 (upd (S 13) k (S 13 k + 1))) 5 (upd (S 5) p (S 5 p + 1))) 1 (raise_ 9 (S 1) 8)) (iN k) (iN p) (iN (l - 1)) := by
  unfold s_X6_readOn s_X6_readOn_L38 s_X6_readOn_L49 s_X6_readOn_L60
  rw [at_in (by decide) k3, at_in (by decide) k3, e11, e14, iN_1 hl, put_in (by decide) k3]
  rw [sU_ne (show (13 : Nat) ≠ 14 by decide), raise_in (by decide) k3, sU_ne (show (5 : Nat) ≠ 13 by decide), sU_ne (show (5 : Nat) ≠ 14 by decide), raise_in (by decide) p10, sU_ne (show (1 : Nat) ≠ 5 by decide), sU_ne (show (1 : Nat) ≠ 13 by decide), sU_ne (show (1 : Nat) ≠ 14 by decide)]
theorem a_speaks (h : R4 c tc S m) (hO : OI c S) (hT : TI c tc B S) (hJ : TJ tc k S) (hk : k < tc) (hl0 : S 14 k ≠ 0) : Step c tc B k (s_X6_readOn S (iN k)) S (o_X10_speaks m (iN k)) := by
  have k3 := h.2.1.lt hk
  obtain ⟨n, p, g, l, b1, b2, b3, b4, b5, b6, b7, b8, b9, b10, b11⟩ := hT.pl hk
  have l0 : l ≠ 0 := fun z => hl0 (by rw [b8, z]; rfl)
  have g0 : g = 0 := Classical.byContradiction fun z => l0 (b9 z).2
  subst g0
  have p10 := h.1.lt b2
  obtain ⟨-, -, -, w, hw, e7, -⟩ := hO.2.2 p b2
  have w1 : 1 ≤ w := by
    have z := b11 l0
    rw [e7] at z
    exact Nat.one_le_iff_ne_zero.mpr (fun q => z ((iN_0 (by omega)).mpr q))
  have ev := v_readOn k3 p10 b6 b8 (by omega)
  obtain ⟨a1, h1⟩ : ∃ a1, upd m (pT k 4) (iN (l - 1)) = a1 := ⟨_, rfl⟩
  obtain ⟨a2, h2⟩ : ∃ a2, upd a1 (pT k 3) (a1 (pT k 3) + 1) = a2 := ⟨_, rfl⟩
  obtain ⟨a3, h3⟩ : ∃ a3, upd a2 (pO p 3) (a2 (pO p 3) + 1) = a3 := ⟨_, rfl⟩
  obtain ⟨a4, h4⟩ : ∃ a4, upd a3 16 (a3 16 + 1) = a4 := ⟨_, rfl⟩
  have em := e_speaks k3 p10 (by rw [h.2.1.f1 hk, b6]) (by rw [h.2.1.f4 hk, b8]) (show 1 ≤ l by omega) h1 h2 h3 h4
  have e13 : a1 (pT k 3) = S 13 k := by rw [← h1, upd_ne (by unfold pT; omega), h.2.1.f3 hk]
  have e44 : a4 (pT k 4) = iN (l - 1) := by
    rw [← h4, upd_ne (by unfold pT; omega), ← h3, upd_ne (by unfold pT pO; omega), ← h2, upd_ne (by unfold pT; omega), ← h1, upd_eq]
  obtain ⟨S4, hS4⟩ : ∃ S4, sU (sU (sU (sU S 14 (upd (S 14) k (iN (l - 1)))) 13 (upd (S 13) k (S 13 k + 1))) 5 (upd (S 5) p (S 5 p + 1))) 1 (raise_ 9 (S 1) 8) = S4 := ⟨_, rfl⟩
  have R4' : R4 c tc S4 a4 := by
    have Q1 := h.tokF hk (f := 4) (by decide) (by decide) (iN (l - 1))
    rw [h1] at Q1
    have Q2 := Q1.tokF hk (f := 3) (by decide) (by decide) (a1 (pT k 3) + 1)
    rw [h2, e13] at Q2
    have Q3 := Q2.offF b2
    rw [h3] at Q3
    have Q4 := q_raise Q3 (k := 8) (by decide)
    rw [show 8 + 8 = 16 from rfl, h4] at Q4
    rw [← hS4]
    exact Q4
  have gj : ∀ j, j ≠ 14 → j ≠ 13 → j ≠ 5 → j ≠ 1 → S4 j = S j := fun j j1 j2 j3 j4 => by rw [← hS4, sU_ne j4, sU_ne j3, sU_ne j2, sU_ne j1]
  have g14 : S4 14 = upd (S 14) k (iN (l - 1)) := by rw [← hS4, sU_ne (by decide), sU_ne (by decide), sU_ne (by decide), sU_eq]
  have g13 : S4 13 = upd (S 13) k (S 13 k + 1) := by rw [← hS4, sU_ne (by decide), sU_ne (by decide), sU_eq]
  have hO4 : OI c S4 := hO.fr (fun j hj => gj j (by omega) (by omega) (by omega) (by omega)) (by rw [gj 18 (by decide) (by decide) (by decide) (by decide)])
  rw [em, ev, hS4, e44]
  unfold s_X6_readOn_L69
  by_cases q : l - 1 = 0
  · rw [q, show iN 0 = 0 from rfl, if_pos rfl, if_pos rfl]
    obtain ⟨m', em', R5, hO5, f7, fj, f18⟩ := a_through R4' hO4 b2 hw (by rw [gj 7 (by decide) (by decide) (by decide) (by decide)]; exact e7) w1
    rw [em', Option.bind_some]
    have z14 : s_X6_endLetter S4 (iN p) 14 k = 0 := by rw [fj 14 (by omega), g14, upd_eq, q]; rfl
    refine ⟨m', rfl, R5, hO5, ?_, ?_, by rw [fj 0 (by omega), gj 0 (by decide) (by decide) (by decide) (by decide)], fun j hj => by rw [f18 j hj, gj 18 (by decide) (by decide) (by decide) (by decide)]⟩
    · refine hT.upd (t := k) (by rw [f18 3 (by decide), gj 18 (by decide) (by decide) (by decide) (by decide)]) (by rw [f18 4 (by decide), gj 18 (by decide) (by decide) (by decide) (by decide)]) ⟨n, p, 0, 0, b1, b2, by decide, by decide, ?_, ?_, ?_, z14, fun z => absurd rfl z, fun z => ?_, fun z => absurd rfl z⟩ (fun u hu huk => (hT.pl hu).fr ?_ ?_ ?_ ?_ ?_ ?_ (fun p' z1 z2 z3 => ?_))
      · rw [fj 10 (by omega), gj 10 (by decide) (by decide) (by decide) (by decide), b5]
      · rw [fj 11 (by omega), gj 11 (by decide) (by decide) (by decide) (by decide), b6]
      · rw [fj 12 (by omega), gj 12 (by decide) (by decide) (by decide) (by decide), b7]
      · rw [fj 4 (by omega), gj 4 (by decide) (by decide) (by decide) (by decide)]
        exact b10 rfl
      · rw [fj 10 (by omega), gj 10 (by decide) (by decide) (by decide) (by decide)]
      · rw [fj 11 (by omega), gj 11 (by decide) (by decide) (by decide) (by decide)]
      · rw [fj 12 (by omega), gj 12 (by decide) (by decide) (by decide) (by decide)]
      · rw [fj 13 (by omega), g13, upd_ne huk]
      · rw [fj 14 (by omega), g14, upd_ne huk]
      · rw [fj 4 (by omega), gj 4 (by decide) (by decide) (by decide) (by decide)]
      · have hne := hJ k u hk hu (Ne.symm huk) (Or.inl hl0) (Or.inl z1)
        rw [f7, upd_ne (fun q2 => hne (by rw [b6, z2, q2])), gj 7 (by decide) (by decide) (by decide) (by decide)]
        exact z3
    · refine hJ.step hk (fun u hu => ?_) (fun u hu => ?_) (fun u hu => ?_) (fun z => absurd z14 z)
      · rw [fj 14 (by omega), g14, upd_ne hu]
      · rw [fj 12 (by omega), gj 12 (by decide) (by decide) (by decide) (by decide)]
      · rw [fj 11 (by omega), gj 11 (by decide) (by decide) (by decide) (by decide)]
  · have q' : ¬ iN (l - 1) = 0 := fun z => q ((iN_0 (by omega)).mp z)
    rw [if_neg q', if_neg q']
    refine ⟨_, rfl, R4', hO4, ?_, ?_, gj 0 (by decide) (by decide) (by decide) (by decide), fun j hj => by rw [gj 18 (by decide) (by decide) (by decide) (by decide)]⟩
    · refine hT.upd (t := k) (by rw [gj 18 (by decide) (by decide) (by decide) (by decide)]) (by rw [gj 18 (by decide) (by decide) (by decide) (by decide)]) ⟨n, p, 0, l - 1, b1, b2, by decide, by omega, ?_, ?_, ?_, ?_, fun z => absurd rfl z, fun z => ?_, fun z => ?_⟩ (fun u hu huk => (hT.pl hu).fr ?_ ?_ ?_ ?_ ?_ ?_ (fun p' z1 z2 z3 => ?_))
      · rw [gj 10 (by decide) (by decide) (by decide) (by decide), b5]
      · rw [gj 11 (by decide) (by decide) (by decide) (by decide), b6]
      · rw [gj 12 (by decide) (by decide) (by decide) (by decide), b7]
      · rw [g14, upd_eq]
      · rw [gj 4 (by decide) (by decide) (by decide) (by decide)]
        exact b10 rfl
      · rw [gj 7 (by decide) (by decide) (by decide) (by decide)]
        exact b11 l0
      · rw [gj 10 (by decide) (by decide) (by decide) (by decide)]
      · rw [gj 11 (by decide) (by decide) (by decide) (by decide)]
      · rw [gj 12 (by decide) (by decide) (by decide) (by decide)]
      · rw [g13, upd_ne huk]
      · rw [g14, upd_ne huk]
      · rw [gj 4 (by decide) (by decide) (by decide) (by decide)]
      · rw [gj 7 (by decide) (by decide) (by decide) (by decide)]
        exact z3
    · refine hJ.step hk (fun u hu => ?_) (fun u hu => ?_) (fun u hu => ?_) (fun z => ⟨Or.inl hl0, ?_⟩)
      · rw [g14, upd_ne hu]
      · rw [gj 12 (by decide) (by decide) (by decide) (by decide)]
      · rw [gj 11 (by decide) (by decide) (by decide) (by decide)]
      · rw [gj 11 (by decide) (by decide) (by decide) (by decide)]
/-- why an office does not begin -/
theorem q_whyNot (h : R4 c tc S m) (hO : OI c S) (hk : k < tc) {p : Nat} (hp : p < c) : o_X10_whyNot m (iN p) (iN k) = some (if at_ 10 (S 7) (iN p) = 0 then 3 else if v_X6_fitsInTurn S (iN p) (iN k) = 0 then 4 else if v_X6_fitsInDay S (iN p) = 0 then 5 else 6) := by
  have k3 := h.2.1.lt hk
  have p10 := h.1.lt hp
  obtain ⟨-, -, -, w, hw, e7, -⟩ := hO.2.2 p hp
  obtain ⟨w3, hw3, e73, hl3⟩ := h.1.q hp
  have hww3 : w3 = w := (iN_inj (by omega) (by omega)).mp (e73.symm.trans e7)
  unfold o_X10_whyNot
  rw [oA4, if_pos (gO p10 (by decide)), nO p10 (by decide), h.1.f4 hp, at_in (by decide) p10, e7]
  by_cases q : w = 0
  · rw [q, show iN 0 = 0 from rfl, if_pos rfl, if_pos rfl]
  · have q' : ¬ iN w = 0 := fun z => q ((iN_0 (by omega)).mp z)
    have l0 := (hl3 0 (by omega)).2
    rw [Nat.add_zero] at l0
    have e0 : m 0 = S 0 0 := h.2.2.2.1 0 (by decide)
    have e2 : m 2 = S 0 2 := h.2.2.2.1 2 (by decide)
    have ez : at_ 3 (S 0) 0 = S 0 0 := at_in (i := 0) (by decide) (by decide)
    have ez2 : at_ 3 (S 0) 2 = S 0 2 := at_in (i := 2) (by decide) (by decide)
    rw [if_neg q', if_neg q', lA01, if_pos (gL p10 (by decide) (by decide)), nL' p10 (by decide) (by decide), tA3, if_pos (gT' k3 (by decide)), nT k3 (by decide), nK0, nK2, e0, e2, h.2.1.f3 hk, l0, oA3, if_pos (gO p10 (by decide)), nO p10 (by decide), h.1.f3 hp]
    unfold v_X6_fitsInTurn v_X6_fitsInDay
    rw [v_lengthOf0 p10, at_in (by decide) k3, at_in (by decide) p10, ez, ez2]
    by_cases q1 : S 0 0 - S 13 k < S 9 (6 * p)
    · rw [if_pos q1, if_pos q1, if_pos rfl]
    · rw [if_neg q1, if_neg q1, if_neg (show ¬ (1 : Int32) = 0 by decide)]
      by_cases q2 : S 0 2 - S 5 p < S 9 (6 * p)
      · rw [if_pos q2, if_pos q2, if_pos rfl]
      · rw [if_neg q2, if_neg q2, if_neg (show ¬ (1 : Int32) = 0 by decide)]
theorem s_leave (h : R4 c tc S m) (hO : OI c S) (hT : TI c tc B S) (hJ : TJ tc k S) (hk : k < tc) {p : Nat} (hp : p < c) (e11 : S 11 k = iN p) (e14 : S 14 k = 0) : Step c tc B k (s_X6_leave S (iN k) (iN p)) S (o_X10_setsOut m (iN k)) := by
  have k3 := h.2.1.lt hk
  have c10 := hO.1
  obtain ⟨n, p', g, l, b1, b2, b3, b4, b5, b6, b7, b8, b9, b10, b11⟩ := hT.pl hk
  obtain ⟨⟨v2, hv1, hv2, e2⟩, -⟩ := hO.2.2 p hp
  obtain ⟨m', em', R2⟩ := q_setsOut h hk hp e11 e14 (by
    rw [e2]
    exact fun z => by
      have := (iN_0 (by omega)).mp z
      omega)
  obtain ⟨d1, d2, d3, d4⟩ := t_leave hO k3 hp b1 b5 e14
  refine ⟨m', em', R2, hO.fr (fun j hj => d3 j (by omega)) (by rw [d3 18 (by decide)]), ?_, ?_, d3 0 (by decide), fun j hj => by rw [d3 18 (by decide)]⟩
  · exact hT.upd (t := k) (by rw [d3 18 (by decide)]) (by rw [d3 18 (by decide)]) d1 (fun u hu huk => (hT.pl hu).fr (d4 10 u huk) (d4 11 u huk) (d4 12 u huk) (d4 13 u huk) (d4 14 u huk) (d3 4 (by decide)) (fun p z1 z2 z3 => by rw [d3 7 (by decide)]; exact z3))
  · exact hJ.step hk (d4 14) (d4 12) (d4 11) (fun z => absurd d2 z)
theorem a_begins (h : R4 c tc S m) (hO : OI c S) (hT : TI c tc B S) (hJ : TJ tc k S) (hk : k < tc) (hg0 : S 12 k = 0) (hl0 : S 14 k = 0) : Step c tc B k (s_X6_beginOrSetOut S (iN k)) S (o_X10_begins m (iN k)) := by
  have k3 := h.2.1.lt hk
  obtain ⟨n, p, g, l, b1, b2, b3, b4, b5, b6, b7, b8, b9, b10, b11⟩ := hT.pl hk
  have g0 : g = 0 := (iN_0 (by omega)).mp (b7.symm.trans hg0)
  have p10 := h.1.lt b2
  have o4 := b10 g0
  obtain ⟨-, -, -, w, hw, e7, hlet⟩ := hO.2.2 p b2
  have hS := s_leave h hO hT hJ hk b2 b6 hl0
  have em : o_X10_begins m (iN k) = if at_ 10 (S 7) (iN p) = 0 then (o_X10_setsOut m (iN k)).bind (fun r1 => some r1) else if v_X6_fitsInTurn S (iN p) (iN k) = 0 then (o_X10_setsOut m (iN k)).bind (fun r1 => some r1) else if v_X6_fitsInDay S (iN p) = 0 then (o_X10_setsOut m (iN k)).bind (fun r1 => some r1) else some (upd m (pT k 4) (m (pL p 0 1))) := by
    unfold o_X10_begins
    rw [tA1, if_pos (gT' k3 (by decide)), nT k3 (by decide), h.2.1.f1 hk, b6, q_isOpen h.1 b2, Option.bind_some, v_isOpen p10, if_pos o4, if_neg (show ¬ (1 : Int32) = 0 by decide), q_whyNot h hO hk b2, Option.bind_some, lA01, if_pos (gL p10 (by decide) (by decide)), tA4, if_pos (gT' k3 (by decide)), nT k3 (by decide), nL' p10 (by decide) (by decide)]
    unfold o_X10_begins_L45
    simp only [lt1]
    by_cases q1 : at_ 10 (S 7) (iN p) = 0
    · rw [if_pos q1, if_pos q1, if_neg (show ¬ (3 : Int32) = 6 by decide)]
    · rw [if_neg q1, if_neg q1]
      by_cases q2 : v_X6_fitsInTurn S (iN p) (iN k) = 0
      · rw [if_pos q2, if_pos q2, if_neg (show ¬ (4 : Int32) = 6 by decide)]
      · rw [if_neg q2, if_neg q2]
        by_cases q3 : v_X6_fitsInDay S (iN p) = 0
        · rw [if_pos q3, if_pos q3, if_neg (show ¬ (5 : Int32) = 6 by decide)]
        · rw [if_neg q3, if_neg q3, if_pos rfl]
  have ev : s_X6_beginOrSetOut S (iN k) = if at_ 10 (S 7) (iN p) = 0 then s_X6_leave S (iN k) (iN p) else if v_X6_fitsInTurn S (iN p) (iN k) = 0 then s_X6_leave S (iN k) (iN p) else if v_X6_fitsInDay S (iN p) = 0 then s_X6_leave S (iN k) (iN p) else sU S 14 (upd (S 14) k (S 9 (6 * p))) := by
    unfold s_X6_beginOrSetOut s_X6_beginOrSetOut_L41 s_X6_beginOrSetOut_L42 s_X6_beginOrSetOut_L87
    rw [at_in (by decide) k3, b6, v_isOpen p10, if_pos o4, if_neg (show ¬ (1 : Int32) = 0 by decide), at_in (by decide) p10, e7, v_lengthOf0 p10, put_in (by decide) k3]
    by_cases q1 : w = 0
    · rw [q1, if_neg (show ¬ 0 < iN 0 by decide), if_pos rfl, if_pos (show iN 0 = 0 from rfl)]
    · rw [if_pos ((iN_pos (by omega)).mpr (by omega)), if_neg (show ¬ (1 : Int32) = 0 by decide), if_neg (fun z => q1 ((iN_0 (by omega)).mp z))]
  rw [em, ev]
  obtain ⟨m', es, hS'⟩ := hS
  have hL : Step c tc B k (s_X6_leave S (iN k) (iN p)) S ((o_X10_setsOut m (iN k)).bind (fun r1 => some r1)) := ⟨m', by rw [es, Option.bind_some], hS'⟩
  by_cases q1 : at_ 10 (S 7) (iN p) = 0
  · rw [if_pos q1, if_pos q1]
    exact hL
  · rw [if_neg q1, if_neg q1]
    by_cases q2 : v_X6_fitsInTurn S (iN p) (iN k) = 0
    · rw [if_pos q2, if_pos q2]
      exact hL
    · rw [if_neg q2, if_neg q2]
      by_cases q3 : v_X6_fitsInDay S (iN p) = 0
      · rw [if_pos q3, if_pos q3]
        exact hL
      · rw [if_neg q3, if_neg q3]
        have w0 : w ≠ 0 := fun z => q1 (by rw [at_in (by decide) p10, e7, z]; rfl)
        obtain ⟨w3, hw3, e73, hl3⟩ := h.1.q b2
        have hww3 : w3 = w := (iN_inj (by omega) (by omega)).mp (e73.symm.trans e7)
        have l0 := (hl3 0 (by omega)).2
        obtain ⟨-, len, hlen1, hlen9, elen⟩ := hlet 0 (by omega)
        rw [Nat.add_zero] at l0 elen
        have R := h.tokF hk (f := 4) (by decide) (by decide) (S 9 (6 * p))
        rw [l0]
        refine ⟨_, rfl, R, hO.fr (fun j hj => sU_ne (by omega)) rfl, ?_, ?_, rfl, fun j hj => rfl⟩
        · refine hT.upd (t := k) rfl rfl ⟨n, p, g, len, b1, b2, b3, hlen9, b5, b6, b7, ?_, fun z => absurd g0 z, b10, fun z => ?_⟩ (fun u hu huk => (hT.pl hu).fr rfl rfl rfl rfl ?_ rfl (fun p z1 z2 z3 => z3))
          · rw [sU_eq, upd_eq, elen]
          · rw [sU_ne (by decide), e7]
            exact fun z => w0 ((iN_0 (by omega)).mp z)
          · rw [sU_eq, upd_ne huk]
        · refine hJ.step hk (fun u hu => ?_) (fun u hu => rfl) (fun u hu => rfl) (fun z => ⟨Or.inr ⟨Nat.le_refl _, hg0⟩, rfl⟩)
          rw [sU_eq, upd_ne hu]
end AC3
