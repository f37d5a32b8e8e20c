-- PART 16c: set, rule
section OP3
variable {c tc B B' k : Nat} {S S' : SM} {m m' : Nat → Int32} {X X' : SM} {Y Y' : RS} {o t i : Nat}
theorem q_offSet (h : R4 c tc S m) (ho : o < c) {f : Nat} (hf : f < 2) (v : Int32) : R4 c tc (sU S (2 + f) (upd (S (2 + f)) o v)) (upd m (pO o f) v) := by
  have h10 := h.1.1
  rcases (by omega : f = 0 ∨ f = 1) with rfl | rfl
  · refine h.O ⟨h.1.1, h.1.2.1, ?_, fun u hu => ?_⟩ (fun j j1 j2 => sU_ne (by omega)) (fun k k1 => rfl) (fun k k1 k2 => upd_ne (by unfold pO; omega))
    · rw [upd_ne (by unfold pO; omega)]
      exact h.1.2.2.1
    · have hq := h.1.2.2.2 u hu
      simp (disch := omega) only [upd_get, sU_get, qOO, qLO, Nat.reduceAdd, Nat.reduceEqDiff, ↓reduceIte, and_true, and_false, if_false]
      refine ⟨?_, ?_⟩
      · by_cases q : u = o
        · subst q
          simp only [↓reduceIte]
          exact ⟨trivial, hq.1.2⟩
        · simp only [q, ↓reduceIte]
          exact hq.1
      · obtain ⟨w, hw, e7, hl⟩ := hq.2
        refine ⟨w, hw, e7, fun i hi => ?_⟩
        have := hl i hi
        simp (disch := omega) only [qLO, if_false]
        exact this
  · refine h.O ⟨h.1.1, h.1.2.1, ?_, fun u hu => ?_⟩ (fun j j1 j2 => sU_ne (by omega)) (fun k k1 => rfl) (fun k k1 k2 => upd_ne (by unfold pO; omega))
    · rw [upd_ne (by unfold pO; omega)]
      exact h.1.2.2.1
    · have hq := h.1.2.2.2 u hu
      simp (disch := omega) only [upd_get, sU_get, qOO, qLO, Nat.reduceAdd, Nat.reduceEqDiff, ↓reduceIte, and_true, and_false, if_false]
      refine ⟨?_, ?_⟩
      · by_cases q : u = o
        · subst q
          simp only [↓reduceIte]
          exact ⟨hq.1.1, trivial, hq.1.2.2⟩
        · simp only [q, ↓reduceIte]
          exact hq.1
      · obtain ⟨w, hw, e7, hl⟩ := hq.2
        refine ⟨w, hw, e7, fun i hi => ?_⟩
        have := hl i hi
        simp (disch := omega) only [qLO, if_false]
        exact this
theorem OI.way (h : OI c S) (ho : o < c) {n : Nat} (h1 : 1 ≤ n) (h9 : n ≤ 9) : OI c (sU S 2 (upd (S 2) o (iN n))) := by
  refine ⟨h.1, h.2.1, fun u hu => ?_⟩
  obtain ⟨b1, b2⟩ := h.2.2 u hu
  simp only [sU_get, Nat.reduceEqDiff, ↓reduceIte]
  refine ⟨?_, b2⟩
  rw [upd_get]
  by_cases q : u = o
  · rw [if_pos q]
    exact ⟨n, h1, h9, rfl⟩
  · rw [if_neg q]
    exact b1
theorem OI.nam (h : OI c S) (ho : o < c) {n : Nat} (h1 : 1 ≤ n) (h9 : n ≤ 99) : OI c (sU S 3 (upd (S 3) o (iN n))) := by
  refine ⟨h.1, h.2.1, fun u hu => ?_⟩
  obtain ⟨b1, b2, b3⟩ := h.2.2 u hu
  simp only [sU_get, Nat.reduceEqDiff, ↓reduceIte]
  refine ⟨b1, ?_, b3⟩
  rw [upd_get]
  by_cases q : u = o
  · rw [if_pos q]
    exact ⟨n, h1, h9, rfl⟩
  · rw [if_neg q]
    exact b2
theorem t_set82 (h : Top B Y X) (hc2 : 2 ≤ c) (hI : Iv c tc B (Y 0) (X 0)) {tm : Nat} (htm : tm ≤ 9999) (etm : Y 0 18 0 = iN tm) (ho : o < c) {f : Nat} (hf : f < 2) {v : Int32} (hO : OI c (sU (Y 0) (2 + f) (upd (Y 0 (2 + f)) o v))) (w : Int32) : OpR B (w, yU (s_X0_remember Y) 0 (s_X1_add (sU (Y 0) (2 + f) (upd (Y 0 (2 + f)) o v)) 10 (10 * iN o + iN f) w)) (o_X10_set_L82 X (iN o) (iN f) v w) := by
  have c10 := hI.c10
  have o10 : o < 10 := by omega
  obtain ⟨X1, ek, hT1, x0, y0, -⟩ := t_keepUndo h
  have R1 := q_offSet hI.1 ho hf v
  obtain ⟨A, hA⟩ : ∃ A, sU (Y 0) (2 + f) (upd (Y 0 (2 + f)) o v) = A := ⟨_, rfl⟩
  have aj : ∀ j, j ≠ 2 → j ≠ 3 → A j = Y 0 j := fun j a b => by rw [← hA, sU_ne (by omega)]
  rw [hA] at R1 hO ⊢
  have I1 : Iv c tc B A (upd (X 0) (pO o f) v) := ⟨R1, hO, hI.2.2.1.fr (fun j a b => aj j (by omega) (by omega)) (aj 4 (by decide) (by decide)) (aj 7 (by decide) (by decide)) (by rw [aj 18 (by decide) (by decide)]) (by rw [aj 18 (by decide) (by decide)]), hI.2.2.2.1.fr (aj 11 (by decide) (by decide)) (aj 12 (by decide) (by decide)), hI.2.2.2.2.fr (aj 0 (by decide) (by decide))⟩
  obtain ⟨m2, e2, I2, f2⟩ := I1.log 10 (10 * iN o + iN f) w
  unfold o_X10_set_L82
  rw [ek, Option.bind_some, officeAt_iN, if_pos (gO o10 (by omega)), nO o10 (by omega), x0]
  simp only [lt1]
  rw [sU_eq, e2, Option.bind_some, sU_sU]
  refine ⟨_, rfl, hT1.now (Nat.le_refl B) ⟨c, tc, hc2, I2, tm, htm, ?_⟩⟩
  rw [logAdd_k _ _ _ _ (by decide), aj 18 (by decide) (by decide)]
  exact etm
theorem f01 : ((0 : Int32) = 1) = False := eq_false (by decide)
theorem f10 : ((1 : Int32) = 0) = False := eq_false (by decide)
theorem t_setN (h : Top B Y X) (x1 x2 x3 : Int32) : OpR B (p_X9_set Y x1 x2 x3) (o_X10_set X x1 x2 x3) := by
  obtain ⟨c, tc, hc2, hI, tm, htm, etm⟩ := h.1
  have c10 := hI.c10
  unfold p_X9_set o_X10_set
  rw [q_isOffice hI.ec hI.mc c10 (by omega), Option.bind_some]
  rcases c_has hI.ec c10 x1 with e | ⟨o, ho, rfl, e⟩
  · rw [e, if_pos rfl, if_pos rfl]
    exact OpR.same h _
  rw [e, if_neg (show ¬ (1 : Int32) = 0 by decide), if_neg (show ¬ (1 : Int32) = 0 by decide)]
  have o10 : o < 10 := by omega
  obtain ⟨X1, -, -, -, y0, -⟩ := t_keepUndo h
  by_cases q2 : v_X9_isWithin x2 0 1 = 0
  · rw [if_pos q2]
    by_cases qa : x2 = 0
    · subst qa
      exact absurd q2 (by decide)
    · by_cases qb : x2 = 1
      · subst qb
        exact absurd q2 (by decide)
      · rw [if_neg qa, if_neg qb]
        exact OpR.same h _
  · rw [if_neg q2]
    obtain ⟨n, -, hn1, rfl⟩ := within_iN (a := 0) (b := 1) (by decide) (by decide) q2
    rcases (by omega : n = 0 ∨ n = 1) with rfl | rfl
    · simp only [show iN 0 = 0 from rfl, ↓reduceIte, f01, in_within]
      by_cases q3 : v_X9_isWithin x3 1 9 = 0
      · rw [if_pos q3, if_pos q3]
        exact OpR.same h _
      rw [if_neg q3, if_neg q3]
      obtain ⟨v, hv1, hv9, rfl⟩ := within_iN (a := 1) (b := 9) (by decide) (by decide) q3
      unfold o_X10_set_L42
      rw [oA0, if_pos (gO o10 (by decide)), nO o10 (by decide), hI.1.1.f0 ho, at_in (by decide) o10]
      by_cases q4 : Y 0 2 o = iN v
      · rw [if_pos q4, if_pos q4]
        exact OpR.same h _
      rw [if_neg q4, if_neg q4, if_neg (show ¬ (0 : Int32) = 1 by decide)]
      have hz := t_set82 h hc2 hI htm etm ho (f := 0) (by decide) (v := iN v) (hI.2.1.way ho hv1 hv9) (Y 0 2 o)
      simp only [lt1]
      rw [yU_eq, yU_yU, y0, put_in (by decide) o10]
      exact hz
    · simp only [show iN 1 = 1 from rfl, ↓reduceIte, f10, in_within]
      by_cases q3 : v_X9_isWithin x3 1 99 = 0
      · rw [if_pos q3, if_pos q3]
        exact OpR.same h _
      rw [if_neg q3, if_neg q3]
      obtain ⟨v, hv1, hv9, rfl⟩ := within_iN (a := 1) (b := 99) (by decide) (by decide) q3
      unfold o_X10_set_L42
      rw [oA1, if_pos (gO o10 (by decide)), nO o10 (by decide), hI.1.1.f1 ho, at_in (by decide) o10]
      by_cases q4 : Y 0 3 o = iN v
      · rw [if_pos q4, if_pos q4]
        exact OpR.same h _
      rw [if_neg q4, if_neg q4, if_pos rfl, q_isNamed hI.1.1, Option.bind_some]
      by_cases q5 : v_X2_isNameTaken (Y 0) (iN v) = 0
      · rw [if_pos q5, if_pos q5]
        have hz := t_set82 h hc2 hI htm etm ho (f := 1) (by decide) (v := iN v) (hI.2.1.nam ho hv1 hv9) (Y 0 3 o)
        simp only [lt1]
        rw [yU_eq, yU_yU, y0, put_in (by decide) o10]
        exact hz
      · rw [if_neg q5, if_neg q5]
        exact OpR.same h _
theorem within10 (y : Int32) : v_X9_isWithin y 1 0 = 0 := by
  unfold v_X9_isWithin
  by_cases q : y < 1
  · rw [if_pos q]
  · rw [if_neg q, if_pos ?_]
    rw [Int32.lt_iff_toInt_lt] at q ⊢
    rw [show (0 : Int32).toInt = 0 from rfl]
    rw [show (1 : Int32).toInt = 1 from rfl] at q
    omega
theorem isRule_eq (x y : Int32) : v_X10_isRule x y = v_X9_isRule x y := by
  unfold v_X10_isRule v_X9_isRule v_X9_mostOfRule
  by_cases q0 : x = 0
  · rw [if_pos q0, if_pos q0, in_within]
  · rw [if_neg q0, if_neg q0]
    by_cases q1 : x = 1
    · rw [if_pos q1, if_pos q1, in_within]
    · rw [if_neg q1, if_neg q1]
      by_cases q2 : x = 2
      · rw [if_pos q2, if_pos q2, in_within]
      · rw [if_neg q2, if_neg q2, within10]
/-- the most that a rule may be -/
def mxR (k : Nat) : Nat := if k = 0 then 20 else if k = 1 then 99 else 60
theorem rule_in {x y : Int32} (h : ¬ v_X9_isRule x y = 0) : ∃ k n, k < 3 ∧ x = iN k ∧ y = iN n ∧ 1 ≤ n ∧ n ≤ mxR k := by
  unfold v_X9_isRule v_X9_mostOfRule at h
  by_cases q0 : x = 0
  · rw [if_pos q0] at h
    obtain ⟨n, h1, h2, e⟩ := within_iN (a := 1) (b := 20) (by decide) (by decide) h
    exact ⟨0, n, by decide, q0, e, h1, h2⟩
  · rw [if_neg q0] at h
    by_cases q1 : x = 1
    · rw [if_pos q1] at h
      obtain ⟨n, h1, h2, e⟩ := within_iN (a := 1) (b := 99) (by decide) (by decide) h
      exact ⟨1, n, by decide, q1, e, h1, h2⟩
    · rw [if_neg q1] at h
      by_cases q2 : x = 2
      · rw [if_pos q2] at h
        obtain ⟨n, h1, h2, e⟩ := within_iN (a := 1) (b := 60) (by decide) (by decide) h
        exact ⟨2, n, by decide, q2, e, h1, h2⟩
      · rw [if_neg q2, within10] at h
        exact absurd rfl h
theorem RI.set (h : RI S) {n : Nat} (hk : k < 3) (h1 : 1 ≤ n) (h2 : n ≤ mxR k) : RI (sU S 0 (upd (S 0) k (iN n))) := by
  obtain ⟨a, b, q, a1, a2, b1, b2, q1, q2, ea, eb, eq⟩ := h
  unfold RI
  rw [sU_eq]
  rcases (by omega : k = 0 ∨ k = 1 ∨ k = 2) with rfl | rfl | rfl
  · exact ⟨n, b, q, h1, h2, b1, b2, q1, q2, upd_eq .., by rw [upd_ne (by decide)]; exact eb, by rw [upd_ne (by decide)]; exact eq⟩
  · exact ⟨a, n, q, a1, a2, h1, h2, q1, q2, by rw [upd_ne (by decide)]; exact ea, upd_eq .., by rw [upd_ne (by decide)]; exact eq⟩
  · exact ⟨a, b, n, a1, a2, b1, b2, h1, h2, by rw [upd_ne (by decide)]; exact ea, by rw [upd_ne (by decide)]; exact eb, upd_eq ..⟩
theorem q_rule (h : R4 c tc S m) (hk : k < 3) (v : Int32) : R4 c tc (sU S 0 (upd (S 0) k v)) (upd m k v) := by
  obtain ⟨h1, h2, h3, h4⟩ := h
  refine ⟨h1.fr (fun j a b => sU_ne (by omega)) rfl (upd_ne (by omega)) (fun j a b => upd_ne (by omega)), h2.fr (fun j a b => sU_ne (by omega)) rfl rfl (upd_ne (by omega)) (upd_ne (by omega)) (fun j a b => upd_ne (by omega)), h3.fr rfl rfl rfl rfl rfl (fun j a b => upd_ne (by omega)), ?_⟩
  obtain ⟨a, b, d, e⟩ := h4
  refine ⟨fun j hj => ?_, fun j hj => ?_, ?_, ?_⟩
  · rw [sU_eq, upd_get, upd_get]
    by_cases q : j = k
    · rw [if_pos q, if_pos q]
    · rw [if_neg q, if_neg q]
      exact a j hj
  · rw [upd_ne (by omega), sU_ne (by omega)]
    exact b j hj
  · rw [upd_ne (by omega), sU_ne (by decide)]
    exact d
  · rw [upd_ne (by omega), sU_ne (by decide)]
    exact e
theorem Iv.rule (h : Iv c tc B S m) {n : Nat} (hk : k < 3) (h1 : 1 ≤ n) (h2 : n ≤ mxR k) : Iv c tc B (sU S 0 (upd (S 0) k (iN n))) (upd m k (iN n)) :=
  ⟨q_rule h.1 hk _, h.2.1.fr (fun j hj => sU_ne (by omega)) rfl, h.2.2.1.fr (fun j a b => sU_ne (by omega)) (sU_ne (by decide)) (sU_ne (by decide)) rfl rfl, h.2.2.2.1.fr (sU_ne (by decide)) (sU_ne (by decide)), h.2.2.2.2.set hk h1 h2⟩
theorem t_rule (h : Top B Y X) (x1 x2 : Int32) : OpR B (p_X9_rule Y x1 x2) (o_X10_rule X x1 x2) := by
  obtain ⟨c, tc, hc2, hI, tm, htm, etm⟩ := h.1
  unfold p_X9_rule o_X10_rule
  rw [isRule_eq]
  by_cases q : v_X9_isRule x1 x2 = 0
  · rw [if_pos q, if_pos q]
    exact OpR.same h _
  rw [if_neg q, if_neg q]
  obtain ⟨k, n, hk, rfl, rfl, h1, h2⟩ := rule_in q
  rw [if_pos (gin_iN (by omega) (by omega)), iN_nat (by omega), hI.1.2.2.2.1 k hk, at_in (by decide) hk]
  by_cases q2 : Y 0 0 k = iN n
  · rw [if_pos q2, if_pos q2]
    exact OpR.same h _
  rw [if_neg q2, if_neg q2]
  obtain ⟨X1, ek, hT1, x0, y0, -⟩ := t_keepUndo h
  have I1 := hI.rule hk h1 h2
  obtain ⟨m2, e2, I2, f2⟩ := I1.log 8 (iN k) (Y 0 0 k)
  rw [ek, Option.bind_some, x0, if_pos (gin_iN (by omega) (by omega))]
  simp only [lt1]
  rw [sU_eq, e2, Option.bind_some, sU_sU]
  unfold p_X9_rule_L41 p_X9_rule_L53
  rw [yU_eq, yU_yU, y0, put_in (by decide) hk]
  refine ⟨_, rfl, hT1.now (Nat.le_refl B) ⟨c, tc, hc2, I2, tm, htm, ?_⟩⟩
  rw [logAdd_k _ _ _ _ (by decide), sU_ne (by decide)]
  exact etm
end OP3
