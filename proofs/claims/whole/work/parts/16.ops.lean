-- PART 16: the operations: letter, cancel, rule, set
def OpR (B : Nat) (pv : Int32 × RS) (ov : Option (Int32 × SM)) : Prop := ∃ X', ov = some (pv.1, X') ∧ Top B pv.2 X'
section OP
variable {c tc B B' k : Nat} {S S' : SM} {m m' : Nat → Int32} {X X' : SM} {Y Y' : RS} {o t i : Nat}
theorem within_iN {x : Int32} {a b : Nat} (ha : a < 2147483648) (hb : b < 2147483648) (h : ¬ v_X9_isWithin x (iN a) (iN b) = 0) : ∃ n, a ≤ n ∧ n ≤ b ∧ x = iN n := by
  unfold v_X9_isWithin at h
  by_cases q : x < iN a
  · rw [if_pos q] at h
    exact absurd rfl h
  · rw [if_neg q] at h
    by_cases q2 : iN b < x
    · rw [if_pos q2] at h
      exact absurd rfl h
    · have hx : ¬ x < 0 := by
        intro z
        apply q
        rw [Int32.lt_iff_toInt_lt] at z ⊢
        rw [iN_toInt ha]
        have : (0 : Int32).toInt = 0 := rfl
        omega
      obtain ⟨n, hn, rfl⟩ := iN_of hx
      refine ⟨n, ?_, ?_, rfl⟩
      · exact Nat.not_lt.mp fun z => q ((iN_lt hn ha).mpr z)
      · exact Nat.not_lt.mp fun z => q2 ((iN_lt hb hn).mpr z)
theorem yU_yU (Y : RS) (k : Nat) (A B : SM) : yU (yU Y k A) k B = yU Y k B := by
  funext j
  unfold yU
  by_cases q : j = k
  · rw [if_pos q, if_pos q]
  · rw [if_neg q, if_neg q, if_neg q]
theorem sU_sU (X : SM) (k : Nat) (f g : Nat → Int32) : sU (sU X k f) k g = sU X k g := by
  funext j
  unfold sU
  by_cases q : j = k
  · rw [if_pos q, if_pos q]
  · rw [if_neg q, if_neg q, if_neg q]
theorem OpR.same (h : Top B Y X) (v : Int32) : OpR B (v, Y) (some (v, X)) := ⟨X, rfl, h⟩
theorem OpR.mono {pv : Int32 × RS} {ov : Option (Int32 × SM)} (h : OpR B pv ov) (hB : B ≤ B') : OpR B' pv ov := by
  obtain ⟨X', e, h⟩ := h
  exact ⟨X', e, h.mono hB⟩
/-- a letter more: what holds of the offices -/
theorem OI.more (h : OI c S) (ho : o < c) {w : Nat} (hw : w < 6) (e7 : S 7 o = iN w) {p len : Nat} (hp : p < c) (h1 : 1 ≤ len) (h9 : len ≤ 9) : OI c (s_X2_addLetter S (iN o) (iN p) (iN len)) := by
  have c10 := h.1
  rw [v_letAdd (by omega) hw e7]
  refine ⟨h.1, h.2.1, fun u hu => ?_⟩
  obtain ⟨b1, b2, b3, w2, hw2, e72, hl⟩ := h.2.2 u hu
  simp only [sU_get, Nat.reduceEqDiff, ↓reduceIte]
  refine ⟨b1, b2, b3, ?_⟩
  by_cases q : u = o
  · subst q
    have hww : w2 = w := (iN_inj (by omega) (by omega)).mp (e72.symm.trans e7)
    refine ⟨w + 1, by omega, upd_eq .., fun j hj => ?_⟩
    by_cases q2 : j = w
    · subst q2
      rw [upd_eq, upd_eq]
      exact ⟨⟨p, hp, rfl⟩, len, h1, h9, rfl⟩
    · rw [upd_ne (by omega), upd_ne (by omega)]
      exact hl j (by omega)
  · refine ⟨w2, hw2, by rw [upd_ne q]; exact e72, fun j hj => ?_⟩
    rw [upd_ne (by omega), upd_ne (by omega)]
    exact hl j hj
theorem TI.fr7 (h : TI c tc B S) (hr : ∀ j, 10 ≤ j → j ≤ 14 → S' j = S j) (h4 : S' 4 = S 4) (h7 : ∀ t p, t < tc → S 14 t ≠ 0 → S 11 t = iN p → S 7 p ≠ 0 → S' 7 p ≠ 0) (h3' : S' 18 3 = S 18 3) (h4' : S' 18 4 = S 18 4) : TI c tc B S' :=
  ⟨h.1, h3'.trans h.2.1, by rw [h4']; exact h.2.2.1, fun t ht => (h.pl ht).fr (by rw [hr 10 (by decide) (by decide)]) (by rw [hr 11 (by decide) (by decide)]) (by rw [hr 12 (by decide) (by decide)]) (by rw [hr 13 (by decide) (by decide)]) (by rw [hr 14 (by decide) (by decide)]) h4 (fun p => h7 t p ht)⟩
/-- what is told into the log leaves the rest -/
theorem Iv.log (h : Iv c tc B S m) (x y z : Int32) : ∃ m', o_X10_tells m x y z = some m' ∧ Iv c tc B (s_X1_add S x y z) m' ∧ ∀ k, k < 215 → m' k = m k := by
  obtain ⟨m', e, hR, hf⟩ := q_tell4 h.1 x y z
  exact ⟨m', e, ⟨hR, h.2.1.fr (fun j hj => logAdd_j _ _ _ _ (by omega)) (logAdd_k _ _ _ _ (by decide)), h.2.2.1.fr (fun j a b => logAdd_j _ _ _ _ (by omega)) (logAdd_j _ _ _ _ (by decide)) (logAdd_j _ _ _ _ (by decide)) (logAdd_k _ _ _ _ (by decide)) (logAdd_k _ _ _ _ (by decide)), h.2.2.2.1.fr (logAdd_j _ _ _ _ (by decide)) (logAdd_j _ _ _ _ (by decide)), h.2.2.2.2.fr (logAdd_j _ _ _ _ (by decide))⟩, hf⟩
theorem t_letter (h : Top B Y X) (x1 x2 x3 : Int32) : OpR B (p_X9_letter Y x1 x2 x3) (o_X10_letter X x1 x2 x3) := by
  obtain ⟨c, tc, hc2, hI, tm, htm, etm⟩ := h.1
  have c10 := hI.c10
  unfold p_X9_letter o_X10_letter
  rw [q_isOffice hI.ec hI.mc c10 (by omega), Option.bind_some, q_isOffice hI.ec hI.mc c10 (by omega), Option.bind_some]
  rcases c_has hI.ec c10 x1 with e | ⟨o, ho, rfl, e⟩
  · rw [e, if_pos rfl, if_pos rfl]
    exact OpR.same h _
  rw [e, if_neg (show ¬ (1 : Int32) = 0 by decide), if_neg (show ¬ (1 : Int32) = 0 by decide)]
  rcases c_has hI.ec c10 x2 with e2 | ⟨p, hp, rfl, e2⟩
  · rw [e2, if_pos rfl, if_pos rfl]
    exact OpR.same h _
  rw [e2, if_neg (show ¬ (1 : Int32) = 0 by decide), if_neg (show ¬ (1 : Int32) = 0 by decide)]
  by_cases q : iN o = iN p
  · rw [if_pos q, if_pos q]
    exact OpR.same h _
  rw [if_neg q, if_neg q, in_within]
  by_cases q3 : v_X9_isWithin x3 1 9 = 0
  · rw [if_pos q3, if_pos q3]
    exact OpR.same h _
  rw [if_neg q3, if_neg q3]
  obtain ⟨len, hl1, hl9, rfl⟩ := within_iN (a := 1) (b := 9) (by decide) (by decide) q3
  have o10 : o < 10 := by omega
  obtain ⟨-, -, -, w, hw, e7, -⟩ := hI.2.1.2.2 o ho
  rw [oA4, if_pos (gO o10 (by decide)), nO o10 (by decide), hI.1.1.f4 ho, at_in (by decide) o10, e7]
  by_cases qw : w = 6
  · subst qw
    rw [if_neg (show ¬ iN 6 < 6 by decide), if_pos (show iN 6 = 6 from rfl)]
    exact OpR.same h _
  rw [if_pos (show iN w < 6 from iN_ylt (b := 6) (by omega) (by decide)), if_neg (show ¬ iN w = 6 from fun z => qw ((iN_inj (b := 6) (by omega) (by decide)).mp z))]
  obtain ⟨X1, ek, hT1, x0, y0, -⟩ := t_keepUndo h
  rw [ek, Option.bind_some, x0]
  obtain ⟨m1, e1, R1⟩ := q_addLetter hI.1 ho (by omega) e7 (iN p) (iN len)
  rw [e1, Option.bind_some]
  simp only [lt1]
  rw [sU_eq]
  have O1 : OI c (s_X2_addLetter (Y 0) (iN o) (iN p) (iN len)) := hI.2.1.more ho (by omega) e7 hp hl1 hl9
  have ev := v_letAdd o10 (show w < 6 by omega) e7 (iN p) (iN len)
  have aj : ∀ j, j ≠ 7 → j ≠ 8 → j ≠ 9 → s_X2_addLetter (Y 0) (iN o) (iN p) (iN len) j = Y 0 j := fun j a b d => by rw [ev, sU_ne a, sU_ne d, sU_ne b]
  have a7 : s_X2_addLetter (Y 0) (iN o) (iN p) (iN len) 7 = upd (Y 0 7) o (iN (w + 1)) := by rw [ev, sU_eq]
  obtain ⟨A, hA⟩ : ∃ A, s_X2_addLetter (Y 0) (iN o) (iN p) (iN len) = A := ⟨_, rfl⟩
  rw [hA] at R1 O1 aj a7
  have I2 : Iv c tc B (sU A 1 (raise_ 9 (Y 0 1) 0)) m1 := by
    refine ⟨R1, O1.fr (fun j hj => sU_ne (by omega)) rfl, hI.2.2.1.fr7 (fun j a b => by rw [sU_ne (by omega), aj j (by omega) (by omega) (by omega)]) (by rw [sU_ne (by decide), aj 4 (by decide) (by decide) (by decide)]) (fun t p' ht z1 z2 z3 => ?_) (by rw [sU_ne (by decide), aj 18 (by decide) (by decide) (by decide)]) (by rw [sU_ne (by decide), aj 18 (by decide) (by decide) (by decide)]), hI.2.2.2.1.fr (by rw [sU_ne (by decide), aj 11 (by decide) (by decide) (by decide)]) (by rw [sU_ne (by decide), aj 12 (by decide) (by decide) (by decide)]), hI.2.2.2.2.fr (by rw [sU_ne (by decide), aj 0 (by decide) (by decide) (by decide)])⟩
    rw [sU_ne (by decide), a7, upd_get]
    by_cases qq : p' = o
    · rw [if_pos qq]
      exact fun z => by have := (iN_0 (by omega)).mp z; omega
    · rw [if_neg qq]
      exact z3
  obtain ⟨m2, e2', I3, f3⟩ := I2.log 0 (iN o) (iN len)
  rw [e2', Option.bind_some, sU_eq, if_pos (gO o10 (by decide))]
  have ey : p_X9_letter_L74 (s_X0_remember Y) (iN o) (iN p) (iN len) = (at_ 10 (s_X1_add (sU A 1 (raise_ 9 (Y 0 1) 0)) 0 (iN o) (iN len) 7) (iN o), yU (s_X0_remember Y) 0 (s_X1_add (sU A 1 (raise_ 9 (Y 0 1) 0)) 0 (iN o) (iN len))) := by
    unfold p_X9_letter_L74 p_X9_letter_L82 p_X9_letter_L93 p_X9_letter_L106
    rw [y0, hA]
    simp only [yU_eq, yU_yU]
    rw [aj 1 (by decide) (by decide) (by decide)]
  rw [ey]
  refine ⟨_, ?_, (hT1.now (Nat.le_refl B) (m := m2) ⟨c, tc, hc2, I3, tm, htm, ?_⟩)⟩
  · have e7' : (s_X1_add (sU A 1 (raise_ 9 (Y 0 1) 0)) 0 (iN o) (iN len) 7) = A 7 := by rw [logAdd_j _ _ _ _ (by decide), sU_ne (by decide)]
    rw [I3.1.1.f4 ho, sU_sU, at_in (by decide) o10]
  · rw [logAdd_k _ _ _ _ (by decide), sU_ne (by decide), aj 18 (by decide) (by decide) (by decide)]
    exact etm
theorem t_cancel46 (h : Top B Y X) (hc2 : 2 ≤ c) (hI : Iv c tc B (Y 0) (X 0)) {tm : Nat} (htm : tm ≤ 9999) (etm : Y 0 18 0 = iN tm) (ho : o < c) {w : Nat} (hw : w ≤ 6) (e7 : Y 0 7 o = iN w) (hi : i < w) (hno : i = 0 → ¬ 0 < v_X8_leftAt (Y 0) (iN o)) : OpR B (p_X9_cancel_L58 Y (iN o) (iN i)) (o_X10_cancel_L46 X (iN o) (iN i)) := by
  have c10 := hI.c10
  have t3 := hI.t3
  have o10 : o < 10 := by omega
  unfold o_X10_cancel_L46
  obtain ⟨X1, ek, hT1, x0, y0, -⟩ := t_keepUndo h
  obtain ⟨w3, hw3, e73, hl3⟩ := hI.1.1.q ho
  have hww3 : w3 = w := (iN_inj (by omega) (by omega)).mp (e73.symm.trans e7)
  have l1 := (hl3 i (by omega)).2
  rw [ek, Option.bind_some, x0, lA1, if_pos (gL o10 (by omega) (by decide)), nL' o10 (by omega) (by decide), l1]
  obtain ⟨m1, e1, R1, -⟩ := q_dropLetter hI.1 ho hw hi e7
  rw [e1, Option.bind_some]
  simp only [lt1]
  have O1 := hI.2.1.rem ho hw e7 hi
  obtain ⟨a8, a9, a7, aj⟩ := v_letDrop (S := Y 0) o10 hw hi e7
  obtain ⟨A, hA⟩ : ∃ A, s_X2_removeLetter (Y 0) (iN o) (iN i) = A := ⟨_, rfl⟩
  rw [hA] at R1 O1 aj a7
  have I1 : Iv c tc B A m1 := by
    refine ⟨R1, O1, hI.2.2.1.fr7 (fun j a b => aj j (by omega) (by omega) (by omega)) (aj 4 (by decide) (by decide) (by decide)) (fun t p' ht z1 z2 z3 => ?_) (by rw [aj 18 (by decide) (by decide) (by decide)]) (by rw [aj 18 (by decide) (by decide) (by decide)]), hI.2.2.2.1.fr (aj 11 (by decide) (by decide) (by decide)) (aj 12 (by decide) (by decide) (by decide)), hI.2.2.2.2.fr (aj 0 (by decide) (by decide) (by decide))⟩
    rw [a7, upd_get]
    by_cases qq : p' = o
    · rw [if_pos qq]
      subst qq
      intro z
      have w1 := (iN_0 (by omega)).mp z
      have i0 : i = 0 := by omega
      refine hno i0 ?_
      obtain ⟨n, p, g, l, b1, b2, b3, b4, b5, b6, b7, b8, b9, b10, b11⟩ := hI.2.2.1.pl ht
      have l0 : l ≠ 0 := fun q => z1 (by rw [b8, q]; rfl)
      have g0 : g = 0 := Classical.byContradiction fun q => l0 (b9 q).2
      have e12 : Y 0 12 t = 0 := by rw [b7, g0]; rfl
      unfold v_X8_leftAt
      rcases v_stand hI.et t3 (iN p') with ⟨y1, y2⟩ | ⟨u, y1, y2, y3, y4, y5⟩
      · exact absurd ⟨e12, z2⟩ (y2 t ht)
      · have ut : u = t := by
          rcases Nat.lt_trichotomy u t with q | q | q
          · exact absurd (y4.trans z2.symm) (hI.2.2.2.1 u t q ht y3 e12)
          · exact q
          · exact absurd ⟨e12, z2⟩ (y5 t q)
        rw [y2, ut, at_in (by decide) (show t < 3 by omega), b8]
        exact (iN_pos (by omega)).mpr (by omega)
    · rw [if_neg qq]
      exact z3
  have I2 := I1.raise (k := 3) (by decide)
  obtain ⟨m2, e2', I3, f3⟩ := I2.log 9 (iN o) (Y 0 9 (6 * o + i))
  have e2'' : o_X10_tells (upd m1 11 (m1 11 + 1)) 9 (iN o) (Y 0 9 (6 * o + i)) = some m2 := e2'
  rw [sU_eq, sU_eq, nK11, e2'', Option.bind_some, sU_eq, oA4, if_pos (gO o10 (by decide)), nO o10 (by decide)]
  have ey : p_X9_cancel_L58 Y (iN o) (iN i) = (at_ 10 (s_X1_add (sU A 1 (raise_ 9 (A 1) (iN 3))) 9 (iN o) (Y 0 9 (6 * o + i)) 7) (iN o), yU (s_X0_remember Y) 0 (s_X1_add (sU A 1 (raise_ 9 (A 1) (iN 3))) 9 (iN o) (Y 0 9 (6 * o + i)))) := by
    unfold p_X9_cancel_L58 p_X9_cancel_L69 p_X9_cancel_L83 p_X9_cancel_L94 p_X9_cancel_L109
    rw [y0, hA, v_lengthOf o10 (by omega)]
    simp only [yU_eq, yU_yU]
    rfl
  rw [ey]
  refine ⟨_, ?_, (hT1.now (Nat.le_refl B) (m := m2) ⟨c, tc, hc2, I3, tm, htm, ?_⟩)⟩
  · rw [I3.1.1.f4 ho, sU_sU, sU_sU, at_in (by decide) o10]
  · rw [logAdd_k _ _ _ _ (by decide), sU_ne (by decide), aj 18 (by decide) (by decide) (by decide)]
    exact etm
theorem t_cancel (h : Top B Y X) (x1 x2 : Int32) : OpR B (p_X9_cancel Y x1 x2) (o_X10_cancel X x1 x2) := by
  obtain ⟨c, tc, hc2, hI, tm, htm, etm⟩ := h.1
  have c10 := hI.c10
  unfold p_X9_cancel o_X10_cancel
  rw [q_isOffice hI.ec hI.mc c10 (by omega), Option.bind_some]
  rcases c_has hI.ec c10 x1 with e | ⟨o, ho, rfl, e⟩
  · rw [e, if_pos rfl, if_pos rfl]
    exact OpR.same h _
  rw [e, if_neg (show ¬ (1 : Int32) = 0 by decide), if_neg (show ¬ (1 : Int32) = 0 by decide)]
  by_cases q : x2 < 0
  · rw [if_pos q, if_pos q]
    exact OpR.same h _
  have o10 : o < 10 := by omega
  obtain ⟨-, -, -, w, hw, e7, -⟩ := hI.2.1.2.2 o ho
  rw [if_neg q, if_neg q, oA4, if_pos (gO o10 (by decide)), nO o10 (by decide), hI.1.1.f4 ho, at_in (by decide) o10, e7]
  by_cases ql : x2 < iN w
  · obtain ⟨i, hi, rfl⟩ := iN_between (by omega) q ql
    rw [if_pos ql, if_pos ql, q_leftAt hI.1.2.1, Option.bind_some]
    by_cases qi : iN i = 0
    · rw [if_pos qi, if_pos qi]
      by_cases qL : 0 < v_X8_leftAt (Y 0) (iN o)
      · rw [if_pos qL, if_pos qL]
        exact OpR.same h _
      · rw [if_neg qL, if_neg qL]
        exact t_cancel46 h hc2 hI htm etm ho hw e7 hi (fun _ => qL)
    · rw [if_neg qi, if_neg qi]
      exact t_cancel46 h hc2 hI htm etm ho hw e7 hi (fun z => absurd ((iN_0 (by omega)).mpr z) qi)
  · rw [if_neg ql, if_neg ql]
    exact OpR.same h _
end OP
