-- PART 16d: stray, minute
section OP4
variable {c tc B B' k : Nat} {S S' : SM} {m m' : Nat → Int32} {X X' : SM} {Y Y' : RS} {o t i : Nat}
theorem TD.nofw (h : TD tc S) (t : Nat) : ¬ FW tc S t := by
  rintro ⟨y1, v, y2, y3, y4, y5⟩
  exact h t v y2 y3 y1 y4 y5.symm
theorem tear_none (hT : TI c tc B S) : ∀ e t n j, j + e = 3 → t ≤ j → (∀ u, t ≤ u → u < tc → ¬ FW tc S u) → e < n → s_X6_tearUpWhereTwoMeet_L4 n S (iN t) (iN j) = S := by
  intro e
  induction e with
  | zero =>
    intro t n j hj htj hF h1
    obtain ⟨n, rfl⟩ := some_succ h1
    rw [s_X6_tearUpWhereTwoMeet_L4, show j = 3 by omega, if_neg (show ¬ iN 3 < 3 by decide)]
  | succ e ih =>
    intro t n j hj htj hF h1
    obtain ⟨n, rfl⟩ := some_succ h1
    have hj3 : iN j < 3 := iN_ylt (b := 3) (by omega) (by decide)
    have hf : v_X8_isFollowedThere S (iN t) = 0 := by
      by_cases ht : t < tc
      · rcases v_follow hT ht with ⟨z1, z2⟩ | ⟨z1, z2⟩
        · exact z1
        · exact absurd z2 (hF t (Nat.le_refl _) ht)
      · exact v_followB hT (by omega) (by omega)
    rw [s_X6_tearUpWhereTwoMeet_L4, if_pos hj3, if_pos hf, iN_s, iN_s]
    exact ih (t + 1) n (j + 1) (by omega) (by omega) (fun u a b => hF u (by omega) b) (by omega)
theorem tear_one {t0 : Nat} (hT : TI c tc B S) (ht0 : t0 < tc) (hF : FW tc S t0) (hN : ∀ u, u < t0 → ¬ FW tc S u) (hS' : s_X8_remove (sU (s_X1_add S 3 (S 10 t0) (S 11 t0)) 1 (raise_ 9 (S 1) (iN 5))) (iN t0) = S') (hT' : TI c (tc - 1) B S') (hN' : ∀ u, u < tc - 1 → ¬ FW (tc - 1) S' u) : ∀ d t n j, t + d = t0 → t ≤ j → j + d < 3 → 3 - j < n → s_X6_tearUpWhereTwoMeet_L4 n S (iN t) (iN j) = S' := by
  have t3 := hT.1
  intro d
  induction d with
  | zero =>
    intro t n j e htj hj h1
    obtain ⟨n, rfl⟩ := some_succ h1
    have hj3 : iN j < 3 := iN_ylt (b := 3) (by omega) (by decide)
    have et : t = t0 := by omega
    subst et
    rcases v_follow hT ht0 with ⟨z1, z2⟩ | ⟨z1, z2⟩
    · exact absurd hF z2
    · have es : s_X6_tearUpWhereTwoMeet_L4 (n + 1) S (iN t) (iN j) = s_X6_tearUpWhereTwoMeet_L4 n (s_X8_remove (sU (s_X1_add S 3 (S 10 t) (S 11 t)) 1 (raise_ 9 (S 1) (iN 5))) (iN t)) (iN t) (iN (j + 1)) := by
        rw [s_X6_tearUpWhereTwoMeet_L4, if_pos hj3, if_neg (by rw [z1]; decide), iN_s, at_in (by decide) (show t < 3 by omega), at_in (by decide) (show t < 3 by omega), logAdd_j _ _ _ _ (j := 1) (by decide)]
        rfl
      rw [es, hS']
      exact tear_none hT' (3 - (j + 1)) t n (j + 1) (by omega) (by omega) (fun u _ b => hN' u b) (by omega)
  | succ d ih =>
    intro t n j e htj hj h1
    obtain ⟨n, rfl⟩ := some_succ h1
    have hj3 : iN j < 3 := iN_ylt (b := 3) (by omega) (by decide)
    have hf : v_X8_isFollowedThere S (iN t) = 0 := by
      rcases v_follow hT (show t < tc by omega) with ⟨z1, z2⟩ | ⟨z1, z2⟩
      · exact z1
      · exact absurd z2 (hN t (by omega))
    rw [s_X6_tearUpWhereTwoMeet_L4, if_pos hj3, if_pos hf, iN_s, iN_s]
    exact ih (t + 1) n (j + 1) (by omega) (by omega) (by omega) (by omega)
theorem t_stray (h : Top B Y X) (x1 : Int32) : OpR (B + 1) (p_X9_stray Y x1) (o_X10_stray X x1) := by
  obtain ⟨c, tc, hc2, hI, tm, htm, etm⟩ := h.1
  have c10 := hI.c10
  have t3 := hI.t3
  have hsame : ∀ v, OpR (B + 1) (v, Y) (some (v, X)) := fun v => (OpR.same h v).mono (by omega)
  unfold p_X9_stray o_X10_stray
  rw [q_isOffice hI.ec hI.mc c10 (by omega), Option.bind_some]
  rcases c_has hI.ec c10 x1 with e | ⟨o, ho, rfl, e⟩
  · rw [e, if_pos rfl, if_pos rfl]
    exact hsame _
  rw [e, if_neg (show ¬ (1 : Int32) = 0 by decide), if_neg (show ¬ (1 : Int32) = 0 by decide), q_isOpen hI.1.1 ho, Option.bind_some]
  have o10 : o < 10 := by omega
  by_cases q1 : v_X2_isOpen (Y 0) (iN o) = 0
  · rw [if_pos q1, if_pos q1]
    exact hsame _
  rw [if_neg q1, if_neg q1, nK5, hI.mt, hI.et]
  have hop : Y 0 4 o = 1 := by
    rw [v_isOpen o10] at q1
    by_cases q : Y 0 4 o = 1
    · exact q
    · rw [if_neg q] at q1
      exact absurd rfl q1
  by_cases q2 : tc = 3
  · subst q2
    rw [if_pos (show iN 3 = 3 from rfl), if_neg (show ¬ iN 3 < 3 by decide)]
    exact hsame _
  rw [if_neg (show ¬ iN tc = 3 from fun z => q2 ((iN_inj (b := 3) (by omega) (by decide)).mp z)), if_pos (show iN tc < 3 from iN_ylt (b := 3) (by omega) (by decide))]
  obtain ⟨X1, ek, hT1, x0, y0, -⟩ := t_keepUndo h
  rw [ek, Option.bind_some, x0, q_tokenOn hI.1.2.1, Option.bind_some]
  obtain ⟨m1, e1, R1, f1⟩ := q_addToken hI.1 (by omega) (iN o)
  rw [e1, Option.bind_some]
  simp only [lt1]
  rw [sU_eq]
  have TA1 := hI.2.2.1.add (show tc < 3 by omega) ho hop
  obtain ⟨a10, a11, a12, a13, a14, a3, a4, aj, aj2, ak⟩ := v_tokAdd (S := Y 0) hI.et (show tc < 3 by omega) (iN o)
  obtain ⟨A, hA⟩ : ∃ A, s_X8_add (Y 0) (iN o) = A := ⟨_, rfl⟩
  rw [hA] at R1 TA1 a10 a11 a12 a13 a14 a3 a4 aj aj2 ak
  have OA : OI c A := hI.2.1.fr (fun j hj => aj j (by omega)) (ak 2 (by decide) (by decide))
  obtain ⟨m2, e2, R2, f2⟩ := q_tell4 R1 6 (Y 0 18 4 + 1) (iN o)
  rw [e2, Option.bind_some, sU_eq, sU_sU]
  obtain ⟨Z, hZ⟩ : ∃ Z, s_X1_add A 6 (Y 0 18 4 + 1) (iN o) = Z := ⟨_, rfl⟩
  have zj : ∀ j, j ≤ 14 → Z j = A j := fun j a => by rw [← hZ, logAdd_j _ _ _ _ a]
  have zk : ∀ j, j ≤ 4 → Z 18 j = A 18 j := fun j a => by rw [← hZ, logAdd_k _ _ _ _ a]
  have OZ : OI c Z := OA.fr (fun j hj => zj j (by omega)) (zk 2 (by decide))
  have TZ : TI c (tc + 1) (B + 1) Z := TA1.fr (fun j a b => zj j b) (zj 4 (by decide)) (zj 7 (by decide)) (zk 3 (by decide)) (zk 4 (by decide))
  have IZ : RI Z := hI.2.2.2.2.fr (by rw [zj 0 (by decide), aj 0 (by decide)])
  have ez0 : Z 18 0 = iN tm := by rw [zk 0 (by decide), ak 0 (by decide) (by decide), etm]
  have ey : p_X9_stray_L61 (s_X0_remember Y) (iN o) = (Y 0 18 4 + 1, yU (s_X0_remember Y) 0 (s_X6_tearUpWhereTwoMeet Z)) := by
    unfold p_X9_stray_L61 p_X9_stray_L72 p_X9_stray_L97
    rw [y0, hA]
    simp only [yU_eq, yU_yU]
    rw [a4, hZ]
  rw [hZ] at R2
  rw [ey]
  have g12 : Z 12 = upd (Y 0 12) tc 0 := by rw [zj 12 (by decide), a12]
  have g11 : Z 11 = upd (Y 0 11) tc (iN o) := by rw [zj 11 (by decide), a11]
  rcases v_stand hI.et t3 (iN o) with ⟨z1, z2⟩ | ⟨t, z1, z2, z3, z4, z5⟩
  · rw [z1, if_pos m2_neg]
    have DZ : TD (tc + 1) Z := by
      intro a b hab hb ha0 hb0
      rw [g12, upd_ne (by omega)] at ha0
      rw [g12] at hb0
      rw [g11, upd_ne (show a ≠ tc by omega)]
      by_cases qb : b = tc
      · rw [qb, upd_eq]
        exact fun q => z2 a (by omega) ⟨ha0, q⟩
      · rw [upd_ne qb] at hb0 ⊢
        exact hI.2.2.2.1 a b hab (by omega) ha0 hb0
    have et : s_X6_tearUpWhereTwoMeet Z = Z := tear_none TZ 3 0 (mu 0 + 1) 0 (by omega) (by omega) (fun u _ _ => DZ.nofw u) (by rw [mu_0]; omega)
    rw [et]
    exact ⟨_, rfl, hT1.now (by omega) ⟨c, tc + 1, hc2, ⟨R2, OZ, TZ, DZ, IZ⟩, tm, htm, ez0⟩⟩
  · have ht1 : t < tc + 1 := by omega
    rw [z2, if_neg (iN_neg (by omega))]
    obtain ⟨m3, m4, e3, e4, -, R4', O4, T4, g1, g2, g3⟩ := q_gone R2 OZ TZ ht1 (k := 5) (by decide) 3
    have e3' : o_X10_tells (upd m2 13 (m2 13 + 1)) 3 (Z 10 t) (Z 11 t) = some m3 := e3
    rw [e_tears R2 ht1, e3', Option.bind_some, e4, Option.bind_some, Option.bind_some, sU_sU]
    obtain ⟨W, hW⟩ : ∃ W, s_X8_remove (sU (s_X1_add Z 3 (Z 10 t) (Z 11 t)) 1 (raise_ 9 (Z 1) (iN 5))) (iN t) = W := ⟨_, rfl⟩
    rw [hW] at R4' O4 T4 g1 g2 g3
    have hstd : ∀ u, u < tc → u ≠ t → Y 0 12 u = 0 → Y 0 11 u ≠ iN o := by
      intro u hu hut e12 e11
      rcases Nat.lt_or_gt_of_ne hut with q | q
      · exact hI.2.2.2.1 u t q z1 e12 z3 (e11.trans z4.symm)
      · exact hI.2.2.2.1 t u q hu z3 e12 (z4.trans e11.symm)
    have DW : TD (tc + 1 - 1) W := by
      intro a b hab hb ha0 hb0
      have g : ∀ j u, 10 ≤ j → j ≤ 14 → u < tc → W j u = Z j (if t ≤ u then u + 1 else u) := by
        intro j u a1 a2 a3
        rw [g1 j u a1 a2]
        by_cases q : t ≤ u
        · rw [if_pos q, if_pos (by omega)]
        · rw [if_neg q, if_neg (by omega)]
      rw [g 12 a (by decide) (by decide) (by omega), g12] at ha0
      rw [g 12 b (by decide) (by decide) (by omega), g12] at hb0
      rw [g 11 a (by decide) (by decide) (by omega), g 11 b (by decide) (by decide) (by omega), g11]
      have ha' : (if t ≤ a then a + 1 else a) ≠ t ∧ (if t ≤ a then a + 1 else a) < (if t ≤ b then b + 1 else b) ∧ (if t ≤ b then b + 1 else b) ≤ tc ∧ (if t ≤ b then b + 1 else b) ≠ t := by
        by_cases q : t ≤ a
        · rw [if_pos q, if_pos (show t ≤ b by omega)]
          omega
        · rw [if_neg q]
          by_cases q' : t ≤ b
          · rw [if_pos q']
            omega
          · rw [if_neg q']
            omega
      obtain ⟨b1, b2, b3, b4⟩ := ha'
      rw [upd_ne (by omega)] at ha0
      rw [upd_ne (show (if t ≤ a then a + 1 else a) ≠ tc by omega)]
      by_cases qb : (if t ≤ b then b + 1 else b) = tc
      · rw [qb, upd_eq]
        exact hstd _ (by omega) b1 ha0
      · rw [upd_ne qb] at hb0 ⊢
        exact hI.2.2.2.1 _ _ b2 (by omega) ha0 hb0
    have hF : FW (tc + 1) Z t := by
      refine ⟨by rw [g12, upd_ne (by omega)]; exact z3, tc, z1, by omega, by rw [g12, upd_eq], ?_⟩
      rw [g11, upd_eq, upd_ne (by omega)]
      exact z4.symm
    have hN : ∀ u, u < t → ¬ FW (tc + 1) Z u := by
      rintro u hu ⟨y1, v, y2, y3, y4, y5⟩
      rw [g12, upd_ne (by omega)] at y1
      rw [g12] at y4
      rw [g11, upd_ne (show u ≠ tc by omega)] at y5
      by_cases qv : v = tc
      · rw [qv, upd_eq] at y5
        exact z5 u hu ⟨y1, y5.symm⟩
      · rw [upd_ne qv] at y4 y5
        exact hI.2.2.2.1 u v y2 (by omega) y1 y4 y5.symm
    have et : s_X6_tearUpWhereTwoMeet Z = W := tear_one TZ ht1 hF hN hW T4 (fun u _ => DW.nofw u) t 0 (mu 0 + 1) 0 (by omega) (by omega) (by omega) (by rw [mu_0]; omega)
    rw [et]
    exact ⟨_, rfl, hT1.now (by omega) ⟨c, tc + 1 - 1, hc2, ⟨R4', O4, T4, DW, IZ.fr (g2 0 (by decide) (by decide))⟩, tm, htm, (g3 0 (by decide) (by decide)).trans ez0⟩⟩
/-- many minutes -/
def pM : Nat → SM → SM
  | 0, S => S
  | n + 1, S => pM n (s_X6_passMinute S)
theorem pM_s (n : Nat) (S : SM) : pM (n + 1) S = pM n (s_X6_passMinute S) := rfl
theorem iN_1a (d : Nat) : (1 : Int32) + iN d = iN (d + 1) := by
  rw [show (1 : Int32) = iN 1 from rfl, iN_add, Nat.add_comm]
theorem q_many {N : Nat} (hN : N ≤ 100000) : ∀ d k (S : SM) (m : Nat → Int32) tc B n1, k + d = N → Iv c tc B S m → d < n1 → ∃ m' tc', o_X10_minutesMany_L2 n1 m (iN N) (iN k) = some m' ∧ Iv c tc' (B + d) (pM d S) m' ∧ pM d S 0 = S 0 ∧ pM d S 18 0 = S 18 0 + iN d := by
  intro d
  induction d with
  | zero =>
    intro k S m tc B n1 e h h1
    obtain ⟨n1, rfl⟩ := some_succ h1
    rw [o_X10_minutesMany_L2, show k = N by omega, if_neg (iN_nlt hN)]
    exact ⟨m, tc, rfl, h, rfl, (Int32.add_zero _).symm⟩
  | succ d ih =>
    intro k S m tc B n1 e h h1
    obtain ⟨n1, rfl⟩ := some_succ h1
    obtain ⟨m1, tc1, e1, I1, f0, f18⟩ := q_minute h
    rw [o_X10_minutesMany_L2, if_pos (iN_ylt (by omega) hN), e1, Option.bind_some, iN_s]
    obtain ⟨m2, tc2, e2, I2, g0, g18⟩ := ih (k + 1) _ m1 tc1 (B + 1) n1 (by omega) I1 (by omega)
    exact ⟨m2, tc2, e2, I2.mono (by omega), g0.trans f0, by rw [pM_s, g18, f18, Int32.add_assoc, iN_1a]⟩
theorem yU_self (Y : RS) (k : Nat) : yU Y k (Y k) = Y := by
  funext j
  unfold yU
  by_cases q : j = k
  · rw [if_pos q, q]
  · rw [if_neg q]
theorem v_min {N : Nat} (hN : N ≤ 100000) (x2 : Int32) : ∀ d k (Y : RS) n, k + d = N → d < n → p_X9_minute_L55 n Y (iN N) x2 (iN k) = (at_ 9 (pM d (Y 0) 1) 1 - x2, yU Y 0 (pM d (Y 0))) := by
  intro d
  induction d with
  | zero =>
    intro k Y n e h1
    obtain ⟨n, rfl⟩ := some_succ h1
    rw [p_X9_minute_L55, show k = N by omega, if_neg (iN_nlt hN)]
    show _ = (at_ 9 (Y 0 1) 1 - x2, yU Y 0 (Y 0))
    rw [yU_self]
  | succ d ih =>
    intro k Y n e h1
    obtain ⟨n, rfl⟩ := some_succ h1
    rw [p_X9_minute_L55, if_pos (iN_ylt (by omega) hN), iN_s, ih (k + 1) _ n (by omega) (by omega), yU_eq, yU_yU, pM_s]
theorem t_minute (h : Top B Y X) (x1 : Int32) : OpR (B + 100) (p_X9_minute Y x1) (o_X10_minute X x1) := by
  obtain ⟨c, tc, hc2, hI, tm, htm, etm⟩ := h.1
  have hsame : ∀ v, OpR (B + 100) (v, Y) (some (v, X)) := fun v => (OpR.same h v).mono (by omega)
  unfold p_X9_minute o_X10_minute
  rw [in_within]
  by_cases q : v_X9_isWithin x1 1 100 = 0
  · rw [if_pos q, if_pos q]
    exact hsame _
  rw [if_neg q, if_neg q]
  obtain ⟨n, hn1, hn, rfl⟩ := within_iN (a := 1) (b := 100) (by decide) (by decide) q
  have e3 : X 0 3 = Y 0 18 0 := hI.1.2.2.2.2.2.1
  rw [nK3, e3, etm, show (9999 : Int32) - iN n = iN (9999 - n) from iN_sub (a := 9999) (by omega), iN_add]
  by_cases q2 : 9999 < tm + n
  · rw [if_pos (show iN (9999 - n) < iN tm from iN_ylt (by omega) (by omega)), if_pos (show 9999 < iN (tm + n) from iN_ylt (a := 9999) q2 (by omega))]
    exact hsame _
  rw [if_neg (show ¬ iN (9999 - n) < iN tm from fun z => by have := (iN_lt (by omega) (by omega)).mp z; omega), if_neg (show ¬ 9999 < iN (tm + n) from fun z => q2 ((iN_lt (a := 9999) (by decide) (by omega)).mp z))]
  obtain ⟨X1, ek, hT1, x0, y0, -⟩ := t_keepUndo h
  obtain ⟨m', tc', e1, I1, f0, f18⟩ := q_many (show n ≤ 100000 by omega) n 0 _ _ tc B 4000 (by omega) hI (by omega)
  have e1' : o_X10_minutesMany (X 0) (iN n) = some m' := e1
  have e2 : p_X9_minute_L55 (mu 0 + 1) (s_X0_remember Y) (iN n) (at_ 9 (s_X0_remember Y 0 1) 1) 0 = _ := v_min (show n ≤ 100000 by omega) _ n 0 _ _ (by omega) (by rw [mu_0]; omega)
  unfold p_X9_minute_L41
  rw [ek, Option.bind_some, x0, e1', Option.bind_some, e2, y0]
  simp only [lt1]
  have a1 : ∀ g, at_ 9 g 1 = g 1 := fun g => at_in (i := 1) (by decide) (by decide)
  rw [sU_eq, nK9, a1, a1, show X 0 9 = Y 0 1 1 from hI.1.2.2.2.2.1 1 (by decide), show m' 9 = pM n (Y 0) 1 1 from I1.1.2.2.2.2.1 1 (by decide)]
  refine ⟨_, rfl, hT1.now (by omega) ⟨c, tc', hc2, I1.mono (by omega), tm + n, by omega, ?_⟩⟩
  rw [f18, etm, iN_add]
end OP4
