-- PART 18b: the list
section TL
variable {c tc B k n d e v : Nat} {S : SM} {m : Nat → Int32} {E X X' X0 X1 X2 : SM} {Y Y' Y0 : RS} {o t i b : Nat} {L : List Nat}
theorem l_letters (hI : Iv c tc B (Y0 0) (X0 0)) (hB : B < 10 ^ 9) (ho : o < c) {w : Nat} (hw : w ≤ 6) (e7 : Y0 0 7 o = iN w) (rc : SM → Int32 → Option SM) : ∀ d i n n1 n2 (Y : RS) (X : SM), i + d = w → PW Y0 X0 n Y X → n + 4 * d + 12 ≤ 1024 → d < n1 → d < n2 → ∃ X' n', o_X10_layList_L67 rc n1 X (iN o) (v_X8_standingAt (Y0 0) (iN o)) (iN i) = rc X' (iN (o + 1)) ∧ PW Y0 X0 n' (s_X9_writeListLine_L59 n2 Y (iN o) (iN i)) X' ∧ n' ≤ n + 4 * d + 12 := by
  have c10 := hI.c10
  have t3 := hI.t3
  have o10 : o < 10 := by omega
  have hO := hI.1.1
  intro d
  induction d with
  | zero =>
    intro i n n1 n2 Y X hi P hn h1 h2
    obtain ⟨n1, rfl⟩ := some_succ h1
    obtain ⟨n2, rfl⟩ := some_succ h2
    rw [o_X10_layList_L67, s_X9_writeListLine_L59, P.y0, P.r0, oA4, if_pos (gO o10 (by decide)), nO o10 (by decide), hO.f4 ho, at_in (by decide) o10, e7, show i = w by omega, if_neg (iN_nlt (by omega)), if_neg (iN_nlt (by omega))]
    rcases v_stand hI.et t3 (iN o) with ⟨z1, -⟩ | ⟨t, z1, z2, -⟩
    · obtain ⟨X1, e1, P1⟩ := P.put 10 (b := 10) rfl (by decide) (by omega)
      rw [z1, if_pos m2_neg, if_pos rfl, e1, Option.bind_some, iN_s]
      exact ⟨X1, n + 1, rfl, P1, by omega⟩
    · have k3 : t < 3 := by omega
      obtain ⟨nn, p, g, l, b1, b2, b3, b4, b5, -⟩ := hI.2.2.1.pl z1
      obtain ⟨X1, e1, P1⟩ := P.put 64 (b := 64) rfl (by decide) (by omega)
      obtain ⟨X2, j, hj, e2, P2⟩ := P1.num (v := nn) (d := 8) (by decide) (by omega) (by omega)
      obtain ⟨X3, e3, P3⟩ := P2.put 10 (b := 10) rfl (by decide) (by omega)
      rw [z2, if_neg (iN_neg (by omega)), if_neg (iN_m2 (by omega)), tA0, if_pos (gT' k3 (by decide)), nT k3 (by decide), hI.1.2.1.f0 z1, b5, e_with e1 e2, Option.bind_some, e3, Option.bind_some, iN_s]
      refine ⟨X3, n + 1 + j + 1, rfl, ?_, by omega⟩
      unfold s_X9_writeListLine_L148 s_X9_writeListLine_L169
      rw [P1.y0, at_in (by decide) k3, b5]
      exact P3
  | succ d ih =>
    intro i n n1 n2 Y X hi P hn h1 h2
    obtain ⟨n1, rfl⟩ := some_succ h1
    obtain ⟨n2, rfl⟩ := some_succ h2
    have hiw : i < w := by omega
    obtain ⟨w3, hw3, e73, hl3⟩ := hO.q ho
    have hww3 : w3 = w := (iN_inj (by omega) (by omega)).mp (e73.symm.trans e7)
    obtain ⟨-, -, -, w4, hw4, e74, hl4⟩ := hI.2.1.2.2 o ho
    have hww4 : w4 = w := (iN_inj (by omega) (by omega)).mp (e74.symm.trans e7)
    obtain ⟨l0, l1⟩ := hl3 i (by omega)
    obtain ⟨⟨p, hp, ep⟩, len, hlen1, hlen9, el⟩ := hl4 i (by omega)
    rw [o_X10_layList_L67, s_X9_writeListLine_L59, P.y0, P.r0, oA4, if_pos (gO o10 (by decide)), nO o10 (by decide), hO.f4 ho, at_in (by decide) o10, e7, if_pos (iN_ylt hiw (by omega)), if_pos (iN_ylt hiw (by omega)), lA1, lA0, if_pos (gL o10 (by omega) (by decide)), nL' o10 (by omega) (by decide), l1, el]
    obtain ⟨X1, e1, P1⟩ := P.put 47 (b := 47) rfl (by decide) (by omega)
    obtain ⟨X2, j2, hj2, e2, P2⟩ := P1.num (v := len) (d := 0) (by decide) (by omega) (by omega)
    obtain ⟨X3, e3, P3⟩ := P2.put 62 (b := 62) rfl (by decide) (by omega)
    obtain ⟨X4, j4, hj4, e4, P4⟩ := P3.num (v := p) (d := 0) (by decide) (by omega) (by omega)
    rw [e_with e1 e2, Option.bind_some, P2.r0, if_pos (gL o10 (by omega) (by decide)), nL' o10 (by omega) (by decide), l0, ep, e_with e3 e4, Option.bind_some, iN_s]
    unfold s_X9_writeListLine_L80 s_X9_writeListLine_L93 s_X9_writeListLine_L102
    rw [P1.y0, v_lengthOf o10 (by omega), el, P3.y0, v_toOf o10 (by omega), ep, iN_s]
    obtain ⟨X5, n5, e5, P5, h5⟩ := ih (i + 1) (n + 1 + j2 + 1 + j4) n1 n2 _ X4 (by omega) P4 (by omega) (by omega) (by omega)
    exact ⟨X5, n5, e5, P5, by omega⟩
theorem l_list (hI : Iv c tc B (Y0 0) (X0 0)) (hB : B < 10 ^ 9) : ∀ d o n n1 n2 (Y : RS) (X : SM), o + d = c → PW Y0 X0 n Y X → n + 41 * d ≤ 1024 → d < n1 → d < n2 → ∃ X' n', o_X10_layList_L7 n1 X (iN o) = some X' ∧ PW Y0 X0 n' (s_X9_writeList_L10 n2 Y (iN o)) X' := by
  have c10 := hI.c10
  have t3 := hI.t3
  have hO := hI.1.1
  intro d
  induction d with
  | zero =>
    intro o n n1 n2 Y X ho P hn h1 h2
    obtain ⟨n1, rfl⟩ := some_succ h1
    obtain ⟨n2, rfl⟩ := some_succ h2
    rw [o_X10_layList_L7, s_X9_writeList_L10, P.y0, P.r0, nK4, hI.mc, hI.ec, show o = c by omega, if_neg (iN_nlt (by omega)), if_neg (iN_nlt (by omega))]
    exact ⟨X, n, rfl, P⟩
  | succ d ih =>
    intro o n n1 n2 Y X hod P hn h1 h2
    obtain ⟨n1, rfl⟩ := some_succ h1
    obtain ⟨n2, rfl⟩ := some_succ h2
    have ho : o < c := by omega
    have o10 : o < 10 := by omega
    obtain ⟨-, ⟨nm, hnm1, hnm9, e3⟩, -, w, hw, e7, -⟩ := hI.2.1.2.2 o ho
    rw [o_X10_layList_L7, s_X9_writeList_L10, P.y0, P.r0, nK4, hI.mc, hI.ec, if_pos (iN_ylt ho (by omega)), if_pos (iN_ylt ho (by omega)), q_tokenOn hI.1.2.1, Option.bind_some]
    unfold s_X9_writeListLine
    obtain ⟨X1, j1, hj1, e1, P1⟩ := P.num (v := o) (d := 0) (by decide) (by omega) (by omega)
    obtain ⟨Y1, hY1⟩ : ∃ Z, yU Y 3 (s_X7_addNumber_p (Y 3) (iN o)) = Z := ⟨_, rfl⟩
    rw [e1, Option.bind_some, oA1, if_pos (gO o10 (by decide)), nO o10 (by decide), P1.r0, hO.f1 ho, e3]
    rw [hY1] at P1 ⊢
    unfold s_X9_writeListLine_L16
    obtain ⟨X2, e2, P2⟩ := P1.put 58 (b := 58) rfl (by decide) (by omega)
    obtain ⟨Y2, hY2⟩ : ∃ Z, yU Y1 3 (s_X7_add_p (Y1 3) 58) = Z := ⟨_, rfl⟩
    rw [hY2] at P2 ⊢
    unfold s_X9_writeListLine_L25
    rw [P2.y0, at_in (by decide) o10, e3]
    obtain ⟨X3, j3, hj3, e3', P3⟩ := P2.num (v := nm) (d := 1) (by decide) (by omega) (by omega)
    obtain ⟨Y3, hY3⟩ : ∃ Z, yU Y2 3 (s_X7_addNumber_p (Y2 3) (iN nm)) = Z := ⟨_, rfl⟩
    rw [hY3] at P3 ⊢
    rw [e_with e2 e3', Option.bind_some, P3.r0, q_isOpen hO ho, Option.bind_some]
    unfold s_X9_writeListLine_L40 s_X9_writeListLine_L57
    rw [P3.y0]
    by_cases q : v_X2_isOpen (Y0 0) (iN o) = 0
    · rw [if_pos q, if_pos q]
      obtain ⟨X4, e4, P4⟩ := P3.put 120 (b := 120) rfl (by decide) (by omega)
      rw [e4, Option.bind_some]
      obtain ⟨X5, n5, e5, P5, h5⟩ := l_letters hI hB ho hw e7 (fun S0 yx1 => o_X10_layList_L7 n1 S0 yx1) w 0 _ 4000 (mu 0 + 1) _ X4 (by omega) P4 (by omega) (by omega) (by rw [mu_0]; omega)
      have e5' : o_X10_layList_L67 (fun S0 yx1 => o_X10_layList_L7 n1 S0 yx1) 4000 X4 (iN o) (v_X8_standingAt (Y0 0) (iN o)) 0 = o_X10_layList_L7 n1 X5 (iN (o + 1)) := e5
      rw [e5', iN_s]
      exact ih (o + 1) n5 n1 n2 _ X5 (by omega) P5 (by omega) (by omega) (by omega)
    · rw [if_neg q, if_neg q]
      obtain ⟨X5, n5, e5, P5, h5⟩ := l_letters hI hB ho hw e7 (fun S0 yx1 => o_X10_layList_L7 n1 S0 yx1) w 0 _ 4000 (mu 0 + 1) _ X3 (by omega) P3 (by omega) (by omega) (by rw [mu_0]; omega)
      have e5' : o_X10_layList_L67 (fun S0 yx1 => o_X10_layList_L7 n1 S0 yx1) 4000 X3 (iN o) (v_X8_standingAt (Y0 0) (iN o)) 0 = o_X10_layList_L7 n1 X5 (iN (o + 1)) := e5
      rw [e5', iN_s]
      exact ih (o + 1) n5 n1 n2 _ X5 (by omega) P5 (by omega) (by omega) (by omega)
theorem PW.start (Y : RS) (X : SM) : PW Y X 0 (yL Y 3 0) (sU X 8 (upd (X 8) 9 0)) := by
  refine ⟨⟨by decide, ?_, ?_, fun k hk => absurd hk (by omega)⟩, fun k hk => yU_ne hk, fun j a b => sU_ne b, fun k a => ?_⟩
  · unfold yL
    rw [yU_eq, sU_eq, upd_eq]
    rfl
  · rw [sU_eq, upd_eq]
    rfl
  · rw [sU_eq, upd_ne a]
theorem Top.txt (h : Top B Y X) (P : PW Y X n Y' X') : Top B Y' X' :=
  h.draft (P.2.1 0 (by decide)) (P.2.1 2 (by decide)) (by rw [P.2.1 4 (by decide)]) (by rw [P.2.1 4 (by decide)]) (fun k a b => P.2.1 k (by omega)) (P.2.2.1 0 (by decide) (by decide)) (P.2.2.1 3 (by decide) (by decide)) (P.2.2.1 4 (by decide) (by decide)) (P.2.2.1 5 (by decide) (by decide)) (P.2.2.1 6 (by decide) (by decide)) (fun k hk => P.2.2.2 k (by omega))
theorem pg_at (P : Pg n E X) {x : Int32} (hx : ¬ x < 0) : o_X10_writtenAt X x = some (v_X7_byteAt_p E x) := by
  obtain ⟨h1, h2, h3, h4⟩ := P
  unfold o_X10_writtenAt v_X7_byteAt_p
  rw [if_neg hx, h2, h3]
  by_cases q : x < iN n
  · obtain ⟨k, hk, rfl⟩ := iN_between (by omega) hx q
    obtain ⟨b, hb, eE, eX⟩ := h4 k hk
    rw [if_pos q, if_pos q, if_pos (gin_iN (by omega) (by omega)), if_pos (show iN k < 1024 from iN_ylt (b := 1024) (by omega) (by decide)), iN_nat (by omega), eE, eX, and_b b hb]
  · rw [if_neg q, if_neg q]
theorem e_list (hI : Iv c tc B (Y 0) (X 0)) (hB : B < 10 ^ 9) : ∃ X' n', o_X10_layList X = some X' ∧ PW Y X n' (s_X9_writeList Y) X' := by
  have c10 := hI.c10
  exact l_list hI hB c 0 0 4000 (mu 0 + 1) _ _ (by omega) (PW.start Y X) (by omega) (by omega) (by rw [mu_0]; omega)
theorem t_listLength (h : Top B Y X) (hB : B < 10 ^ 9) : OpR B (p_X9_listLength Y) (o_X10_listLength X) := by
  obtain ⟨c, tc, hc2, hI, tm, htm, etm⟩ := h.1
  obtain ⟨X', n', e, P⟩ := e_list hI hB
  unfold p_X9_listLength p_X9_listLength_L4 o_X10_listLength
  rw [e, Option.bind_some, P.1.2.1, P.1.2.2.1]
  exact ⟨_, rfl, h.txt P⟩
theorem t_listByte (h : Top B Y X) (hB : B < 10 ^ 9) (x1 : Int32) : OpR B (p_X9_listByte Y x1) (o_X10_listByte X x1) := by
  obtain ⟨c, tc, hc2, hI, tm, htm, etm⟩ := h.1
  obtain ⟨X', n', e, P⟩ := e_list hI hB
  unfold p_X9_listByte p_X9_listByte_L10 o_X10_listByte
  by_cases q : x1 < 0
  · rw [if_pos q, if_pos q]
    exact OpR.same h _
  · rw [if_neg q, if_neg q, e, Option.bind_some, pg_at P.1 q, Option.bind_some]
    exact ⟨_, rfl, h.txt P⟩
end TL
