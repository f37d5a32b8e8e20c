-- PART 18c: the setup text
section TS
variable {c tc B k n d e v : Nat} {S : SM} {m : Nat → Int32} {E X X' X0 X1 X2 : SM} {Y Y' Y0 : RS} {o t i b : Nat} {L : List Nat}
theorem f_stand (hI : Iv c tc B S m) : ∀ d t n1 n2 (X : SM), X 0 = m → t + d = tc → d < n1 → d < n2 → (v_X8_firstStanding_L2 n2 S (iN t) = -2 ∧ o_X10_laySetup_L163 n1 X (iN t) = some X) ∨ ∃ u p, u < tc ∧ p < c ∧ v_X8_firstStanding_L2 n2 S (iN t) = iN u ∧ S 11 u = iN p ∧ o_X10_laySetup_L163 n1 X (iN t) = (o_X10_putsRule X 10932233 (iN p)).bind (fun r1 => (o_X10_puts r1 59).bind (fun r2 => some r2)) := by
  have t3 := hI.t3
  have hT := hI.1.2.1
  intro d
  induction d with
  | zero =>
    intro t n1 n2 X hX e h1 h2
    obtain ⟨n1, rfl⟩ := some_succ h1
    obtain ⟨n2, rfl⟩ := some_succ h2
    rw [v_X8_firstStanding_L2, o_X10_laySetup_L163, hX, nK5, hI.mt, hI.et, show t = tc by omega, if_neg (iN_nlt (by omega)), if_neg (iN_nlt (by omega))]
    exact Or.inl ⟨rfl, rfl⟩
  | succ d ih =>
    intro t n1 n2 X hX e h1 h2
    obtain ⟨n1, rfl⟩ := some_succ h1
    obtain ⟨n2, rfl⟩ := some_succ h2
    have ht : t < tc := by omega
    have k3 : t < 3 := by omega
    rw [v_X8_firstStanding_L2, o_X10_laySetup_L163, hX, nK5, hI.mt, hI.et, if_pos (iN_ylt ht (by omega)), if_pos (iN_ylt ht (by omega)), tA5, tA1, if_pos (gT' k3 (by decide)), nT k3 (by decide), hT.f5 ht, at_in (by decide) k3]
    by_cases q : S 12 t = 0
    · obtain ⟨nn, p, g, l, b1, b2, b3, b4, b5, b6, -⟩ := hI.2.2.1.pl ht
      rw [if_pos q, if_pos q, if_neg (show ¬ (1 : Int32) = 0 by decide), if_pos (gT' k3 (by decide)), nT k3 (by decide), hT.f1 ht, b6]
      exact Or.inr ⟨t, p, ht, b2, rfl, b6, rfl⟩
    · rw [if_neg q, if_neg q, if_pos rfl, iN_s]
      exact ih (t + 1) n1 n2 X hX (by omega) (by omega) (by omega)
theorem s_lettersL (hI : Iv c tc B (Y0 0) (X0 0)) (ho : o < c) {w : Nat} (hw : w ≤ 6) (e7 : Y0 0 7 o = iN w) : ∀ d i n n1 n2 (Y : RS) (X : SM), i + d = w → PW Y0 X0 n Y X → n + 13 * d ≤ 1024 → d < n1 → d < n2 → ∃ X' n', o_X10_layLetters_L2 n1 X (iN o) (iN i) = some X' ∧ PW Y0 X0 n' (s_X9_writeSetupLetters_L2 n2 Y (iN o) (iN i)) X' ∧ n' ≤ n + 13 * d := by
  have c10 := hI.c10
  have o10 : o < 10 := by omega
  have hO := hI.1.1
  intro d
  induction d with
  | zero =>
    intro i n n1 n2 Y X hi P hn h1 h2
    obtain ⟨n1, rfl⟩ := some_succ h1
    obtain ⟨n2, rfl⟩ := some_succ h2
    rw [o_X10_layLetters_L2, s_X9_writeSetupLetters_L2, P.y0, P.r0, oA4, if_pos (gO o10 (by decide)), nO o10 (by decide), hO.f4 ho, at_in (by decide) o10, e7, show i = w by omega, if_neg (iN_nlt (by omega)), if_neg (iN_nlt (by omega))]
    exact ⟨X, n, rfl, P, by omega⟩
  | succ d ih =>
    intro i n n1 n2 Y X hi P hn h1 h2
    obtain ⟨n1, rfl⟩ := some_succ h1
    obtain ⟨n2, rfl⟩ := some_succ h2
    have hiw : i < w := by omega
    obtain ⟨w3, hw3, e73, hl3⟩ := hO.q ho
    have hww3 : w3 = w := (iN_inj (by omega) (by omega)).mp (e73.symm.trans e7)
    obtain ⟨-, -, -, w4, hw4, e74, hl4⟩ := hI.2.1.2.2 o ho
    have hww4 : w4 = w := (iN_inj (by omega) (by omega)).mp (e74.symm.trans e7)
    obtain ⟨l0, l1⟩ := hl3 i (by omega)
    obtain ⟨⟨p, hp, ep⟩, len, hlen1, hlen9, el⟩ := hl4 i (by omega)
    rw [o_X10_layLetters_L2, s_X9_writeSetupLetters_L2, P.y0, P.r0, oA4, if_pos (gO o10 (by decide)), nO o10 (by decide), hO.f4 ho, at_in (by decide) o10, e7, if_pos (iN_ylt hiw (by omega)), if_pos (iN_ylt hiw (by omega)), lA0, lA1]
    obtain ⟨X1, e1, P1⟩ := P.word (j := 12) (l := 7) (by decide) rfl (by omega)
    obtain ⟨Y1, hY1⟩ : ∃ Z, yU Y 3 (s_X7_addWord_p (Y 3) 12) = Z := ⟨_, rfl⟩
    rw [hY1] at P1 ⊢
    unfold s_X9_writeSetupLetters_L30
    obtain ⟨X2, j2, hj2, e2, P2⟩ := P1.num (v := o) (d := 0) (by decide) (by omega) (by omega)
    obtain ⟨Y2, hY2⟩ : ∃ Z, yU Y1 3 (s_X7_addNumber_p (Y1 3) (iN o)) = Z := ⟨_, rfl⟩
    rw [hY2] at P2 ⊢
    have er : o_X10_putsRule X 175252482 (iN o) = some X2 := e_rule (mw_letter X) e1 e2
    unfold s_X9_writeSetupLetters_L38
    obtain ⟨X3, e3, P3⟩ := P2.put 32 (b := 32) rfl (by decide) (by omega)
    obtain ⟨Y3, hY3⟩ : ∃ Z, yU Y2 3 (s_X7_add_p (Y2 3) 32) = Z := ⟨_, rfl⟩
    rw [hY3] at P3 ⊢
    unfold s_X9_writeSetupLetters_L47
    rw [er, Option.bind_some, if_pos (gL o10 (by omega) (by decide)), nL' o10 (by omega) (by decide), P2.r0, l0, ep, P3.y0, v_toOf o10 (by omega), ep]
    obtain ⟨X4, j4, hj4, e4, P4⟩ := P3.num (v := p) (d := 0) (by decide) (by omega) (by omega)
    obtain ⟨Y4, hY4⟩ : ∃ Z, yU Y3 3 (s_X7_addNumber_p (Y3 3) (iN p)) = Z := ⟨_, rfl⟩
    rw [hY4] at P4 ⊢
    unfold s_X9_writeSetupLetters_L66
    obtain ⟨X5, e5, P5⟩ := P4.put 32 (b := 32) rfl (by decide) (by omega)
    obtain ⟨Y5, hY5⟩ : ∃ Z, yU Y4 3 (s_X7_add_p (Y4 3) 32) = Z := ⟨_, rfl⟩
    rw [hY5] at P5 ⊢
    unfold s_X9_writeSetupLetters_L75
    rw [e_with e3 e4, Option.bind_some, if_pos (gL o10 (by omega) (by decide)), nL' o10 (by omega) (by decide), P4.r0, l1, el, P5.y0, v_lengthOf o10 (by omega), el]
    obtain ⟨X6, j6, hj6, e6, P6⟩ := P5.num (v := len) (d := 0) (by decide) (by omega) (by omega)
    obtain ⟨Y6, hY6⟩ : ∃ Z, yU Y5 3 (s_X7_addNumber_p (Y5 3) (iN len)) = Z := ⟨_, rfl⟩
    rw [hY6] at P6 ⊢
    unfold s_X9_writeSetupLetters_L94
    obtain ⟨X7, e7', P7⟩ := P6.put 59 (b := 59) rfl (by decide) (by omega)
    rw [e_with e5 e6, Option.bind_some, e7', Option.bind_some, iN_s]
    obtain ⟨X8, n8, e8, P8, h8⟩ := ih (i + 1) _ n1 n2 _ X7 (by omega) P7 (by omega) (by omega) (by omega)
    exact ⟨X8, n8, e8, P8, by omega⟩
theorem s_tail (hI : Iv c tc B (Y0 0) (X0 0)) : ∀ d o n n1 n2 (Y : RS) (X : SM), o + d = c → PW Y0 X0 n Y X → n + 78 * d + 8 ≤ 1024 → d < n1 → d < n2 → ∃ X' n', o_X10_laySetup_L140 n1 X (iN o) = some X' ∧ PW Y0 X0 n' (s_X9_writeSetup_L130 n2 Y (iN o)) X' := by
  have c10 := hI.c10
  have t3 := hI.t3
  intro d
  induction d with
  | zero =>
    intro o n n1 n2 Y X ho P hn h1 h2
    obtain ⟨n1, rfl⟩ := some_succ h1
    obtain ⟨n2, rfl⟩ := some_succ h2
    rw [o_X10_laySetup_L140, s_X9_writeSetup_L130, P.y0, nK4, show X 0 4 = iN c by rw [P.r0]; exact hI.mc, hI.ec, show o = c by omega, if_neg (iN_nlt (by omega)), if_neg (iN_nlt (by omega))]
    rcases f_stand hI tc 0 4000 (mu 0 + 1) X P.r0 (by omega) (by omega) (by rw [mu_0]; omega) with ⟨z1, z2⟩ | ⟨u, p, hu, hp, z1, ep, z2⟩
    · have z1' : v_X8_firstStanding (Y0 0) = -2 := z1
      have z2' : o_X10_laySetup_L163 4000 X 0 = some X := z2
      rw [z1', if_pos rfl, z2']
      exact ⟨X, n, rfl, P⟩
    · have z1' : v_X8_firstStanding (Y0 0) = iN u := z1
      have z2' : o_X10_laySetup_L163 4000 X 0 = _ := z2
      obtain ⟨X1, e1, P1⟩ := P.word (j := 13) (l := 6) (by decide) rfl (by omega)
      obtain ⟨Y1, hY1⟩ : ∃ Z, yU Y 3 (s_X7_addWord_p (Y 3) 13) = Z := ⟨_, rfl⟩
      rw [z1', if_neg (iN_m2 (by omega)), z2']
      rw [hY1] at P1 ⊢
      unfold s_X9_writeSetup_L182
      rw [P1.y0, at_in (by decide) (show u < 3 by omega), ep]
      obtain ⟨X2, j2, hj2, e2, P2⟩ := P1.num (v := p) (d := 0) (by decide) (by omega) (by omega)
      have er : o_X10_putsRule X 10932233 (iN p) = some X2 := e_rule (mw_token X) e1 e2
      obtain ⟨X3, e3, P3⟩ := P2.put 59 (b := 59) rfl (by decide) (by omega)
      rw [er, Option.bind_some, e3, Option.bind_some]
      exact ⟨X3, _, rfl, P3⟩
  | succ d ih =>
    intro o n n1 n2 Y X hod P hn h1 h2
    obtain ⟨n1, rfl⟩ := some_succ h1
    obtain ⟨n2, rfl⟩ := some_succ h2
    have ho : o < c := by omega
    obtain ⟨-, -, -, w, hw, e7, -⟩ := hI.2.1.2.2 o ho
    rw [o_X10_laySetup_L140, s_X9_writeSetup_L130, P.y0, nK4, show X 0 4 = iN c by rw [P.r0]; exact hI.mc, hI.ec, if_pos (iN_ylt ho (by omega)), if_pos (iN_ylt ho (by omega))]
    obtain ⟨X1, n1', e1, P1, h1'⟩ := s_lettersL hI ho hw e7 w 0 n 4000 (mu 0 + 1) Y X (by omega) P (by omega) (by omega) (by rw [mu_0]; omega)
    have e1' : o_X10_layLetters X (iN o) = some X1 := e1
    rw [e1', Option.bind_some, iN_s]
    exact ih (o + 1) n1' n1 n2 _ X1 (by omega) P1 (by omega) (by omega) (by omega)
theorem s_off (hI : Iv c tc B (Y0 0) (X0 0)) : ∀ d o n n1 n2 (Y : RS) (X : SM), o + d = c → PW Y0 X0 n Y X → n + 17 * d + 788 ≤ 1024 → d < n1 → d < n2 → ∃ X' n', o_X10_laySetup_L61 n1 X (iN o) = some X' ∧ PW Y0 X0 n' (s_X9_writeSetup_L103 n2 Y (iN o)) X' := by
  have c10 := hI.c10
  have hO := hI.1.1
  intro d
  induction d with
  | zero =>
    intro o n n1 n2 Y X ho P hn h1 h2
    obtain ⟨n1, rfl⟩ := some_succ h1
    obtain ⟨n2, rfl⟩ := some_succ h2
    rw [o_X10_laySetup_L61, s_X9_writeSetup_L103, P.y0, nK4, show X 0 4 = iN c by rw [P.r0]; exact hI.mc, hI.ec, show o = c by omega, if_neg (iN_nlt (by omega)), if_neg (iN_nlt (by omega))]
    exact s_tail hI c 0 n 4000 (mu 0 + 1) Y X (by omega) P (by omega) (by omega) (by rw [mu_0]; omega)
  | succ d ih =>
    intro o n n1 n2 Y X hod P hn h1 h2
    obtain ⟨n1, rfl⟩ := some_succ h1
    obtain ⟨n2, rfl⟩ := some_succ h2
    have ho : o < c := by omega
    have o10 : o < 10 := by omega
    obtain ⟨⟨wy, hwy1, hwy9, e2⟩, ⟨nm, hnm1, hnm9, e3⟩, -, -⟩ := hI.2.1.2.2 o ho
    rw [o_X10_laySetup_L61, s_X9_writeSetup_L103, P.y0, nK4, show X 0 4 = iN c by rw [P.r0]; exact hI.mc, hI.ec, if_pos (iN_ylt ho (by omega)), if_pos (iN_ylt ho (by omega)), oA0, oA1, if_pos (gO o10 (by decide)), nO o10 (by decide), P.r0, hO.f0 ho, e2]
    unfold s_X9_writeSetupOffice
    obtain ⟨X1, e1, P1⟩ := P.word (j := 10) (l := 7) (by decide) rfl (by omega)
    obtain ⟨Y1, hY1⟩ : ∃ Z, yU Y 3 (s_X7_addWord_p (Y 3) 10) = Z := ⟨_, rfl⟩
    rw [hY1] at P1 ⊢
    unfold s_X9_writeSetupOffice_L10
    rw [P1.y0, at_in (by decide) o10, e2]
    obtain ⟨X2, j2, hj2, e2', P2⟩ := P1.num (v := wy) (d := 0) (by decide) (by omega) (by omega)
    obtain ⟨Y2, hY2⟩ : ∃ Z, yU Y1 3 (s_X7_addNumber_p (Y1 3) (iN wy)) = Z := ⟨_, rfl⟩
    rw [hY2] at P2 ⊢
    have er : o_X10_putsRule X 218546996 (iN wy) = some X2 := e_rule (mw_office X) e1 e2'
    unfold s_X9_writeSetupOffice_L31
    obtain ⟨X3, e3', P3⟩ := P2.put 32 (b := 32) rfl (by decide) (by omega)
    obtain ⟨Y3, hY3⟩ : ∃ Z, yU Y2 3 (s_X7_add_p (Y2 3) 32) = Z := ⟨_, rfl⟩
    rw [hY3] at P3 ⊢
    unfold s_X9_writeSetupOffice_L40
    rw [er, Option.bind_some, if_pos (gO o10 (by decide)), nO o10 (by decide), P2.r0, hO.f1 ho, e3, P3.y0, at_in (by decide) o10, e3]
    obtain ⟨X4, j4, hj4, e4, P4⟩ := P3.num (v := nm) (d := 1) (by decide) (by omega) (by omega)
    obtain ⟨Y4, hY4⟩ : ∃ Z, yU Y3 3 (s_X7_addNumber_p (Y3 3) (iN nm)) = Z := ⟨_, rfl⟩
    rw [hY4] at P4 ⊢
    unfold s_X9_writeSetupOffice_L61 s_X9_writeSetupOffice_L85
    rw [e_with e3' e4, Option.bind_some, P4.r0, q_isOpen hO ho, Option.bind_some, P4.y0]
    by_cases q : v_X2_isOpen (Y0 0) (iN o) = 0
    · rw [if_pos q, if_pos q]
      obtain ⟨Xa, ea, -, X5, e5, P5⟩ := P4.word2 (j := 11) (A := [115, 104, 117, 116]) (l := 5) (by decide) rfl rfl (by omega)
      obtain ⟨X6, e6, P6⟩ := P5.put 59 (b := 59) rfl (by decide) (by omega)
      rw [ea, Option.bind_some, mw_shut, e5, Option.bind_some, e6, Option.bind_some, iN_s]
      exact ih (o + 1) _ n1 n2 _ X6 (by omega) P6 (by omega) (by omega) (by omega)
    · rw [if_neg q, if_neg q]
      obtain ⟨X6, e6, P6⟩ := P4.put 59 (b := 59) rfl (by decide) (by omega)
      rw [e6, Option.bind_some, iN_s]
      exact ih (o + 1) _ n1 n2 _ X6 (by omega) P6 (by omega) (by omega) (by omega)
theorem e_setup (hI : Iv c tc B (Y 0) (X 0)) : ∃ X' n', o_X10_laySetup X = some X' ∧ PW Y X n' (s_X9_writeSetup Y) X' := by
  have c10 := hI.c10
  obtain ⟨ra, rb, rq, a1, a2, b1, b2, q1, q2, ea, eb, eq⟩ := hI.2.2.2.2
  have m0 : X 0 0 = iN ra := (hI.1.2.2.2.1 0 (by decide)).trans ea
  have m1 : X 0 1 = iN rb := (hI.1.2.2.2.1 1 (by decide)).trans eb
  have m2 : X 0 2 = iN rq := (hI.1.2.2.2.1 2 (by decide)).trans eq
  have P := PW.start Y X
  unfold o_X10_laySetup s_X9_writeSetup s_X9_writeSetup_L8
  simp only [lt1]
  obtain ⟨Xs, hXs⟩ : ∃ Z, sU X 8 (upd (X 8) 9 0) = Z := ⟨_, rfl⟩
  obtain ⟨Ys, hYs⟩ : ∃ Z, yL Y 3 0 = Z := ⟨_, rfl⟩
  rw [hXs, hYs] at P
  rw [hXs, hYs]
  obtain ⟨X1, e1, P1⟩ := P.word (j := 7) (l := 6) (by decide) rfl (by omega)
  obtain ⟨Y1, hY1⟩ : ∃ Z, yU Ys 3 (s_X7_addWord_p (Ys 3) 7) = Z := ⟨_, rfl⟩
  rw [hY1] at P1 ⊢
  unfold s_X9_writeSetup_L18
  rw [P1.y0, show at_ 3 (Y 0 0) 0 = iN ra from (at_in (i := 0) (by decide) (by decide)).trans ea, nK0, nK1, nK2, P.r0, m0]
  obtain ⟨X2, j2, hj2, e2, P2⟩ := P1.num (v := ra) (d := 1) (by decide) (by omega) (by omega)
  obtain ⟨Y2, hY2⟩ : ∃ Z, yU Y1 3 (s_X7_addNumber_p (Y1 3) (iN ra)) = Z := ⟨_, rfl⟩
  rw [hY2] at P2 ⊢
  have er : o_X10_putsRule Xs 10415990 (iN ra) = some X2 := e_rule (mw_speak Xs) e1 e2
  rw [er, Option.bind_some]
  unfold s_X9_writeSetup_L36
  obtain ⟨Xa, eXa, x0a, X3, e3, P3⟩ := P2.word2 (j := 8) (A := [113, 117, 105, 101, 116, 32]) (l := 7) (by decide) rfl rfl (by omega)
  obtain ⟨Y3, hY3⟩ : ∃ Z, yU Y2 3 (s_X7_addWord_p (Y2 3) 8) = Z := ⟨_, rfl⟩
  rw [hY3] at P3 ⊢
  unfold s_X9_writeSetup_L46
  rw [eXa, Option.bind_some, x0a, m1, P3.y0, show at_ 3 (Y 0 0) 1 = iN rb from (at_in (i := 1) (by decide) (by decide)).trans eb]
  obtain ⟨X4, j4, hj4, e4, P4⟩ := P3.num (v := rb) (d := 1) (by decide) (by omega) (by omega)
  obtain ⟨Y4, hY4⟩ : ∃ Z, yU Y3 3 (s_X7_addNumber_p (Y3 3) (iN rb)) = Z := ⟨_, rfl⟩
  rw [hY4] at P4 ⊢
  have er2 : o_X10_putsRule Xa 9454556 (iN rb) = some X4 := e_rule (mw_quiet Xa) e3 e4
  rw [er2, Option.bind_some]
  unfold s_X9_writeSetup_L64
  obtain ⟨Xb, eXb, x0b, X5, e5, P5⟩ := P4.word2 (j := 9) (A := [113, 117, 111, 116, 97, 32]) (l := 7) (by decide) rfl rfl (by omega)
  obtain ⟨Y5, hY5⟩ : ∃ Z, yU Y4 3 (s_X7_addWord_p (Y4 3) 9) = Z := ⟨_, rfl⟩
  rw [hY5] at P5 ⊢
  unfold s_X9_writeSetup_L74
  rw [eXb, Option.bind_some, x0b, m2, P5.y0, show at_ 3 (Y 0 0) 2 = iN rq from (at_in (i := 2) (by decide) (by decide)).trans eq]
  obtain ⟨X6, j6, hj6, e6, P6⟩ := P5.num (v := rq) (d := 1) (by decide) (by omega) (by omega)
  obtain ⟨Y6, hY6⟩ : ∃ Z, yU Y5 3 (s_X7_addNumber_p (Y5 3) (iN rq)) = Z := ⟨_, rfl⟩
  rw [hY6] at P6 ⊢
  have er3 : o_X10_putsRule Xb 9459316 (iN rq) = some X6 := e_rule (mw_quota Xb) e5 e6
  rw [er3, Option.bind_some]
  unfold s_X9_writeSetup_L92 s_X9_writeSetup_L101
  obtain ⟨X7, e7, P7⟩ := P6.put 59 (b := 59) rfl (by decide) (by omega)
  rw [e7, Option.bind_some]
  exact s_off hI c 0 _ 4000 (mu 0 + 1) _ X7 (by omega) P7 (by omega) (by omega) (by rw [mu_0]; omega)
theorem t_setupLength (h : Top B Y X) : OpR B (p_X9_setupLength Y) (o_X10_setupLength X) := by
  obtain ⟨c, tc, hc2, hI, tm, htm, etm⟩ := h.1
  obtain ⟨X', n', e, P⟩ := e_setup hI
  unfold p_X9_setupLength p_X9_setupLength_L4 o_X10_setupLength
  rw [e, Option.bind_some, P.1.2.1, P.1.2.2.1]
  exact ⟨_, rfl, h.txt P⟩
theorem t_setupByte (h : Top B Y X) (x1 : Int32) : OpR B (p_X9_setupByte Y x1) (o_X10_setupByte X x1) := by
  obtain ⟨c, tc, hc2, hI, tm, htm, etm⟩ := h.1
  obtain ⟨X', n', e, P⟩ := e_setup hI
  unfold p_X9_setupByte p_X9_setupByte_L10 o_X10_setupByte
  by_cases q : x1 < 0
  · rw [if_pos q, if_pos q]
    exact OpR.same h _
  · rw [if_neg q, if_neg q, e, Option.bind_some, pg_at P.1 q, Option.bind_some]
    exact ⟨_, rfl, h.txt P⟩
end TS
