-- PART 69: the whole setup text
def osF (M : NM) : Nat → Nat → List (Nat × Nat × Nat)
  | 0, _ => []
  | d + 1, i => (M 2 i, M 3 i, M 4 i) :: osF M d (i + 1)
def leF (M : NM) (o : Nat) : Nat → Nat → List (Nat × Nat × Nat)
  | 0, _ => []
  | d + 1, i => (o, M 8 (6 * o + i), M 9 (6 * o + i)) :: leF M o d (i + 1)
def lsF (M : NM) : Nat → Nat → List (Nat × Nat × Nat)
  | 0, _ => []
  | d + 1, o => leF M o (M 7 o) 0 ++ lsF M d (o + 1)
def tOf (M : NM) : Option Nat := (fsN M (M 18 3)).map (M 11)
/-- what the setup text of M says -/
def txN (M : NM) : List Nat := ruW (M 0 0) (M 0 1) (M 0 2) ++ (osW (osF M (M 18 2) 0) ++ (lsW (lsF M (M 18 2) 0) ++ toW (tOf M)))
section WS
variable {M N : NM} {T : List Nat} {Y Y0 : RS} {S : SM} {B c v i n o d : Nat} {os ls : List (Nat × Nat × Nat)} {t : Option Nat}
theorem osF_len : ∀ d i, (osF M d i).length = d := by
  intro d
  induction d with
  | zero => intro i; rfl
  | succ d ih => intro i; rw [osF, List.length_cons, ih]
theorem osF_mem : ∀ d i x, x ∈ osF M d i → ∃ j, i ≤ j ∧ j < i + d ∧ x = (M 2 j, M 3 j, M 4 j) := by
  intro d
  induction d with
  | zero => intro i x h; exact absurd h (List.not_mem_nil)
  | succ d ih =>
    intro i x h
    rcases List.mem_cons.mp h with rfl | h
    · exact ⟨i, by omega, by omega, rfl⟩
    · obtain ⟨j, a, b, e⟩ := ih (i + 1) x h
      exact ⟨j, by omega, by omega, e⟩
theorem osF_get : ∀ d i k, k < d → (osF M d i)[k]? = some (M 2 (i + k), M 3 (i + k), M 4 (i + k)) := by
  intro d
  induction d with
  | zero => intro i k h; exact absurd h (Nat.not_lt_zero k)
  | succ d ih =>
    intro i k h
    cases k with
    | zero => rfl
    | succ k =>
      rw [osF, List.getElem?_cons_succ, ih (i + 1) k (by omega), show i + 1 + k = i + (k + 1) by omega]
theorem leF_len : ∀ d i, (leF M o d i).length = d := by
  intro d
  induction d with
  | zero => intro i; rfl
  | succ d ih => intro i; rw [leF, List.length_cons, ih]
theorem leF_mem : ∀ d i x, x ∈ leF M o d i → ∃ j, i ≤ j ∧ j < i + d ∧ x = (o, M 8 (6 * o + j), M 9 (6 * o + j)) := by
  intro d
  induction d with
  | zero => intro i x h; exact absurd h (List.not_mem_nil)
  | succ d ih =>
    intro i x h
    rcases List.mem_cons.mp h with rfl | h
    · exact ⟨i, by omega, by omega, rfl⟩
    · obtain ⟨j, a, b, e⟩ := ih (i + 1) x h
      exact ⟨j, by omega, by omega, e⟩
theorem lsF_len (h : ∀ o, o < n → M 7 o ≤ 6) : ∀ d o, o + d = n → (lsF M d o).length ≤ 6 * d := by
  intro d
  induction d with
  | zero => intro o _; exact Nat.le_refl _
  | succ d ih =>
    intro o e
    have h1 := ih (o + 1) (by omega)
    have h2 := h o (by omega)
    rw [lsF, List.length_append, leF_len]
    omega
theorem lsF_mem : ∀ d o x, x ∈ lsF M d o → ∃ p j, o ≤ p ∧ p < o + d ∧ j < M 7 p ∧ x = (p, M 8 (6 * p + j), M 9 (6 * p + j)) := by
  intro d
  induction d with
  | zero => intro i x h; exact absurd h (List.not_mem_nil)
  | succ d ih =>
    intro o x h
    rcases List.mem_append.mp h with h | h
    · obtain ⟨j, a, b, e⟩ := leF_mem (M 7 o) 0 x h
      exact ⟨o, j, by omega, by omega, by omega, e⟩
    · obtain ⟨p, j, a, b, c, e⟩ := ih (o + 1) x h
      exact ⟨p, j, by omega, by omega, c, e⟩
theorem WR.ofc (h : WR Y0 T Y) (hL : LL (Y0 0) M) (hO : OI M) (ho : o < M 18 2) (hl : T.length + 17 ≤ 1024) : WR Y0 (T ++ ofW (M 2 o, M 3 o, M 4 o)) (s_X9_writeSetupOffice Y (iN o)) := by
  obtain ⟨o1, o2, o3, o4⟩ := hO
  obtain ⟨p1, p2, p3, p4, p5, -⟩ := o3 o ho
  obtain ⟨-, -, -, n3, n4, -⟩ := stx_n
  have h0 := h.1 0 (by decide)
  have hd := dc_le (M 3 o)
  have hd1 := dc_1 (show M 2 o < 10 by omega)
  have a1 := h.w (j := 10) (by decide) (by omega)
  have a2 := a1.nu (v := M 2 o) (by omega) (by rw [List.length_append]; omega)
  have a3 := a2.ch (c := 32) (by rw [List.length_append, List.length_append]; omega) (by decide)
  have a4 := a3.nu (v := M 3 o) (by omega) (by simp only [List.length_append, List.length_cons, List.length_nil]; omega)
  unfold s_X9_writeSetupOffice s_X9_writeSetupOffice_L10 s_X9_writeSetupOffice_L31 s_X9_writeSetupOffice_L40
  have e2 : at_ 10 ((yU Y 3 (s_X7_addWord_p (Y 3) 10)) 0 2) (iN o) = iN (M 2 o) := by
    rw [yU_ne (by decide), h0, at_in (by decide) (by omega), hL.a (by decide)]
  rw [e2]
  generalize hY2 : yU (yU Y 3 (s_X7_addWord_p (Y 3) 10)) 3 (s_X7_addNumber_p (yU Y 3 (s_X7_addWord_p (Y 3) 10) 3) (iN (M 2 o))) = Y2 at *
  have e3 : at_ 10 ((yU Y2 3 (s_X7_add_p (Y2 3) 32)) 0 3) (iN o) = iN (M 3 o) := by
    rw [yU_ne (by decide), a2.1 0 (by decide), at_in (by decide) (by omega), hL.a (by decide)]
  rw [e3]
  have a4' : WR Y0 (T ++ stx 10 ++ dcN (M 2 o) ++ [32] ++ dcN (M 3 o)) (yU (yU Y2 3 (s_X7_add_p (Y2 3) 32)) 3 (s_X7_addNumber_p (yU Y2 3 (s_X7_add_p (Y2 3) 32) 3) (iN (M 3 o)))) := a4
  generalize hY4 : yU (yU Y2 3 (s_X7_add_p (Y2 3) 32)) 3 (s_X7_addNumber_p (yU Y2 3 (s_X7_add_p (Y2 3) 32) 3) (iN (M 3 o))) = Y4 at *
  unfold s_X9_writeSetupOffice_L61
  rw [a4'.1 0 (by decide), hL.isOpen (by omega) p5]
  have hl4 : (T ++ stx 10 ++ dcN (M 2 o) ++ [32] ++ dcN (M 3 o)).length ≤ T.length + 11 := by
    simp only [List.length_append, List.length_cons, List.length_nil]
    omega
  unfold s_X9_writeSetupOffice_L85
  by_cases z : M 4 o = 1
  · rw [if_pos z, if_neg (show ¬ (1 : Int32) = 0 by decide)]
    have a5 := a4'.ch (c := 59) (by omega) (by decide)
    unfold ofW
    rw [if_pos (show (M 2 o, M 3 o, M 4 o).2.2 = 1 from z)]
    simp only [List.append_assoc] at a5
    exact a5
  · rw [if_neg z, if_pos rfl]
    have a5 := a4'.w (j := 11) (by decide) (by omega)
    have a6 := a5.ch (c := 59) (by rw [List.length_append]; omega) (by decide)
    unfold ofW
    rw [if_neg (show ¬ (M 2 o, M 3 o, M 4 o).2.2 = 1 from z)]
    simp only [List.append_assoc] at a6
    exact a6
theorem WR.lets (h : WR Y0 T Y) (hL : LL (Y0 0) M) (hO : OI M) (ho : o < M 18 2) : ∀ d i f (T : List Nat) (Y : RS), i + d = M 7 o → d < f → T.length + 13 * d ≤ 1024 → WR Y0 T Y → WR Y0 (T ++ lsW (leF M o d i)) (s_X9_writeSetupLetters_L2 f Y (iN o) (iN i)) := by
  obtain ⟨o1, o2, o3, o4⟩ := hO
  obtain ⟨p1, p2, p3, p4, p5, p6, p7⟩ := o3 o ho
  obtain ⟨-, -, -, -, -, n5, -⟩ := stx_n
  intro d
  induction d with
  | zero =>
    intro i f T Y e hf hl h
    obtain ⟨f, rfl⟩ := some_succ hf
    have h0 := h.1 0 (by decide)
    rw [s_X9_writeSetupLetters_L2, h0, at_in (by decide) (by omega), hL.a (by decide), if_neg (iN_nlt' (by omega) (by omega))]
    show WR Y0 (T ++ []) Y
    rw [List.append_nil]
    exact h
  | succ d ih =>
    intro i f T Y e hf hl h
    obtain ⟨f, rfl⟩ := some_succ hf
    have h0 := h.1 0 (by decide)
    obtain ⟨q1, q2, q3, q4⟩ := p7 i (by omega)
    rw [s_X9_writeSetupLetters_L2, h0, at_in (by decide) (by omega), hL.a (by decide), if_pos (iN_ylt' (by omega) (by omega))]
    have d1 := dc_1 (show o < 10 by omega)
    have d2 := dc_1 (show M 8 (6 * o + i) < 10 by omega)
    have d3 := dc_1 (show M 9 (6 * o + i) < 10 by omega)
    have a1 := h.w (j := 12) (by decide) (by omega)
    have a2 := a1.nu (v := o) (by omega) (by simp only [List.length_append]; omega)
    have a3 := a2.ch (c := 32) (by simp only [List.length_append]; omega) (by decide)
    have a4 := a3.nu (v := M 8 (6 * o + i)) (by omega) (by simp only [List.length_append, List.length_cons, List.length_nil]; omega)
    have a5 := a4.ch (c := 32) (by simp only [List.length_append, List.length_cons, List.length_nil]; omega) (by decide)
    have a6 := a5.nu (v := M 9 (6 * o + i)) (by omega) (by simp only [List.length_append, List.length_cons, List.length_nil]; omega)
    have a7 := a6.ch (c := 59) (by simp only [List.length_append, List.length_cons, List.length_nil]; omega) (by decide)
    have a8 := ih (i + 1) f _ _ (by omega) (by omega) (by simp only [List.length_append, List.length_cons, List.length_nil]; omega) a7
    have et : T ++ lsW (leF M o (d + 1) i) = T ++ stx 12 ++ dcN o ++ [32] ++ dcN (M 8 (6 * o + i)) ++ [32] ++ dcN (M 9 (6 * o + i)) ++ [59] ++ lsW (leF M o d (i + 1)) := by
      rw [leF, lsW]
      unfold leW
      simp only [List.append_assoc]
    rw [et]
    unfold s_X9_writeSetupLetters_L30 s_X9_writeSetupLetters_L38 s_X9_writeSetupLetters_L47 s_X9_writeSetupLetters_L66 s_X9_writeSetupLetters_L75 s_X9_writeSetupLetters_L94
    generalize hY3 : yU (yU (yU Y 3 (s_X7_addWord_p (Y 3) 12)) 3 (s_X7_addNumber_p (yU Y 3 (s_X7_addWord_p (Y 3) 12) 3) (iN o))) 3 (s_X7_add_p (yU (yU Y 3 (s_X7_addWord_p (Y 3) 12)) 3 (s_X7_addNumber_p (yU Y 3 (s_X7_addWord_p (Y 3) 12) 3) (iN o)) 3) (iN 32)) = Y3 at *
    have hY3' : yU (yU (yU Y 3 (s_X7_addWord_p (Y 3) 12)) 3 (s_X7_addNumber_p (yU Y 3 (s_X7_addWord_p (Y 3) 12) 3) (iN o))) 3 (s_X7_add_p (yU (yU Y 3 (s_X7_addWord_p (Y 3) 12)) 3 (s_X7_addNumber_p (yU Y 3 (s_X7_addWord_p (Y 3) 12) 3) (iN o)) 3) 32) = Y3 := hY3
    rw [hY3', show v_X2_toOf (Y3 0) (iN o) (iN i) = iN (M 8 (6 * o + i)) by rw [a3.1 0 (by decide)]; exact hL.toOf (by omega) (by omega)]
    generalize hY5 : yU (yU Y3 3 (s_X7_addNumber_p (Y3 3) (iN (M 8 (6 * o + i))))) 3 (s_X7_add_p (yU Y3 3 (s_X7_addNumber_p (Y3 3) (iN (M 8 (6 * o + i)))) 3) (iN 32)) = Y5 at *
    have hY5' : yU (yU Y3 3 (s_X7_addNumber_p (Y3 3) (iN (M 8 (6 * o + i))))) 3 (s_X7_add_p (yU Y3 3 (s_X7_addNumber_p (Y3 3) (iN (M 8 (6 * o + i)))) 3) 32) = Y5 := hY5
    rw [hY5', show v_X2_lengthOf (Y5 0) (iN o) (iN i) = iN (M 9 (6 * o + i)) by rw [a5.1 0 (by decide)]; exact hL.lengthOf (by omega) (by omega), iN_s]
    exact a8
theorem WR.tok (h : WR Y0 T Y) (hL : LL (Y0 0) M) (hT : TS M) (hl : T.length + 8 ≤ 1024) (h11 : ∀ t, t < M 18 3 → M 11 t < 10) : WR Y0 (T ++ toW (tOf M)) (if v_X8_firstStanding (Y 0) = -2 then Y else s_X9_writeSetup_L182 (yU Y 3 (s_X7_addWord_p (Y 3) 13)) (v_X8_firstStanding (Y 0))) := by
  have t3 := hT.1
  obtain ⟨-, -, -, -, -, -, n6, -⟩ := stx_n
  rw [h.1 0 (by decide), hL.fst hT]
  unfold tOf
  rcases opt_ways (fsN M (M 18 3)) with e | ⟨t, e⟩
  · rw [e, if_pos (show iO none = -2 from rfl)]
    show WR Y0 (T ++ []) Y
    rw [List.append_nil]
    exact h
  · have ht := (fsN_some _ e).1
    have h11t := h11 t ht
    rw [e, if_neg (show ¬ iO (some t) = -2 from iN_m2 (by omega))]
    show WR Y0 (T ++ toW (some (M 11 t))) (s_X9_writeSetup_L182 (yU Y 3 (s_X7_addWord_p (Y 3) 13)) (iN t))
    have d1 := dc_1 h11t
    have a1 := h.w (j := 13) (by decide) (by omega)
    have a2 := a1.nu (v := M 11 t) (by omega) (by simp only [List.length_append]; omega)
    have a3 := a2.ch (c := 59) (by simp only [List.length_append]; omega) (by decide)
    unfold s_X9_writeSetup_L182 s_X9_writeSetup_L203 toW
    rw [show at_ 3 ((yU Y 3 (s_X7_addWord_p (Y 3) 13)) 0 11) (iN t) = iN (M 11 t) by rw [yU_ne (by decide), h.1 0 (by decide), at_in (by decide) (by omega), hL.a (by decide)]]
    simp only [List.append_assoc] at a3
    exact a3
theorem WR.allL (hL : LL (Y0 0) M) (hO : OI M) (hT : TS M) : ∀ d o f (T : List Nat) (Y : RS), o + d = M 18 2 → d < f → T.length + 78 * d + 8 ≤ 1024 → WR Y0 T Y → WR Y0 (T ++ (lsW (lsF M d o) ++ toW (tOf M))) (s_X9_writeSetup_L130 f Y (iN o)) := by
  have o2 := hO.2.1
  have t3 := hT.1
  intro d
  induction d with
  | zero =>
    intro o f T Y e hf hl h
    obtain ⟨f, rfl⟩ := some_succ hf
    rw [s_X9_writeSetup_L130, h.1 0 (by decide), hL.c, if_neg (iN_nlt' (by omega) (by omega)), ← h.1 0 (by decide)]
    exact h.tok hL hT (by omega) (fun t ht => (hT.2 t ht).1)
  | succ d ih =>
    intro o f T Y e hf hl h
    obtain ⟨f, rfl⟩ := some_succ hf
    have p6 := (hO.2.2.1 o (by omega)).2.2.2.2.2.1
    rw [s_X9_writeSetup_L130, h.1 0 (by decide), hL.c, if_pos (iN_ylt' (by omega) (by omega)), iN_s]
    have a1 : WR Y0 (T ++ lsW (leF M o (M 7 o) 0)) (s_X9_writeSetupLetters Y (iN o)) := h.lets hL hO (by omega) (M 7 o) 0 (mu 0 + 1) T Y (by omega) (by rw [mu_0]; omega) (by omega) h
    have hll : (lsW (leF M o (M 7 o) 0)).length ≤ 78 := by
      rw [lsW_len _ (fun x hx => by
        obtain ⟨j, j1, j2, rfl⟩ := leF_mem _ _ _ hx
        obtain ⟨q1, q2, q3, q4⟩ := (hO.2.2.1 o (by omega)).2.2.2.2.2.2 j (by omega)
        exact ⟨by show o < 10; omega, by show M 8 _ < 10; omega, by show M 9 _ < 10; omega⟩), leF_len]
      omega
    have a2 := ih (o + 1) f _ _ (by omega) (by omega) (by rw [List.length_append]; omega) a1
    rw [lsF, lsW_app]
    simp only [List.append_assoc] at a2 ⊢
    exact a2
theorem WR.ofsL (hL : LL (Y0 0) M) (hO : OI M) (hT : TS M) (n : Nat) : ∀ d o f (T : List Nat) (Y : RS), o + d = M 18 2 → d < f → T.length + 17 * d + 78 * M 18 2 + 8 ≤ 1024 → WR Y0 T Y → WR Y0 (T ++ (osW (osF M d o) ++ (lsW (lsF M (M 18 2) 0) ++ toW (tOf M)))) (s_X9_writeSetup_L103 f Y (iN o)) := by
  have o2 := hO.2.1
  intro d
  induction d with
  | zero =>
    intro o f T Y e hf hl h
    obtain ⟨f, rfl⟩ := some_succ hf
    rw [s_X9_writeSetup_L103, h.1 0 (by decide), hL.c, if_neg (iN_nlt' (by omega) (by omega))]
    exact WR.allL hL hO hT (M 18 2) 0 (mu 0 + 1) T Y (by omega) (by rw [mu_0]; omega) (by omega) h
  | succ d ih =>
    intro o f T Y e hf hl h
    obtain ⟨f, rfl⟩ := some_succ hf
    rw [s_X9_writeSetup_L103, h.1 0 (by decide), hL.c, if_pos (iN_ylt' (by omega) (by omega)), iN_s]
    have a1 := h.ofc hL hO (show o < M 18 2 by omega) (by omega)
    have hll := ofW_len (o := (M 2 o, M 3 o, M 4 o)) (show M 2 o < 10 by
      have := (hO.2.2.1 o (by omega)).2.1
      omega)
    have a2 := ih (o + 1) f _ _ (by omega) (by omega) (by rw [List.length_append]; omega) a1
    rw [osF, osW]
    simp only [List.append_assoc] at a2 ⊢
    exact a2
/-- the class writes just what the state says -/
theorem v_write (hL : LL (Y 0) M) (hO : OI M) (hT : TS M) (hR : IR M) : WR Y (txN M) (s_X9_writeSetup Y) := by
  obtain ⟨r1, r2, r3, r4, r5, r6⟩ := hR
  have o2 := hO.2.1
  obtain ⟨n0, n1, n2, -⟩ := stx_n
  have d0 := dc_le (M 0 0)
  have d1 := dc_le (M 0 1)
  have d2 := dc_le (M 0 2)
  have a0 : WR Y [] (yL Y 3 0) := by
    unfold yL
    exact ⟨fun k hk => yU_ne hk, by decide, by rw [yU_eq, sU_eq, upd_eq]; rfl, fun x hx => absurd hx List.not_mem_nil, fun k hk => absurd hk (Nat.not_lt_zero k)⟩
  have g : ∀ (Z : RS) (T : List Nat) k, k < 3 → WR Y T Z → at_ 3 (Z 0 0) (iN k) = iN (M 0 k) := fun Z T k hk h => by
    rw [h.1 0 (by decide), at_in (by decide) hk, hL.a (by decide)]
  have a1 := a0.w (j := 7) (by decide) (by simp only [List.length_nil]; omega)
  have a2 := a1.nu (v := M 0 0) (by omega) (by simp only [List.length_append, List.length_nil]; omega)
  have a3 := a2.w (j := 8) (by decide) (by simp only [List.length_append, List.length_nil]; omega)
  have a4 := a3.nu (v := M 0 1) (by omega) (by simp only [List.length_append, List.length_nil]; omega)
  have a5 := a4.w (j := 9) (by decide) (by simp only [List.length_append, List.length_nil]; omega)
  have a6 := a5.nu (v := M 0 2) (by omega) (by simp only [List.length_append, List.length_nil]; omega)
  have a7 := a6.ch (c := 59) (by simp only [List.length_append, List.length_nil]; omega) (by decide)
  have hl : ([] ++ stx 7 ++ dcN (M 0 0) ++ stx 8 ++ dcN (M 0 1) ++ stx 9 ++ dcN (M 0 2) ++ [59]).length ≤ 27 := by
    simp only [List.length_append, List.length_nil, List.length_cons]
    omega
  have a8 := WR.ofsL hL hO hT 0 (M 18 2) 0 (mu 0 + 1) _ _ (by omega) (by rw [mu_0]; omega) (by omega) a7
  unfold s_X9_writeSetup s_X9_writeSetup_L8 s_X9_writeSetup_L18
  rw [show at_ 3 ((yU (yL Y 3 0) 3 (s_X7_addWord_p (yL Y 3 0 3) 7)) 0 0) 0 = iN (M 0 0) from g _ _ 0 (by decide) a1]
  unfold s_X9_writeSetup_L36 s_X9_writeSetup_L46
  generalize hY3 : yU (yU (yU (yL Y 3 0) 3 (s_X7_addWord_p (yL Y 3 0 3) 7)) 3 (s_X7_addNumber_p (yU (yL Y 3 0) 3 (s_X7_addWord_p (yL Y 3 0 3) 7) 3) (iN (M 0 0)))) 3 (s_X7_addWord_p (yU (yU (yL Y 3 0) 3 (s_X7_addWord_p (yL Y 3 0 3) 7)) 3 (s_X7_addNumber_p (yU (yL Y 3 0) 3 (s_X7_addWord_p (yL Y 3 0 3) 7) 3) (iN (M 0 0))) 3) 8) = Y3 at *
  rw [show at_ 3 (Y3 0 0) 1 = iN (M 0 1) from g _ _ 1 (by decide) a3]
  unfold s_X9_writeSetup_L64 s_X9_writeSetup_L74
  generalize hY5 : yU (yU Y3 3 (s_X7_addNumber_p (Y3 3) (iN (M 0 1)))) 3 (s_X7_addWord_p (yU Y3 3 (s_X7_addNumber_p (Y3 3) (iN (M 0 1))) 3) 9) = Y5 at *
  rw [show at_ 3 (Y5 0 0) 2 = iN (M 0 2) from g _ _ 2 (by decide) a5]
  unfold s_X9_writeSetup_L92 s_X9_writeSetup_L101
  have et : txN M = [] ++ stx 7 ++ dcN (M 0 0) ++ stx 8 ++ dcN (M 0 1) ++ stx 9 ++ dcN (M 0 2) ++ [59] ++ (osW (osF M (M 18 2) 0) ++ (lsW (lsF M (M 18 2) 0) ++ toW (tOf M))) := by
    unfold txN ruW
    simp only [List.append_assoc, List.nil_append]
  rw [et]
  exact a8
end WS
