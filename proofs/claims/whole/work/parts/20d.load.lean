-- PART 20d: load
def PO (Xb : SM) (pr : Int32 × PS) (r : Option (Int32 × SM)) (xx : Int32) : Prop := ∃ X', r = o_X10_load_L198 X' xx ∧ ((pr.1 = -2 ∧ X' 8 8 = 0 ∧ X' 8 2 = -2 ∧ XF Xb X' ∧ DE pr.2.2.2 (X' 1)) ∨ FS pr.1 Xb X')
def z0 (k : Nat) (m : Nat → Int32) : Nat → Int32 := fun j => if j < k then 0 else m j
def o_ld (X : SM) (x1 : Int32) : Option (Int32 × SM) := lt1 (sU X 8 (upd (X 8) 4 0)) (fun r2 => lt1 (sU r2 8 (upd (r2 8) 8 0)) (fun r3 => lt1 (sU r3 8 (upd (r3 8) 2 (-2))) (fun r4 => (o_X10_next r4 ).bind (fun r5 => (o_X10_takesRule r5 10415990 20).bind (fun r6 => lt1 (sU r6.2 1 (upd (r6.2 1) (0 : Int32).toNatClampNeg r6.1)) (fun r7 => (o_X10_takesRule r7 9454556 99).bind (fun r8 => lt1 (sU r8.2 1 (upd (r8.2 1) (1 : Int32).toNatClampNeg r8.1)) (fun r9 => (o_X10_takesRule r9 9459316 60).bind (fun r10 => lt1 (sU r10.2 1 (upd (r10.2 1) (2 : Int32).toNatClampNeg r10.1)) (fun r11 => if (r11 8 6) = 3 then o_X10_load_L98 r11 x1 1 else o_X10_load_L98 r11 x1 0))))))))))
section LD
variable {c tc B B' k n b e w p : Nat} {T : Nat → Nat} {S : SM} {m : Nat → Int32} {E X X' Xb : SM} {Y Y' : RS} {o t i : Nat} {q : PS} {er xx : Int32}
theorem f_end (h : FS er Xb X) (xx : Int32) : o_X10_load_L178 X xx = o_X10_load_L198 X xx := by
  unfold o_X10_load_L178
  rw [h.1, if_neg (show ¬ (1 : Int32) = 0 by decide)]
theorem f_tok (h : FS er Xb X) (xx : Int32) : o_X10_load_L158 X xx = o_X10_load_L198 X xx := by
  unfold o_X10_load_L158
  rw [h.1, if_neg (show ¬ (1 : Int32) = 0 by decide), f_end h]
theorem f_let (h : FS er Xb X) (xx : Int32) : o_X10_load_L135 4000 X xx = o_X10_load_L198 X xx := by
  rw [o_X10_load_L135, h.1, if_neg (show ¬ (1 : Int32) = 0 by decide), f_tok h]
theorem f_off (h : FS er Xb X) (xx : Int32) : o_X10_load_L102 4000 X xx = o_X10_load_L198 X xx := by
  rw [o_X10_load_L102, h.1, if_neg (show ¬ (1 : Int32) = 0 by decide), f_let h]
theorem L98_e {X1 : SM} {t r : Int32} (h : o_X10_takes X t = some (r, X1)) : o_X10_load_L98 X xx t = o_X10_load_L102 4000 X1 xx := by
  unfold o_X10_load_L98
  rw [h]
  rfl
theorem p_end (h : GS n Xb q X) (hn : n ≤ 1200) (hD : DE q.2.2 (X 1)) : PO Xb (p_X4_parse_L68 q E 1) (o_X10_load_L178 X xx) xx := by
  unfold p_X4_parse_L68 o_X10_load_L178
  rw [if_neg (show ¬ (1 : Int32) = 0 by decide), if_pos h.2.1]
  rcases h.end with ⟨a1, a2⟩ | ⟨a1, a2⟩
  · rw [if_pos a1, if_pos a2]
    unfold p_X4_parse_L88
    rw [if_neg (show ¬ (1 : Int32) = 0 by decide)]
    exact ⟨X, rfl, Or.inl ⟨rfl, h.2.1, h.2.2.1, h.2.2.2, hD⟩⟩
  · obtain ⟨X1, e1, F1, x1⟩ := h.takes0 hn
    rw [if_neg a1, if_neg a2, e1]
    unfold p_X4_parse_L87 p_X4_parse_L88
    rw [if_pos rfl]
    exact ⟨X1, rfl, Or.inr F1⟩
theorem L87_e (q : PS) : p_X4_parse_L87 q E = (q.1 0, q) := by
  unfold p_X4_parse_L87 p_X4_parse_L88
  rw [if_pos rfl]
theorem p_tok (hT : TF n T E Xb) (h : GS n Xb q X) (hD : DO c q.2.2 (X 1)) (hc : 2 ≤ c) : PO Xb (p_X4_parse_L61 q E 1) (o_X10_load_L158 X xx) xx := by
  unfold p_X4_parse_L61 o_X10_load_L158
  rw [if_neg (show ¬ (1 : Int32) = 0 by decide), if_pos h.2.1]
  rcases h.is (w := 6) (by decide) with ⟨a1, a2⟩ | ⟨a1, a2⟩
  · have a2' : o_X10_is X 10932233 = some 1 := a2
    obtain ⟨X1, e1, hz⟩ := g_token hT h hD hc a1
    rw [a2', Option.bind_some, if_neg (show ¬ (1 : Int32) = 0 by decide), e1, Option.bind_some]
    rcases hz with ⟨q', g1, g2, g3⟩ | ⟨q', g1, g2⟩
    · rw [g3]
      exact p_end g1 hT.1 g2
    · rw [g2]
      refine ⟨X1, f_end g1 xx, Or.inr ?_⟩
      unfold p_X4_parse_L68
      rw [if_pos rfl, L87_e]
      exact g1
  · have a2' : o_X10_is X 10932233 = some 0 := a2
    have a1' : q.1 2 ≠ 6 := a1
    have et : p_X4_parseToken q E = (1, q) := by
      unfold p_X4_parseToken
      rw [take_n a1']
      unfold p_X4_parseToken_L6
      rw [if_pos rfl]
    rw [a2', Option.bind_some, if_pos rfl, et]
    exact p_end h hT.1 (hD.de hc)
theorem p_let (hT : TF n T E Xb) (h : GS n Xb q X) (hD : DO c q.2.2 (X 1)) (hc : 2 ≤ c) : PO Xb (p_X4_parse_L54 q E 1) (o_X10_load_L135 4000 X xx) xx := by
  obtain ⟨X1, q', e1, hz⟩ := g_lets hT xx hc 61 0 q X 4000 (mu 0 + 1) (by decide) h hD (Nat.zero_le _) (by decide) (by rw [mu_0]; omega)
  have el : p_X4_parseLetters q E = p_X4_parseLetters_L15 (mu 0 + 1) q E (iN (c - 1)) (iN 0) := by
    unfold p_X4_parseLetters
    rw [hD.1.ec, iN_1 (by omega)]
    rfl
  unfold p_X4_parse_L54
  rw [if_neg (show ¬ (1 : Int32) = 0 by decide), e1, el]
  rcases hz with ⟨g1, g2, g3⟩ | ⟨g1, g2⟩
  · rw [g1]
    exact p_tok hT g2 g3 hc
  · rw [g1]
    refine ⟨X1, f_tok g2 xx, Or.inr ?_⟩
    unfold p_X4_parse_L61
    rw [if_pos rfl, L87_e]
    exact g2
theorem p_off (hT : TF n T E Xb) (h : GS n Xb q X) (hD : DO 0 q.2.2 (X 1)) : PO Xb (p_X4_parse_L47 q E 1) (o_X10_load_L102 4000 X xx) xx := by
  obtain ⟨X1, q', e1, hz⟩ := g_offs hT xx 10 0 q X 4000 (mu 0 + 1) (by decide) h hD (by decide) (by rw [mu_0]; omega)
  have el : p_X4_parseOffices q E = p_X4_parseOffices_L2 (mu 0 + 1) q E (iN 0) := rfl
  unfold p_X4_parse_L47
  rw [if_neg (show ¬ (1 : Int32) = 0 by decide), e1, el]
  rcases hz with ⟨g1, c', g2, g3, g4⟩ | ⟨g1, g2⟩ | ⟨g1, g2, g3⟩
  · rw [g1]
    exact p_let hT g3 g4 g2
  · rw [g1]
    refine ⟨X1, f_let g2 xx, Or.inr ?_⟩
    unfold p_X4_parse_L54
    rw [if_pos rfl, L87_e]
    exact g2
  · rw [g1]
    refine ⟨X1, f_let g3 xx, Or.inr ?_⟩
    have n5 : q'.1 2 ≠ 5 := by rw [g2]; decide
    have n6 : q'.1 2 ≠ 6 := by rw [g2]; decide
    have n9 : ¬ q'.1 2 = 9 := by rw [g2]; decide
    have e5 : p_X4_parseLetters q' E = (1, q') := by
      unfold p_X4_parseLetters
      rw [p_X4_parseLetters_L15, if_neg (show ¬ (60 : Int32) < 0 by decide), take_n n5]
      unfold p_X4_parseLetters_L26
      rw [if_pos rfl]
    have e6 : p_X4_parseToken q' E = (1, q') := by
      unfold p_X4_parseToken
      rw [take_n n6]
      unfold p_X4_parseToken_L6
      rw [if_pos rfl]
    have ee : p_X4_parse_L54 q' E 1 = (q'.1 0, q') := by
      unfold p_X4_parse_L54
      rw [if_neg (show ¬ (1 : Int32) = 0 by decide), e5]
      show p_X4_parse_L61 q' E 1 = _
      unfold p_X4_parse_L61
      rw [if_neg (show ¬ (1 : Int32) = 0 by decide), e6]
      show p_X4_parse_L68 q' E 1 = _
      unfold p_X4_parse_L68
      rw [if_neg (show ¬ (1 : Int32) = 0 by decide), if_neg n9, L87_e]
    rw [ee]
    exact g3
theorem p_semi (hT : TF n T E Xb) (h : GS n Xb q X) (hD : DO 0 q.2.2 (X 1)) : PO Xb (p_X4_parse_L38 q E 1) (if X 8 6 = 3 then o_X10_load_L98 X xx 1 else o_X10_load_L98 X xx 0) xx := by
  unfold p_X4_parse_L38
  rw [if_neg (show ¬ (1 : Int32) = 0 by decide)]
  rcases h.semi with ⟨a1, a2⟩ | ⟨a1, a2⟩
  · obtain ⟨X1, e1, G1, x1⟩ := h.takes1 hT q.2.1 q.2.2
    rw [if_pos a2, L98_e e1, take_y a1]
    exact p_off hT G1 (by rw [x1]; exact hD)
  · obtain ⟨X1, e1, F1, x1⟩ := h.takes0 hT.1
    rw [if_neg a2, L98_e e1, take_n a1]
    refine ⟨X1, f_off F1 xx, Or.inr ?_⟩
    unfold p_X4_parse_L47
    rw [if_pos rfl, L87_e]
    exact F1
theorem f_semi (h : FS er Xb X) (xx : Int32) : (if X 8 6 = 3 then o_X10_load_L98 X xx 1 else o_X10_load_L98 X xx 0) = o_X10_load_L198 X xx := by
  rw [L98_e (h.takes 1), L98_e (h.takes 0), ite_self, f_off h]
theorem o_ld_e {r5 Xa Xc Xd : SM} {v1 v2 v3 : Int32} (h0 : o_X10_next (sU (sU (sU X 8 (upd (X 8) 4 0)) 8 (upd (sU X 8 (upd (X 8) 4 0) 8) 8 0)) 8 (upd (sU (sU X 8 (upd (X 8) 4 0)) 8 (upd (sU X 8 (upd (X 8) 4 0) 8) 8 0) 8) 2 (-2))) = some r5) (h1 : o_X10_takesRule r5 10415990 20 = some (v1, Xa)) (h2 : o_X10_takesRule (sU Xa 1 (upd (Xa 1) 0 v1)) 9454556 99 = some (v2, Xc)) (h3 : o_X10_takesRule (sU Xc 1 (upd (Xc 1) 1 v2)) 9459316 60 = some (v3, Xd)) : o_ld X xx = if (sU Xd 1 (upd (Xd 1) 2 v3)) 8 6 = 3 then o_X10_load_L98 (sU Xd 1 (upd (Xd 1) 2 v3)) xx 1 else o_X10_load_L98 (sU Xd 1 (upd (Xd 1) 2 v3)) xx 0 := by
  unfold o_ld
  simp only [lt1]
  rw [h0, Option.bind_some, h1]
  show (o_X10_takesRule (sU Xa 1 (upd (Xa 1) 0 v1)) 9454556 99).bind _ = _
  rw [h2]
  show (o_X10_takesRule (sU Xc 1 (upd (Xc 1) 1 v2)) 9459316 60).bind _ = _
  rw [h3]
  rfl
theorem z0_step (m : Nat → Int32) (k : Nat) : upd (z0 k m) k 0 = z0 (k + 1) m := by
  funext j
  unfold upd z0
  by_cases h : j = k
  · rw [if_pos h, if_pos (by omega)]
  · rw [if_neg h]
    by_cases h2 : j < k
    · rw [if_pos h2, if_pos (by omega)]
    · rw [if_neg h2, if_neg (by omega)]
theorem o_load2 (X : SM) : ∀ d k f, k + d = 336 → d < f → o_X10_load_L2 f (sU X 1 (z0 k (X 1))) (iN k) = o_ld (sU X 1 (z0 336 (X 1))) (iN 336) := by
  intro d
  induction d with
  | zero =>
    intro k f hk h1
    obtain ⟨f, rfl⟩ := some_succ h1
    rw [o_X10_load_L2, show k = 336 by omega, if_neg (show ¬ iN 336 < 336 by decide)]
    rfl
  | succ d ih =>
    intro k f hk h1
    obtain ⟨f, rfl⟩ := some_succ h1
    rw [o_X10_load_L2, if_pos (show iN k < 336 from iN_ylt (b := 336) (by omega) (by decide)), if_pos (gin_iN (by omega) (by omega)), iN_nat (by omega)]
    simp only [lt1]
    rw [sU_eq, sU_sU, z0_step, iN_s]
    exact ih (k + 1) f (by omega) (by omega)
theorem o_load_e (X : SM) : o_X10_load X = o_ld (sU X 1 (z0 336 (X 1))) (iN 336) := by
  have h := o_load2 X 336 0 4000 (by decide) (by decide)
  have e0 : z0 0 (X 1) = X 1 := by
    funext j
    exact if_neg (Nat.not_lt_zero _)
  rw [e0, sU_self] at h
  exact h
theorem clr_L : ∀ d k (S : SM) f, k + d = 9 → d < f → (∀ i, i < k → S 1 i = 0) → ∃ S1, s_X6_clear_L2 f S (iN k) = sF (sF (sF (sF (sF (sF (sF S1 2 0) 3 0) 4 0) 5 0) 6 0) 0 0) 1 0 ∧ (∀ j, j ≠ 1 → S1 j = S j) ∧ ∀ i, i < 9 → S1 1 i = 0 := by
  intro d
  induction d with
  | zero =>
    intro k S f hk h1 hz
    obtain ⟨f, rfl⟩ := some_succ h1
    rw [s_X6_clear_L2, show k = 9 by omega, if_neg (show ¬ iN 9 < 9 by decide)]
    exact ⟨S, rfl, fun _ _ => rfl, fun i hi => hz i (by omega)⟩
  | succ d ih =>
    intro k S f hk h1 hz
    obtain ⟨f, rfl⟩ := some_succ h1
    rw [s_X6_clear_L2, if_pos (show iN k < 9 from iN_ylt (b := 9) (by omega) (by decide)), put_in (by decide) (by omega), iN_s]
    obtain ⟨S1, g1, g2, g3⟩ := ih (k + 1) (sU S 1 (upd (S 1) k 0)) f (by omega) (by omega) (fun i hi => by
      rw [sU_eq, upd_get]
      by_cases z : i = k
      · rw [if_pos z]
      · rw [if_neg z]
        exact hz i (by omega))
    exact ⟨S1, g1, fun j hj => (g2 j hj).trans (sU_ne hj), g3⟩
theorem clr (S : SM) : (∀ k, k < 9 → s_X6_clear S 1 k = 0) ∧ ∀ k, k ≤ 6 → s_X6_clear S 18 k = 0 := by
  obtain ⟨S1, g1, g2, g3⟩ := clr_L 9 0 S (mu 0 + 1) (by decide) (by rw [mu_0]; omega) (fun i hi => absurd hi (Nat.not_lt_zero _))
  have e : s_X6_clear S = _ := g1
  rw [e]
  refine ⟨fun k hk => ?_, fun k hk => ?_⟩
  · rw [sF_j _ _ _ (by decide), sF_j _ _ _ (by decide), sF_j _ _ _ (by decide), sF_j _ _ _ (by decide), sF_j _ _ _ (by decide), sF_j _ _ _ (by decide), sF_j _ _ _ (by decide)]
    exact g3 k hk
  · rcases (by omega : k = 0 ∨ k = 1 ∨ k = 2 ∨ k = 3 ∨ k = 4 ∨ k = 5 ∨ k = 6) with rfl | rfl | rfl | rfl | rfl | rfl | rfl <;> simp only [sF, sU_eq, upd_get, Nat.reduceEqDiff, ↓reduceIte]
theorem dp_0 (S : SM) {m : Nat → Int32} (hm : ∀ k, k < 336 → m k = 0) : DP 0 (s_X6_clear S) m := by
  obtain ⟨c1, c18⟩ := clr S
  have z : ∀ k, k ≤ 6 → sU (s_X6_clear S) 0 m 18 k = iN 0 := fun k hk => by
    rw [sU_ne (by decide), c18 k hk]
    rfl
  have zm : ∀ k, k < 336 → m k = iN 0 := hm
  refine ⟨⟨⟨by decide, z 2 (by decide), zm 4 (by decide), fun o ho => absurd ho (Nat.not_lt_zero _)⟩, ⟨by decide, z 3 (by decide), zm 5 (by decide), (zm 7 (by decide)).trans (z 4 (by decide)).symm, fun o ho => absurd ho (Nat.not_lt_zero _)⟩, ⟨0, 0, by decide, by decide, z 6 (by decide), zm 215 (by decide), z 5 (by decide), fun o ho => absurd ho (Nat.not_lt_zero _)⟩, ⟨fun k hk => by rw [sU_eq], fun k hk => ?_, (zm 3 (by decide)).trans (z 0 (by decide)).symm, (zm 6 (by decide)).trans (z 1 (by decide)).symm⟩⟩, ⟨by decide, c18 2 (by decide), fun o ho => absurd ho (Nat.not_lt_zero _)⟩, ⟨by decide, c18 3 (by decide), ⟨0, by decide, c18 4 (by decide)⟩, fun o ho => absurd ho (Nat.not_lt_zero _)⟩, c18 0 (by decide), fun k hk => absurd hk (Nat.not_lt_zero _)⟩
  rw [sU_ne (by decide), c1 k hk]
  exact hm (8 + k) (by omega)
/-- THE SETUP: both read the same, or stop at the same byte -/
theorem p_parse (hT : TF n T E X) (q0 : PS) : PO X (p_X4_parse q0 E) (o_X10_load X) (iN 336) := by
  have h12 := hT.1
  rw [o_load_e]
  unfold p_X4_parse p_X4_parse_L7 p_X4_parse_L14 s_X3_begin
  obtain ⟨Xz, hXz⟩ : ∃ Z, sU X 1 (z0 336 (X 1)) = Z := ⟨_, rfl⟩
  have z8 : Xz 8 = X 8 := by rw [← hXz, sU_ne (by decide)]
  have z1 : ∀ k, k < 336 → Xz 1 k = 0 := fun k hk => by
    rw [← hXz, sU_eq]
    exact if_pos hk
  have zj : ∀ j, j ≠ 1 → Xz j = X j := fun j hj => by rw [← hXz, sU_ne hj]
  rw [hXz]
  obtain ⟨r4, hr4⟩ : ∃ Z, sU (sU (sU Xz 8 (upd (Xz 8) 4 0)) 8 (upd (sU Xz 8 (upd (Xz 8) 4 0) 8) 8 0)) 8 (upd (sU (sU Xz 8 (upd (Xz 8) 4 0)) 8 (upd (sU Xz 8 (upd (Xz 8) 4 0) 8) 8 0) 8) 2 (-2)) = Z := ⟨_, rfl⟩
  have f4 : r4 8 4 = iN 0 := by
    rw [← hr4, sU_eq, upd_ne (by decide), sU_eq, upd_ne (by decide), sU_eq, upd_eq]
    rfl
  have f8 : r4 8 8 = 0 := by rw [← hr4, sU_eq, upd_ne (by decide), sU_eq, upd_eq]
  have f2 : r4 8 2 = -2 := by rw [← hr4, sU_eq, upd_eq]
  have fx : XF X r4 := ⟨fun j a b => by rw [← hr4, sU_ne b, sU_ne b, sU_ne b, zj j a], fun k hk => by rw [← hr4, sU_eq, upd_ne (by omega), sU_eq, upd_ne (by omega), sU_eq, upd_ne (by omega), z8]⟩
  have f1 : r4 1 = Xz 1 := by rw [← hr4, sU_ne (by decide), sU_ne (by decide), sU_ne (by decide)]
  obtain ⟨r5, e0, tk, xs⟩ := q_next (hT.mv fx) (a := 0) (Nat.zero_le _) f4 (c := upd q0.1 1 0) (upd_eq ..)
  have hD0 : DP 0 (s_X6_clear q0.2.2) (r5 1) := dp_0 q0.2.2 (fun k hk => by rw [xs.1 1 (by decide), f1, z1 k hk])
  have G0 : GS n X (s_X3_advance (upd q0.1 1 0) E, q0.2.1, s_X6_clear q0.2.2) r5 := ⟨tk, (xs.2 8 (by decide) (by decide) (by decide) (by decide)).trans f8, (xs.2 2 (by decide) (by decide) (by decide) (by decide)).trans f2, fx.xs xs⟩
  have h0 : o_X10_next (sU (sU (sU Xz 8 (upd (Xz 8) 4 0)) 8 (upd (sU Xz 8 (upd (Xz 8) 4 0) 8) 8 0)) 8 (upd (sU (sU Xz 8 (upd (Xz 8) 4 0)) 8 (upd (sU Xz 8 (upd (Xz 8) 4 0) 8) 8 0) 8) 2 (-2))) = some r5 := by
    rw [hr4]
    exact e0
  show PO X (p_X4_parse_L20 (p_X4_parseRule (s_X3_advance (upd q0.1 1 0) E, q0.2.1, s_X6_clear q0.2.2) E 0 0).2 E (p_X4_parseRule (s_X3_advance (upd q0.1 1 0) E, q0.2.1, s_X6_clear q0.2.2) E 0 0).1) _ _
  obtain ⟨q1, hq1⟩ : ∃ Z, ((s_X3_advance (upd q0.1 1 0) E, q0.2.1, s_X6_clear q0.2.2) : PS) = Z := ⟨_, rfl⟩
  have q12 : q1.2.2 = s_X6_clear q0.2.2 := by rw [← hq1]
  rw [hq1] at G0 ⊢
  rw [← q12] at hD0
  obtain ⟨v1, Xa, b1, xa, hz1⟩ := g_rule hT G0 (w := 0) (by decide)
  have b1' : o_X10_takesRule r5 10415990 20 = some (v1, Xa) := b1
  rcases hz1 with ⟨c1, a1, k1, rfl, l1, u1, G1⟩ | ⟨q', k1, F1⟩
  · have k1' : p_X4_parseRule q1 E 0 0 = _ := k1
    rw [k1']
    have G1' := G1.row (upd (Xa 1) 0 (iN a1)) (iN a1) (sU q1.2.2 0 (upd (q1.2.2 0) 0 (iN a1)))
    have D1 := hD0.step (by decide) l1 u1
    rw [← xa] at D1
    show PO X (p_X4_parse_L20 (c1, iN a1, sU q1.2.2 0 (upd (q1.2.2 0) 0 (iN a1))) E 1) _ _
    unfold p_X4_parse_L20
    rw [if_neg (show ¬ (1 : Int32) = 0 by decide)]
    obtain ⟨q2, hq2⟩ : ∃ Z, ((c1, iN a1, sU q1.2.2 0 (upd (q1.2.2 0) 0 (iN a1))) : PS) = Z := ⟨_, rfl⟩
    have q22 : q2.2.2 = sU q1.2.2 0 (upd (q1.2.2 0) 0 (iN a1)) := by rw [← hq2]
    have G1q : GS n X q2 (sU Xa 1 (upd (Xa 1) 0 (iN a1))) := by
      rw [← hq2]
      exact G1'
    rw [hq2]
    rw [← q22] at D1
    obtain ⟨v2, Xc, b2, xc, hz2⟩ := g_rule hT G1q (w := 1) (by decide)
    have b2' : o_X10_takesRule (sU Xa 1 (upd (Xa 1) 0 (iN a1))) 9454556 99 = some (v2, Xc) := b2
    rw [sU_eq] at xc
    rcases hz2 with ⟨c2, a2, k2, rfl, l2, u2, G2⟩ | ⟨q', k2, F2⟩
    · have k2' : p_X4_parseRule q2 E 1 1 = _ := k2
      rw [k2']
      have G2' := G2.row (upd (Xc 1) 1 (iN a2)) (iN a2) (sU q2.2.2 0 (upd (q2.2.2 0) 1 (iN a2)))
      have D2 := D1.step (by decide) l2 u2
      rw [← xc] at D2
      show PO X (p_X4_parse_L29 (c2, iN a2, sU q2.2.2 0 (upd (q2.2.2 0) 1 (iN a2))) E 1) _ _
      unfold p_X4_parse_L29
      rw [if_neg (show ¬ (1 : Int32) = 0 by decide)]
      obtain ⟨q3, hq3⟩ : ∃ Z, ((c2, iN a2, sU q2.2.2 0 (upd (q2.2.2 0) 1 (iN a2))) : PS) = Z := ⟨_, rfl⟩
      have q32 : q3.2.2 = sU q2.2.2 0 (upd (q2.2.2 0) 1 (iN a2)) := by rw [← hq3]
      have G2q : GS n X q3 (sU Xc 1 (upd (Xc 1) 1 (iN a2))) := by
        rw [← hq3]
        exact G2'
      rw [hq3]
      rw [← q32] at D2
      obtain ⟨v3, Xd, b3, xd, hz3⟩ := g_rule hT G2q (w := 2) (by decide)
      have b3' : o_X10_takesRule (sU Xc 1 (upd (Xc 1) 1 (iN a2))) 9459316 60 = some (v3, Xd) := b3
      rw [sU_eq] at xd
      rw [o_ld_e h0 b1' b2' b3']
      rcases hz3 with ⟨c3, a3, k3, rfl, l3, u3, G3⟩ | ⟨q', k3, F3⟩
      · have k3' : p_X4_parseRule q3 E 2 2 = _ := k3
        rw [k3']
        have G3' := G3.row (upd (Xd 1) 2 (iN a3)) (iN a3) (sU q3.2.2 0 (upd (q3.2.2 0) 2 (iN a3)))
        have D3 := D2.step (by decide) l3 u3
        rw [← xd] at D3
        have hDO : DO 0 (sU q3.2.2 0 (upd (q3.2.2 0) 2 (iN a3))) (upd (Xd 1) 2 (iN a3)) := ⟨D3.end, D3.2.2.2.1⟩
        exact p_semi hT G3' (by rw [sU_eq]; exact hDO)
      · have k3' : p_X4_parseRule q3 E 2 2 = _ := k3
        rw [k3']
        refine ⟨_, f_semi (F3.row (upd (Xd 1) 2 v3)) _, Or.inr ?_⟩
        show FS (p_X4_parse_L38 q' E 0).1 X _
        unfold p_X4_parse_L38
        rw [if_pos rfl, L87_e]
        exact F3.row _
    · have k2' : p_X4_parseRule q2 E 1 1 = _ := k2
      rw [k2']
      have F2' := F2.row (upd (Xc 1) 1 v2)
      rw [o_ld_e h0 b1' b2' (f_rule F2' _ _)]
      refine ⟨_, f_semi (F2'.row (upd (sU Xc 1 (upd (Xc 1) 1 v2) 1) 2 0)) _, Or.inr ?_⟩
      show FS (p_X4_parse_L29 q' E 0).1 X _
      unfold p_X4_parse_L29
      rw [if_pos rfl, L87_e]
      exact F2'.row _
  · have k1' : p_X4_parseRule q1 E 0 0 = _ := k1
    rw [k1']
    have F1' := F1.row (upd (Xa 1) 0 v1)
    have F1'' := F1'.row (upd (sU Xa 1 (upd (Xa 1) 0 v1) 1) 1 0)
    rw [o_ld_e h0 b1' (f_rule F1' _ _) (f_rule F1'' _ _)]
    refine ⟨_, f_semi (F1''.row (upd (sU (sU Xa 1 (upd (Xa 1) 0 v1)) 1 (upd (sU Xa 1 (upd (Xa 1) 0 v1) 1) 1 0) 1) 2 0)) _, Or.inr ?_⟩
    show FS (p_X4_parse_L20 q' E 0).1 X _
    unfold p_X4_parse_L20
    rw [if_pos rfl, L87_e]
    exact F1''.row _
theorem lt1_eq {α β : Type} (x : β) (f : β → α) : lt1 x f = f x := rfl
theorem o_L232 (X : SM) (f : Nat) : ∃ X', o_X10_load_L232 (f + 3) X 0 = some (X 0 4, X') ∧ (∀ j, j ≠ 5 → X' j = X j) ∧ ∀ i, i < 2 → X' 5 i = 0 := by
  rw [o_X10_load_L232, if_pos (show (0 : Int32) < 2 by decide), if_pos (show gin 0 2 = true by decide)]
  simp only [lt1]
  rw [o_X10_load_L232, if_pos (show (0 : Int32) + 1 < 2 by decide), if_pos (show gin (0 + 1) 2 = true by decide)]
  simp only [lt1]
  rw [o_X10_load_L232, if_neg (show ¬ (0 : Int32) + 1 + 1 < 2 by decide), nK4, sU_ne (show (0 : Nat) ≠ 5 by decide), sU_ne (show (0 : Nat) ≠ 5 by decide)]
  refine ⟨_, rfl, fun j hj => by rw [sU_ne hj, sU_ne hj], fun i hi => ?_⟩
  rw [sU_eq, sU_eq]
  rcases (by omega : i = 0 ∨ i = 1) with rfl | rfl <;> rfl
theorem t_load (h : Top B Y X) (hB : 1 ≤ B) : OpR B (p_X9_load Y) (o_X10_load X) := by
  obtain ⟨hG, hH, hS, ⟨n, hn⟩, hE⟩ := h
  obtain ⟨T, hT⟩ := TF.of (show Tp n (Y 2) X from hn)
  obtain ⟨X1, e1, hz⟩ := p_parse hT (Y 4 1, Y 4 0 1, Y 1)
  unfold p_X9_load
  obtain ⟨pr, hpr⟩ : ∃ Z, p_X4_parse (Y 4 1, Y 4 0 1, Y 1) (Y 2) = Z := ⟨_, rfl⟩
  rw [hpr] at hz ⊢
  unfold p_X9_load_L8 p_X9_load_L11
  obtain ⟨Z, hZ⟩ : ∃ Z, yL (yF (yP Y pr.2) 0 pr.1) 2 0 = Z := ⟨_, rfl⟩
  have z1 : Z 1 = pr.2.2.2 := by
    rw [← hZ]
    unfold yL yF yP
    rw [yU_ne (by decide), yU_ne (by decide), yU_ne (by decide), yU_eq]
  have zk : ∀ k, k ≠ 1 → k ≠ 2 → k ≠ 4 → Z k = Y k := fun k a b d => by
    rw [← hZ]
    unfold yL yF yP
    rw [yU_ne b, yU_ne d, yU_ne d, yU_ne a]
  have z2 : Z 2 1 0 = iN 0 := by
    rw [← hZ]
    unfold yL
    rw [yU_eq, sU_eq, upd_eq]
    rfl
  have z40 : Z 4 0 0 = pr.1 := by
    rw [← hZ]
    unfold yL
    rw [yU_ne (by decide), yF_4, upd_eq]
  have z4k : ∀ k, k ≠ 0 → k ≠ 1 → Z 4 0 k = Y 4 0 k := fun k a b => by
    rw [← hZ]
    unfold yL
    rw [yU_ne (by decide), yF_4, upd_ne a]
    unfold yP
    rw [yU_eq, sU_eq, upd_ne b]
  have z42 : Z 4 2 = Y 4 2 := by
    rw [← hZ]
    unfold yL
    rw [yU_ne (by decide), yF_42]
    unfold yP
    rw [yU_eq, sU_ne (by decide), sU_ne (by decide)]
  rw [hZ, e1]
  unfold p_X9_load_L19 o_X10_load_L198
  rw [lt1_eq]
  obtain ⟨X2, hX2⟩ : ∃ Z, sU X1 8 (upd (X1 8) 1 0) = Z := ⟨_, rfl⟩
  have x2j : ∀ j, j ≠ 8 → X2 j = X1 j := fun j hj => by rw [← hX2, sU_ne hj]
  have x2k : ∀ k, k ≠ 1 → X2 8 k = X1 8 k := fun k hk => by rw [← hX2, sU_eq, upd_ne hk]
  have x21 : X2 8 1 = iN 0 := by
    rw [← hX2, sU_eq, upd_eq]
    rfl
  rw [hX2, z40]
  rcases hz with ⟨g1, g2, g3, g4, g5⟩ | F
  · rw [if_pos g1, x2k 8 (by decide), g2, if_pos rfl, x2j 1 (by decide), x2j 0 (by decide), g4.1 0 (by decide) (by decide)]
    have el := lay2 (n := 336) (n0 := 336) (a := 0) (b := 0) (f := X1 1) (g := X 0) (by decide) (by decide) (by decide) (by decide)
    have el' : o_X10_layRow2 336 336 (X1 1) (X 0) 0 0 = _ := el
    rw [el', Option.bind_some, lt1_eq, lt1_eq]
    obtain ⟨X4, hX4⟩ : ∃ Z, sU (sU X2 0 (cpy (X1 1) 0 0 336 (X 0))) 8 (upd (sU X2 0 (cpy (X1 1) 0 0 336 (X 0)) 8) 0 0) = Z := ⟨_, rfl⟩
    have x40 : X4 0 = cpy (X1 1) 0 0 336 (X 0) := by rw [← hX4, sU_ne (by decide), sU_eq]
    have x4j : ∀ j, j ≠ 0 → j ≠ 8 → X4 j = X2 j := fun j a b => by rw [← hX4, sU_ne b, sU_ne a]
    have x480 : X4 8 0 = iN 0 := by
      rw [← hX4, sU_eq, upd_eq]
      rfl
    have x48 : ∀ k, k ≠ 0 → X4 8 k = X2 8 k := fun k a => by rw [← hX4, sU_eq, upd_ne a, sU_ne (by decide)]
    obtain ⟨X5, e5, x5j, x55⟩ := o_L232 X4 3997
    have e5' : o_X10_load_L232 4000 X4 0 = some (X4 0 4, X5) := e5
    rw [hX4, e5']
    obtain ⟨c, tc, hc2, hI, h18⟩ := g5
    have hG' : Good B (pr.2.2.2) (cpy (X1 1) 0 0 336 (X 0)) := ⟨c, tc, hc2, (hI.mono hB).cong (fun k hk => by
      unfold cpy
      rw [if_pos (by omega), Nat.sub_zero, Nat.zero_add]), 0, by decide, h18⟩
    unfold p_X9_load_L44 p_X9_load_L51 p_X9_load_L58
    obtain ⟨V, hV⟩ : ∃ V, s_X0_forget (s_X5_forget (yU Z 0 (Z 1))) = V := ⟨_, rfl⟩
    have v0 : V 0 = pr.2.2.2 := by
      rw [← hV]
      unfold s_X0_forget s_X5_forget
      rw [yF_k _ _ _ (by decide), yU_ne (by decide), yU_ne (by decide), yU_eq, z1]
    have vk : ∀ k, k ≠ 0 → k ≠ 4 → V k = Z k := fun k a b => by
      rw [← hV]
      unfold s_X0_forget s_X5_forget
      rw [yF_k _ _ _ b, yU_ne b, yU_ne b, yU_ne a]
    have v40 : ∀ k, k ≠ 3 → V 4 0 k = Z 4 0 k := fun k a => by
      rw [← hV]
      unfold s_X0_forget s_X5_forget
      rw [yF_4, upd_ne a, yU_eq, sU_ne (by decide), yU_eq, sU_ne (by decide), yU_ne (by decide)]
    have v43 : V 4 0 3 = iN 0 := by
      rw [← hV]
      unfold s_X0_forget
      rw [yF_4, upd_eq]
      rfl
    have v42 : ∀ i, i < 2 → V 4 2 i = 0 := fun i hi => by
      rw [← hV]
      unfold s_X0_forget s_X5_forget
      rw [yF_42, yU_eq, sU_eq, yU_eq, sU_eq]
      rcases (by omega : i = 0 ∨ i = 1) with rfl | rfl <;> rfl
    rw [hV, v0]
    refine ⟨X5, ?_, ?_⟩
    · show some (X4 0 4, X5) = some (pr.2.2.2 18 2, X5)
      rw [x40, hI.ec]
      have e4 : cpy (X1 1) 0 0 336 (X 0) 4 = X1 1 4 := by
        unfold cpy
        rw [if_pos (by omega)]
      rw [e4, hI.mc]
    · show Top B V X5
      refine ⟨by rw [v0, x5j 0 (by decide), x40]; exact hG', ?_, ?_, ?_, ?_⟩
      · obtain ⟨hn', hc', k1, k2, k3, k4, k5, k6⟩ := hH
        refine ⟨hn', 0, k1, by decide, ?_, v43, ?_, fun i hi => absurd hi (Nat.not_lt_zero _)⟩
        · rw [v40 2 (by decide), z4k 2 (by decide) (by decide), k3]
        · rw [x5j 8 (by decide), x480]
      · intro i hi
        rw [v42 i hi, x55 i hi]
        exact ⟨rfl, fun z => absurd rfl z⟩
      · refine ⟨0, by decide, ?_, ?_, fun k hk => absurd hk (Nat.not_lt_zero _)⟩
        · rw [vk 2 (by decide) (by decide), z2]
        · rw [x5j 8 (by decide), x48 1 (by decide), x21]
      · rw [v40 0 (by decide), z40, g1, x5j 8 (by decide), x48 2 (by decide), x2k 2 (by decide), g3]
  · obtain ⟨f1, f2, f3, b, hb, eb⟩ := F
    rw [if_neg (show ¬ pr.1 = -2 by rw [eb]; exact iN_m2 (by omega)), x2k 8 (by decide), f1, if_neg (show ¬ (1 : Int32) = 0 by decide)]
    refine ⟨X2, rfl, ?_⟩
    show Top B Z X2
    refine ⟨?_, ?_, ?_, ?_, ?_⟩
    · rw [zk 0 (by decide) (by decide) (by decide), x2j 0 (by decide), f3.1 0 (by decide) (by decide)]
      exact hG
    · exact hH.fr (fun k a b => zk k (by omega) (by omega) (by omega)) (z4k 2 (by decide) (by decide)) (z4k 3 (by decide) (by decide)) ((x2j 3 (by decide)).trans (f3.1 3 (by decide) (by decide))) ((x2k 0 (by decide)).trans (f3.2 0 (by decide)))
    · exact hS.fr (fun k a b => zk k (by omega) (by omega) (by omega)) z42 ((x2j 4 (by decide)).trans (f3.1 4 (by decide) (by decide))) ((x2j 5 (by decide)).trans (f3.1 5 (by decide) (by decide)))
    · exact ⟨0, by decide, z2, x21, fun k hk => absurd hk (Nat.not_lt_zero _)⟩
    · rw [z40, x2k 2 (by decide), f2]
end LD
