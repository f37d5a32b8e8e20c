-- PART 72: what is read from a setup text is what it was written from
section RL_
variable {M N X : NM} {T : List Nat} {Y Z : RS} {B c v i n o d : Nat} {os ls : List (Nat × Nat × Nat)} {t : Option Nat} {a b q : Nat}
theorem lasN_app : ∀ (l1 l2 : List (Nat × Nat × Nat)) (M : NM), lasN M (l1 ++ l2) = lasN (lasN M l1) l2 := by
  intro l1
  induction l1 with
  | nil => intro l2 M; rfl
  | cons x xs ih => intro l2 M; exact ih l2 _
/-- one queue -/
theorem las_row : ∀ d i (M : NM), M 7 o = i → lasN M (leF X o d i) 7 o = i + d ∧ (∀ j, j ≠ o → lasN M (leF X o d i) 7 j = M 7 j) ∧ (∀ k, i ≤ k → k < i + d → lasN M (leF X o d i) 8 (6 * o + k) = X 8 (6 * o + k) ∧ lasN M (leF X o d i) 9 (6 * o + k) = X 9 (6 * o + k)) ∧ ∀ k, k < 6 * o + i ∨ 6 * o + i + d ≤ k → lasN M (leF X o d i) 8 k = M 8 k ∧ lasN M (leF X o d i) 9 k = M 9 k := by
  intro d
  induction d with
  | zero => intro i M h; exact ⟨h, fun _ _ => rfl, fun k h1 h2 => absurd h1 (by omega), fun _ _ => ⟨rfl, rfl⟩⟩
  | succ d ih =>
    intro i M h
    have h7 : adL M o (X 8 (6 * o + i)) (X 9 (6 * o + i)) 7 o = i + 1 := by rw [adL_7, if_pos rfl, h]
    obtain ⟨r1, r2, r3, r4⟩ := ih (i + 1) (adL M o (X 8 (6 * o + i)) (X 9 (6 * o + i))) h7
    rw [leF, lasN]
    refine ⟨by rw [r1]; omega, fun j hj => by rw [r2 j hj, adL_7, if_neg hj], fun k k1 k2 => ?_, fun k hk => ?_⟩
    · by_cases z : k = i
      · obtain ⟨e8, e9⟩ := r4 (6 * o + k) (by omega)
        rw [e8, e9, adL_8, adL_9, if_pos (by rw [h, z]), if_pos (by rw [h, z]), z]
        exact ⟨rfl, rfl⟩
      · exact r3 k (by omega) (by omega)
    · obtain ⟨e8, e9⟩ := r4 k (by omega)
      rw [e8, e9, adL_8, adL_9, if_neg (by omega), if_neg (by omega)]
      exact ⟨rfl, rfl⟩
theorem las_all (h6 : ∀ o, o < n → X 7 o ≤ 6) : ∀ d o (M : NM), o + d = n → (∀ j, o ≤ j → j < n → M 7 j = 0) → (∀ j, o ≤ j → j < n → lasN M (lsF X d o) 7 j = X 7 j ∧ ∀ k, k < X 7 j → lasN M (lsF X d o) 8 (6 * j + k) = X 8 (6 * j + k) ∧ lasN M (lsF X d o) 9 (6 * j + k) = X 9 (6 * j + k)) ∧ (∀ j, j < o → lasN M (lsF X d o) 7 j = M 7 j) ∧ ∀ k, k < 6 * o → lasN M (lsF X d o) 8 k = M 8 k ∧ lasN M (lsF X d o) 9 k = M 9 k := by
  intro d
  induction d with
  | zero => intro o M e _; exact ⟨fun j h1 h2 => absurd h1 (by omega), fun _ _ => rfl, fun _ _ => ⟨rfl, rfl⟩⟩
  | succ d ih =>
    intro o M e hz
    obtain ⟨r1, r2, r3, r4⟩ := las_row (o := o) (X := X) (X 7 o) 0 M (hz o (Nat.le_refl _) (by omega))
    have h6o := h6 o (by omega)
    rw [lsF, lasN_app]
    generalize lasN M (leF X o (X 7 o) 0) = L at r1 r2 r3 r4
    obtain ⟨q1, q2, q3⟩ := ih (o + 1) L (by omega) (fun j h1 h2 => by rw [r2 j (by omega)]; exact hz j (by omega) h2)
    refine ⟨fun j h1 h2 => ?_, fun j hj => by rw [q2 j (by omega), r2 j (by omega)], fun k hk => ?_⟩
    · by_cases z : j = o
      · subst z
        refine ⟨by rw [q2 j (by omega), r1]; omega, fun k hk => ?_⟩
        obtain ⟨e8, e9⟩ := q3 (6 * j + k) (by omega)
        rw [e8, e9]
        exact r3 k (by omega) (by omega)
      · exact q1 j (by omega) h2
    · obtain ⟨e8, e9⟩ := q3 k (by omega)
      rw [e8, e9]
      exact r4 k (by omega)
theorem leF_V (ho : o < c) (hq : ∀ k, k < X 7 o → X 8 (6 * o + k) < c ∧ X 8 (6 * o + k) ≠ o ∧ 1 ≤ X 9 (6 * o + k) ∧ X 9 (6 * o + k) ≤ 9) (h6 : X 7 o ≤ 6) : ∀ d i (cnt : Nat → Nat), i + d = X 7 o → cnt o = i → LVd c cnt (leF X o d i) ∧ ∀ j, j ≠ o → cntA cnt (leF X o d i) j = cnt j := by
  intro d
  induction d with
  | zero => intro i cnt _ _; exact ⟨trivial, fun _ _ => rfl⟩
  | succ d ih =>
    intro i cnt e hc
    obtain ⟨q1, q2, q3, q4⟩ := hq i (by omega)
    obtain ⟨r1, r2⟩ := ih (i + 1) (fun j => if j = o then cnt j + 1 else cnt j) (by omega) (by show (if o = o then cnt o + 1 else cnt o) = i + 1; rw [if_pos rfl, hc])
    refine ⟨⟨ho, q1, q2, q3, q4, by show cnt o < 6; omega, r1⟩, fun j hj => ?_⟩
    rw [leF, cntA]
    refine (r2 j hj).trans ?_
    show (if j = o then cnt j + 1 else cnt j) = cnt j
    rw [if_neg hj]
theorem lsF_V (hO : OI X) : ∀ d o (cnt : Nat → Nat), o + d = X 18 2 → (∀ j, o ≤ j → cnt j = 0) → LVd (X 18 2) cnt (lsF X d o) := by
  intro d
  induction d with
  | zero => intro o cnt _ _; exact trivial
  | succ d ih =>
    intro o cnt e hc
    obtain ⟨-, -, -, -, -, p6, p7⟩ := hO.2.2.1 o (by omega)
    obtain ⟨r1, r2⟩ := leF_V (c := X 18 2) (by omega) p7 p6 (X 7 o) 0 cnt (by omega) (hc o (Nat.le_refl _))
    exact LVd_app _ _ _ r1 (ih (o + 1) _ (by omega) (fun j hj => by rw [r2 j (by omega)]; exact hc j (by omega)))
theorem osF_V (hO : OI X) : OVd (osF X (X 18 2) 0) := by
  refine ⟨fun o ho => ?_, ?_⟩
  · obtain ⟨j, -, j2, rfl⟩ := osF_mem _ _ _ ho
    obtain ⟨p1, p2, p3, p4, p5, -⟩ := hO.2.2.1 j (by omega)
    exact ⟨p1, p2, p3, p4, p5⟩
  · have g : ∀ d i, i + d = X 18 2 → (osF X d i).Pairwise (fun a b => a.2.1 ≠ b.2.1) := by
      intro d
      induction d with
      | zero => intro i _; exact List.Pairwise.nil
      | succ d ih =>
        intro i e
        rw [osF]
        refine List.pairwise_cons.mpr ⟨fun y hy => ?_, ih (i + 1) (by omega)⟩
        obtain ⟨j, j1, j2, rfl⟩ := osF_mem _ _ _ hy
        exact hO.2.2.2 i j (by omega) (by omega)
    exact g (X 18 2) 0 (by omega)
theorem txN_rnd (X : NM) : rnd (X 0 0) (X 0 1) (X 0 2) (osF X (X 18 2) 0) (lsF X (X 18 2) 0) (tOf X) = txN X := rnd_w
/-- M says the same as X -/
def SAY (X M : NM) : Prop := M 18 2 = X 18 2 ∧ (∀ k, k < 3 → M 0 k = X 0 k) ∧ (∀ o, o < X 18 2 → M 2 o = X 2 o ∧ M 3 o = X 3 o ∧ M 4 o = X 4 o ∧ M 7 o = X 7 o ∧ ∀ k, k < X 7 o → M 8 (6 * o + k) = X 8 (6 * o + k) ∧ M 9 (6 * o + k) = X 9 (6 * o + k)) ∧ tOf M = tOf X
theorem bld_say (hO : OI X) (M : NM) : SAY X (bldN M (X 0 0) (X 0 1) (X 0 2) (osF X (X 18 2) 0) (lsF X (X 18 2) 0) (tOf X)) := by
  have hl : (osF X (X 18 2) 0).length = X 18 2 := osF_len _ _
  have h10 := hO.2.1
  -- without the token
  have e7 : ∀ j, 0 ≤ j → j < X 18 2 → oasN (ruN (clN M) (X 0 0) (X 0 1) (X 0 2)) (osF X (X 18 2) 0) 7 j = 0 := fun j _ hj => (ob_at M (osF_get (M := X) (X 18 2) 0 j hj)).2.2.2.2.2
  obtain ⟨l1, -, -⟩ := las_all (X := X) (fun o ho => (hO.2.2.1 o ho).2.2.2.2.2.1) (X 18 2) 0 _ (by omega) e7
  have c1 : ∀ o, o < X 18 2 → ∀ j, 2 ≤ j → j ≤ 4 → lasN (oasN (ruN (clN M) (X 0 0) (X 0 1) (X 0 2)) (osF X (X 18 2) 0)) (lsF X (X 18 2) 0) j o = X j o := fun o ho j j2 j4 => by
    rw [lasN_j _ _ j o (by omega) (by omega) (by omega) (by omega)]
    obtain ⟨x2, x3, x4, -⟩ := ob_at (a := X 0 0) (b := X 0 1) (q := X 0 2) M (osF_get (M := X) (X 18 2) 0 o ho)
    rw [Nat.zero_add] at x2 x3 x4
    rcases (by omega : j = 2 ∨ j = 3 ∨ j = 4) with rfl | rfl | rfl
    · exact x2
    · exact x3
    · exact x4
  have c0 : ∀ k, k < 3 → lasN (oasN (ruN (clN M) (X 0 0) (X 0 1) (X 0 2)) (osF X (X 18 2) 0)) (lsF X (X 18 2) 0) 0 k = X 0 k := fun k hk => by
    rw [lasN_j _ _ 0 k (by decide) (by decide) (by decide) (by decide), ob_0]
    obtain ⟨q0, q1, q2⟩ := ru_0 (a := X 0 0) (b := X 0 1) (q := X 0 2) (clN M)
    rcases (by omega : k = 0 ∨ k = 1 ∨ k = 2) with rfl | rfl | rfl
    · exact q0
    · exact q1
    · exact q2
  have cc := lb_c (a := X 0 0) (b := X 0 1) (q := X 0 2) (os := osF X (X 18 2) 0) (ls := lsF X (X 18 2) 0) M
  have c3 := lb_3 (a := X 0 0) (b := X 0 1) (q := X 0 2) (os := osF X (X 18 2) 0) (ls := lsF X (X 18 2) 0) M
  rw [hl] at cc
  unfold bldN
  generalize lasN (oasN (ruN (clN M) (X 0 0) (X 0 1) (X 0 2)) (osF X (X 18 2) 0)) (lsF X (X 18 2) 0) = L at *
  have say : ∀ t, (tOf X = t) → SAY X (toaN L t) := by
    intro t ht
    cases t with
    | none =>
      refine ⟨cc, c0, fun o ho => ⟨c1 o ho 2 (by decide) (by decide), c1 o ho 3 (by decide) (by decide), c1 o ho 4 (by decide) (by decide), (l1 o (Nat.zero_le _) ho).1, (l1 o (Nat.zero_le _) ho).2⟩, ?_⟩
      rw [ht]
      show (fsN L (L 18 3)).map (L 11) = none
      rw [c3]
      rfl
    | some x =>
      refine ⟨cc, c0, fun o ho => ⟨c1 o ho 2 (by decide) (by decide), c1 o ho 3 (by decide) (by decide), c1 o ho 4 (by decide) (by decide), (l1 o (Nat.zero_le _) ho).1, (l1 o (Nat.zero_le _) ho).2⟩, ?_⟩
      rw [ht]
      have a3 : adN L x 18 3 = 0 + 1 := by
        show L 18 3 + 1 = 0 + 1
        rw [c3]
      have a12 : adN L x 12 0 = 0 := by
        unfold adN
        rw [c3]
        rfl
      have a11 : adN L x 11 0 = x := by
        unfold adN
        rw [c3]
        rfl
      show (fsN (adN L x) (adN L x 18 3)).map (adN L x 11) = some x
      rw [a3, fsN]
      have f0 : fsN (adN L x) 0 = none := rfl
      rw [f0]
      simp only
      rw [if_pos a12]
      show some (adN L x 11 0) = some x
      rw [a11]
  exact say _ rfl
theorem tOf_V (hI : Inv B X) : TVd (osF X (X 18 2) 0) (tOf X) := by
  intro x hx
  unfold tOf at hx
  rcases opt_ways (fsN X (X 18 3)) with e | ⟨t, e⟩
  · rw [e] at hx
    cases hx
  · rw [e] at hx
    cases hx
    obtain ⟨h1, h2⟩ := fsN_some _ e
    obtain ⟨a1, a2, a3, a4, a5, a6, a7, a8, a9⟩ := hI.2.1.2.2.1 t h1
    rw [osF_len]
    exact ⟨a3, _, osF_get _ _ _ a3, by rw [Nat.zero_add]; exact a8 h2⟩
theorem IR_V (hR : IR X) : RVd (X 0 0) (X 0 1) (X 0 2) := by
  obtain ⟨a, b, c, d, e, f⟩ := hR
  exact ⟨⟨a, b⟩, ⟨c, d⟩, ⟨e, f⟩⟩
/-- any such text can be read -/
theorem v_loadR (hRT : RT T) (hS : St B Y M) (hk : ∀ k, k ≠ 2 → Z k = Y k) (hE : TPE T (Z 2)) : ∃ n Z' M', p_X9_load Z = (iN n, Z') ∧ n ≤ 10 ∧ St 1 Z' M' ∧ p_X9_undo Z' = (-1, Z') ∧ Z' 4 0 0 = -2 := by
  obtain ⟨a, b, q, os, ls, t, e, hR, hO, h2, h10, hV, h60, ht, -, -⟩ := hRT
  obtain ⟨M1, hM1⟩ := LL.any (Z 1)
  rw [e] at hE
  obtain ⟨p2, hp, hL⟩ := pr_all (p := (Z 4 1, Z 4 0 1, Z 1)) hE hR hO h2 h10 hV h60 ht hM1
  obtain ⟨hn, hc, g1, g2, g3, -⟩ := hS.2.2.1
  obtain ⟨Z', z1, z2, z3, z4⟩ := v_load hp hL (bld_inv M1 hR hO h2 h10 hV ht) ⟨hn, g1, by rw [hk 4 (by decide)]; exact g3⟩
  refine ⟨_, Z', _, z1, ?_, z2, z3, z4⟩
  rw [bld_c]
  exact h10
/-- the setup text read again -/
theorem v_loadS {M0 : NM} {B0 : Nat} (hI : Inv B X) (hS : St B0 Y M0) (hk : ∀ k, k ≠ 2 → Z k = Y k) (hE : TPE (txN X) (Z 2)) : ∃ Z' M', p_X9_load Z = (iN (X 18 2), Z') ∧ St 1 Z' M' ∧ SAY X M' := by
  have hO := hI.1
  obtain ⟨M1, hM1⟩ := LL.any (Z 1)
  rw [← txN_rnd] at hE
  have hl : (osF X (X 18 2) 0).length = X 18 2 := osF_len _ _
  have hV : LVd (osF X (X 18 2) 0).length (fun _ => 0) (lsF X (X 18 2) 0) := by
    rw [hl]
    exact lsF_V hO (X 18 2) 0 _ (by omega) (fun _ _ => rfl)
  have h60 : (lsF X (X 18 2) 0).length ≤ 60 := by
    have h1 := lsF_len (M := X) (n := X 18 2) (fun o ho => (hO.2.2.1 o ho).2.2.2.2.2.1) (X 18 2) 0 (by omega)
    have h2 := hO.2.1
    omega
  obtain ⟨p2, hp, hL⟩ := pr_all (p := (Z 4 1, Z 4 0 1, Z 1)) hE (IR_V hI.2.2.2.2.2) (osF_V hO) (by rw [hl]; exact hO.1) (by rw [hl]; exact hO.2.1) hV h60 (tOf_V hI) hM1
  obtain ⟨hn, hc, g1, g2, g3, -⟩ := hS.2.2.1
  obtain ⟨Z', z1, z2, z3, z4⟩ := v_load hp hL (bld_inv M1 (IR_V hI.2.2.2.2.2) (osF_V hO) (by rw [hl]; exact hO.1) (by rw [hl]; exact hO.2.1) hV (tOf_V hI)) ⟨hn, g1, by rw [hk 4 (by decide)]; exact g3⟩
  refine ⟨Z', _, ?_, z2, bld_say hO M1⟩
  rw [z1, bld_c, hl]
theorem osF_congr (h : ∀ o, o < n → N 2 o = X 2 o ∧ N 3 o = X 3 o ∧ N 4 o = X 4 o) : ∀ d i, i + d = n → osF N d i = osF X d i := by
  intro d
  induction d with
  | zero => intro i _; rfl
  | succ d ih =>
    intro i e
    obtain ⟨a, b, c⟩ := h i (by omega)
    rw [osF, osF, ih (i + 1) (by omega), a, b, c]
theorem leF_congr (h : ∀ k, k < n → N 8 (6 * o + k) = X 8 (6 * o + k) ∧ N 9 (6 * o + k) = X 9 (6 * o + k)) : ∀ d i, i + d = n → leF N o d i = leF X o d i := by
  intro d
  induction d with
  | zero => intro i _; rfl
  | succ d ih =>
    intro i e
    obtain ⟨a, b⟩ := h i (by omega)
    rw [leF, leF, ih (i + 1) (by omega), a, b]
theorem lsF_congr (h : ∀ o, o < n → N 7 o = X 7 o ∧ ∀ k, k < X 7 o → N 8 (6 * o + k) = X 8 (6 * o + k) ∧ N 9 (6 * o + k) = X 9 (6 * o + k)) : ∀ d o, o + d = n → lsF N d o = lsF X d o := by
  intro d
  induction d with
  | zero => intro i _; rfl
  | succ d ih =>
    intro o e
    obtain ⟨a, b⟩ := h o (by omega)
    rw [lsF, lsF, ih (o + 1) (by omega), a, leF_congr b (X 7 o) 0 (by omega)]
theorem SAY.text (h : SAY X M) : txN M = txN X := by
  obtain ⟨h1, h2, h3, h4⟩ := h
  unfold txN
  rw [h1, h2 0 (by decide), h2 1 (by decide), h2 2 (by decide), h4, osF_congr (fun o ho => ⟨(h3 o ho).1, (h3 o ho).2.1, (h3 o ho).2.2.1⟩) (X 18 2) 0 (by omega), lsF_congr (fun o ho => (h3 o ho).2.2.2) (X 18 2) 0 (by omega)]
theorem SAY.win (h : SAY X M) : winN M (X 18 2) = winN X (X 18 2) := by
  obtain ⟨h1, h2, h3, h4⟩ := h
  have g : ∀ k, k ≤ X 18 2 → winN M k = winN X k := by
    intro k
    induction k with
    | zero => intro _; rfl
    | succ k ih =>
      intro hk
      obtain ⟨a, b, c, -⟩ := h3 k (by omega)
      rw [winN, winN, ih (by omega), b, c]
      cases hs : winN X k with
      | none => rfl
      | some p =>
        have hp := (winN_some _ hs).1
        simp only
        rw [(h3 p (by omega)).2.1]
  exact g _ (Nat.le_refl _)
theorem SAY.sums (h : SAY X M) : nsum (M 7) (X 18 2) = nsum (X 7) (X 18 2) ∧ nsum (lenQ M) (X 18 2) = nsum (lenQ X) (X 18 2) ∧ nsum (M 2) (X 18 2) = nsum (X 2) (X 18 2) := by
  obtain ⟨h1, h2, h3, h4⟩ := h
  refine ⟨nsum_congr _ (fun o ho => (h3 o ho).2.2.2.1), nsum_congr _ (fun o ho => ?_), nsum_congr _ (fun o ho => (h3 o ho).1)⟩
  unfold lenQ
  rw [(h3 o ho).2.2.2.1]
  exact nsum_congr _ (fun k hk => ((h3 o ho).2.2.2.2 k hk).2)
end RL_
