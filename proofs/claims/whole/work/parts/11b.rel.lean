-- PART 11b: more that is read off
section R2
variable {c tc : Nat} {S : SM} {m : Nat → Int32} {X : SM} {Y : RS} {o t i : Nat}
theorem q_openAllL (h : RO c S (X 0)) : ∀ d o n1 n2 x, o + d = c → d < n1 → d < n2 → o_X10_openAll_L4 n1 X x (iN o) = some (v_X2_howManyOpen_L4 n2 S x (iN o)) := by
  have h3 := h.1
  intro d
  induction d with
  | zero =>
    intro k n1 n2 x e h1 h2
    obtain ⟨n1, rfl⟩ := some_succ h1
    obtain ⟨n2, rfl⟩ := some_succ h2
    rw [o_X10_openAll_L4, v_X2_howManyOpen_L4, nK4, h.2.2.1, h.2.1, show k = c by omega, if_neg (iN_nlt (by omega)), if_neg (iN_nlt (by omega))]
  | succ d ih =>
    intro k n1 n2 x e h1 h2
    obtain ⟨n1, rfl⟩ := some_succ h1
    obtain ⟨n2, rfl⟩ := some_succ h2
    have hk : k < 10 := by omega
    rw [o_X10_openAll_L4, v_X2_howManyOpen_L4, nK4, h.2.2.1, h.2.1, if_pos (iN_ylt (by omega) (by omega)), if_pos (iN_ylt (by omega) (by omega)), oA2, if_pos (gO hk (by decide)), nO hk (by decide), at_in (by decide) hk, h.f2 (by omega), iN_s]
    exact ih (k + 1) n1 n2 _ (by omega) (by omega) (by omega)
theorem q_openAll (h : RO c S (X 0)) : o_X10_openAll X = some (v_X2_howManyOpen S) := by
  have h3 := h.1
  exact q_openAllL h c 0 4000 (mu 0 + 1) 0 (by omega) (by omega) (by rw [mu_0]; omega)
theorem q_lengthAllL (h : RO c S (X 0)) : ∀ d o n1 n2 x, o + d = c → d < n1 → d < n2 → o_X10_lengthAll_L4 n1 X x (iN o) = some (v_X2_lengthInAll_L4 n2 S x (iN o)) := by
  have h3 := h.1
  intro d
  induction d with
  | zero =>
    intro k n1 n2 x e h1 h2
    obtain ⟨n1, rfl⟩ := some_succ h1
    obtain ⟨n2, rfl⟩ := some_succ h2
    rw [o_X10_lengthAll_L4, v_X2_lengthInAll_L4, nK4, h.2.2.1, h.2.1, show k = c by omega, if_neg (iN_nlt (by omega)), if_neg (iN_nlt (by omega))]
  | succ d ih =>
    intro k n1 n2 x e h1 h2
    obtain ⟨n1, rfl⟩ := some_succ h1
    obtain ⟨n2, rfl⟩ := some_succ h2
    have hk : k < 10 := by omega
    rw [o_X10_lengthAll_L4, v_X2_lengthInAll_L4, nK4, h.2.2.1, h.2.1, if_pos (iN_ylt (by omega) (by omega)), if_pos (iN_ylt (by omega) (by omega)), q_lengthOf h (by omega), Option.bind_some, iN_s]
    exact ih (k + 1) n1 n2 _ (by omega) (by omega) (by omega)
theorem q_lengthAll (h : RO c S (X 0)) : o_X10_lengthAll X = some (v_X2_lengthInAll S) := by
  have h3 := h.1
  exact q_lengthAllL h c 0 4000 (mu 0 + 1) 0 (by omega) (by omega) (by rw [mu_0]; omega)
theorem q_roundL (h : RO c (Y 0) (X 0)) : ∀ d o n1 n2 x, o + d = c → d < n1 → d < n2 → o_X10_round_L4 n1 X x (iN o) = some (v_X9_round_L4 n2 Y x (iN o)) := by
  have h3 := h.1
  intro d
  induction d with
  | zero =>
    intro k n1 n2 x e h1 h2
    obtain ⟨n1, rfl⟩ := some_succ h1
    obtain ⟨n2, rfl⟩ := some_succ h2
    rw [o_X10_round_L4, v_X9_round_L4, nK4, h.2.2.1, h.2.1, show k = c by omega, if_neg (iN_nlt (by omega)), if_neg (iN_nlt (by omega))]
  | succ d ih =>
    intro k n1 n2 x e h1 h2
    obtain ⟨n1, rfl⟩ := some_succ h1
    obtain ⟨n2, rfl⟩ := some_succ h2
    have hk : k < 10 := by omega
    rw [o_X10_round_L4, v_X9_round_L4, nK4, h.2.2.1, h.2.1, if_pos (iN_ylt (by omega) (by omega)), if_pos (iN_ylt (by omega) (by omega)), oA0, if_pos (gO hk (by decide)), nO hk (by decide), at_in (by decide) hk, h.f0 (by omega), iN_s]
    exact ih (k + 1) n1 n2 _ (by omega) (by omega) (by omega)
theorem q_round (h : RO c (Y 0) (X 0)) : o_X10_round X = some (v_X9_round Y) := by
  have h3 := h.1
  exact q_roundL h c 0 4000 (mu 0 + 1) 0 (by omega) (by omega) (by rw [mu_0]; omega)
theorem q_busiestL (h : RO c (Y 0) (X 0)) : ∀ d o n1 n2 (x : Nat), x < c → o + d = c → d < n1 → d < n2 → o_X10_busiest_L4 n1 X (iN x) (iN o) = some (v_X9_busiest_L4 n2 Y (iN x) (iN o)) := by
  have h3 := h.1
  intro d
  induction d with
  | zero =>
    intro k n1 n2 x hx e h1 h2
    obtain ⟨n1, rfl⟩ := some_succ h1
    obtain ⟨n2, rfl⟩ := some_succ h2
    rw [o_X10_busiest_L4, v_X9_busiest_L4, nK4, h.2.2.1, h.2.1, show k = c by omega, if_neg (iN_nlt (by omega)), if_neg (iN_nlt (by omega))]
  | succ d ih =>
    intro k n1 n2 x hx e h1 h2
    obtain ⟨n1, rfl⟩ := some_succ h1
    obtain ⟨n2, rfl⟩ := some_succ h2
    have hk : k < 10 := by omega
    rw [o_X10_busiest_L4, v_X9_busiest_L4, nK4, h.2.2.1, h.2.1, if_pos (iN_ylt (by omega) (by omega)), if_pos (iN_ylt (by omega) (by omega)), q_lengthOf h (by omega), Option.bind_some, q_lengthOf h hx, Option.bind_some, iN_s]
    by_cases q : v_X2_lengthInQueue (Y 0) (iN x) < v_X2_lengthInQueue (Y 0) (iN k)
    · rw [if_pos q, if_pos q]
      exact ih (k + 1) n1 n2 k (by omega) (by omega) (by omega) (by omega)
    · rw [if_neg q, if_neg q]
      exact ih (k + 1) n1 n2 x hx (by omega) (by omega) (by omega)
theorem q_busiest (h : RO c (Y 0) (X 0)) (hc : 1 ≤ c) : o_X10_busiest X = some (v_X9_busiest Y) := by
  have h3 := h.1
  exact q_busiestL h (c - 1) 1 4000 (mu 1 + 1) 0 (by omega) (by omega) (by omega) (by rw [show mu 1 = 2147483646 from rfl]; omega)
theorem q_isNamedL (h : RO c S m) (x : Int32) : ∀ d o n1 n2, o + d = c → d < n1 → d < n2 → o_X10_isNamed_L2 n1 m x (iN o) = some (v_X2_isNameTaken_L2 n2 S x (iN o)) := by
  have h3 := h.1
  intro d
  induction d with
  | zero =>
    intro k n1 n2 e h1 h2
    obtain ⟨n1, rfl⟩ := some_succ h1
    obtain ⟨n2, rfl⟩ := some_succ h2
    rw [o_X10_isNamed_L2, v_X2_isNameTaken_L2, nK4, h.2.2.1, h.2.1, show k = c by omega, if_neg (iN_nlt (by omega)), if_neg (iN_nlt (by omega))]
  | succ d ih =>
    intro k n1 n2 e h1 h2
    obtain ⟨n1, rfl⟩ := some_succ h1
    obtain ⟨n2, rfl⟩ := some_succ h2
    have hk : k < 10 := by omega
    rw [o_X10_isNamed_L2, v_X2_isNameTaken_L2, nK4, h.2.2.1, h.2.1, if_pos (iN_ylt (by omega) (by omega)), if_pos (iN_ylt (by omega) (by omega)), oA1, if_pos (gO hk (by decide)), nO hk (by decide), at_in (by decide) hk, h.f1 (by omega), iN_s]
    by_cases q : S 3 k = x
    · rw [if_pos q, if_pos q]
    · rw [if_neg q, if_neg q]
      exact ih (k + 1) n1 n2 (by omega) (by omega) (by omega)
theorem q_isNamed (h : RO c S m) (x : Int32) : o_X10_isNamed m x = some (v_X2_isNameTaken S x) := by
  have h3 := h.1
  exact q_isNamedL h x c 0 4000 (mu 0 + 1) (by omega) (by omega) (by rw [mu_0]; omega)
theorem q_lettersToI (h : RO c S (X 0)) (y : Int32) (ho : o < c) {w : Nat} (hw : w ≤ 6) (e7 : S 7 o = iN w) (hq : ∀ i, i < w → (X 0) (pL o i 0) = S 8 (6 * o + i) ∧ (X 0) (pL o i 1) = S 9 (6 * o + i)) (r1 : SM → Int32 → Int32 → Int32 → Option Int32) (r2 : Int32 → Int32 → Int32 → Int32) (hr : ∀ x, r1 X y x (iN o + 1) = some (r2 y x (iN o + 1))) : ∀ d i n1 n2 x, i + d = w → d < n1 → d < n2 → o_X10_lettersTo_L17 r1 n1 X y x (iN o) (iN i) = some (v_X2_lettersTo_L15 r2 n2 S y x (iN o) (iN i)) := by
  have hk := h.lt ho
  intro d
  induction d with
  | zero =>
    intro i n1 n2 x e h1 h2
    obtain ⟨n1, rfl⟩ := some_succ h1
    obtain ⟨n2, rfl⟩ := some_succ h2
    rw [o_X10_lettersTo_L17, v_X2_lettersTo_L15, oA4, if_pos (gO hk (by decide)), nO hk (by decide), at_in (by decide) hk, h.f4 ho, e7, show i = w by omega, if_neg (iN_nlt (by omega)), if_neg (iN_nlt (by omega)), hr]
  | succ d ih =>
    intro i n1 n2 x e h1 h2
    obtain ⟨n1, rfl⟩ := some_succ h1
    obtain ⟨n2, rfl⟩ := some_succ h2
    rw [o_X10_lettersTo_L17, v_X2_lettersTo_L15, oA4, if_pos (gO hk (by decide)), nO hk (by decide), at_in (by decide) hk, h.f4 ho, e7, if_pos (iN_ylt (by omega) (by omega)), if_pos (iN_ylt (by omega) (by omega)), lA0, if_pos (gL hk (by omega) (by decide)), nL' hk (by omega) (by decide), (hq i (by omega)).1, v_toOf hk (by omega), iN_s]
    by_cases q : S 8 (6 * o + i) = y
    · rw [if_pos q, if_pos q]
      exact ih (i + 1) n1 n2 _ (by omega) (by omega) (by omega)
    · rw [if_neg q, if_neg q]
      exact ih (i + 1) n1 n2 _ (by omega) (by omega) (by omega)
theorem q_lettersToL (h : RO c S (X 0)) (y : Int32) : ∀ d o n1 n2 x, o + d = c → d < n1 → d < n2 → o_X10_lettersTo_L4 n1 X y x (iN o) = some (v_X2_lettersTo_L4 n2 S y x (iN o)) := by
  have h3 := h.1
  intro d
  induction d with
  | zero =>
    intro k n1 n2 x e h1 h2
    obtain ⟨n1, rfl⟩ := some_succ h1
    obtain ⟨n2, rfl⟩ := some_succ h2
    rw [o_X10_lettersTo_L4, v_X2_lettersTo_L4, nK4, h.2.2.1, h.2.1, show k = c by omega, if_neg (iN_nlt (by omega)), if_neg (iN_nlt (by omega))]
  | succ d ih =>
    intro k n1 n2 x e h1 h2
    obtain ⟨n1, rfl⟩ := some_succ h1
    obtain ⟨n2, rfl⟩ := some_succ h2
    have ho : k < c := by omega
    rw [o_X10_lettersTo_L4, v_X2_lettersTo_L4, nK4, h.2.2.1, h.2.1, if_pos (iN_ylt (by omega) (by omega)), if_pos (iN_ylt (by omega) (by omega))]
    obtain ⟨w, hw, e7, hq⟩ := h.q ho
    refine q_lettersToI h y ho hw e7 hq _ _ (fun x => ?_) w 0 4000 (mu 0 + 1) x (by omega) (by omega) (by rw [mu_0]; omega)
    rw [iN_s]
    exact ih (k + 1) n1 n2 x (by omega) (by omega) (by omega)
theorem q_lettersTo (h : RO c S (X 0)) (y : Int32) : o_X10_lettersTo X y = some (v_X2_lettersTo S y) := by
  have h3 := h.1
  exact q_lettersToL h y c 0 4000 (mu 0 + 1) 0 (by omega) (by omega) (by rw [mu_0]; omega)
/-- a standing token is one of the tokens -/
theorem v_standL (hs : S 18 3 = iN tc) (h3 : tc ≤ 3) (x : Int32) : ∀ d k n2, k + d = tc → d < n2 → v_X8_standingAt_L2 n2 S x (iN k) = -2 ∧ (∀ t, k ≤ t → t < tc → ¬ (S 12 t = 0 ∧ S 11 t = x)) ∨ ∃ t, k ≤ t ∧ t < tc ∧ v_X8_standingAt_L2 n2 S x (iN k) = iN t ∧ S 12 t = 0 ∧ S 11 t = x ∧ ∀ t', k ≤ t' → t' < t → ¬ (S 12 t' = 0 ∧ S 11 t' = x) := by
  intro d
  induction d with
  | zero =>
    intro k n2 e h2
    obtain ⟨n2, rfl⟩ := some_succ h2
    rw [v_X8_standingAt_L2, hs, show k = tc by omega, if_neg (iN_nlt (by omega))]
    exact Or.inl ⟨rfl, fun t h1 h2 => absurd h2 (by omega)⟩
  | succ d ih =>
    intro k n2 e h2
    obtain ⟨n2, rfl⟩ := some_succ h2
    have hk : k < 3 := by omega
    rw [v_X8_standingAt_L2, hs, if_pos (iN_ylt (by omega) (by omega)), iN_s]
    have e1 : v_X8_isAt S (iN k) x = if S 12 k = 0 ∧ S 11 k = x then 1 else 0 := by
      unfold v_X8_isAt
      rw [at_in (by decide) hk, at_in (by decide) hk]
      by_cases q : S 12 k = 0
      · rw [if_pos q]
        by_cases q2 : S 11 k = x
        · rw [if_pos q2, if_pos ⟨q, q2⟩]
        · rw [if_neg q2, if_neg (fun z => q2 z.2)]
      · rw [if_neg q, if_neg (fun z => q z.1)]
    rw [e1]
    by_cases q : S 12 k = 0 ∧ S 11 k = x
    · rw [if_pos q, if_neg (by decide)]
      exact Or.inr ⟨k, Nat.le_refl _, by omega, rfl, q.1, q.2, fun t' h1 h2 => absurd h1 (by omega)⟩
    · rw [if_neg q, if_pos rfl]
      rcases ih (k + 1) n2 (by omega) (by omega) with ⟨z1, z2⟩ | ⟨t, z1, z2, z3, z4, z5, z6⟩
      · refine Or.inl ⟨z1, fun t h1 h2 => ?_⟩
        by_cases e : t = k
        · rw [e]
          exact q
        · exact z2 t (by omega) h2
      · refine Or.inr ⟨t, by omega, z2, z3, z4, z5, fun t' h1 h2 => ?_⟩
        by_cases e : t' = k
        · rw [e]
          exact q
        · exact z6 t' (by omega) h2
theorem v_stand (hs : S 18 3 = iN tc) (h3 : tc ≤ 3) (x : Int32) : v_X8_standingAt S x = -2 ∧ (∀ t, t < tc → ¬ (S 12 t = 0 ∧ S 11 t = x)) ∨ ∃ t, t < tc ∧ v_X8_standingAt S x = iN t ∧ S 12 t = 0 ∧ S 11 t = x ∧ ∀ t', t' < t → ¬ (S 12 t' = 0 ∧ S 11 t' = x) := by
  rcases v_standL hs h3 x tc 0 (mu 0 + 1) (by omega) (by rw [mu_0]; omega) with ⟨z1, z2⟩ | ⟨t, z1, z2, z3, z4, z5, z6⟩
  · exact Or.inl ⟨z1, fun t h => z2 t (by omega) h⟩
  · exact Or.inr ⟨t, z2, z3, z4, z5, fun t' h => z6 t' (by omega) h⟩
theorem at_m2 {n : Nat} {g : Nat → Int32} : at_ n g (-2) = 0 := if_pos m2_neg
theorem q_leftAt (h : RT tc S (X 0)) (x : Int32) : o_X10_leftAt X x = some (v_X8_leftAt S x) := by
  unfold o_X10_leftAt v_X8_leftAt
  rw [q_tokenOn h, Option.bind_some]
  rcases v_stand h.2.1 h.1 x with ⟨z1, -⟩ | ⟨t, z1, z2, -⟩
  · rw [z1, if_pos m2_neg, at_m2]
  · have h1 := h.lt z1
    rw [z2, if_neg (iN_neg (by omega)), tA4, if_pos (gT' h1 (by decide)), nT h1 (by decide), h.f4 z1, at_in (by decide) h1]
end R2
