-- PART 64: the letters, the token, the whole text
section PC
variable {T R : List Nat} {E : SM} {q : PS} {S : SM} {M : NM} {c : Nat → Int32} {k v w x n z : Nat}
theorem nx_let (hT : TPE T E) (t : Option Nat) (ls : List (Nat × Nat × Nat)) (ht : ∀ a, t = some a → a < 100) (h : Sx T c 8 0 (lesR ls (toR t))) : ∃ k v R2, Sx T (s_X3_advance c E) k v R2 ∧ k ≤ 10 ∧ k ≠ 3 ∧ (ls = [] → k ≠ 5) := by
  cases ls with
  | nil =>
    cases t with
    | none => exact ⟨9, 0, [], h.end_ hT, by decide, by decide, fun _ => by decide⟩
    | some a =>
      have h : Sx T c 8 0 ([] ++ (stx 6 ++ ([32] ++ (dcN a ++ [59])))) := h
      exact ⟨6, 0, _, h.word hT (Or.inl rfl) (by decide) (nb_32 s32.1 _), by decide, by decide, fun _ => by decide⟩
  | cons x xs =>
    have h : Sx T c 8 0 ([] ++ (stx 5 ++ ([32] ++ (dcN x.1 ++ ([32] ++ (dcN x.2.1 ++ ([32] ++ (dcN x.2.2 ++ (59 :: lesR xs (toR t)))))))))) := h
    exact ⟨5, 0, _, h.word hT (Or.inl rfl) (by decide) (nb_32 s32.1 _), by decide, by decide, fun y => by cases y⟩
theorem pr_lets (hT : TPE T E) (t : Option Nat) (ht : ∀ a, t = some a → a < 100) (n : Nat) (hn2 : 2 ≤ n) (hn : n ≤ 10) : ∀ (ls : List (Nat × Nat × Nat)) (i : Nat) (q : PS) (M : NM) (cnt : Nat → Nat) (f : Nat), PD T E q (lesR ls (toR t)) → LL q.2.2 M → M 18 2 = n → (∀ j, j < n → M 7 j = cnt j) → LVd n cnt ls → i + ls.length ≤ 60 → ls.length < f → ∃ q2, p_X4_parseLetters_L15 f q E (iN (n - 1)) (iN i) = (1, q2) ∧ PD T E q2 (toR t) ∧ LL q2.2.2 (lasN M ls) := by
  intro ls
  induction ls with
  | nil =>
    intro i q M cnt f hP hL hc hcnt hV h60 hf
    obtain ⟨f, rfl⟩ := some_succ hf
    refine ⟨q, ?_, hP, hL⟩
    rw [p_X4_parseLetters_L15, if_neg (show ¬ 60 < iN i from iN_nlt' (a := 60) (by simpa using h60) (by decide))]
    obtain ⟨c, e, hc8⟩ := hP
    obtain ⟨k, v, R2, hk, hk10, -, hk5⟩ := nx_let hT t [] ht hc8
    rw [← e] at hk
    have ht : p_X4_take q E 5 = (0, q) := tk_n (n := 5) hk hk10 (by decide) (hk5 rfl)
    rw [ht]
    unfold p_X4_parseLetters_L26
    rw [if_pos rfl]
  | cons x xs ih =>
    intro i q M cnt f hP hL hc hcnt hV h60 hf
    obtain ⟨f, rfl⟩ := some_succ hf
    have hl : (x :: xs).length = xs.length + 1 := rfl
    obtain ⟨v1, v2, v3, v4, v5, v6, v7⟩ := hV
    obtain ⟨c, e, hc8⟩ := hP
    have hc8 : Sx T c 8 0 ([] ++ (stx 5 ++ ([32] ++ (dcN x.1 ++ ([32] ++ (dcN x.2.1 ++ ([32] ++ (dcN x.2.2 ++ (59 :: lesR xs (toR t)))))))))) := hc8
    have a1 := hc8.word hT (Or.inl rfl) (by decide) (nb_32 s32.1 _)
    rw [← e] at a1
    have a2 := a1.num hT (Or.inr rfl) (by omega) (nb_32 s32.2.1 _)
    have a3 := a2.num hT (Or.inr rfl) (by omega) (nb_32 s32.2.1 _)
    have a4 := a3.num hT (Or.inr rfl) (by omega) (nb_59 s32.2.2.2 _)
    have a5 := a4.semi hT
    have h7 : M 7 x.1 < 6 := by rw [hcnt x.1 v1]; exact v6
    have hL2 := hL.letter (p := x.2.1) (k := x.2.2) (show x.1 < 10 by omega) h7
    have hc2 : adL M x.1 x.2.1 x.2.2 18 2 = n := by rw [adL_j (by decide) (by decide) (by decide) (by decide)]; exact hc
    obtain ⟨q2, z1, z2, z3⟩ := ih (i + 1) (s_X3_advance (s_X3_advance (s_X3_advance (s_X3_advance (s_X3_advance q.1 E) E) E) E) E, iN x.2.2, _) (adL M x.1 x.2.1 x.2.2) (fun i => if i = x.1 then cnt i + 1 else cnt i) f ⟨_, rfl, a5⟩ hL2 hc2 (fun j hj => by
      rw [adL_7]
      by_cases y : j = x.1
      · rw [if_pos y]
        show _ = if j = x.1 then cnt j + 1 else cnt j
        rw [if_pos y, y, hcnt _ v1]
      · rw [if_neg y]
        show _ = if j = x.1 then cnt j + 1 else cnt j
        rw [if_neg y]
        exact hcnt j hj) v7 (by omega) (by omega)
    refine ⟨q2, ?_, z2, z3⟩
    rw [p_X4_parseLetters_L15, if_neg (show ¬ 60 < iN i from iN_nlt' (a := 60) (by omega) (by decide))]
    have t5 : p_X4_take q E 5 = (1, _) := tk_y (k := 5) a1
    rw [t5]
    unfold p_X4_parseLetters_L26
    rw [if_neg (show ¬ (1 : Int32) = 0 by decide)]
    have h6 : at_ 10 (q.2.2 7) ((s_X3_advance q.1 E) 3) < 6 := by
      rw [a2.k3, at_in (by decide) (show x.1 < 10 by omega), hL.a (by decide)]
      exact iN_ylt' (b := 6) h7 (by decide)
    rw [if_pos h6]
    have tf : p_X4_takeNumber (s_X3_advance q.1 E, q.2.1, q.2.2) E 0 (iN (n - 1)) = (1, _) := tkn_y (lo := 0) (hi := n - 1) a2 (Nat.zero_le _) (by omega) (by omega)
    rw [tf]
    unfold p_X4_parseLetters_L62
    rw [if_neg (show ¬ (1 : Int32) = 0 by decide)]
    have hne : ¬ (s_X3_advance (s_X3_advance q.1 E) E) 3 = iN x.1 := by
      rw [a3.k3]
      exact iN_ne' v3 (by omega) (by omega)
    rw [if_neg hne]
    have tt : p_X4_takeNumber (s_X3_advance (s_X3_advance q.1 E) E, iN x.1, q.2.2) E 0 (iN (n - 1)) = (1, _) := tkn_y (lo := 0) (hi := n - 1) a3 (Nat.zero_le _) (by omega) (by omega)
    rw [tt]
    unfold p_X4_parseLetters_L89
    rw [if_neg (show ¬ (1 : Int32) = 0 by decide)]
    have tl : p_X4_takeNumber (s_X3_advance (s_X3_advance (s_X3_advance q.1 E) E) E, iN x.2.1, q.2.2) E 1 9 = (1, _) := tkn_y (lo := 1) (hi := 9) a4 v4 v5 (by decide)
    rw [tl]
    unfold p_X4_parseLetters_L107
    rw [if_neg (show ¬ (1 : Int32) = 0 by decide)]
    have t8 : p_X4_take (s_X3_advance (s_X3_advance (s_X3_advance (s_X3_advance q.1 E) E) E) E, iN x.2.2, q.2.2) E 8 = (1, _) := tk_y (k := 8) a5
    rw [t8]
    unfold p_X4_parseLetters_L116
    rw [if_neg (show ¬ (1 : Int32) = 0 by decide)]
    unfold p_X4_parseLetters_L138
    rw [iN_s]
    exact z1
theorem pr_tok (hT : TPE T E) (t : Option Nat) (hP : PD T E q (toR t)) (hL : LL q.2.2 M) (hn : M 18 2 ≤ 10) (h3 : M 18 3 = 0) (ht : ∀ a, t = some a → a < M 18 2 ∧ M 4 a = 1) : ∃ q2, p_X4_parseToken q E = (1, q2) ∧ q2.1 2 = 9 ∧ LL q2.2.2 (toaN M t) := by
  obtain ⟨c, e, hc8⟩ := hP
  unfold p_X4_parseToken
  cases t with
  | none =>
    have a1 := hc8.end_ hT
    rw [← e] at a1
    have t6 : p_X4_take q E 6 = (0, q) := tk_n (n := 6) a1 (by decide) (by decide) (by decide)
    rw [t6]
    unfold p_X4_parseToken_L6
    rw [if_pos rfl]
    exact ⟨q, rfl, a1.kk, hL⟩
  | some a =>
    obtain ⟨ha, h4⟩ := ht a rfl
    have hc8 : Sx T c 8 0 ([] ++ (stx 6 ++ ([32] ++ (dcN a ++ [59])))) := hc8
    have a1 := hc8.word hT (Or.inl rfl) (by decide) (nb_32 s32.1 _)
    rw [← e] at a1
    have a2 := a1.num hT (Or.inr rfl) (by omega) (nb_59 s32.2.2.2 _)
    have a3 := a2.semi hT
    have a4 := a3.end_ hT
    have t6 : p_X4_take q E 6 = (1, _) := tk_y (k := 6) a1
    rw [t6]
    unfold p_X4_parseToken_L6
    rw [if_neg (show ¬ (1 : Int32) = 0 by decide)]
    have ho : ¬ v_X2_isOpen q.2.2 ((s_X3_advance q.1 E) 3) = 0 := by
      rw [a2.k3, hL.isOpen (by omega) (by omega), if_pos h4]
      decide
    rw [if_neg ho]
    have eh : q.2.2 18 2 - 1 = iN (M 18 2 - 1) := by
      rw [hL.c]
      exact iN_1 (by omega)
    have tn : p_X4_takeNumber (s_X3_advance q.1 E, q.2.1, q.2.2) E 0 (q.2.2 18 2 - 1) = (1, (s_X3_advance (s_X3_advance q.1 E) E, iN a, q.2.2)) := by
      rw [eh]
      exact tkn_y (lo := 0) (hi := M 18 2 - 1) a2 (Nat.zero_le _) (by omega) (by omega)
    rw [tn]
    unfold p_X4_parseToken_L50
    rw [if_neg (show ¬ (1 : Int32) = 0 by decide)]
    have t8 : p_X4_take (s_X3_advance (s_X3_advance q.1 E) E, iN a, q.2.2) E 8 = (1, _) := tk_y (k := 8) a3
    rw [t8]
    unfold p_X4_parseToken_L59
    rw [if_neg (show ¬ (1 : Int32) = 0 by decide)]
    exact ⟨_, rfl, a4.kk, hL.add (by omega) a⟩
theorem oasN_j : ∀ (os : List (Nat × Nat × Nat)) (M : NM) (j b : Nat), (j < 2 ∨ 7 < j) → ¬ (j = 18 ∧ b = 2) → oasN M os j b = M j b := by
  intro os
  induction os with
  | nil => intro M j b _ _; rfl
  | cons o os ih =>
    intro M j b h1 h2
    rw [oasN, ih (oaN M o) j b h1 h2, oaN_j h1 h2]
theorem oasN_c : ∀ (os : List (Nat × Nat × Nat)) (M : NM), oasN M os 18 2 = M 18 2 + os.length := by
  intro os
  induction os with
  | nil => intro M; rfl
  | cons o os ih =>
    intro M
    rw [oasN, ih, oaN_c, List.length_cons]
    omega
theorem oasN_lo : ∀ (os : List (Nat × Nat × Nat)) (M : NM) (j b : Nat), b < M 18 2 → ¬ j = 18 → oasN M os j b = M j b := by
  intro os
  induction os with
  | nil => intro M j b _ _; rfl
  | cons o os ih =>
    intro M j b h1 h2
    rw [oasN, ih (oaN M o) j b (by rw [oaN_c]; omega) h2, oaN_get, if_neg (by omega), if_neg (by omega), if_neg (by omega), if_neg (by omega), if_neg (by omega), if_neg (by omega), if_neg (by omega)]
theorem oasN_at : ∀ (os : List (Nat × Nat × Nat)) (M : NM) (b : Nat) (o : Nat × Nat × Nat), os[b]? = some o → oasN M os 2 (M 18 2 + b) = o.1 ∧ oasN M os 3 (M 18 2 + b) = o.2.1 ∧ oasN M os 4 (M 18 2 + b) = o.2.2 ∧ oasN M os 5 (M 18 2 + b) = 0 ∧ oasN M os 6 (M 18 2 + b) = 0 ∧ oasN M os 7 (M 18 2 + b) = 0 := by
  intro os
  induction os with
  | nil => intro M b o h; simp at h
  | cons p os ih =>
    intro M b o h
    cases b with
    | zero =>
      cases h
      rw [Nat.add_zero]
      have hl : ∀ j, ¬ j = 18 → oasN M (p :: os) j (M 18 2) = oaN M p j (M 18 2) := fun j hj => by
        rw [oasN]
        exact oasN_lo os (oaN M p) j _ (by rw [oaN_c]; omega) hj
      refine ⟨?_, ?_, ?_, ?_, ?_, ?_⟩
      all_goals rw [hl _ (by decide), oaN_get]
      all_goals simp
    | succ b =>
      have h2 := ih (oaN M p) b o h
      rw [oaN_c] at h2
      rw [oasN, show M 18 2 + (b + 1) = M 18 2 + 1 + b by omega]
      exact h2
theorem lasN_j : ∀ (ls : List (Nat × Nat × Nat)) (M : NM) (j b : Nat), j ≠ 1 → j ≠ 7 → j ≠ 8 → j ≠ 9 → lasN M ls j b = M j b := by
  intro ls
  induction ls with
  | nil => intro M j b _ _ _ _; rfl
  | cons x xs ih =>
    intro M j b h1 h7 h8 h9
    rw [lasN, ih _ j b h1 h7 h8 h9, adL_j h1 h7 h8 h9]
theorem lasN_inv {B : Nat} : ∀ (ls : List (Nat × Nat × Nat)) (M : NM) (cnt : Nat → Nat), Inv B M → (∀ j, j < M 18 2 → M 7 j = cnt j) → LVd (M 18 2) cnt ls → Inv B (lasN M ls) := by
  intro ls
  induction ls with
  | nil => intro M cnt h _ _; exact h
  | cons x xs ih =>
    intro M cnt h hc hV
    obtain ⟨v1, v2, v3, v4, v5, v6, v7⟩ := hV
    have e2 : adL M x.1 x.2.1 x.2.2 18 2 = M 18 2 := adL_j (by decide) (by decide) (by decide) (by decide) 2
    refine ih _ (fun i => if i = x.1 then cnt i + 1 else cnt i) (h.letter v1 v2 v3 (by rw [hc _ v1]; exact v6) v4 v5) (fun j hj => ?_) (by rw [e2]; exact v7)
    rw [e2] at hj
    rw [adL_7]
    show _ = if j = x.1 then cnt j + 1 else cnt j
    by_cases y : j = x.1
    · rw [if_pos y, if_pos y, y, hc _ v1]
    · rw [if_neg y, if_neg y]
      exact hc j hj
end PC
