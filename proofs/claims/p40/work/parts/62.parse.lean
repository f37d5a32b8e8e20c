-- PART 62: a setup text, written from what it says; the parser reads just that
def ruR (a b q : Nat) (R : List Nat) : List Nat := stx 0 ++ ([32] ++ (dcN a ++ ([32] ++ (stx 1 ++ ([32] ++ (dcN b ++ ([32] ++ (stx 2 ++ ([32] ++ (dcN q ++ (59 :: R)))))))))))
def ofR (o : Nat × Nat × Nat) (R : List Nat) : List Nat := stx 3 ++ ([32] ++ (dcN o.1 ++ ([32] ++ (dcN o.2.1 ++ (if o.2.2 = 1 then 59 :: R else [32] ++ (stx 4 ++ (59 :: R)))))))
def ofsR : List (Nat × Nat × Nat) → List Nat → List Nat
  | [], R => R
  | o :: os, R => ofR o (ofsR os R)
def leR (x : Nat × Nat × Nat) (R : List Nat) : List Nat := stx 5 ++ ([32] ++ (dcN x.1 ++ ([32] ++ (dcN x.2.1 ++ ([32] ++ (dcN x.2.2 ++ (59 :: R)))))))
def lesR : List (Nat × Nat × Nat) → List Nat → List Nat
  | [], R => R
  | x :: xs, R => leR x (lesR xs R)
def toR : Option Nat → List Nat
  | none => []
  | some a => stx 6 ++ ([32] ++ (dcN a ++ [59]))
def rnd (a b q : Nat) (os ls : List (Nat × Nat × Nat)) (t : Option Nat) : List Nat := ruR a b q (ofsR os (lesR ls (toR t)))
/-- the state, as it is built -/
def clN (M : NM) : NM := fun a b => if a = 1 ∧ b < 9 then 0 else if a = 18 ∧ b ≤ 4 then 0 else M a b
def ruN (M : NM) (a b q : Nat) : NM := nP (nP (nP M 0 0 a) 0 1 b) 0 2 q
def oaN (M : NM) (o : Nat × Nat × Nat) : NM := nP (nP (nP (nP (nP (nP (nP M 2 (M 18 2) o.1) 3 (M 18 2) o.2.1) 4 (M 18 2) o.2.2) 5 (M 18 2) 0) 6 (M 18 2) 0) 7 (M 18 2) 0) 18 2 (M 18 2 + 1)
def oasN : NM → List (Nat × Nat × Nat) → NM
  | M, [] => M
  | M, o :: os => oasN (oaN M o) os
def lasN : NM → List (Nat × Nat × Nat) → NM
  | M, [] => M
  | M, x :: xs => lasN (adL M x.1 x.2.1 x.2.2) xs
def toaN (M : NM) : Option Nat → NM
  | none => M
  | some a => adN M a
section PA
variable {T R : List Nat} {E : SM} {q : PS} {S : SM} {M : NM} {c : Nat → Int32} {k v w x n : Nat}
theorem tk_y (h : Sx T q.1 k v R) : p_X4_take q E (iN k) = (1, (s_X3_advance q.1 E, q.2.1, q.2.2)) := by
  obtain ⟨P, e, h1, h2, h3⟩ := h
  unfold p_X4_take
  rw [if_pos h2]
theorem tk_n (h : Sx T q.1 k v R) (hk : k ≤ 10) (hn : n ≤ 10) (hne : k ≠ n) : p_X4_take q E (iN n) = (0, q) := by
  obtain ⟨P, e, h1, h2, h3⟩ := h
  unfold p_X4_take
  rw [h2, if_neg (iN_ne' hne (by omega) (by omega))]
theorem tkn_y (h : Sx T q.1 7 v R) {lo hi : Nat} (h1 : lo ≤ v) (h2 : v ≤ hi) (h3 : hi < 1000) : p_X4_takeNumber q E (iN lo) (iN hi) = (1, (s_X3_advance q.1 E, iN v, q.2.2)) := by
  obtain ⟨P, e, g1, g2, g3⟩ := h
  unfold p_X4_takeNumber p_X4_takeNumber_L40
  rw [if_pos (show q.1 2 = 7 from g2), g3 rfl, wth_iN v lo hi (by omega) (by omega) (by omega), if_neg (show ¬ (if lo ≤ v ∧ v ≤ hi then (1 : Int32) else 0) = 0 by rw [if_pos ⟨h1, h2⟩]; decide)]
theorem nb_32 {Pr : Nat → Prop} (h : ¬ Pr 32) (R : List Nat) : nb Pr ([32] ++ R) := fun x hx => by
  cases hx
  exact h
theorem nb_59 {Pr : Nat → Prop} (h : ¬ Pr 59) (R : List Nat) : nb Pr (59 :: R) := fun x hx => by
  cases hx
  exact h
theorem s32 : ¬ sml 32 ∧ ¬ dgt 32 ∧ ¬ sml 59 ∧ ¬ dgt 59 := by decide
/-- a rule: its word is there already -/
theorem pr_rule (hT : TPE T E) {a : Nat} (ha : a ≤ 2) (hx1 : 1 ≤ x) (hx2 : (a = 0 ∧ x ≤ 20) ∨ (a = 1 ∧ x ≤ 99) ∨ (a = 2 ∧ x ≤ 60)) (h : Sx T q.1 w 0 ([32] ++ (dcN x ++ R))) (hR : nb dgt R) : ∃ c2, p_X4_parseRule q E (iN w) (iN a) = (1, (s_X3_advance c2 E, iN x, sU q.2.2 0 (put_ 3 (q.2.2 0) (iN a) (iN x)))) ∧ Sx T c2 7 x R := by
  have h2 := h.num hT (Or.inr rfl) (by omega) hR
  refine ⟨s_X3_advance q.1 E, ?_, h2⟩
  unfold p_X4_parseRule
  rw [tk_y h]
  have hm : v_X9_mostOfRule (iN a) = iN (if a = 0 then 20 else if a = 1 then 99 else 60) := by
    rcases (by omega : a = 0 ∨ a = 1 ∨ a = 2) with rfl | rfl | rfl <;> rfl
  have hb : x ≤ (if a = 0 then 20 else if a = 1 then 99 else 60) ∧ (if a = 0 then 20 else if a = 1 then 99 else 60) < 1000 := by
    rcases (by omega : a = 0 ∨ a = 1 ∨ a = 2) with rfl | rfl | rfl
    · show x ≤ 20 ∧ 20 < 1000
      omega
    · show x ≤ 99 ∧ 99 < 1000
      omega
    · show x ≤ 60 ∧ 60 < 1000
      omega
  have h3 := tkn_y (q := (s_X3_advance q.1 E, q.2.1, q.2.2)) (E := E) h2 hx1 hb.1 hb.2
  unfold p_X4_parseRule_L5
  rw [if_neg (show ¬ (1 : Int32) = 0 by decide), hm]
  have h3' : p_X4_takeNumber (s_X3_advance q.1 E, q.2.1, q.2.2) E 1 (iN (if a = 0 then 20 else if a = 1 then 99 else 60)) = _ := h3
  rw [h3']
  unfold p_X4_parseRule_L17
  rw [if_neg (show ¬ (1 : Int32) = 0 by decide)]
/-- behind a semicolon: R is still to be read, and the scanner has its first token -/
def PD (T : List Nat) (E : SM) (q : PS) (R : List Nat) : Prop := ∃ c, q.1 = s_X3_advance c E ∧ Sx T c 8 0 R
theorem LL.clear (h : LL S M) : LL (s_X6_clear S) (clN M) := by
  have loop : ∀ d i (S : SM) (M : NM) f, i + d = 9 → LL S M → (∀ b, b < i → M 1 b = 0) → d < f → ∃ S' M', s_X6_clear_L2 f S (iN i) = s_X6_clear_L31 (sF S' 2 0) (iN 9) ∧ LL S' M' ∧ (∀ b, b < 9 → M' 1 b = 0) ∧ ∀ a b, ¬ (a = 1 ∧ b < 9) → M' a b = M a b := by
    intro d
    induction d with
    | zero =>
      intro i S M f e h hz hf
      obtain ⟨f, rfl⟩ := some_succ hf
      rw [s_X6_clear_L2, show i = 9 by omega, if_neg (show ¬ iN 9 < 9 by decide)]
      exact ⟨S, M, rfl, h, fun b hb => hz b (by omega), fun _ _ _ => rfl⟩
    | succ d ih =>
      intro i S M f e h hz hf
      obtain ⟨f, rfl⟩ := some_succ hf
      rw [s_X6_clear_L2, if_pos (show iN i < 9 from iN_ylt' (b := 9) (by omega) (by decide)), iN_s]
      obtain ⟨S', M', e1, e2, e3, e4⟩ := ih (i + 1) _ (nP M 1 i 0) f (by omega) (h.put (j := 1) (by decide) (n := 9) (by decide) (by omega) 0) (fun b hb => by
        rw [nP_get]
        by_cases z : b = i
        · rw [if_pos ⟨rfl, z⟩]
        · rw [if_neg (fun y => z y.2)]
          exact hz b (by omega)) (by omega)
      exact ⟨S', M', e1, e2, e3, fun a b hab => by rw [e4 a b hab, nP_get, if_neg (fun y => hab ⟨y.1, by omega⟩)]⟩
  obtain ⟨S', M', e1, e2, e3, e4⟩ := loop 9 0 S M (mu 0 + 1) (by omega) h (fun b hb => absurd hb (Nat.not_lt_zero b)) (by rw [mu_0]; omega)
  unfold s_X6_clear
  have e1' : s_X6_clear_L2 (mu 0 + 1) S 0 = s_X6_clear_L31 (sF S' 2 0) (iN 9) := e1
  rw [e1']
  unfold s_X6_clear_L31 s_X6_clear_L39 s_X6_clear_L47 s_X6_clear_L55 s_X6_clear_L63 s_X6_clear_L68
  have h5 := (((((((e2.sf 2 0).sf 3 0).sf 4 0).sf 5 0).sf 6 0).sf 0 0).sf 1 0)
  refine h5.to (fun j k hj => ?_) (fun k k5 k6 => ?_)
  · simp only [nP_get]
    unfold clN
    by_cases z : j = 1 ∧ k < 9
    · rw [if_pos z, z.1]
      simp [e3 k z.2]
    · rw [if_neg z, if_neg (by omega)]
      have : ¬ j = 18 := by omega
      simp [this, e4 j k z]
  · simp only [nP_get]
    unfold clN
    rw [if_neg (by omega)]
    by_cases z : k ≤ 4
    · rw [if_pos ⟨rfl, z⟩]
      rcases (by omega : k = 0 ∨ k = 1 ∨ k = 2 ∨ k = 3 ∨ k = 4) with rfl | rfl | rfl | rfl | rfl <;> rfl
    · rw [if_neg (fun y => z y.2)]
      rw [if_neg (by omega), if_neg (by omega), if_neg (by omega), if_neg (by omega), if_neg (by omega), if_neg (by omega), if_neg (by omega)]
      exact (e4 18 k (by omega)).symm
theorem LL.addO (h : LL S M) (hc : M 18 2 < 10) (o : Nat × Nat × Nat) : LL (s_X2_add S (iN o.1) (iN o.2.1) (iN o.2.2)) (oaN M o) := by
  have hk : s_X2_add S (iN o.1) (iN o.2.1) (iN o.2.2) = sF (sU (sU (sU (sU (sU (sU S 2 (put_ 10 (S 2) (S 18 2) (iN o.1))) 3 (put_ 10 (S 3) (S 18 2) (iN o.2.1))) 4 (put_ 10 (S 4) (S 18 2) (iN o.2.2))) 5 (put_ 10 (S 5) (S 18 2) 0)) 6 (put_ 10 (S 6) (S 18 2) 0)) 7 (put_ 10 (S 7) (S 18 2) 0)) 2 (S 18 2 + 1) := by
    unfold s_X2_add
    rw [if_pos (show S 18 2 < 10 by rw [h.c]; exact iN_ylt' (b := 10) hc (by decide))]
    rfl
  rw [hk, h.c, iN_s]
  have h1 := h.put (j := 2) (by decide) (n := 10) (by decide) hc o.1
  have h2 := h1.put (j := 3) (by decide) (n := 10) (by decide) hc o.2.1
  have h3 := h2.put (j := 4) (by decide) (n := 10) (by decide) hc o.2.2
  have h4 := h3.put (j := 5) (by decide) (n := 10) (by decide) hc 0
  have h5 := h4.put (j := 6) (by decide) (n := 10) (by decide) hc 0
  have h6 := h5.put (j := 7) (by decide) (n := 10) (by decide) hc 0
  exact h6.sf 2 (M 18 2 + 1)
end PA
