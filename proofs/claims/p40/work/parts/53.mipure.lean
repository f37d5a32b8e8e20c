-- PART 53: what the law asks of a minute, in whole numbers
def fA (g : Nat → Int32) (n : Nat) : Nat → Int32 := fun i => if i < n then g i else 0
theorem fA_get {g : Nat → Int32} {n t : Nat} (h : t < n) : fA g n t = g t := if_pos h
theorem fA_upd (g : Nat → Int32) (t : Nat) : upd (fA g t) t (g t) = fA g (t + 1) := by
  funext i
  unfold upd fA
  by_cases h : i = t
  · rw [if_pos h, if_pos (by omega), h]
  · rw [if_neg h]
    by_cases h2 : i < t
    · rw [if_pos h2, if_pos (by omega)]
    · rw [if_neg h2, if_neg (by omega)]
theorem fA_0 (g : Nat → Int32) : fA g 0 = fun _ => 0 := by
  funext i
  exact if_neg (by omega)
/-- what the law keeps of the counts -/
def hadN (M : NM) : Nat → Nat
  | 0 => M 18 0
  | 1 => M 1 1
  | 2 => M 1 2
  | 3 => M 1 8
  | 4 => M 1 4
  | 5 => M 1 5
  | 6 => M 1 7
  | _ => M 18 1
def dayN (M : NM) : Int32 := if (M 18 0 + 1) % 60 = 0 then 1 else 0
def iP : Option Nat → Int32
  | none => -1
  | some q => iN q
/-- the last token with this number -/
def lookN (N : NM) (v : Nat) : Nat → Option Nat
  | 0 => none
  | k + 1 => if N 10 k = v then some k else lookN N v k
theorem lookN_some {N : NM} {v q : Nat} : ∀ k, lookN N v k = some q → q < k ∧ N 10 q = v := by
  intro k
  induction k with
  | zero => intro h; cases h
  | succ k ih =>
    intro h
    rw [lookN] at h
    by_cases z : N 10 k = v
    · rw [if_pos z] at h
      cases h
      exact ⟨by omega, z⟩
    · rw [if_neg z] at h
      obtain ⟨a, b⟩ := ih h
      exact ⟨by omega, b⟩
theorem lookN_none {N : NM} {v : Nat} : ∀ k, lookN N v k = none → ∀ q, q < k → N 10 q ≠ v := by
  intro k
  induction k with
  | zero => intro _ q hq; exact absurd hq (by omega)
  | succ k ih =>
    intro h q hq
    rw [lookN] at h
    by_cases z : N 10 k = v
    · rw [if_pos z] at h
      cases h
    · rw [if_neg z] at h
      by_cases hk : q = k
      · rw [hk]; exact z
      · exact ih h q (by omega)
theorem nxt_mod {c p : Nat} (h : p < c) : (p + 1) % c = nxt c p := by
  unfold nxt
  by_cases h2 : p + 1 < c
  · rw [if_pos h2, Nat.mod_eq_of_lt h2]
  · rw [if_neg h2, show p + 1 = c by omega, Nat.mod_self]
theorem i32_as (a b : Int32) : a + (b - a) = b := by
  rw [Int32.add_comm, Int32.sub_add_cancel]
section MW
variable {M N : NM} {B t q : Nat}
/-- the numbers rise: a token is found again just where it went -/
theorem num_inj (hI : Inv B M) {a b : Nat} (ha : a < M 18 3) (hb : b < M 18 3) (h : M 10 a = M 10 b) : a = b := by
  have hr := hI.2.1.2.2.2
  rcases Nat.lt_trichotomy a b with z | z | z
  · have := hr a b z hb; omega
  · exact z
  · have := hr b a z ha; omega
theorem f_full {f : Nat → Nat} {n : Nat} (h1 : ∀ q, q < n → f q < n) (h2 : ∀ q r, q < r → r < n → f q < f r) : ∀ q, q < n → f q = q := by
  have lo : ∀ q, q < n → q ≤ f q := by
    intro q
    induction q with
    | zero => intro _; omega
    | succ q ih =>
      intro h
      have := ih (by omega)
      have := h2 q (q + 1) (by omega) h
      omega
  have hi : ∀ d q, q + d + 1 = n → f q ≤ q := by
    intro d
    induction d with
    | zero =>
      intro q e
      have := h1 q (by omega)
      omega
    | succ d ih =>
      intro q e
      have := ih (q + 1) (by omega)
      have := h2 q (q + 1) (by omega) (by omega)
      omega
  intro q hq
  have := lo q hq
  have := hi (n - q - 1) q (by omega)
  omega
/-- one that is gone was torn up -/
theorem mi_gone (hI : Inv B M) (h : MS M N) (ht : t < M 18 3) (hl : lookN N (M 10 t) (N 18 3) = none) : M 1 5 < N 1 5 := by
  obtain ⟨-, -, -, hf, -⟩ := h
  obtain ⟨⟨f, f1, f2, f3, f4, f5⟩, h5, -⟩ := hf (by omega)
  refine h5 (Nat.lt_of_not_le fun hge => ?_)
  have en : N 18 3 = M 18 3 := by omega
  rw [en] at f3 f4 f5
  have e1 := f_full f3 f4 t ht
  have e2 := (f5 t ht).1
  rw [e1] at e2
  exact lookN_none _ hl t (by omega) e2
theorem tm_j {j : Nat} (b : Nat) (h5 : j ≠ 5) (h18 : j ≠ 18) : tmN M j b = M j b := tmN_j h5 (fun z => h18 z.1)
/-- why() at an office where a token stands and no letter is begun -/
theorem wh_at (hI : Inv B M) (ht : t < M 18 3) (h12 : M 12 t = 0) (h14 : M 14 t = 0) : whN M (M 11 t) = if M 7 (M 11 t) = 0 then 3 else if ¬ M 9 (6 * M 11 t) + M 13 t ≤ M 0 0 then 4 else if ¬ M 9 (6 * M 11 t) + M 5 (M 11 t) ≤ M 0 2 then 5 else 6 := by
  have hs := stand_of hI.2.2.1 ht h12
  have h4 := (hI.2.1.2.2.1 t ht).2.2.2.2.2.2.2.1 h12
  have hl : leftN M (M 11 t) = 0 := by
    unfold leftN
    rw [hs]
    exact h14
  unfold whN
  rw [if_neg (by omega), if_neg (fun z => z h4), hs]
theorem mi_ways (hI : Inv B M) (h : MS M N) (ht : t < M 18 3) (hl : lookN N (M 10 t) (N 18 3) = some q) :
    q < N 18 3 ∧ ((1 < M 12 t ∧ N 11 q = M 11 t ∧ N 12 q = M 12 t - 1) ∨
    (M 12 t = 1 ∧ M 4 (M 11 t) = 1 ∧ N 11 q = M 11 t ∧ N 12 q = 0 ∧ N 13 q = 0 ∧ N 14 q = 0) ∨
    (M 12 t = 1 ∧ M 4 (M 11 t) ≠ 1 ∧ N 11 q = nxt (M 18 2) (M 11 t) ∧ N 12 q = M 2 (M 11 t)) ∨
    (M 12 t = 0 ∧ 0 < M 14 t ∧ N 11 q = M 11 t ∧ N 12 q = 0 ∧ N 13 q = M 13 t + 1 ∧ N 14 q = M 14 t - 1) ∨
    (M 12 t = 0 ∧ M 14 t = 0 ∧ whN M (M 11 t) = 6 ∧ N 14 q = N 9 (6 * M 11 t) ∧ 0 < N 7 (M 11 t) ∧ N 13 q = M 13 t) ∨
    (M 12 t = 0 ∧ M 14 t = 0 ∧ whN M (M 11 t) ≠ 6 ∧ (M 18 0 + 1) % 60 = 0 ∧ whN M (M 11 t) = 5) ∨
    (M 12 t = 0 ∧ M 14 t = 0 ∧ whN M (M 11 t) ≠ 6 ∧ ((M 18 0 + 1) % 60 ≠ 0 ∨ whN M (M 11 t) ≠ 5) ∧ N 11 q = nxt (M 18 2) (M 11 t) ∧ N 12 q = M 2 (M 11 t))) := by
  obtain ⟨hq, e10⟩ := lookN_some _ hl
  obtain ⟨-, -, -, hf, -, -, -, -, -, hlast⟩ := h
  obtain ⟨⟨f, f1, f2, f3, f4, f5⟩, -⟩ := hf (by omega)
  have ef : f q = t := num_inj hI (f3 q hq) ht ((f5 q hq).1.symm.trans e10)
  have ej := (f5 q hq).2
  rw [ef] at ej
  have n11 := ej 11 (by decide) (by decide)
  have n12 := ej 12 (by decide) (by decide)
  have n13 := ej 13 (by decide) (by decide)
  have n14 := ej 14 (by decide) (by decide)
  have TT := hI.2.1.2.2.1 t ht
  have x11 : tmN M 11 t = M 11 t := tm_j t (by decide) (by decide)
  have x12 : tmN M 12 t = M 12 t := tm_j t (by decide) (by decide)
  have x13 : tmN M 13 t = M 13 t := tm_j t (by decide) (by decide)
  have x14 : tmN M 14 t = M 14 t := tm_j t (by decide) (by decide)
  have x4 : tmN M 4 (M 11 t) = M 4 (M 11 t) := tm_j _ (by decide) (by decide)
  have x2 : tmN M 2 (M 11 t) = M 2 (M 11 t) := tm_j _ (by decide) (by decide)
  have xc : tmN M 18 2 = M 18 2 := tmN_j (by decide) (by decide)
  refine ⟨hq, ?_⟩
  have hOI : OI (tmN M) := hI.1.fr (fun j b hj => tm_j b (by omega) (by omega)) xc
  rcases ac_ways (tmN M) t with ⟨w1, w2⟩ | ⟨w1, w2⟩ | w | ⟨w1, w2, w3⟩ | ⟨w1, w2, w3⟩
  · obtain ⟨a, b, c, d⟩ := ac_drive w1 w2
    rw [x11] at a w2
    rw [x12] at b w1 w2
    rw [x13] at c
    rw [x14] at d
    rw [x4] at w2
    by_cases h1 : 1 < M 12 t
    · exact Or.inl ⟨h1, n11.trans a, n12.trans b⟩
    · have h1' : M 12 t = 1 := by omega
      obtain ⟨z1, z2⟩ := TT.2.2.2.2.2.2.1 w1
      exact Or.inr (Or.inl ⟨h1', w2.resolve_left (fun z => z h1'), n11.trans a, n12.trans (b.trans (by omega)), n13.trans (c.trans z1), n14.trans (d.trans z2)⟩)
  · obtain ⟨a, b, c, d⟩ := ac_pass w1 w2
    rw [x11] at a b w2
    rw [x12] at w1
    rw [x4] at w2
    rw [xc] at a
    rw [x2] at b
    exact Or.inr (Or.inr (Or.inl ⟨w1, w2, n11.trans a, n12.trans b⟩))
  · obtain ⟨a, b, c, d⟩ := ac_read w hOI
    obtain ⟨w1, w2⟩ := w
    rw [x11] at a
    rw [x12] at w1
    rw [x13] at c
    rw [x14] at d w2
    exact Or.inr (Or.inr (Or.inr (Or.inl ⟨w1, by omega, n11.trans a, n12.trans b, n13.trans c, n14.trans d⟩)))
  · obtain ⟨a, b, c, d⟩ := ac_beg w1 w2 w3
    obtain ⟨b1, b2, b3, b4⟩ := w3
    rw [x11] at b1 b2 b3 b4 d
    rw [x12] at w1
    rw [x13] at c b3
    rw [x14] at w2
    rw [tm_j _ (by decide) (by decide)] at b1 b2 d
    rw [tm_j _ (by decide) (by decide), tm_j _ (by decide) (by decide)] at b3
    rw [tm_j _ (by decide) (by decide), tm_j (M := M) 2 (by decide) (by decide)] at b4
    have hp := TT.2.2.1
    have hno : ∀ u, u < M 18 3 → ¬ (RDg M u ∧ M 11 u = M 11 t) := fun u hu z => by
      have e : u = t := by
        have s1 := stand_of hI.2.2.1 hu z.1.1
        have s2 := stand_of hI.2.2.1 ht w1
        rw [z.2, s2] at s1
        exact (Option.some.inj s1).symm
      exact z.1.2 (by rw [e]; exact w2)
    obtain ⟨l7, l9⟩ := hlast (M 11 t) hp hno
    have l90 := l9 0 (by decide)
    rw [Nat.add_zero] at l90
    have hw := wh_at hI ht w1 w2
    rw [if_neg (by omega), if_neg (fun z => z b3)] at hw
    by_cases x5 : M 9 (6 * M 11 t) + M 5 (M 11 t) ≤ M 0 2
    · rw [if_neg (fun z => z x5)] at hw
      exact Or.inr (Or.inr (Or.inr (Or.inr (Or.inl ⟨w1, w2, hw, n14.trans (d.trans l90.symm), by omega, n13.trans c⟩))))
    · rw [if_pos x5] at hw
      have hd : (M 18 0 + 1) % 60 = 0 := Classical.byContradiction fun z => by
        rw [(tmN_5 (M := M) (M 11 t)).2 z] at b4
        exact x5 b4
      exact Or.inr (Or.inr (Or.inr (Or.inr (Or.inr (Or.inl ⟨w1, w2, by omega, hd, hw⟩)))))
  · obtain ⟨a, b, c, d⟩ := ac_leave w1 w2 w3
    rw [x11, xc] at a
    rw [x11, x2] at b
    rw [x12] at w1
    rw [x14] at w2
    have hw := wh_at hI ht w1 w2
    have h4 := TT.2.2.2.2.2.2.2.1 w1
    by_cases h6 : whN M (M 11 t) = 6
    · exfalso
      apply w3
      refine ⟨by rw [x11, x4]; exact h4, ?_⟩
      rw [x11, x13, tm_j _ (by decide) (by decide), tm_j (M := M) 0 (by decide) (by decide), tm_j (M := M) 2 (by decide) (by decide), tm_j _ (by decide) (by decide)]
      rw [h6] at hw
      by_cases y7 : M 7 (M 11 t) = 0
      · rw [if_pos y7] at hw; exact absurd hw (by decide)
      · rw [if_neg y7] at hw
        by_cases y3 : M 9 (6 * M 11 t) + M 13 t ≤ M 0 0
        · rw [if_neg (fun z => z y3)] at hw
          by_cases y5 : M 9 (6 * M 11 t) + M 5 (M 11 t) ≤ M 0 2
          · have := (tmN_5 (M := M) (M 11 t)).1
            exact ⟨by omega, y3, by omega⟩
          · rw [if_pos y5] at hw; exact absurd hw (by decide)
        · rw [if_pos y3] at hw; exact absurd hw (by decide)
    · by_cases h5 : (M 18 0 + 1) % 60 = 0 ∧ whN M (M 11 t) = 5
      · exact Or.inr (Or.inr (Or.inr (Or.inr (Or.inr (Or.inl ⟨w1, w2, h6, h5.1, h5.2⟩)))))
      · refine Or.inr (Or.inr (Or.inr (Or.inr (Or.inr (Or.inr ⟨w1, w2, h6, ?_, n11.trans a, n12.trans b⟩)))))
        by_cases z : (M 18 0 + 1) % 60 = 0
        · exact Or.inr (fun y => h5 ⟨z, y⟩)
        · exact Or.inl z
end MW
