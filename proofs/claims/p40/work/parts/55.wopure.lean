-- PART 55: what the law asks of what would be, in whole numbers
def hadW (M : NM) : Nat → Nat
  | 0 => M 1 1
  | 1 => M 1 2
  | 2 => M 1 8
  | 3 => 0
  | 4 => M 1 7
  | _ => M 1 4
def nowW (N : NM) : Nat → Nat
  | 0 => N 1 1
  | 1 => N 1 2
  | 2 => N 1 8
  | 3 => N 18 3
  | 4 => N 1 7
  | _ => N 1 4
theorem told_eq {M : NM} {m w : Nat} (hw : w ≤ 5) : iN (nowW (miI M m) w) - iN (hadW M w) = toN5 M M m w := by
  rcases (by omega : w = 0 ∨ w = 1 ∨ w = 2 ∨ w = 3 ∨ w = 4 ∨ w = 5) with rfl | rfl | rfl | rfl | rfl | rfl
  · rfl
  · rfl
  · rfl
  · show iN (miI M m 18 3) - iN 0 = iN (miI M m 18 3)
    exact iN_sub (Nat.zero_le _)
  · rfl
  · rfl
theorem toN5_base {M M2 N : NM} {m w : Nat} (h : M2 1 (cT w) = M 1 (cT w)) : toN5 M2 N m w = toN5 M N m w := by
  unfold toN5
  rw [h]
theorem cT_6 (w : Nat) : cT w ≠ 6 ∧ cT w ≠ 5 := by
  unfold cT
  constructor <;> (repeat' split) <;> decide
/-- how many tokens go when an office is shut -/
def lsN (M : NM) (o : Nat) : Nat := match stand M o with
  | none => 0
  | some _ => 1
theorem shN_1 {M : NM} {o v b : Nat} (hb : b ≠ 6) : shN M o v 1 b = M 1 b := by
  unfold shN
  cases stand M o with
  | none => exact nP_r (by decide) b
  | some t =>
    show loN (nP M 4 o v) t 1 b = M 1 b
    unfold loN
    rw [drop_j (by omega) (by omega), nP_r (by decide)]
theorem shN_3 {M : NM} {o v : Nat} : shN M o v 18 3 = M 18 3 - lsN M o := by
  unfold shN lsN
  cases stand M o with
  | none =>
    show nP M 4 o v 18 3 = M 18 3 - 0
    rw [nP_r (by decide)]
    rfl
  | some t =>
    show loN (nP M 4 o v) t 18 3 = M 18 3 - 1
    unfold loN
    rw [drN_3, nP_r (by decide), nP_r (by decide)]
theorem lsN_le {M : NM} {o : Nat} : lsN M o ≤ M 18 3 ∧ lsN M o ≤ 1 := by
  unfold lsN
  cases hs : stand M o with
  | none => exact ⟨Nat.zero_le _, Nat.zero_le _⟩
  | some t =>
    have := (stN_some _ hs).1
    show 1 ≤ M 18 3 ∧ 1 ≤ 1
    omega
theorem lsN_none {M : NM} {o : Nat} (h : stand M o = none) : lsN M o = 0 := by
  unfold lsN
  rw [h]
theorem lsN_some {M : NM} {o t : Nat} (h : stand M o = some t) : lsN M o = 1 := by
  unfold lsN
  rw [h]
theorem stand_ne {M : NM} {x k : Nat} (h1 : k < M 18 3) (h2 : M 12 k = 0) (h3 : M 11 k = x) : stand M x ≠ none := fun h => (stN_none _).mp h k h1 ⟨h2, h3⟩
/-- a stray token: the newest of all, at its office -/
theorem sx_facts {M : NM} {o : Nat} (hn : M 18 3 < 3) : stand (sxN M o) o ≠ none ∧ 1 ≤ sxN M o 18 3 ∧ sxN M o 18 3 ≤ M 18 3 + 1 ∧ sxN M o 10 (sxN M o 18 3 - 1) = M 18 4 + 1 ∧ sxN M o 1 5 = M 1 5 + lsN M o := by
  unfold sxN lsN
  cases hs : stand M o with
  | none =>
    show stand (adN M o) o ≠ none ∧ 1 ≤ adN M o 18 3 ∧ adN M o 18 3 ≤ M 18 3 + 1 ∧ adN M o 10 (adN M o 18 3 - 1) = M 18 4 + 1 ∧ adN M o 1 5 = M 1 5 + 0
    have e3 : adN M o 18 3 = M 18 3 + 1 := (adN_18 3).trans (if_pos rfl)
    have ea := adN_t (M := M) (o := o) (j := 0) (M 18 3)
    rw [if_pos rfl, if_pos rfl, if_pos rfl] at ea
    refine ⟨stand_ne (k := M 18 3) (by omega) ea.2.2.1 ea.2.1, by omega, by omega, ?_, ?_⟩
    · rw [e3, Nat.add_sub_cancel]
      exact ea.1
    · rw [adN_j (by omega) (by decide)]
      rfl
  | some t =>
    have ht := (stN_some _ hs).1
    have ea := adN_t (M := M) (o := o) (j := 0) (M 18 3)
    rw [if_pos rfl, if_pos rfl, if_pos rfl] at ea
    have e3a : adN M o 18 3 = M 18 3 + 1 := (adN_18 3).trans (if_pos rfl)
    have e3b : nP (adN M o) 1 5 (M 1 5 + 1) 18 3 = M 18 3 + 1 := (nP_r (by decide) _).trans e3a
    have e3 : drN (nP (adN M o) 1 5 (M 1 5 + 1)) t 18 3 = M 18 3 := by
      rw [drN_3, e3b]
      omega
    have er : ∀ j, 10 ≤ j → j ≤ 14 → drN (nP (adN M o) 1 5 (M 1 5 + 1)) t j (M 18 3 - 1) = adN M o j (M 18 3) := fun j j1 j2 => by
      rw [drN_t j1 j2, e3b, if_pos (by omega), nP_r (by omega), show M 18 3 - 1 + 1 = M 18 3 by omega]
    show stand (drN (nP (adN M o) 1 5 (M 1 5 + 1)) t) o ≠ none ∧ 1 ≤ drN (nP (adN M o) 1 5 (M 1 5 + 1)) t 18 3 ∧ drN (nP (adN M o) 1 5 (M 1 5 + 1)) t 18 3 ≤ M 18 3 + 1 ∧ drN (nP (adN M o) 1 5 (M 1 5 + 1)) t 10 (drN (nP (adN M o) 1 5 (M 1 5 + 1)) t 18 3 - 1) = M 18 4 + 1 ∧ drN (nP (adN M o) 1 5 (M 1 5 + 1)) t 1 5 = M 1 5 + 1
    rw [e3]
    refine ⟨stand_ne (k := M 18 3 - 1) (by rw [e3]; omega) ((er 12 (by decide) (by decide)).trans ea.2.2.1) ((er 11 (by decide) (by decide)).trans ea.2.1), by omega, by omega, (er 10 (by decide) (by decide)).trans ea.1, ?_⟩
    rw [drN_o (by omega), nP_get, if_pos ⟨rfl, rfl⟩]
theorem miI_c {M : NM} {B : Nat} (h : Inv B M) : ∀ k, miI M k 18 2 = M 18 2 := by
  intro k
  induction k with
  | zero => rfl
  | succ k ih => exact (mi_MS (miI_inv h k).1).2.1.trans ih
/-- the state S, of M, is now; all else is as it should be -/
def GD (B : Nat) (M : NM) (S : SM) (Z : RS) : Prop := Z 0 = S ∧ St B Z M
theorem GD.sc {B : Nat} {M : NM} {S : SM} {Y Z : RS} (h : GD B M S Y) (hs : SC Y Z) : GD B M S Z := ⟨(hs 0 (by decide)).trans h.1, SC.st h.2 hs⟩
/-- behind a rule: it was so already, or it can be undone -/
def RU (B : Nat) (M : NM) (S : SM) (sv : Int32) (Z : RS) : Prop := (sv = -2 ∧ GD B M S Z) ∨ (sv ≠ -2 ∧ UN B Z S M)
theorem RU.sc {B : Nat} {M : NM} {S : SM} {sv : Int32} {Y Z : RS} (h : RU B M S sv Y) (hs : SC Y Z) : RU B M S sv Z := by
  rcases h with ⟨a, b⟩ | ⟨a, b⟩
  · exact Or.inl ⟨a, b.sc hs⟩
  · exact Or.inr ⟨a, b.sc hs⟩
theorem r99 {B : Nat} {M : NM} (h : Inv B M) {a : Nat} (ha : a ≤ 2) : M 0 a ≤ 99 := by
  obtain ⟨r1, r2, r3, r4, r5, r6⟩ := h.2.2.2.2.2
  rcases (by omega : a = 0 ∨ a = 1 ∨ a = 2) with rfl | rfl | rfl <;> omega
theorem GD.rule {B : Nat} {M : NM} {S : SM} {P : RS} (h : GD B M S P) {a v : Nat} (ha : rOK a v) : ∃ sv Z, p_X9_rule P (iN a) (iN v) = (sv, Z) ∧ St B Z (nP M 0 a v) ∧ RU B M S sv Z := by
  have ha2 : a ≤ 2 := by have := ha.1; omega
  have h99 := r99 h.2.2.1 ha2
  rcases h.2.rule ha with ⟨e, hv⟩ | ⟨ne, Z, hv, hz, hU⟩
  · refine ⟨-2, P, hv, ?_, Or.inl ⟨rfl, h⟩⟩
    rw [← e, nP_self]
    exact h.2
  · refine ⟨_, Z, hv, hz, Or.inr ⟨iN_m2 (by omega), ?_⟩⟩
    rw [h.1] at hU
    exact hU
theorem nP0_1 {M : NM} {a v w : Nat} : nP M 0 a v 1 (cT w) = M 1 (cT w) := nP_r (by decide) _
theorem FR.uniq {Pp : Nat → Prop} {mx k : Nat} {r : Int32} (h : FR Pp mx r) (hk : k ≤ mx) (hp : Pp k) (hmin : ∀ i, i < k → ¬ Pp i) : r = iN k := by
  rcases h with ⟨-, h2⟩ | ⟨k2, h1, h2, h3, h4⟩
  · exact absurd hp (h2 k hk)
  · rcases Nat.lt_trichotomy k k2 with z | z | z
    · exact absurd hp (h4 k z)
    · rw [z]; exact h2
    · exact absurd h3 (hmin k2 z)
theorem FR.none {Pp : Nat → Prop} {mx : Nat} {r : Int32} (h : FR Pp mx r) (hn : ∀ k, k ≤ mx → ¬ Pp k) : r = -2 := by
  rcases h with ⟨h1, -⟩ | ⟨k2, h1, h2, h3, h4⟩
  · exact h1
  · exact absurd h3 (hn k2 h1)
theorem FR.some {Pp : Nat → Prop} {mx i : Nat} {r : Int32} (h : FR Pp mx r) (hi : i ≤ mx) (hp : Pp i) : ∃ k, k ≤ i ∧ r = iN k ∧ Pp k := by
  rcases h with ⟨-, h2⟩ | ⟨k2, h1, h2, h3, h4⟩
  · exact absurd hp (h2 i hi)
  · refine ⟨k2, Nat.le_of_not_lt fun z => h4 i z hp, h2, h3⟩
