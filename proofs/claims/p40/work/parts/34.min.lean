-- PART 34: a minute
noncomputable def acs (M : NM) : Nat → NM
  | 0 => M
  | k + 1 => acN (acs M k) k
def rdC (M : NM) (t : Nat) : Nat := if M 12 t = 0 ∧ M 14 t ≠ 0 then 1 else 0
theorem rdC_y {M : NM} {t : Nat} (h : RDg M t) : rdC M t = 1 := if_pos h
theorem rdC_n {M : NM} {t : Nat} (h : ¬ RDg M t) : rdC M t = 0 := if_neg h
noncomputable def teN : Nat → Nat → NM → NM
  | 0, _, M => M
  | e + 1, t, M => @ite _ (t < M 18 3 ∧ FW M t) (Classical.propDecidable _) (teN e t (drN (nP M 1 5 (M 1 5 + 1)) t)) (teN e (t + 1) M)
theorem teN_y {M : NM} {e t : Nat} (h : t < M 18 3 ∧ FW M t) : teN (e + 1) t M = teN e t (drN (nP M 1 5 (M 1 5 + 1)) t) := if_pos h
theorem teN_n {M : NM} {e t : Nat} (h : ¬ (t < M 18 3 ∧ FW M t)) : teN (e + 1) t M = teN e (t + 1) M := if_neg h
def daN (M : NM) : NM := fun a b => if a = 5 ∧ b < M 18 2 then 0 else M a b
def elN (M : NM) : NM := if M 18 1 < M 0 1 then M else match winN M (M 18 2) with
  | none => M
  | some p => nP (adN (nP M 18 1 0) p) 1 4 (M 1 4 + 1)
/-- the time, and perhaps a new day -/
def tmN (M : NM) : NM := if (M 18 0 + 1) % 60 = 0 then daN (nP M 18 0 (M 18 0 + 1)) else nP M 18 0 (M 18 0 + 1)
noncomputable def m3N (M : NM) : NM := teN 3 0 (acs (tmN M) (M 18 3))
noncomputable def m4N (M : NM) : NM := if spkN (m3N M) ((m3N M) 18 3) < 2 then m3N M else nP (m3N M) 1 7 ((m3N M) 1 7 + 1)
noncomputable def miN (M : NM) : NM := if 0 < (m4N M) 18 3 then nP (m4N M) 18 1 0 else elN (nP (m4N M) 18 1 ((m4N M) 18 1 + 1))
def LI (B k : Nat) (M0 M : NM) : Prop := OI M ∧ (∀ j b, j = 0 ∨ j = 2 ∨ j = 3 ∨ j = 4 ∨ j = 10 ∨ 14 < j → M j b = M0 j b) ∧ (∀ t, k ≤ t → ∀ j, 11 ≤ j → j ≤ 14 → M j t = M0 j t) ∧ (∀ t, t < k → ∀ j, 11 ≤ j → j ≤ 14 → M j t = acN M0 t j t) ∧ (∀ o, o < M0 18 2 → (∀ t, t < k → ¬ (RDg M0 t ∧ M0 11 t = o)) → M 5 o = M0 5 o ∧ M 7 o = M0 7 o ∧ ∀ i, i < 6 → M 8 (6 * o + i) = M0 8 (6 * o + i) ∧ M 9 (6 * o + i) = M0 9 (6 * o + i)) ∧ (∀ t, t < k → TT (B + 1) M t) ∧ (∀ t, k ≤ t → t < M0 18 3 → TT B M t) ∧ (IC M ∧ (∀ b, b = 0 ∨ (3 ≤ b ∧ b ≤ 7) → M 1 b = M0 1 b) ∧ M0 1 1 ≤ M 1 1 ∧ M 1 1 ≤ M0 1 1 + k ∧ M 1 8 = M0 1 8 + nsum (rdC M0) k) ∧ ∀ o, M 5 o ≤ M0 5 o + k
section MI
variable {S S' : SM} {M M0 M' : NM} {B o p i t k : Nat}
theorem acs_LI (hO : OI M0) (hT : ∀ t, t < M0 18 3 → TT B M0 t) (hD : ID M0) (hC : IC M0) : ∀ k, k ≤ M0 18 3 → LI B k M0 (acs M0 k) := by
  intro k
  induction k with
  | zero =>
    intro _
    exact ⟨hO, fun j b _ => rfl, fun t _ j _ _ => rfl, fun t ht => absurd ht (by omega), fun o _ _ => ⟨rfl, rfl, fun i _ => ⟨rfl, rfl⟩⟩, fun t ht => absurd ht (by omega), fun t _ ht => hT t ht, ⟨hC, fun b _ => rfl, Nat.le_refl _, by show M0 1 1 ≤ M0 1 1 + 0; omega, rfl⟩, fun o => by show M0 5 o ≤ M0 5 o + 0; omega⟩
  | succ k ih =>
    intro hk
    obtain ⟨a, b, c, d, e, f1, f2, ⟨g1, g2, g3, g4, g5⟩, h5⟩ := ih (by omega)
    have hk' : k < M0 18 3 := by omega
    rw [acs]
    generalize acs M0 k = M at *
    have e11 := c k (Nat.le_refl _) 11 (by decide) (by decide)
    have e12 := c k (Nat.le_refl _) 12 (by decide) (by decide)
    have e13 := c k (Nat.le_refl _) 13 (by decide) (by decide)
    have e14 := c k (Nat.le_refl _) 14 (by decide) (by decide)
    have hrd : RDg M k ↔ RDg M0 k := by
      unfold RDg
      rw [e12, e14]
    have e18 : M 18 2 = M0 18 2 := b 18 2 (by omega)
    have Tk := f2 k (Nat.le_refl _) hk'
    have hp : M 11 k < M 18 2 := Tk.2.2.1
    have hw : RDg M k → 1 ≤ M 7 (M 11 k) := fun z => Nat.pos_of_ne_zero (Tk.2.2.2.2.2.2.2.2 z.2).1
    have T0k := hT k hk'
    have hcross : ∀ u, u < M0 18 3 → u ≠ k → RDg M k → M 14 u ≠ 0 → M 11 k ≠ M 11 u := by
      intro u hu huk hr hs
      have hr0 := hrd.mp hr
      rw [e11]
      rcases Nat.lt_or_gt_of_ne huk with q | q
      · rw [d u q 14 (by decide) (by decide)] at hs
        obtain ⟨s1, s2, s3⟩ := ac_speaks hO (fun z => ((hT u hu).2.2.2.2.2.2.1 z).2) hs
        rw [d u q 11 (by decide) (by decide), s2]
        exact fun z => hD u k q hk' s1 hr0.1 z.symm
      · rw [c u (by omega) 14 (by decide) (by decide)] at hs
        rw [c u (by omega) 11 (by decide) (by decide)]
        have s1 : M0 12 u = 0 := Classical.byContradiction fun z => hs ((hT u hu).2.2.2.2.2.2.1 z).2
        exact hD k u q hu hr0.1 s1
    have hcnt := ac_cnt a hp hw g1
    refine ⟨a.ac hp hw, fun j b' hj => (acN_st a hj b').trans (b j b' hj), fun t ht j j1 j2 => ?_, fun t ht j j1 j2 => ?_, fun o ho hn => ?_, fun t ht => ?_, fun t t1 t2 => ?_, ⟨hcnt.1, fun b' hb => (hcnt.2.1 b' hb).trans (g2 b' hb), by have := hcnt.2.2.1; omega, by have := hcnt.2.2.2.1; omega, ?_⟩, fun o => ?_⟩
    · rw [acN_u (by omega) (by omega)]
      exact c t (by omega) j j1 j2
    · by_cases q : t = k
      · subst q
        refine ac_cong hO a e11 e12 e13 e14 (fun b' => b 0 b' (by omega)) (fun b' => b 2 b' (by omega)) (fun b' => b 4 b' (by omega)) e18 (fun z1 z2 => ?_) j j1 j2
        have hpe := e (M0 11 t) T0k.2.2.1 (fun u hu z => hD u t hu hk' z.1.1 z1 z.2)
        have q0 := (hpe.2.2 0 (by decide)).2
        rw [Nat.add_zero] at q0
        exact ⟨hpe.1, hpe.2.1, q0⟩
      · rw [acN_u q (by omega)]
        exact d t (by omega) j j1 j2
    · have h0 := e o ho (fun t ht => hn t (by omega))
      obtain ⟨x1, x2, x3⟩ := ac_off a hp (o := o) (by omega) (fun z y => hn k (by omega) ⟨hrd.mp z, by rw [← e11]; exact y⟩)
      refine ⟨x1.trans h0.1, x2.trans h0.2.1, fun i hi => ⟨(x3 i hi).1.trans (h0.2.2 i hi).1, (x3 i hi).2.trans (h0.2.2 i hi).2⟩⟩
    · by_cases q : t = k
      · subst q
        exact ac_TT a Tk
      · exact ac_TTo a (f1 t (by omega)) q hp (hcross t (by omega) q)
    · exact ac_TTo a (f2 t (by omega) t2) (by omega) hp (hcross t t2 (by omega))
    · rw [nsum]
      by_cases q : RDg M0 k
      · rw [rdC_y q, hcnt.2.2.2.2.1 (hrd.mpr q), g5, Nat.add_assoc]
      · rw [rdC_n q, hcnt.2.2.2.2.2 (fun z => q (hrd.mp z)), g5, Nat.add_zero]
    · have := h5 o
      have := ac_5 hp o
      omega
theorem LI.ts (h : LI B k M0 M) (h3 : M0 18 3 ≤ 3) (hB : B < 1000000000) (hk : k ≤ M0 18 3) : TS M := by
  obtain ⟨a, b, c, d, e, f1, f2, -⟩ := h
  have c10 := a.c10
  have e3 : M 18 3 = M0 18 3 := b 18 3 (by omega)
  refine ⟨by omega, fun t ht => ?_⟩
  by_cases q : t < k
  · obtain ⟨a1, a2, a3, a4, a5, a6, -⟩ := f1 t q
    exact ⟨by omega, a4, a6, by omega⟩
  · obtain ⟨a1, a2, a3, a4, a5, a6, -⟩ := f2 t (by omega) (by omega)
    exact ⟨by omega, a4, a6, by omega⟩
/-- one token's minute in the class -/
theorem LL.act (h : LL S M) (hO : OI M) (hT : TT B M t) (ht : t < 3) (hB : B < 1000000000) (hR : M 0 0 ≤ 20 ∧ M 0 2 ≤ 60) (h5 : ∀ o, o < M 18 2 → M 5 o ≤ 1000000000) : LL (if 0 < at_ 3 (S 12) (iN t) then s_X6_comeNearer S (iN t) else if 0 < at_ 3 (S 14) (iN t) then s_X6_readOn S (iN t) else s_X6_beginOrSetOut S (iN t)) (acN M t) := by
  obtain ⟨a1, a2, a3, a4, a5, a6, a7, a8, a9⟩ := hT
  rw [at_in (by decide) ht, at_in (by decide) ht, h.a (by decide), h.a (by decide)]
  unfold acN
  by_cases q : 0 < M 12 t
  · rw [if_pos q, if_pos ((iN_pos (by omega)).mpr q)]
    exact h.near hO ht a3 q a4
  · rw [if_neg q, if_neg (fun z => q ((iN_pos (by omega)).mp z))]
    by_cases q2 : 0 < M 14 t
    · rw [if_pos q2, if_pos ((iN_pos (by omega)).mpr q2)]
      exact h.read hO ht a3 q2 a6 (Nat.pos_of_ne_zero (a9 (by omega)).1)
    · rw [if_neg q2, if_neg (fun z => q2 ((iN_pos (by omega)).mp z))]
      exact h.begin hO ht a3 ⟨by omega, by omega⟩ (by omega) (h5 _ a3)
theorem LL.acts (hO : OI M0) (hT : ∀ t, t < M0 18 3 → TT B M0 t) (hD : ID M0) (hC : IC M0) (h3 : M0 18 3 ≤ 3) (hB : B < 100000000) (hR : M0 0 0 ≤ 20 ∧ M0 0 2 ≤ 60) (h5 : ∀ o, o < M0 18 2 → M0 5 o ≤ B) : ∀ d k (S : SM) n, k + d = M0 18 3 → d < n → LL S (acs M0 k) → ∃ S', LL S' (acs M0 (M0 18 3)) ∧ s_X6_passMinute_L29 n S (iN k) = s_X6_passMinute_L99 (s_X6_tearUpWhereTwoMeet S') (iN (M0 18 3)) := by
  intro d
  induction d with
  | zero =>
    intro k S n e hn h
    obtain ⟨n, rfl⟩ := some_succ hn
    have hL := acs_LI hO hT hD hC k (by omega)
    have e3 : acs M0 k 18 3 = M0 18 3 := hL.2.1 18 3 (by omega)
    rw [Nat.add_zero] at e
    rw [e] at h
    refine ⟨S, h, ?_⟩
    rw [e] at e3
    rw [s_X6_passMinute_L29, h.tc, e3, e, if_neg (iN_nlt (by omega))]
  | succ d ih =>
    intro k S n e hn h
    obtain ⟨n, rfl⟩ := some_succ hn
    have hL := acs_LI hO hT hD hC k (by omega)
    have e3 : acs M0 k 18 3 = M0 18 3 := hL.2.1 18 3 (by omega)
    have e2 : acs M0 k 18 2 = M0 18 2 := hL.2.1 18 2 (by omega)
    have h1 := h.act hL.1 (hL.2.2.2.2.2.2.1 k (Nat.le_refl _) (by omega)) (by omega) (by omega) (by rw [hL.2.1 0 0 (by omega), hL.2.1 0 2 (by omega)]; exact hR) (fun o ho => by
      have z1 := hL.2.2.2.2.2.2.2.2 o
      have z2 := h5 o (by omega)
      omega)
    obtain ⟨S', g1, g2⟩ := ih (k + 1) _ n (by omega) (by omega) h1
    refine ⟨S', g1, ?_⟩
    rw [← g2, s_X6_passMinute_L29, h.tc, e3, if_pos (iN_ylt (by omega) (by omega)), iN_s]
    by_cases q1 : 0 < at_ 3 (S 12) (iN k)
    · rw [if_pos q1, if_pos q1]
    · rw [if_neg q1, if_neg q1]
      by_cases q2 : 0 < at_ 3 (S 14) (iN k)
      · rw [if_pos q2, if_pos q2]
      · rw [if_neg q2, if_neg q2]
theorem drN_t {j : Nat} (h1 : 10 ≤ j) (h2 : j ≤ 14) (t b : Nat) : drN M t j b = if t ≤ b ∧ b + 1 < M 18 3 then M j (b + 1) else M j b := by
  unfold drN
  by_cases q : t ≤ b ∧ b + 1 < M 18 3
  · rw [if_pos q, if_pos ⟨⟨h1, h2⟩, q⟩]
  · rw [if_neg q, if_neg (fun z => q z.2), if_neg (fun z => by omega)]
theorem drN_3 (t : Nat) : drN M t 18 3 = M 18 3 - 1 := by
  unfold drN
  rw [if_neg (fun z => by omega), if_pos ⟨rfl, rfl⟩]
theorem drN_o {j b : Nat} (h : (j < 10 ∨ 14 < j) ∧ ¬ (j = 18 ∧ b = 3)) (t : Nat) : drN M t j b = M j b := by
  unfold drN
  rw [if_neg (fun z => by omega), if_neg h.2]
theorem TS.drop (h : TS M) (ht : t < M 18 3) (v : Nat) : TS (drN (nP M 1 5 v) t) := by
  have e3 : nP M 1 5 v 18 3 = M 18 3 := nP_r (by decide) _
  refine ⟨by rw [drN_3, e3]; have := h.1; omega, fun u hu => ?_⟩
  rw [drN_3, e3] at hu
  rw [drN_t (by decide) (by decide), drN_t (by decide) (by decide), drN_t (by decide) (by decide), drN_t (by decide) (by decide), e3]
  by_cases q : t ≤ u ∧ u + 1 < M 18 3
  · simp only [if_pos q, nP_r (show (11 : Nat) ≠ 1 by decide), nP_r (show (12 : Nat) ≠ 1 by decide), nP_r (show (13 : Nat) ≠ 1 by decide), nP_r (show (14 : Nat) ≠ 1 by decide)]
    exact h.2 (u + 1) (by omega)
  · simp only [if_neg q, nP_r (show (11 : Nat) ≠ 1 by decide), nP_r (show (12 : Nat) ≠ 1 by decide), nP_r (show (13 : Nat) ≠ 1 by decide), nP_r (show (14 : Nat) ≠ 1 by decide)]
    exact h.2 u (by omega)
theorem LL.tear : ∀ e t j (S : SM) (M : NM) n, j + e = 3 → t ≤ j → LL S M → TS M → e < n → LL (s_X6_tearUpWhereTwoMeet_L4 n S (iN t) (iN j)) (teN e t M) := by
  intro e
  induction e with
  | zero =>
    intro t j S M n hj htj h hT hn
    obtain ⟨n, rfl⟩ := some_succ hn
    rw [s_X6_tearUpWhereTwoMeet_L4, show j = 3 by omega, if_neg (show ¬ iN 3 < 3 by decide)]
    exact h
  | succ e ih =>
    intro t j S M n hj htj h hT hn
    obtain ⟨n, rfl⟩ := some_succ hn
    have t3 := hT.1
    have hj3 : iN j < 3 := iN_ylt (b := 3) (by omega) (by decide)
    rw [s_X6_tearUpWhereTwoMeet_L4, if_pos hj3, iN_s, iN_s]
    by_cases ht : t < M 18 3
    · rcases h.follow hT ht with ⟨z1, z2⟩ | ⟨z1, z2⟩
      · rw [if_pos z1, teN_n (fun z => z2 z.2)]
        exact ih (t + 1) (j + 1) S M n (by omega) (by omega) h hT (by omega)
      · rw [if_neg (by rw [z1]; decide), teN_y ⟨ht, z2⟩]
        have h1 := (h.log 3 (at_ 3 (S 10) (iN t)) (at_ 3 (S 11) (iN t))).raise (j := 1) (by decide) (n := 9) (by decide) (k := 5) (by decide)
        have e3 : nP M 1 5 (M 1 5 + 1) 18 3 = M 18 3 := nP_r (by decide) _
        have h2 := h1.drop (by rw [e3]; exact t3) (t := t) (by rw [e3]; exact ht)
        exact ih t (j + 1) _ _ n (by omega) (by omega) h2 (hT.drop ht _) (by omega)
    · rw [if_pos (h.followB hT (by omega) (by omega)), teN_n (fun z => ht z.1)]
      exact ih (t + 1) (j + 1) S M n (by omega) (by omega) h hT (by omega)
/-- what tearing up leaves -/
def TR (e : Nat) (M N : NM) : Prop := (∃ f : Nat → Nat, (∀ q, q < N 18 3 → f q < M 18 3) ∧ (∀ q r, q < r → r < N 18 3 → f q < f r) ∧ ∀ q, q < N 18 3 → ∀ j, 10 ≤ j → j ≤ 14 → N j q = M j (f q)) ∧ N 18 3 ≤ M 18 3 ∧ (1 ≤ M 18 3 → 1 ≤ N 18 3) ∧ (N 18 3 < M 18 3 → M 1 5 < N 1 5) ∧ M 1 5 ≤ N 1 5 ∧ N 1 5 ≤ M 1 5 + e ∧ (∀ j b, j < 10 → ¬ (j = 1 ∧ b = 5) → N j b = M j b) ∧ ∀ b, b ≠ 3 → N 18 b = M 18 b
theorem te_TR : ∀ e t (M : NM), M 18 3 - t ≤ e → (∀ u, u < t → u < M 18 3 → ¬ FW M u) → TR e M (teN e t M) ∧ ID (teN e t M) := by
  intro e
  induction e with
  | zero =>
    intro t M ht hF
    refine ⟨⟨⟨id, fun q hq => hq, fun q r h _ => h, fun q _ j _ _ => rfl⟩, Nat.le_refl _, fun h => h, fun h => absurd h (by show ¬ M 18 3 < M 18 3; omega), Nat.le_refl _, by show M 1 5 ≤ M 1 5 + 0; omega, fun j b _ _ => rfl, fun b _ => rfl⟩, ?_⟩
    intro a b hab hb ha0 hb0 hne
    exact hF a (by show a < t; have : b < M 18 3 := hb; omega) (by show a < M 18 3; have : b < M 18 3 := hb; omega) ⟨ha0, b, hab, hb, hb0, hne.symm⟩
  | succ e ih =>
    intro t M ht hF
    by_cases q : t < M 18 3 ∧ FW M t
    · rw [teN_y q]
      obtain ⟨q1, q2⟩ := q
      have e3 : drN (nP M 1 5 (M 1 5 + 1)) t 18 3 = M 18 3 - 1 := by rw [drN_3, nP_r (by decide)]
      have et : ∀ j b, 10 ≤ j → j ≤ 14 → drN (nP M 1 5 (M 1 5 + 1)) t j b = if t ≤ b ∧ b + 1 < M 18 3 then M j (b + 1) else M j b := fun j b j1 j2 => by
        rw [drN_t j1 j2, nP_r (by decide), nP_r (by omega), nP_r (by omega)]
      obtain ⟨⟨⟨f, f1, f2, f3⟩, g1, g2, g3, g4, g5, g6, g7⟩, gD⟩ := ih t (drN (nP M 1 5 (M 1 5 + 1)) t) (by rw [e3]; omega) (fun u a b => by
        rw [e3] at b
        rintro ⟨y1, v, y2, y3, y4, y5⟩
        refine hF u a (by omega) ⟨?_, ?_⟩
        · rw [et 12 u (by decide) (by decide), if_neg (by omega)] at y1
          exact y1
        · rw [e3] at y3
          rw [et 12 v (by decide) (by decide)] at y4
          rw [et 11 v (by decide) (by decide), et 11 u (by decide) (by decide), if_neg (show ¬ (t ≤ u ∧ u + 1 < M 18 3) by omega)] at y5
          by_cases q : t ≤ v ∧ v + 1 < M 18 3
          · rw [if_pos q] at y4 y5
            exact ⟨v + 1, by omega, by omega, y4, y5⟩
          · rw [if_neg q] at y4 y5
            exact ⟨v, by omega, by omega, y4, y5⟩)
      have e5 : drN (nP M 1 5 (M 1 5 + 1)) t 1 5 = M 1 5 + 1 := by rw [drN_o (by omega), nP_e]
      rw [e3] at f1 g1 g2 g3
      rw [e5] at g3 g4 g5
      obtain ⟨-, v, v1, v2, -⟩ := q2
      refine ⟨⟨⟨fun q => if t ≤ f q then f q + 1 else f q, fun q hq => ?_, fun q r h hr => ?_, fun q hq j j1 j2 => ?_⟩, by omega, fun _ => g2 (by omega), fun _ => by omega, by omega, by omega, fun j b hj hb => ?_, fun b hb => ?_⟩, gD⟩
      · have := f1 q hq
        show (if t ≤ f q then f q + 1 else f q) < _
        split <;> omega
      · have := f2 q r h hr
        show (if t ≤ f q then f q + 1 else f q) < (if t ≤ f r then f r + 1 else f r)
        split <;> split <;> omega
      · have z := f1 q hq
        rw [f3 q hq j j1 j2, et j _ j1 j2]
        show _ = M j (if t ≤ f q then f q + 1 else f q)
        by_cases y : t ≤ f q
        · rw [if_pos y, if_pos (by omega)]
        · rw [if_neg y, if_neg (by omega)]
      · rw [g6 j b hj hb, drN_o (by omega), nP_get, if_neg hb]
      · rw [g7 b hb, drN_o (by omega), nP_r (by decide)]
    · rw [teN_n q]
      obtain ⟨⟨a1, a2, a3, a4, a5, a6, a7, a8⟩, aD⟩ := ih (t + 1) M (by omega) (fun u a b => by
        by_cases y : u = t
        · rw [y]
          exact fun z => q ⟨by omega, z⟩
        · exact hF u (by omega) b)
      exact ⟨⟨a1, a2, a3, a4, a5, by omega, a7, a8⟩, aD⟩
theorem LL.day (h : LL S M) (c10 : M 18 2 ≤ 10) : LL (s_X2_beginDay S) (daN M) := by
  have g : ∀ d k (S : SM) (N : NM) n, k + d = M 18 2 → d < n → LL S N → N 18 2 = M 18 2 → (∀ b, N 5 b = if b < k then 0 else M 5 b) → (∀ a b, a ≠ 5 → N a b = M a b) → LL (s_X2_beginDay_L2 n S (iN k)) (daN M) := by
    intro d
    induction d with
    | zero =>
      intro k S N n e hn h hc h5 hr
      obtain ⟨n, rfl⟩ := some_succ hn
      rw [s_X2_beginDay_L2, h.c, hc, show k = M 18 2 by omega, if_neg (iN_nlt (by omega))]
      refine h.to (fun j b hj => ?_) (fun b _ _ => ?_)
      · unfold daN
        by_cases q : j = 5
        · subst q
          rw [h5, show k = M 18 2 by omega]
          by_cases q : b < M 18 2
          · rw [if_pos ⟨rfl, q⟩, if_pos q]
          · rw [if_neg (fun z => q z.2), if_neg q]
        · rw [if_neg (fun z => q z.1), hr j b q]
      · unfold daN
        rw [if_neg (fun z => absurd z.1 (by decide)), hr 18 b (by decide)]
    | succ d ih =>
      intro k S N n e hn h hc h5 hr
      obtain ⟨n, rfl⟩ := some_succ hn
      rw [s_X2_beginDay_L2, h.c, hc, if_pos (iN_ylt (by omega) (by omega)), iN_s]
      refine ih (k + 1) _ _ n (by omega) (by omega) (h.put (j := 5) (by decide) (n := 10) (by decide) (k := k) (by omega) 0) (by rw [nP_r (by decide)]; exact hc) (fun b => ?_) (fun a b ha => by rw [nP_r ha]; exact hr a b ha)
      rw [nP_get, h5]
      by_cases q : b = k
      · rw [if_pos ⟨rfl, q⟩, if_pos (by omega)]
      · rw [if_neg (fun z => q z.2)]
        by_cases q2 : b < k
        · rw [if_pos q2, if_pos (by omega)]
        · rw [if_neg q2, if_neg (by omega)]
  exact g (M 18 2) 0 S M (mu 0 + 1) (by omega) (by rw [mu_0]; omega) h rfl (fun b => by rw [if_neg (by omega)]) (fun a b _ => rfl)
theorem daN_j {j : Nat} (h : j ≠ 5) (b : Nat) : daN M j b = M j b := if_neg (fun z => h z.1)
theorem tmN_j {j b : Nat} (h5 : j ≠ 5) (h0 : ¬ (j = 18 ∧ b = 0)) : tmN M j b = M j b := by
  unfold tmN
  split
  · rw [daN_j h5, nP_get, if_neg h0]
  · rw [nP_get, if_neg h0]
theorem tmN_5 (b : Nat) : tmN M 5 b ≤ M 5 b ∧ ((M 18 0 + 1) % 60 ≠ 0 → tmN M 5 b = M 5 b) := by
  unfold tmN
  split
  · rename_i q
    refine ⟨?_, fun z => absurd q z⟩
    unfold daN
    split
    · exact Nat.zero_le _
    · rw [nP_r (by decide)]
      exact Nat.le_refl _
  · rw [nP_r (by decide)]
    exact ⟨Nat.le_refl _, fun _ => rfl⟩
theorem tmN_0 : tmN M 18 0 = M 18 0 + 1 := by
  unfold tmN
  split
  · rw [daN_j (by decide), nP_e]
  · rw [nP_e]
theorem elN_n (h : M 18 1 < M 0 1 ∨ winN M (M 18 2) = none) : elN M = M := by
  unfold elN
  by_cases q : M 18 1 < M 0 1
  · rw [if_pos q]
  · rw [if_neg q]
    rcases h with h | h
    · exact absurd h q
    · rw [h]
theorem elN_y (h : ¬ M 18 1 < M 0 1) (hw : winN M (M 18 2) = some p) : elN M = nP (adN (nP M 18 1 0) p) 1 4 (M 1 4 + 1) := by
  unfold elN
  rw [if_neg h, hw]
theorem LL.elect (h : LL S M) (hO : OI M) (h3 : M 18 3 < 3) (hb : M 18 1 ≤ 1000000000) (hq : M 0 1 ≤ 99) : LL (s_X6_stayWithoutToken_L10 S) (elN M) := by
  have c10 := hO.c10
  unfold s_X6_stayWithoutToken_L10
  have e0 : at_ 3 (S 0) 1 = iN (M 0 1) := (at_in (i := 1) (by decide) (by decide)).trans (h.a (by decide) 1)
  rw [h.2 1 (by decide) (by decide), e0, h.win hO]
  by_cases q : M 18 1 < M 0 1
  · rw [if_pos ((iN_lt (by omega) (by omega)).mpr q), elN_n (Or.inl q)]
    exact h
  · rw [if_neg (fun z => q ((iN_lt (by omega) (by omega)).mp z))]
    cases hw : winN M (M 18 2) with
    | none =>
      rw [if_pos (show iO none = -2 from rfl), elN_n (Or.inr hw)]
      exact h
    | some p =>
      have hp := winN_some _ hw
      rw [if_neg (show ¬ iO (some p) = -2 from iN_m2 (by omega)), elN_y q hw]
      have h1 := h.sf 1 0
      have h2 := h1.add (by rw [nP_k _ (by decide)]; exact h3) p
      have h4 := h2.raise (j := 1) (by decide) (n := 9) (by decide) (k := 4) (by decide)
      have e4 : adN (nP M 18 1 0) p 1 4 = M 1 4 := by simp [adN, nP_get]
      rw [e4] at h4
      exact h4.log _ _ _
end MI
