-- PART 37: the whole object between two calls; undo; what is only tried
def Hi (B : Nat) (Y : RS) : Prop := ∃ hn hc, hn < 8 ∧ hc ≤ 8 ∧ Y 4 0 2 = iN hn ∧ Y 4 0 3 = iN hc ∧ ∀ i, i < hc → ∃ M, LL (Y (5 + (hn + 8 - hc + i) % 8)) M ∧ Inv B M
def Sl (B : Nat) (Y : RS) : Prop := ∀ i, i < 2 → Y 4 2 i ≠ 0 → ∃ M, LL (Y (13 + i)) M ∧ Inv B M
/-- now is M; what can be undone, the slots and the tape are as they should be -/
def St (B : Nat) (Y : RS) (M : NM) : Prop := LL (Y 0) M ∧ Inv B M ∧ Hi B Y ∧ Sl B Y ∧ Y 2 1 0 = iN 0
/-- undo() makes S again -/
def UN (B : Nat) (Y : RS) (S : SM) (M : NM) : Prop := ∃ n Z, p_X9_undo Y = (iN n, Z) ∧ n ≤ 8 ∧ Z 0 = S ∧ St B Z M ∧ Z 4 0 0 = Y 4 0 0
def pmI (S : SM) : Nat → SM
  | 0 => S
  | k + 1 => s_X6_passMinute (pmI S k)
noncomputable def miI (M : NM) : Nat → NM
  | 0 => M
  | k + 1 => miN (miI M k)
section ST
variable {S : SM} {M N M' : NM} {Y Y' Z : RS} {B B' o p i t u k v hn hc : Nat}
theorem Hi.mono (h : Hi B Y) (hB : B ≤ B') : Hi B' Y := by
  obtain ⟨hn, hc, a, b, c, d, e⟩ := h
  exact ⟨hn, hc, a, b, c, d, fun i hi => by
    obtain ⟨M, h1, h2⟩ := e i hi
    exact ⟨M, h1, h2.mono hB⟩⟩
theorem Sl.mono (h : Sl B Y) (hB : B ≤ B') : Sl B' Y := fun i hi hz => by
  obtain ⟨M, h1, h2⟩ := h i hi hz
  exact ⟨M, h1, h2.mono hB⟩
theorem St.mono (h : St B Y M) (hB : B ≤ B') : St B' Y M := ⟨h.1, h.2.1.mono hB, h.2.2.1.mono hB, h.2.2.2.1.mono hB, h.2.2.2.2⟩
theorem Hi.fr (h : Hi B Y) (h5 : ∀ k, 5 ≤ k → k < 13 → Y' k = Y k) (h2 : Y' 4 0 2 = Y 4 0 2) (h3 : Y' 4 0 3 = Y 4 0 3) : Hi B Y' := by
  obtain ⟨hn, hc, a, b, c, d, e⟩ := h
  refine ⟨hn, hc, a, b, h2.trans c, h3.trans d, fun i hi => ?_⟩
  rw [h5 _ (by omega) (by omega)]
  exact e i hi
theorem Sl.fr (h : Sl B Y) (h13 : ∀ k, 13 ≤ k → k < 15 → Y' k = Y k) (h2 : Y' 4 2 = Y 4 2) : Sl B Y' := by
  intro i hi
  rw [h2, h13 _ (by omega) (by omega)]
  exact h i hi
/-- the draft, the page and the scanner change alone -/
theorem St.fr (h : St B Y M) (h0 : Y' 0 = Y 0) (h2 : Y' 2 = Y 2) (h4 : Y' 4 = Y 4) (h5 : ∀ k, 5 ≤ k → k < 15 → Y' k = Y k) : St B Y' M :=
  ⟨by rw [h0]; exact h.1, h.2.1, h.2.2.1.fr (fun k a b => h5 k a (by omega)) (by rw [h4]) (by rw [h4]), h.2.2.2.1.fr (fun k a b => h5 k (by omega) b) (by rw [h4]), by rw [h2]; exact h.2.2.2.2⟩
theorem v_take (h1 : hn < 8) (h2 : hc ≤ 8) (h0 : hc ≠ 0) (e2 : Y 4 0 2 = iN hn) (e3 : Y 4 0 3 = iN hc) : (∀ k, k ≠ 0 → k ≠ 4 → s_X0_takeBack Y k = Y k) ∧ s_X0_takeBack Y 0 = Y (5 + (hn + 7) % 8) ∧ s_X0_takeBack Y 4 0 2 = iN ((hn + 7) % 8) ∧ s_X0_takeBack Y 4 0 3 = iN (hc - 1) ∧ s_X0_takeBack Y 4 0 0 = Y 4 0 0 ∧ s_X0_takeBack Y 4 2 = Y 4 2 := by
  have hm : (hn + 7) % 8 < 8 := Nat.mod_lt _ (by decide)
  have ej : jrem (Y 4 0 2 + 8 - 1) 8 = iN ((hn + 7) % 8) := by
    rw [e2, show iN hn + 8 = iN (hn + 8) from iN_add hn 8, iN_1 (by omega), show (8 : Int32) = iN 8 from rfl, iN_rem (by omega) (by decide)]
    rfl
  have em : s_X0_takeBack Y = yU (yF (yF Y 2 (iN ((hn + 7) % 8))) 3 (iN (hc - 1))) 0 (Y (5 + (hn + 7) % 8)) := by
    have a1 : yF Y 2 (iN ((hn + 7) % 8)) 4 0 3 = iN hc := by rw [yF_4, upd_ne (by decide), e3]
    have a2 : yF (yF Y 2 (iN ((hn + 7) % 8))) 3 (iN (hc - 1)) 4 0 2 = iN ((hn + 7) % 8) := by rw [yF_4, upd_ne (by decide), yF_4, upd_eq]
    unfold s_X0_takeBack s_X0_takeBack_L24 s_X0_takeBack_L34
    rw [ej, e3, if_neg (fun z => h0 ((iN_0 (by omega)).mp z)), a1, iN_1 (by omega), a2, if_neg (iN_neg (by omega)), if_pos (show iN ((hn + 7) % 8) < 8 from iN_ylt (b := 8) hm (by decide)), show Int32.toNatClampNeg (iN ((hn + 7) % 8)) = (hn + 7) % 8 from iN_nat (by omega), yF_k _ _ _ (by omega), yF_k _ _ _ (by omega)]
  rw [em]
  refine ⟨fun k k0 k4 => ?_, yU_eq _ _ _, ?_, ?_, ?_, ?_⟩
  · rw [yU_ne k0, yF_k _ _ _ k4, yF_k _ _ _ k4]
  · rw [yU_ne (by decide), yF_4, upd_ne (by decide), yF_4, upd_eq]
  · rw [yU_ne (by decide), yF_4, upd_eq]
  · rw [yU_ne (by decide), yF_4, upd_ne (by decide), yF_4, upd_ne (by decide)]
  · rw [yU_ne (by decide), yF_42, yF_42]
/-- undo() where there is something -/
theorem v_undo (h1 : hn < 8) (h2 : hc ≤ 8) (h0 : hc ≠ 0) (e2 : Y 4 0 2 = iN hn) (e3 : Y 4 0 3 = iN hc) : p_X9_undo Y = (iN (hc - 1), s_X0_takeBack Y) := by
  unfold p_X9_undo p_X9_undo_L23
  rw [e3, if_neg (fun z => h0 ((iN_0 (by omega)).mp z)), (v_take h1 h2 h0 e2 e3).2.2.2.1]
/-- an operation: what was is remembered, what is now is new -/
theorem St.op (h : St B Y M) (hk : ∀ k, k ≠ 0 → Y' k = s_X0_remember Y k) (hL : LL (Y' 0) M') (hI : Inv B' M') (hB : B ≤ B') : St B' Y' M' ∧ UN B Y' (Y 0) M := by
  obtain ⟨g1, g2, ⟨hn, hc, g3, g4, g5, g6, g7⟩, g8, g9⟩ := h
  obtain ⟨r1, r2, r3, r4, r5, r6, r7⟩ := v_rem g3 g4 g5 g6
  have e4 : Y' 4 = s_X0_remember Y 4 := hk 4 (by decide)
  have x2 : Y' 4 0 2 = iN ((hn + 1) % 8) := by rw [e4]; exact r4
  have x3 : Y' 4 0 3 = iN (if hc < 8 then hc + 1 else hc) := by rw [e4]; exact r5
  have x5 : Y' (5 + hn) = Y 0 := by rw [hk _ (by omega)]; exact r3
  have xk : ∀ k, 5 ≤ k → k ≠ 5 + hn → Y' k = Y k := fun k a b => by rw [hk k (by omega)]; exact r2 k a b
  have x42 : Y' 4 2 = Y 4 2 := by rw [e4]; exact r7
  have xt : Y' 2 1 0 = iN 0 := by rw [hk 2 (by decide), r1 2 (by decide) (by decide)]; exact g9
  have hSl0 : Sl B Y' := g8.fr (fun k a b => xk k (by omega) (by omega)) x42
  have hSl : Sl B' Y' := hSl0.mono hB
  refine ⟨⟨hL, hI, ⟨(hn + 1) % 8, (if hc < 8 then hc + 1 else hc), Nat.mod_lt _ (by decide), by split <;> omega, x2, x3, fun i hi => ?_⟩, hSl, xt⟩, ?_⟩
  · by_cases q : hc < 8
    · rw [if_pos q] at hi ⊢
      by_cases qi : i = hc
      · rw [show 5 + ((hn + 1) % 8 + 8 - (hc + 1) + i) % 8 = 5 + hn by omega, x5]
        exact ⟨M, g1, g2.mono hB⟩
      · rw [show 5 + ((hn + 1) % 8 + 8 - (hc + 1) + i) % 8 = 5 + (hn + 8 - hc + i) % 8 by omega, xk _ (by omega) (by omega)]
        obtain ⟨N, n1, n2⟩ := g7 i (by omega)
        exact ⟨N, n1, n2.mono hB⟩
    · rw [if_neg q] at hi ⊢
      by_cases qi : i = 7
      · rw [show 5 + ((hn + 1) % 8 + 8 - hc + i) % 8 = 5 + hn by omega, x5]
        exact ⟨M, g1, g2.mono hB⟩
      · rw [show 5 + ((hn + 1) % 8 + 8 - hc + i) % 8 = 5 + (hn + 8 - hc + (i + 1)) % 8 by omega, xk _ (by omega) (by omega)]
        obtain ⟨N, n1, n2⟩ := g7 (i + 1) (by omega)
        exact ⟨N, n1, n2.mono hB⟩
  · have hn' : (hn + 1) % 8 < 8 := Nat.mod_lt _ (by decide)
    have h0 : (if hc < 8 then hc + 1 else hc) ≠ 0 := by split <;> omega
    have h8 : (if hc < 8 then hc + 1 else hc) ≤ 8 := by split <;> omega
    obtain ⟨t1, t2, t3, t4, t5, t6⟩ := v_take hn' h8 h0 x2 x3
    refine ⟨_, _, v_undo hn' h8 h0 x2 x3, by omega, ?_, ⟨?_, g2, ⟨((hn + 1) % 8 + 7) % 8, (if hc < 8 then hc + 1 else hc) - 1, Nat.mod_lt _ (by decide), by omega, t3, t4, fun i hi => ?_⟩, hSl0.fr (fun k a b => t1 k (by omega) (by omega)) t6, by rw [t1 2 (by decide) (by decide)]; exact xt⟩, t5⟩
    · rw [t2, show 5 + ((hn + 1) % 8 + 7) % 8 = 5 + hn by omega, x5]
    · rw [t2, show 5 + ((hn + 1) % 8 + 7) % 8 = 5 + hn by omega, x5]
      exact g1
    · rw [t1 _ (by omega) (by omega)]
      by_cases q : hc < 8
      · rw [if_pos q] at hi ⊢
        rw [show 5 + (((hn + 1) % 8 + 7) % 8 + 8 - (hc + 1 - 1) + i) % 8 = 5 + (hn + 8 - hc + i) % 8 by omega, xk _ (by omega) (by omega)]
        obtain ⟨N, n1, n2⟩ := g7 i (by omega)
        exact ⟨N, n1, n2⟩
      · rw [if_neg q] at hi ⊢
        rw [show 5 + (((hn + 1) % 8 + 7) % 8 + 8 - (hc - 1) + i) % 8 = 5 + (hn + 8 - hc + (i + 1)) % 8 by omega, xk _ (by omega) (by omega)]
        obtain ⟨N, n1, n2⟩ := g7 (i + 1) (by omega)
        exact ⟨N, n1, n2⟩
theorem rem_0 (h : St B Y M) : s_X0_remember Y 0 = Y 0 := by
  obtain ⟨g1, g2, ⟨hn, hc, g3, g4, g5, g6, g7⟩, g8, g9⟩ := h
  exact (v_rem g3 g4 g5 g6).1 0 (by decide) (by decide)
/-- undo(), whatever there is -/
theorem St.undo (h : St B Y M) : (p_X9_undo Y = (-1, Y)) ∨ ∃ n Z M', p_X9_undo Y = (iN n, Z) ∧ n ≤ 8 ∧ St B Z M' := by
  obtain ⟨g1, g2, ⟨hn, hc, g3, g4, g5, g6, g7⟩, g8, g9⟩ := h
  by_cases h0 : hc = 0
  · left
    unfold p_X9_undo
    rw [g6, h0, if_pos (show iN 0 = 0 from rfl)]
  · right
    obtain ⟨t1, t2, t3, t4, t5, t6⟩ := v_take g3 g4 h0 g5 g6
    obtain ⟨N, n1, n2⟩ := g7 (hc - 1) (by omega)
    rw [show 5 + (hn + 8 - hc + (hc - 1)) % 8 = 5 + (hn + 7) % 8 by omega] at n1
    refine ⟨hc - 1, _, N, v_undo g3 g4 h0 g5 g6, by omega, ⟨by rw [t2]; exact n1, n2, ⟨(hn + 7) % 8, hc - 1, Nat.mod_lt _ (by decide), by omega, t3, t4, fun i hi => ?_⟩, g8.fr (fun k a b => t1 k (by omega) (by omega)) t6, by rw [t1 2 (by decide) (by decide)]; exact g9⟩⟩
    rw [t1 _ (by omega) (by omega), show 5 + ((hn + 7) % 8 + 8 - (hc - 1) + i) % 8 = 5 + (hn + 8 - hc + i) % 8 by omega]
    exact g7 i (by omega)
theorem wth_iN (x a b : Nat) (hx : x < 2147483648) (ha : a < 2147483648) (hb : b < 2147483648) : v_X9_isWithin (iN x) (iN a) (iN b) = if a ≤ x ∧ x ≤ b then 1 else 0 := by
  unfold v_X9_isWithin
  by_cases q : x < a
  · rw [if_pos ((iN_lt hx ha).mpr q), if_neg (fun z => by omega)]
  · rw [if_neg (fun z => q ((iN_lt hx ha).mp z))]
    by_cases q2 : b < x
    · rw [if_pos ((iN_lt hb hx).mpr q2), if_neg (fun z => by omega)]
    · rw [if_neg (fun z => q2 ((iN_lt hb hx).mp z)), if_pos (by omega)]
/-- many minutes -/
theorem pmI_s (S : SM) : ∀ k, pmI (s_X6_passMinute S) k = pmI S (k + 1) := by
  intro k
  induction k with
  | zero => rfl
  | succ k ih =>
    show s_X6_passMinute (pmI (s_X6_passMinute S) k) = s_X6_passMinute (pmI S (k + 1))
    rw [ih]
theorem miI_inv (h : Inv B M) : ∀ k, Inv (B + 5 * k) (miI M k) ∧ M 1 1 ≤ miI M k 1 1 ∧ miI M k 18 0 = M 18 0 + k := by
  intro k
  induction k with
  | zero => exact ⟨h, Nat.le_refl _, rfl⟩
  | succ k ih =>
    obtain ⟨h1, h2, h3⟩ := ih
    obtain ⟨-, -, m0, -, -, -, -, m1, -⟩ := mi_MS h1
    refine ⟨mi_inv h1, ?_, ?_⟩
    · rw [miI]
      omega
    · rw [miI]
      omega
theorem LL.mins (h : LL S M) (hI : Inv B M) (hB : B ≤ 1000000) : ∀ k, k ≤ 1000 → LL (pmI S k) (miI M k) := by
  intro k
  induction k with
  | zero => intro _; exact h
  | succ k ih =>
    intro hk
    exact (ih (by omega)).minute (miI_inv hI k).1 (by omega)
theorem yU_self (Y : RS) (k : Nat) : yU Y k (Y k) = Y := by
  funext j
  unfold yU
  by_cases q : j = k
  · rw [if_pos q, q]
  · rw [if_neg q]
theorem minL : ∀ d j (Y : RS) (x : Int32) n m, j + d = m → m ≤ 1000 → d < n → p_X9_minute_L55 n Y (iN m) x (iN j) = (at_ 9 (pmI (Y 0) d 1) 1 - x, yU Y 0 (pmI (Y 0) d)) := by
  intro d
  induction d with
  | zero =>
    intro j Y x n m e hm hn
    obtain ⟨n, rfl⟩ := some_succ hn
    rw [p_X9_minute_L55, show j = m by omega, if_neg (iN_nlt (by omega))]
    show _ = (at_ 9 (Y 0 1) 1 - x, yU Y 0 (Y 0))
    rw [yU_self]
  | succ d ih =>
    intro j Y x n m e hm hn
    obtain ⟨n, rfl⟩ := some_succ hn
    rw [p_X9_minute_L55, if_pos (iN_ylt (by omega) (by omega)), iN_s, ih (j + 1) _ x n m (by omega) hm (by omega), yU_eq, pmI_s, yU_yU]
/-- minute() -/
theorem St.minute (h : St B Y M) (hB : B ≤ 9000) {m : Nat} (h1 : 1 ≤ m) (h2 : m ≤ 100) : ∃ Y', p_X9_minute Y (iN m) = (iN (miI M m 1 1 - M 1 1), Y') ∧ Y' 0 = pmI (Y 0) m ∧ St (B + 5 * m) Y' (miI M m) ∧ UN B Y' (Y 0) M := by
  have r0 := rem_0 h
  have hL := h.1.mins h.2.1 (by omega) m (by omega)
  obtain ⟨i1, i2, i3⟩ := miI_inv h.2.1 m
  have t0 := h.2.1.2.2.2.1.1
  have e1 : at_ 9 (Y 0 1) 1 = iN (M 1 1) := (at_in (i := 1) (by decide) (by decide)).trans (h.1.a (by decide) 1)
  have e2 : at_ 9 (pmI (Y 0) m 1) 1 = iN (miI M m 1 1) := (at_in (i := 1) (by decide) (by decide)).trans (hL.a (by decide) 1)
  have ew : v_X9_isWithin (iN m) 1 100 = 1 := (wth_iN m 1 100 (by omega) (by decide) (by decide)).trans (if_pos ⟨h1, h2⟩)
  have et : ¬ ((9999 : Int32) - iN m < Y 0 18 0) := by
    rw [h.1.2 0 (by decide) (by decide), show (9999 : Int32) = iN 9999 from rfl, iN_sub (by omega)]
    exact fun z => by
      have := (iN_lt (by omega) (by omega)).mp z
      omega
  refine ⟨yU (s_X0_remember Y) 0 (pmI (Y 0) m), ?_, yU_eq _ _ _, ?_⟩
  · unfold p_X9_minute
    rw [ew, if_neg (by decide), if_neg et]
    unfold p_X9_minute_L41
    have z := minL m 0 (s_X0_remember Y) (at_ 9 (s_X0_remember Y 0 1) 1) (mu 0 + 1) m (by omega) (by omega) (by rw [mu_0]; omega)
    rw [r0, e1, e2, iN_sub i2] at z
    rw [r0, e1]
    exact z
  · exact h.op (fun k hk => yU_ne hk) (by rw [yU_eq]; exact hL) i1 (by omega)
/-- what is only tried: the draft alone changes -/
def SC (Y Y' : RS) : Prop := ∀ k, k ≠ 1 → Y' k = Y k
theorem SC.st (h : St B Y M) (hs : SC Y Y') : St B Y' M := h.fr (hs 0 (by decide)) (hs 2 (by decide)) (hs 4 (by decide)) (fun k a b => hs k (by omega))
theorem yU_c {j k : Nat} {A C : SM} (h : j ≠ k) : yU (yU Y j A) k C = yU (yU Y k C) j A := by
  funext i
  unfold yU
  by_cases q : i = k
  · rw [if_pos q, if_neg (fun z => h (z.symm.trans q)), if_pos q]
  · rw [if_neg q]
    by_cases q2 : i = j
    · rw [if_pos q2, if_pos q2]
    · rw [if_neg q2, if_neg q2, if_neg q]
theorem yF_1 (j : Nat) (x : Int32) : yF (yU Y 1 S) j x = yU (yF Y j x) 1 S := by
  unfold yF
  rw [yU_ne (by decide)]
  exact yU_c (by decide)
theorem tb_1 : s_X0_takeBack (yU Y 1 S) = yU (s_X0_takeBack Y) 1 S := by
  have h34 : ∀ Y : RS, s_X0_takeBack_L34 (yU Y 1 S) = yU (s_X0_takeBack_L34 Y) 1 S := by
    intro Y
    unfold s_X0_takeBack_L34
    rw [yU_ne (show 4 ≠ 1 by decide), yU_ne (show 5 + Int32.toNatClampNeg (Y 4 0 2) ≠ 1 by omega)]
    by_cases a : Y 4 0 2 < 0
    · rw [if_pos a, if_pos a]
    · rw [if_neg a, if_neg a]
      by_cases b : Y 4 0 2 < 8
      · rw [if_pos b, if_pos b]
        exact yU_c (by decide)
      · rw [if_neg b, if_neg b]
  unfold s_X0_takeBack s_X0_takeBack_L24
  rw [yU_ne (show 4 ≠ 1 by decide), yF_1, yU_ne (show 4 ≠ 1 by decide), yF_1, h34]
  by_cases a : Y 4 0 3 = 0
  · rw [if_pos a, if_pos a]
  · rw [if_neg a, if_neg a]
theorem SC.y1_ (h : SC Y Y') : Y' = yU Y 1 (Y' 1) := by
  funext k
  by_cases q : k = 1
  · rw [q, yU_eq]
  · rw [yU_ne q]
    exact h k q
theorem UN.sc (h : UN B Y S M) (hs : SC Y Y') : UN B Y' S M := by
  obtain ⟨n, Z, e, h8, h0, h1, h4⟩ := h
  rw [hs.y1_]
  have e2 : p_X9_undo (yU Y 1 (Y' 1)) = ((p_X9_undo Y).1, yU (p_X9_undo Y).2 1 (Y' 1)) := by
    unfold p_X9_undo p_X9_undo_L23
    rw [tb_1, yU_ne (show 4 ≠ 1 by decide), yU_ne (show 4 ≠ 1 by decide)]
    by_cases a : Y 4 0 3 = 0
    · rw [if_pos a, if_pos a]
    · rw [if_neg a, if_neg a]
  rw [e] at e2
  refine ⟨n, _, e2, h8, ?_, SC.st h1 (fun k hk => yU_ne hk), ?_⟩
  · show yU Z 1 (Y' 1) 0 = S
    rw [yU_ne (by decide)]
    exact h0
  · show yU Z 1 (Y' 1) 4 0 0 = yU Y 1 (Y' 1) 4 0 0
    rw [yU_ne (by decide), yU_ne (by decide)]
    exact h4
theorem SC.dr (Y : RS) (S : SM) : SC Y (yU Y 1 S) := fun k hk => yU_ne hk
theorem SC.tr {Y'' : RS} (h1 : SC Y Y') (h2 : SC Y' Y'') : SC Y Y'' := fun k hk => (h2 k hk).trans (h1 k hk)
/-- which count is told -/
def cT (w : Nat) : Nat := if w = 0 then 1 else if w = 1 then 2 else if w = 2 then 8 else if w = 3 then 4 else if w = 4 then 7 else 4
theorem cT_eq (w : Nat) (hw : w ≤ 5) : v_X9_countTold (iN w) = iN (cT w) ∧ cT w < 9 := by
  rcases (by omega : w = 0 ∨ w = 1 ∨ w = 2 ∨ w = 3 ∨ w = 4 ∨ w = 5) with rfl | rfl | rfl | rfl | rfl | rfl <;> exact ⟨by decide, by decide⟩
/-- what m minutes from N on would bring, seen from M -/
noncomputable def toN5 (M N : NM) (m w : Nat) : Int32 := if w = 3 then iN (miI N m 18 3) else iN (miI N m 1 (cT w)) - iN (M 1 (cT w))
theorem triedL (w : Nat) (hw : w ≤ 5) : ∀ d j (Y : RS) n m, j + d = m → m ≤ 1000 → d < n → p_X9_triedMinutes_L2 n Y (iN m) (iN w) (iN j) = (if w = 3 then pmI (Y 1) d 18 3 else at_ 9 (pmI (Y 1) d 1) (iN (cT w)) - at_ 9 (Y 0 1) (iN (cT w)), yU Y 1 (pmI (Y 1) d)) := by
  intro d
  induction d with
  | zero =>
    intro j Y n m e hm hn
    obtain ⟨n, rfl⟩ := some_succ hn
    rw [p_X9_triedMinutes_L2, show j = m by omega, if_neg (iN_nlt (by omega)), (cT_eq w hw).1]
    show _ = ((if w = 3 then Y 1 18 3 else at_ 9 (Y 1 1) (iN (cT w)) - at_ 9 (Y 0 1) (iN (cT w))), yU Y 1 (Y 1))
    rw [yU_self]
    by_cases q : w = 3
    · rw [if_pos q, if_pos (show iN w = 3 by rw [q]; rfl)]
    · rw [if_neg q, if_neg (show ¬ iN w = 3 from fun z => q ((iN_inj (b := 3) (by omega) (by decide)).mp z))]
  | succ d ih =>
    intro j Y n m e hm hn
    obtain ⟨n, rfl⟩ := some_succ hn
    rw [p_X9_triedMinutes_L2, if_pos (iN_ylt (by omega) (by omega)), iN_s, ih (j + 1) _ n m (by omega) hm (by omega), yU_eq, pmI_s, yU_yU, yU_ne (show (0 : Nat) ≠ 1 by decide)]
theorem tried (h0 : LL (Y 0) M) (h1 : LL (Y 1) N) (hI : Inv B N) (hB : B ≤ 1000000) {m w : Nat} (hm : m ≤ 1000) (hw : w ≤ 5) : p_X9_triedMinutes Y (iN m) (iN w) = (toN5 M N m w, yU Y 1 (pmI (Y 1) m)) := by
  have hL := h1.mins hI hB m hm
  have z := triedL w hw m 0 Y (mu 0 + 1) m (by omega) hm (by rw [mu_0]; omega)
  have e : (if w = 3 then pmI (Y 1) m 18 3 else at_ 9 (pmI (Y 1) m 1) (iN (cT w)) - at_ 9 (Y 0 1) (iN (cT w))) = toN5 M N m w := by
    unfold toN5
    have c9 := (cT_eq w hw).2
    rw [hL.tc, at_in (by decide) c9, at_in (by decide) c9, hL.a (by decide), h0.a (by decide)]
  rw [e] at z
  exact z
theorem foresee {m w : Nat} (hm : m ≤ 300) (hw : w ≤ 5) : v_X9_isForesight (iN m) (iN w) = 1 := by
  unfold v_X9_isForesight
  rw [show v_X9_isWithin (iN m) 0 300 = 1 from (wth_iN m 0 300 (by omega) (by decide) (by decide)).trans (if_pos ⟨by omega, hm⟩), if_neg (by decide), show v_X9_isWithin (iN w) 0 5 = 1 from (wth_iN w 0 5 (by omega) (by decide) (by decide)).trans (if_pos ⟨by omega, hw⟩), if_neg (by decide)]
/-- ifPassed() -/
theorem St.ifPassed (h : St B Y M) (hB : B ≤ 1000000) {m w : Nat} (hm : m ≤ 300) (hw : w ≤ 5) : ∃ Y', p_X9_ifPassed Y (iN m) (iN w) = (toN5 M M m w, Y') ∧ SC Y Y' := by
  unfold p_X9_ifPassed p_X9_ifPassed_L21
  rw [foresee hm hw, if_neg (by decide)]
  have h0 : LL ((yU Y 1 (Y 0)) 0) M := by rw [yU_ne (by decide)]; exact h.1
  have h1 : LL ((yU Y 1 (Y 0)) 1) M := by rw [yU_eq]; exact h.1
  rw [tried h0 h1 h.2.1 hB (by omega) hw]
  exact ⟨_, rfl, (SC.dr _ _).tr (SC.dr _ _)⟩
theorem isRule {a v : Nat} (ha : a ≤ 2) (hv : v < 2147483648) : v_X9_isRule (iN a) (iN v) = if 1 ≤ v ∧ v ≤ (if a = 0 then 20 else if a = 1 then 99 else 60) then 1 else 0 := by
  unfold v_X9_isRule v_X9_mostOfRule
  rcases (by omega : a = 0 ∨ a = 1 ∨ a = 2) with rfl | rfl | rfl
  · exact wth_iN v 1 20 hv (by decide) (by decide)
  · exact wth_iN v 1 99 hv (by decide) (by decide)
  · exact wth_iN v 1 60 hv (by decide) (by decide)
/-- the draft with another rule -/
theorem LL.rule (h : LL S M) {a : Nat} (ha : a ≤ 2) (v : Nat) : LL (sU S 0 (put_ 3 (S 0) (iN a) (iN v))) (nP M 0 a v) := h.put (by decide) (by decide) (by omega) v
def rOK (a v : Nat) : Prop := ((a = 0 ∧ v ≤ 20) ∨ (a = 1 ∧ v ≤ 99) ∨ (a = 2 ∧ v ≤ 60)) ∧ 1 ≤ v
theorem isRuleY {a v : Nat} (h : rOK a v) : v_X9_isRule (iN a) (iN v) = 1 := by
  obtain ⟨h1, h2⟩ := h
  rw [isRule (by omega) (by omega), if_pos]
  rcases h1 with ⟨rfl, h1⟩ | ⟨rfl, h1⟩ | ⟨rfl, h1⟩
  · rw [if_pos rfl]; omega
  · rw [if_neg (by decide), if_pos rfl]; omega
  · rw [if_neg (by decide), if_neg (by decide)]; omega
/-- ifRule() -/
theorem St.ifRule (h : St B Y M) (hB : B ≤ 1000000) {a v m w : Nat} (ha : rOK a v) (hm : m ≤ 300) (hw : w ≤ 5) : ∃ Y', p_X9_ifRule Y (iN a) (iN v) (iN m) (iN w) = (toN5 M (nP M 0 a v) m w, Y') ∧ SC Y Y' := by
  have ha2 : a ≤ 2 := by have := ha.1; omega
  unfold p_X9_ifRule p_X9_ifRule_L30 p_X9_ifRule_L42
  rw [isRuleY ha, if_neg (by decide), foresee hm hw, if_neg (by decide), yU_eq, yU_yU]
  have h0 : LL ((yU Y 1 (sU (Y 0) 0 (put_ 3 (Y 0 0) (iN a) (iN v)))) 0) M := by rw [yU_ne (by decide)]; exact h.1
  have h1 : LL ((yU Y 1 (sU (Y 0) 0 (put_ 3 (Y 0 0) (iN a) (iN v)))) 1) (nP M 0 a v) := by rw [yU_eq]; exact h.1.rule ha2 v
  rw [tried h0 h1 (h.2.1.rule ha.1 ha.2) hB (by omega) hw]
  exact ⟨_, rfl, (SC.dr _ _).tr (SC.dr _ _)⟩
/-- ifShut() -/
theorem St.ifShut (h : St B Y M) (hB : B ≤ 100000) (ho : o < M 18 2) {m w : Nat} (hm : m ≤ 300) (hw : w ≤ 5) : ∃ Y', p_X9_ifShut Y (iN o) (iN m) (iN w) = (toN5 M (shN M o (1 - M 4 o)) m w, Y') ∧ SC Y Y' := by
  have hO := h.2.1.1
  have c10 := hO.c10
  have o1 := hO.op ho
  have hT := TS.inv h.2.1 (by omega)
  unfold p_X9_ifShut p_X9_ifShut_L35 p_X9_ifShut_L59 p_X9_ifShut_L62
  rw [h.1.has c10 (by omega), if_pos ho, if_neg (by decide), foresee hm hw, if_neg (by decide), yU_eq, yU_ne (show (0 : Nat) ≠ 1 by decide), h.1.isOpen (by omega) o1]
  have fin : ∀ v, v ≤ 1 → v = 1 - M 4 o → ∃ Y', p_X9_triedMinutes (yU (yU Y 1 (Y 0)) 1 (s_X6_shutOrOpen (Y 0) (iN o) (iN v))) (iN m) (iN w) = (toN5 M (shN M o (1 - M 4 o)) m w, Y') ∧ SC Y Y' := by
    intro v hv ev
    rw [yU_yU, ← ev]
    have h0 : LL ((yU Y 1 (s_X6_shutOrOpen (Y 0) (iN o) (iN v))) 0) M := by rw [yU_ne (by decide)]; exact h.1
    have h1 : LL ((yU Y 1 (s_X6_shutOrOpen (Y 0) (iN o) (iN v))) 1) (shN M o v) := by rw [yU_eq]; exact h.1.shut hT (by omega) hv
    rw [tried h0 h1 (h.2.1.shut ho hv (by omega)) (by omega) (by omega) hw]
    exact ⟨_, rfl, (SC.dr _ _).tr (SC.dr _ _)⟩
  by_cases q : M 4 o = 1
  · rw [if_pos q, if_neg (by decide)]
    obtain ⟨Y', z1, z2⟩ := fin 0 (by decide) (by omega)
    exact ⟨Y', by rw [show (0 : Int32) = iN 0 from rfl, z1], z2⟩
  · rw [if_neg q, if_pos rfl]
    obtain ⟨Y', z1, z2⟩ := fin 1 (by decide) (by omega)
    exact ⟨Y', by rw [show (1 : Int32) = iN 1 from rfl, z1], z2⟩
end ST
