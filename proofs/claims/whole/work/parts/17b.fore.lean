-- PART 17b: what would be
def fD : Nat → SM → Option Nat
  | 0, _ => none
  | d + 1, S => if v_X2_lettersInAll S = 0 then some 0 else (fD d (s_X6_passMinute S)).map (fun j => j + 1)
def fV (k : Nat) : Option Nat → Int32
  | none => -2
  | some j => iN (k + j)
def tV (S0 S' : SM) (told : Int32) : Int32 := if told = 3 then S' 18 3 else at_ 9 (S' 1) (v_X9_countTold told) - at_ 9 (S0 1) (v_X9_countTold told)
section FO
variable {c tc B B' k : Nat} {S S' S0 : SM} {m m' : Nat → Int32} {X X' : SM} {Y Y' : RS} {o t i : Nat}
theorem sU_self (X : SM) (k : Nat) : sU X k (X k) = X := by
  funext j
  rw [sU_get]
  by_cases q : j = k
  · rw [if_pos q, q]
  · rw [if_neg q]
theorem Top.scr (h : Top B Y X) (S : SM) (m : Nat → Int32) : Top B (yU Y 1 S) (sU X 2 m) :=
  h.draft (yU_ne (by decide)) (yU_ne (by decide)) (by rw [yU_ne (by decide)]) (by rw [yU_ne (by decide)]) (fun k a b => yU_ne (by omega)) (sU_ne (by decide)) (sU_ne (by decide)) (sU_ne (by decide)) (sU_ne (by decide)) (sU_ne (by decide)) (fun k hk => by rw [sU_ne (by decide)])
theorem e_spare (X : SM) : ∃ f, o_X10_takesSpare X = some (sU X 2 f) ∧ ∀ k, k < 336 → f k = X 0 k := by
  have el := lay2 (n := 336) (n0 := 336) (a := 0) (b := 0) (f := X 0) (g := X 2) (by decide) (by decide) (by decide) (by decide)
  have el' : o_X10_layRow2 336 336 (X 0) (X 2) 0 0 = _ := el
  unfold o_X10_takesSpare
  rw [el', Option.bind_some]
  refine ⟨_, rfl, fun k hk => ?_⟩
  unfold cpy
  rw [if_pos (by omega), Nat.sub_zero, Nat.zero_add]
theorem v_tried {N : Nat} (hN : N ≤ 100000) (told : Int32) : ∀ d k (Y : RS) n, k + d = N → d < n → p_X9_triedMinutes_L2 n Y (iN N) told (iN k) = (tV (Y 0) (pM d (Y 1)) told, yU Y 1 (pM d (Y 1))) := by
  intro d
  induction d with
  | zero =>
    intro k Y n e h1
    obtain ⟨n, rfl⟩ := some_succ h1
    rw [p_X9_triedMinutes_L2, show k = N by omega, if_neg (iN_nlt hN)]
    show _ = (tV (Y 0) (Y 1) told, yU Y 1 (Y 1))
    rw [yU_self]
    unfold tV
    by_cases q : told = 3
    · rw [if_pos q, if_pos q]
    · rw [if_neg q, if_neg q]
  | succ d ih =>
    intro k Y n e h1
    obtain ⟨n, rfl⟩ := some_succ h1
    rw [p_X9_triedMinutes_L2, if_pos (iN_ylt (by omega) hN), iN_s, ih (k + 1) _ n (by omega) (by omega), yU_eq, yU_yU, yU_ne (show (0 : Nat) ≠ 1 by decide), pM_s]
theorem v_triedM {N : Nat} (hN : N ≤ 300) (told : Int32) (Y : RS) : p_X9_triedMinutes Y (iN N) told = (tV (Y 0) (pM N (Y 1)) told, yU Y 1 (pM N (Y 1))) :=
  v_tried (show N ≤ 100000 by omega) told N 0 Y (mu 0 + 1) (by omega) (by rw [mu_0]; omega)
theorem within05 {x : Int32} (h : ¬ v_X10_isTold x = 0) : x = 0 ∨ x = 1 ∨ x = 2 ∨ x = 3 ∨ x = 4 ∨ x = 5 := by
  unfold v_X10_isTold at h
  rw [in_within] at h
  obtain ⟨n, -, hn, rfl⟩ := within_iN (a := 0) (b := 5) (by decide) (by decide) h
  rcases (by omega : n = 0 ∨ n = 1 ∨ n = 2 ∨ n = 3 ∨ n = 4 ∨ n = 5) with rfl | rfl | rfl | rfl | rfl | rfl
  · exact Or.inl rfl
  · exact Or.inr (Or.inl rfl)
  · exact Or.inr (Or.inr (Or.inl rfl))
  · exact Or.inr (Or.inr (Or.inr (Or.inl rfl)))
  · exact Or.inr (Or.inr (Or.inr (Or.inr (Or.inl rfl))))
  · exact Or.inr (Or.inr (Or.inr (Or.inr (Or.inr rfl))))
theorem at9 {k : Nat} (g : Nat → Int32) (hk : k < 9) : at_ 9 g (iN k) = g k := at_in (by decide) hk
theorem o_passed (hI : Iv c tc B S (X 2)) (hk : ∀ k, k < 9 → k ≠ 6 → S 1 k = S0 1 k) {N : Nat} (hN : N ≤ 300) {told : Int32} (ht : ¬ v_X10_isTold told = 0) : ∃ m', o_X10_passed X (iN N) told = some (tV S0 (pM N S) told, sU X 2 m') := by
  obtain ⟨m', tc', e1, I1, f0, f18⟩ := q_many (show N ≤ 100000 by omega) N 0 _ _ tc B 4000 (by omega) hI (by omega)
  have e1' : o_X10_minutesMany (X 2) (iN N) = some m' := e1
  have a : ∀ k, k < 9 → m' (8 + k) = pM N S 1 k := fun k h => I1.1.2.2.2.2.1 k h
  have b : ∀ k, k < 9 → k ≠ 6 → X 2 (8 + k) = S0 1 k := fun k h h6 => (hI.1.2.2.2.2.1 k h).trans (hk k h h6)
  unfold o_X10_passed
  rw [e1', Option.bind_some]
  simp only [lt1]
  rw [sU_eq]
  refine ⟨m', ?_⟩
  unfold tV v_X9_countTold
  rcases within05 ht with rfl | rfl | rfl | rfl | rfl | rfl
  · have es : ∀ g, at_ 9 g 1 = g 1 := fun g => at9 (k := 1) g (by decide)
    simp only [show ((0 : Int32) = 1) = False from eq_false (by decide), show ((0 : Int32) = 2) = False from eq_false (by decide), show ((0 : Int32) = 3) = False from eq_false (by decide), show ((0 : Int32) = 4) = False from eq_false (by decide), if_false, ↓reduceIte, es]
    rw [nK9, show m' 9 = _ from a 1 (by decide), show X 2 9 = _ from b 1 (by decide) (by decide)]
  · have es : ∀ g, at_ 9 g 2 = g 2 := fun g => at9 (k := 2) g (by decide)
    simp only [show ((1 : Int32) = 0) = False from eq_false (by decide), show ((1 : Int32) = 2) = False from eq_false (by decide), show ((1 : Int32) = 3) = False from eq_false (by decide), show ((1 : Int32) = 4) = False from eq_false (by decide), if_false, ↓reduceIte, es]
    rw [nK10, show m' 10 = _ from a 2 (by decide), show X 2 10 = _ from b 2 (by decide) (by decide)]
  · have es : ∀ g, at_ 9 g 8 = g 8 := fun g => at9 (k := 8) g (by decide)
    simp only [show ((2 : Int32) = 0) = False from eq_false (by decide), show ((2 : Int32) = 1) = False from eq_false (by decide), show ((2 : Int32) = 3) = False from eq_false (by decide), show ((2 : Int32) = 4) = False from eq_false (by decide), if_false, ↓reduceIte, es]
    rw [nK16, show m' 16 = _ from a 8 (by decide), show X 2 16 = _ from b 8 (by decide) (by decide)]
  · simp only [show ((3 : Int32) = 0) = False from eq_false (by decide), show ((3 : Int32) = 1) = False from eq_false (by decide), show ((3 : Int32) = 2) = False from eq_false (by decide), if_false, ↓reduceIte]
    rw [nK5, I1.mt, I1.et]
  · have es : ∀ g, at_ 9 g 7 = g 7 := fun g => at9 (k := 7) g (by decide)
    simp only [show ((4 : Int32) = 0) = False from eq_false (by decide), show ((4 : Int32) = 1) = False from eq_false (by decide), show ((4 : Int32) = 2) = False from eq_false (by decide), show ((4 : Int32) = 3) = False from eq_false (by decide), if_false, ↓reduceIte, es]
    rw [nK15, show m' 15 = _ from a 7 (by decide), show X 2 15 = _ from b 7 (by decide) (by decide)]
  · have es : ∀ g, at_ 9 g 4 = g 4 := fun g => at9 (k := 4) g (by decide)
    simp only [show ((5 : Int32) = 0) = False from eq_false (by decide), show ((5 : Int32) = 1) = False from eq_false (by decide), show ((5 : Int32) = 2) = False from eq_false (by decide), show ((5 : Int32) = 3) = False from eq_false (by decide), show ((5 : Int32) = 4) = False from eq_false (by decide), if_false, ↓reduceIte, es]
    rw [nK12, show m' 12 = _ from a 4 (by decide), show X 2 12 = _ from b 4 (by decide) (by decide)]
theorem fV_s (k : Nat) (z : Option Nat) : fV (k + 1) z = fV k (z.map (fun j => j + 1)) := by
  cases z with
  | none => rfl
  | some j =>
    show iN (k + 1 + j) = iN (k + (j + 1))
    rw [show k + 1 + j = k + (j + 1) by omega]
theorem fD_s (d : Nat) (S : SM) : fD (d + 1) S = if v_X2_lettersInAll S = 0 then some 0 else (fD d (s_X6_passMinute S)).map (fun j => j + 1) := rfl
theorem fD_lt : ∀ d S j, fD d S = some j → j < d := by
  intro d
  induction d with
  | zero =>
    intro S j h
    exact nomatch h
  | succ d ih =>
    intro S j h
    rw [fD_s] at h
    by_cases q : v_X2_lettersInAll S = 0
    · rw [if_pos q] at h
      cases h
      omega
    · rw [if_neg q] at h
      cases hz : fD d (s_X6_passMinute S) with
      | none =>
        rw [hz] at h
        exact nomatch h
      | some i =>
        rw [hz] at h
        have := ih _ i hz
        cases h
        show i + 1 < d + 1
        omega
theorem fD_le : ∀ a b S, a ≤ b → fD a S = (fD b S).bind (fun j => if j < a then some j else none) := by
  intro a
  induction a with
  | zero =>
    intro b S hab
    cases hz : fD b S with
    | none => rfl
    | some j =>
      show none = if j < 0 then some j else none
      rw [if_neg (by omega)]
  | succ a ih =>
    intro b S hab
    obtain ⟨b', rfl⟩ : ∃ b', b = b' + 1 := ⟨b - 1, by omega⟩
    rw [fD_s, fD_s]
    by_cases q : v_X2_lettersInAll S = 0
    · rw [if_pos q, if_pos q]
      show some 0 = if 0 < a + 1 then some 0 else none
      rw [if_pos (by omega)]
    · rw [if_neg q, if_neg q, ih b' (s_X6_passMinute S) (by omega)]
      cases hz : fD b' (s_X6_passMinute S) with
      | none => rfl
      | some j =>
        show Option.map (fun j => j + 1) (if j < a then some j else none) = if j + 1 < a + 1 then some (j + 1) else none
        by_cases q2 : j < a
        · rw [if_pos q2, if_pos (by omega)]
          rfl
        · rw [if_neg q2, if_neg (by omega)]
          rfl
theorem v_until {M : Nat} (hM : M ≤ 1000) : ∀ d k (Y : RS) n, k + d = M + 1 → d < n → ∃ S', p_X9_triedUntilDone_L2 n Y (iN M) (iN k) = (fV k (fD d (Y 1)), yU Y 1 S') := by
  intro d
  induction d with
  | zero =>
    intro k Y n e h1
    obtain ⟨n, rfl⟩ := some_succ h1
    rw [p_X9_triedUntilDone_L2, show k = M + 1 by omega, if_pos (iN_ylt (by omega) (by omega))]
    exact ⟨Y 1, by rw [yU_self]; rfl⟩
  | succ d ih =>
    intro k Y n e h1
    obtain ⟨n, rfl⟩ := some_succ h1
    rw [p_X9_triedUntilDone_L2, if_neg (show ¬ iN M < iN k from fun z => by have := (iN_lt (by omega) (by omega)).mp z; omega), fD_s]
    by_cases q : v_X2_lettersInAll (Y 1) = 0
    · rw [if_pos q, if_pos q]
      exact ⟨Y 1, by rw [yU_self]; rfl⟩
    · rw [if_neg q, if_neg q, iN_s]
      obtain ⟨S', e1⟩ := ih (k + 1) (yU Y 1 (s_X6_passMinute (Y 1))) n (by omega) (by omega)
      rw [e1, yU_eq, yU_yU, fV_s]
      exact ⟨S', rfl⟩
theorem o_until : ∀ d k (X : SM) (S : SM) tc B n, k + d = 501 → Iv c tc B S (X 2) → d < n → ∃ m', o_X10_doneInSpare_L2 n X (iN k) = some (fV k (fD d S), sU X 2 m') := by
  intro d
  induction d with
  | zero =>
    intro k X S tc B n e h h1
    obtain ⟨n, rfl⟩ := some_succ h1
    rw [o_X10_doneInSpare_L2, show k = 501 by omega, if_pos (show 500 < iN 501 by decide)]
    exact ⟨X 2, by rw [sU_self]; rfl⟩
  | succ d ih =>
    intro k X S tc B n e h h1
    obtain ⟨n, rfl⟩ := some_succ h1
    rw [o_X10_doneInSpare_L2, if_neg (show ¬ 500 < iN k from fun z => by have := (iN_lt (a := 500) (by decide) (by omega)).mp z; omega), q_lettersAll h.1.1, Option.bind_some, fD_s]
    by_cases q : v_X2_lettersInAll S = 0
    · rw [if_pos q, if_pos q]
      exact ⟨X 2, by rw [sU_self]; rfl⟩
    · rw [if_neg q, if_neg q]
      obtain ⟨m1, tc1, e1, I1, -, -⟩ := q_minute h
      rw [e1, Option.bind_some]
      simp only [lt1]
      rw [iN_s]
      obtain ⟨m2, e2⟩ := ih (k + 1) (sU X 2 m1) _ tc1 (B + 1) n (by omega) (by rw [sU_eq]; exact I1) (by omega)
      rw [e2, sU_sU, fV_s]
      exact ⟨m2, rfl⟩
theorem fore (x y : Int32) : (v_X9_isForesight x y = 0 ∧ v_X10_isAhead x = 0) ∨ (v_X9_isForesight x y = 0 ∧ ¬ v_X10_isAhead x = 0 ∧ v_X10_isTold y = 0) ∨ (¬ v_X9_isForesight x y = 0 ∧ ¬ v_X10_isAhead x = 0 ∧ ¬ v_X10_isTold y = 0 ∧ ∃ n, n ≤ 300 ∧ x = iN n) := by
  unfold v_X9_isForesight v_X10_isAhead v_X10_isTold
  rw [in_within, in_within]
  by_cases q : v_X9_isWithin x 0 300 = 0
  · rw [if_pos q]
    exact Or.inl ⟨rfl, q⟩
  · rw [if_neg q]
    by_cases q2 : v_X9_isWithin y 0 5 = 0
    · rw [if_pos q2]
      exact Or.inr (Or.inl ⟨rfl, q, q2⟩)
    · rw [if_neg q2]
      obtain ⟨n, -, hn, e⟩ := within_iN (a := 0) (b := 300) (by decide) (by decide) q
      exact Or.inr (Or.inr ⟨by decide, q, q2, n, hn, e⟩)
theorem t_ifPassed (h : Top B Y X) (x1 x2 : Int32) : OpR B (p_X9_ifPassed Y x1 x2) (o_X10_ifPassed X x1 x2) := by
  obtain ⟨c, tc, hc2, hI, tm, htm, etm⟩ := h.1
  unfold p_X9_ifPassed o_X10_ifPassed
  rcases fore x1 x2 with ⟨a1, a2⟩ | ⟨a1, a2, a3⟩ | ⟨a1, a2, a3, n, hn, rfl⟩
  · rw [if_pos a1, if_pos a2]
    exact OpR.same h _
  · rw [if_pos a1, if_neg a2, if_pos a3]
    exact OpR.same h _
  rw [if_neg a1, if_neg a2, if_neg a3]
  obtain ⟨f, ef, hf⟩ := e_spare X
  obtain ⟨m', em⟩ := o_passed (X := sU X 2 f) (S0 := Y 0) (by rw [sU_eq]; exact hI.cong hf) (fun k _ _ => rfl) hn a3
  unfold p_X9_ifPassed_L21
  rw [ef, Option.bind_some, em, Option.bind_some, v_triedM hn, yU_ne (show (0 : Nat) ≠ 1 by decide), yU_eq, yU_yU, sU_sU]
  exact ⟨_, rfl, h.scr _ _⟩
theorem t_ifRule (h : Top B Y X) (x1 x2 x3 x4 : Int32) : OpR B (p_X9_ifRule Y x1 x2 x3 x4) (o_X10_ifRule X x1 x2 x3 x4) := by
  obtain ⟨c, tc, hc2, hI, tm, htm, etm⟩ := h.1
  unfold p_X9_ifRule o_X10_ifRule
  rw [isRule_eq]
  by_cases q : v_X9_isRule x1 x2 = 0
  · rw [if_pos q, if_pos q]
    exact OpR.same h _
  rw [if_neg q, if_neg q]
  rcases fore x3 x4 with ⟨a1, a2⟩ | ⟨a1, a2, a3⟩ | ⟨a1, a2, a3, n, hn, rfl⟩
  · rw [if_pos a1, if_pos a2]
    exact OpR.same h _
  · rw [if_pos a1, if_neg a2, if_pos a3]
    exact OpR.same h _
  rw [if_neg a1, if_neg a2, if_neg a3]
  obtain ⟨k, v, hk, rfl, rfl, h1, h2⟩ := rule_in q
  obtain ⟨f, ef, hf⟩ := e_spare X
  have I1 := (hI.cong hf).rule hk h1 h2
  obtain ⟨m', em⟩ := o_passed (X := sU (sU X 2 f) 2 (upd f k (iN v))) (S0 := Y 0) (by rw [sU_eq]; exact I1) (fun k _ _ => by rw [sU_ne (by decide)]) hn a3
  unfold p_X9_ifRule_L30 p_X9_ifRule_L42
  rw [ef, Option.bind_some, if_pos (gin_iN (by omega) (by omega)), iN_nat (by omega)]
  simp only [lt1]
  rw [sU_eq, em, Option.bind_some, v_triedM hn, yU_yU, yU_yU, yU_ne (show (0 : Nat) ≠ 1 by decide), yU_eq, yU_eq, put_in (by decide) hk, sU_sU, sU_sU]
  exact ⟨_, rfl, h.scr _ _⟩
theorem shut_1 (S : SM) (x y : Int32) {k : Nat} (hk : k < 9) (h6 : k ≠ 6) : s_X6_shutOrOpen S x y 1 k = S 1 k := by
  unfold s_X6_shutOrOpen s_X6_shutOrOpen_L12 s_X6_shutOrOpen_L23
  have e1 : s_X1_add (sU S 4 (put_ 10 (S 4) x y)) 7 x y 1 = S 1 := by
    rw [logAdd_j _ _ _ _ (by decide)]
    rfl
  split
  · rw [e1]
  · unfold s_X6_loseToken s_X6_loseToken_L30 s_X6_loseToken_L39
    rw [rem8_1, sU_eq]
    refine Eq.trans (b := raise_ 9 (S 1) (iN 6) k) ?_ ?_
    · rw [logAdd_j _ _ _ _ (by decide), e1]
      rfl
    · rw [raise_in (by decide) (by decide), upd_ne h6]
theorem t_ifShut (h : Top B Y X) (x1 x2 x3 : Int32) : OpR B (p_X9_ifShut Y x1 x2 x3) (o_X10_ifShut X x1 x2 x3) := by
  obtain ⟨c, tc, hc2, hI, tm, htm, etm⟩ := h.1
  have c10 := hI.c10
  unfold p_X9_ifShut o_X10_ifShut
  rw [q_isOffice hI.ec hI.mc c10 (by omega), Option.bind_some]
  rcases c_has hI.ec c10 x1 with e | ⟨o, ho, rfl, e⟩
  · rw [e, if_pos rfl, if_pos rfl]
    exact OpR.same h _
  rw [e, if_neg (show ¬ (1 : Int32) = 0 by decide), if_neg (show ¬ (1 : Int32) = 0 by decide)]
  have o10 : o < 10 := by omega
  rcases fore x2 x3 with ⟨a1, a2⟩ | ⟨a1, a2, a3⟩ | ⟨a1, a2, a3, n, hn, rfl⟩
  · rw [if_pos a1, if_pos a2]
    exact OpR.same h _
  · rw [if_pos a1, if_neg a2, if_pos a3]
    exact OpR.same h _
  rw [if_neg a1, if_neg a2, if_neg a3]
  obtain ⟨f, ef, hf⟩ := e_spare X
  have If := hI.cong hf
  obtain ⟨-, -, h01, -⟩ := hI.2.1.2.2 o ho
  have hx : ∃ x, (x = 0 ∨ x = 1) ∧ Y 0 4 o ≠ x ∧ (1 : Int32) - Y 0 4 o = x ∧ p_X9_ifShut_L35 (yU Y 1 (Y 0)) (iN o) (iN n) x3 = p_X9_ifShut_L59 (yU Y 1 (Y 0)) (iN o) (iN n) x3 x (iN o) := by
    unfold p_X9_ifShut_L35
    rw [yU_ne (show (0 : Nat) ≠ 1 by decide), v_isOpen o10]
    rcases h01 with z | z
    · refine ⟨1, Or.inr rfl, by rw [z]; decide, by rw [z]; rfl, ?_⟩
      rw [z, if_neg (show ¬ (0 : Int32) = 1 by decide), if_pos rfl]
    · refine ⟨0, Or.inl rfl, by rw [z]; decide, by rw [z]; rfl, ?_⟩
      rw [z, if_pos rfl, if_neg (show ¬ (1 : Int32) = 0 by decide)]
  obtain ⟨x, hx01, hne, ex, ep⟩ := hx
  obtain ⟨m2, tc2, v2, e2, I2, -, -⟩ := q_shuts If ho hx01 hne
  obtain ⟨m', em⟩ := o_passed (X := sU (sU X 2 f) 2 m2) (S0 := Y 0) (by rw [sU_eq]; exact I2) (fun k hk h6 => shut_1 _ _ _ hk h6) hn a3
  rw [ep, ef, Option.bind_some, oA2, if_pos (gO o10 (by decide)), nO o10 (by decide), sU_eq, If.1.1.f2 ho, ex, e2, Option.bind_some]
  simp only [lt1]
  unfold p_X9_ifShut_L59 p_X9_ifShut_L62
  rw [em, Option.bind_some, v_triedM hn, yU_yU, yU_yU, yU_ne (show (0 : Nat) ≠ 1 by decide), yU_eq, yU_eq, sU_sU, sU_sU]
  exact ⟨_, rfl, h.scr _ _⟩
theorem t_comesL (x1 : Int32) : ∀ d k (Y : RS) (X : SM) tc B n1 n2, k + d = 301 → Iv c tc B (Y 1) (X 2) → d < n1 → d < n2 → ∃ v S' m', p_X9_comesIn_L29 n1 Y x1 (iN k) = (v, yU Y 1 S') ∧ o_X10_comesIn_L16 n2 X x1 (iN k) = some (v, sU X 2 m') := by
  intro d
  induction d with
  | zero =>
    intro k Y X tc B n1 n2 e h h1 h2
    obtain ⟨n1, rfl⟩ := some_succ h1
    obtain ⟨n2, rfl⟩ := some_succ h2
    rw [p_X9_comesIn_L29, o_X10_comesIn_L16, show k = 301 by omega, if_pos (show 300 < iN 301 by decide), if_pos (show 300 < iN 301 by decide)]
    exact ⟨-2, Y 1, X 2, by rw [yU_self], by rw [sU_self]⟩
  | succ d ih =>
    intro k Y X tc B n1 n2 e h h1 h2
    obtain ⟨n1, rfl⟩ := some_succ h1
    obtain ⟨n2, rfl⟩ := some_succ h2
    have hk : ¬ 300 < iN k := fun z => by have := (iN_lt (a := 300) (by decide) (by omega)).mp z; omega
    have t3 := h.t3
    rw [p_X9_comesIn_L29, o_X10_comesIn_L16, if_neg hk, if_neg hk, q_tokenOn h.1.2.1, Option.bind_some]
    rcases v_stand h.et t3 x1 with ⟨z1, -⟩ | ⟨t, z1, z2, -⟩
    · obtain ⟨m1, tc1, e1, I1, -, -⟩ := q_minute h
      rw [z1, if_pos rfl, if_pos m2_neg, e1, Option.bind_some]
      simp only [lt1]
      rw [iN_s]
      obtain ⟨v, S', m', g1, g2⟩ := ih (k + 1) (yU Y 1 (s_X6_passMinute (Y 1))) (sU X 2 m1) tc1 (B + 1) n1 n2 (by omega) (by rw [yU_eq, sU_eq]; exact I1) (by omega) (by omega)
      rw [g1, g2, yU_yU, sU_sU]
      exact ⟨v, S', m', rfl, rfl⟩
    · rw [z2, if_neg (iN_m2 (by omega)), if_neg (iN_neg (by omega))]
      exact ⟨iN k, Y 1, X 2, by rw [yU_self], by rw [sU_self]⟩
theorem t_comesIn (h : Top B Y X) (x1 : Int32) : OpR B (p_X9_comesIn Y x1) (o_X10_comesIn X x1) := by
  obtain ⟨c, tc, hc2, hI, tm, htm, etm⟩ := h.1
  have c10 := hI.c10
  unfold p_X9_comesIn o_X10_comesIn
  rw [q_isOffice hI.ec hI.mc c10 (by omega), Option.bind_some]
  rcases c_has hI.ec c10 x1 with e | ⟨o, ho, rfl, e⟩
  · rw [e, if_pos rfl, if_pos rfl]
    exact OpR.same h _
  rw [e, if_neg (show ¬ (1 : Int32) = 0 by decide), if_neg (show ¬ (1 : Int32) = 0 by decide)]
  obtain ⟨f, ef, hf⟩ := e_spare X
  obtain ⟨v, S', m', g1, g2⟩ := t_comesL (iN o) 301 0 (yU Y 1 (Y 0)) (sU X 2 f) tc B (mu 0 + 1) 4000 (by omega) (by rw [yU_eq, sU_eq]; exact hI.cong hf) (by rw [mu_0]; omega) (by omega)
  have g1' : p_X9_comesIn_L27 (yU Y 1 (Y 0)) (iN o) = _ := g1
  have g2' : o_X10_comesIn_L16 4000 (sU X 2 f) (iN o) 0 = _ := g2
  rw [ef, Option.bind_some, g1', g2', yU_yU, sU_sU]
  exact ⟨_, rfl, h.scr _ _⟩
theorem v_untilM {M : Nat} (hM : M ≤ 1000) (Y : RS) : ∃ S', p_X9_triedUntilDone Y (iN M) = (fV 0 (fD (M + 1) (Y 1)), yU Y 1 S') := v_until hM (M + 1) 0 Y (mu 0 + 1) (by omega) (by rw [mu_0]; omega)
theorem o_untilM (h : Iv c tc B S (X 2)) : ∃ m', o_X10_doneInSpare X = some (fV 0 (fD 501 S), sU X 2 m') := o_until 501 0 X S tc B 4000 (by omega) h (by omega)
theorem o_done (hI : Iv c tc B (Y 0) (X 0)) : ∃ m', o_X10_doneIn X = some (fV 0 (fD 501 (Y 0)), sU X 2 m') := by
  obtain ⟨f, ef, hf⟩ := e_spare X
  obtain ⟨m', em⟩ := o_untilM (X := sU X 2 f) (S := Y 0) (by rw [sU_eq]; exact hI.cong hf)
  unfold o_X10_doneIn
  rw [ef, Option.bind_some, em, Option.bind_some, sU_sU]
  exact ⟨m', rfl⟩
theorem v_done (Y : RS) : ∃ S', p_X9_triedUntilDone (yU Y 1 (Y 0)) 500 = (fV 0 (fD 501 (Y 0)), yU Y 1 S') := by
  obtain ⟨S', e⟩ := v_untilM (M := 500) (by decide) (yU Y 1 (Y 0))
  rw [yU_yU, yU_eq] at e
  exact ⟨S', e⟩
theorem t_doneIn (h : Top B Y X) : OpR B (p_X9_doneIn Y) (o_X10_doneIn X) := by
  obtain ⟨c, tc, hc2, hI, tm, htm, etm⟩ := h.1
  obtain ⟨m', em⟩ := o_done hI
  obtain ⟨S', eS⟩ := v_done Y
  unfold p_X9_doneIn p_X9_doneIn_L11
  rw [em, eS]
  exact ⟨_, rfl, h.scr _ _⟩
theorem t_leastL {D : Nat} (hD : D ≤ 500) : ∀ d v (Y : RS) (X : SM) n1 n2, v + d = 61 → 1 ≤ v → Iv c tc B (Y 0) (X 0) → d < n1 → d < n2 → ∃ r S' m', p_X9_leastQuota_L30 n1 Y (iN D) (iN v) = (r, yU Y 1 S') ∧ o_X10_leastQuota_L14 n2 X (iN D) (iN v) = some (r, sU X 2 m') := by
  intro d
  induction d with
  | zero =>
    intro k Y X n1 n2 e hv h h1 h2
    obtain ⟨n1, rfl⟩ := some_succ h1
    obtain ⟨n2, rfl⟩ := some_succ h2
    rw [p_X9_leastQuota_L30, o_X10_leastQuota_L14, show k = 61 by omega, if_pos (show 60 < iN 61 by decide), if_pos (show 60 < iN 61 by decide)]
    exact ⟨-2, Y 1, X 2, by rw [yU_self], by rw [sU_self]⟩
  | succ d ih =>
    intro v Y X n1 n2 e hv h h1 h2
    obtain ⟨n1, rfl⟩ := some_succ h1
    obtain ⟨n2, rfl⟩ := some_succ h2
    have hk : ¬ 60 < iN v := fun z => by have := (iN_lt (a := 60) (by decide) (by omega)).mp z; omega
    obtain ⟨f, ef, hf⟩ := e_spare X
    have I1 := (h.cong hf).rule (k := 2) (n := v) (by decide) hv (show v ≤ 60 by omega)
    obtain ⟨m1, em⟩ := o_untilM (X := sU (sU X 2 f) 2 (upd f 2 (iN v))) (by rw [sU_eq]; exact I1)
    obtain ⟨S1, eS⟩ := v_untilM (M := D) (by omega) (yU (yU Y 1 (Y 0)) 1 (sU (yU Y 1 (Y 0) 1) 0 (put_ 3 (yU Y 1 (Y 0) 1 0) 2 (iN v))))
    rw [p_X9_leastQuota_L30, o_X10_leastQuota_L14, if_neg hk, if_neg hk, ef, Option.bind_some]
    simp only [lt1]
    rw [nK2, sU_eq, em, Option.bind_some, sU_sU, sU_sU]
    unfold p_X9_leastQuota_L47 p_X9_leastQuota_L59
    rw [eS, yU_yU, yU_yU, yU_eq, yU_eq, show put_ 3 (Y 0 0) 2 (iN v) = upd (Y 0 0) 2 (iN v) from put_in (i := 2) (by decide) (by decide)]
    unfold p_X9_leastQuota_L64
    rw [fD_le (D + 1) 501 _ (by omega), in_within, iN_s]
    obtain ⟨z, hz⟩ : ∃ z, fD 501 (sU (Y 0) 0 (upd (Y 0 0) 2 (iN v))) = z := ⟨_, rfl⟩
    rw [hz]
    have hloop : ∃ r S' m', p_X9_leastQuota_L30 n1 (yU Y 1 S1) (iN D) (iN (v + 1)) = (r, yU Y 1 S') ∧ o_X10_leastQuota_L14 n2 (sU X 2 m1) (iN D) (iN (v + 1)) = some (r, sU X 2 m') := by
      obtain ⟨r, S', m', g1, g2⟩ := ih (v + 1) (yU Y 1 S1) (sU X 2 m1) n1 n2 (by omega) (by omega) (by rw [yU_ne (by decide), sU_ne (by decide)]; exact h) (by omega) (by omega)
      rw [yU_yU] at g1
      rw [sU_sU] at g2
      exact ⟨r, S', m', g1, g2⟩
    cases z with
    | none =>
      rw [Option.bind_none, if_pos (show fV 0 none = -2 from rfl), if_pos (show v_X9_isWithin (fV 0 none) 0 (iN D) = 0 from if_pos m2_neg)]
      exact hloop
    | some j =>
      have hj := fD_lt _ _ _ hz
      rw [Option.bind_some]
      by_cases q : j < D + 1
      · have ev : fV 0 (some j) = iN j := by
          show iN (0 + j) = iN j
          rw [Nat.zero_add]
        rw [if_pos q, ev, if_neg (iN_m2 (by omega))]
        rw [if_neg (show ¬ v_X9_isWithin (iN j) 0 (iN D) = 0 from by
          unfold v_X9_isWithin
          rw [if_neg (iN_neg (by omega)), if_neg (fun z => by have := (iN_lt (by omega) (by omega)).mp z; omega)]
          decide)]
        exact ⟨iN v, S1, m1, rfl, rfl⟩
      · have ev : fV 0 (some j) = iN j := by
          show iN (0 + j) = iN j
          rw [Nat.zero_add]
        rw [if_neg q, if_pos (show fV 0 none = -2 from rfl), ev, if_pos (show v_X9_isWithin (iN j) 0 (iN D) = 0 from by
          unfold v_X9_isWithin
          rw [if_neg (iN_neg (by omega)), if_pos (iN_ylt (by omega) (by omega))])]
        exact hloop
theorem t_leastQuota (h : Top B Y X) : OpR B (p_X9_leastQuota Y) (o_X10_leastQuota X) := by
  obtain ⟨c, tc, hc2, hI, tm, htm, etm⟩ := h.1
  obtain ⟨m1, em⟩ := o_done hI
  obtain ⟨S1, eS⟩ := v_done Y
  unfold p_X9_leastQuota p_X9_leastQuota_L11 p_X9_leastQuota_L18 o_X10_leastQuota
  rw [em, Option.bind_some, eS]
  obtain ⟨z, hz⟩ : ∃ z, fD 501 (Y 0) = z := ⟨_, rfl⟩
  rw [hz]
  cases z with
  | none =>
    rw [if_pos (show fV 0 none = -2 from rfl), if_pos (show fV 0 none < 0 from m2_neg)]
    exact ⟨_, rfl, h.scr _ _⟩
  | some j =>
    have hj := fD_lt _ _ _ hz
    have ev : fV 0 (some j) = iN j := by
      show iN (0 + j) = iN j
      rw [Nat.zero_add]
    rw [ev, if_neg (iN_m2 (by omega)), if_neg (iN_neg (by omega))]
    obtain ⟨r, S', m', g1, g2⟩ := t_leastL (D := j) (by omega) 60 1 (yU Y 1 S1) (sU X 2 m1) (mu 1 + 1) 4000 (by omega) (by omega) (by rw [yU_ne (by decide), sU_ne (by decide)]; exact hI) (by rw [show mu 1 = 2147483646 from rfl]; omega) (by omega)
    have g1' : p_X9_leastQuota_L30 (mu 1 + 1) (yU Y 1 S1) (iN j) 1 = _ := g1
    have g2' : o_X10_leastQuota_L14 4000 (sU X 2 m1) (iN j) 1 = _ := g2
    rw [g1', g2', yU_yU, sU_sU]
    exact ⟨_, rfl, h.scr _ _⟩
theorem t_bestS (hI : Iv c tc B (Y 0) (X 0)) {N : Nat} (hN : N ≤ 300) {v : Nat} (hv : 1 ≤ v) (hv2 : v ≤ 20) : ∃ j S' m' f, j ≤ 900 ∧ o_X10_takesSpare X = some (sU X 2 f) ∧ o_X10_passed (sU (sU X 2 f) 2 (upd f 0 (iN v))) (iN N) 0 = some (iN j, sU X 2 m') ∧ p_X9_triedMinutes (yU (yU Y 1 (Y 0)) 1 (sU (yU Y 1 (Y 0) 1) 0 (put_ 3 (yU Y 1 (Y 0) 1 0) 0 (iN v)))) (iN N) 0 = (iN j, yU Y 1 S') := by
  obtain ⟨f, ef, hf⟩ := e_spare X
  have I1 := (hI.cong hf).rule (k := 0) (n := v) (by decide) hv (show v ≤ 20 by omega)
  obtain ⟨m', em⟩ := o_passed (X := sU (sU X 2 f) 2 (upd f 0 (iN v))) (S0 := Y 0) (told := 0) (by rw [sU_eq]; exact I1) (fun k _ _ => by rw [sU_ne (by decide)]) hN (by decide)
  obtain ⟨j, hj, ej⟩ := many_reads N _ _ _ _ I1
  have et : tV (Y 0) (pM N (sU (Y 0) 0 (upd (Y 0 0) 0 (iN v)))) 0 = iN j := by
    unfold tV
    rw [if_neg (show ¬ (0 : Int32) = 3 by decide), show v_X9_countTold 0 = iN 1 from rfl, at9 _ (by decide), at9 _ (by decide), ej, sU_ne (show (1 : Nat) ≠ 0 by decide), Int32_add_sub]
  refine ⟨j, pM N (sU (Y 0) 0 (upd (Y 0 0) 0 (iN v))), m', f, by omega, ef, ?_, ?_⟩
  · rw [em, et, sU_sU, sU_sU]
  · rw [v_triedM hN, yU_yU, yU_yU, yU_ne (show (0 : Nat) ≠ 1 by decide), yU_eq, yU_eq, show put_ 3 (Y 0 0) 0 (iN v) = upd (Y 0 0) 0 (iN v) from put_in (i := 0) (by decide) (by decide), et]
theorem t_bestL {N : Nat} (hN : N ≤ 300) : ∀ d v b (mo : Int32) (Y : RS) (X : SM) n1 n2, v + d = 21 → 1 ≤ v → b ≤ 20 → Iv c tc B (Y 0) (X 0) → d < n1 → d < n2 → ∃ r S' m', p_X9_bestSpeak_L17 n1 Y (iN N) (iN b) mo (iN v) = (r, yU Y 1 S') ∧ o_X10_bestSpeak_L17 n2 X (iN N) (iN b) mo (iN v) = some (r, sU X 2 m') := by
  intro d
  induction d with
  | zero =>
    intro v b mo Y X n1 n2 e hv hb h h1 h2
    obtain ⟨n1, rfl⟩ := some_succ h1
    obtain ⟨n2, rfl⟩ := some_succ h2
    rw [p_X9_bestSpeak_L17, o_X10_bestSpeak_L17, show v = 21 by omega, if_pos (show 20 < iN 21 by decide), if_pos (show 20 < iN 21 by decide)]
    exact ⟨iN b, Y 1, X 2, by rw [yU_self], by rw [sU_self]⟩
  | succ d ih =>
    intro v b mo Y X n1 n2 e hv hb h h1 h2
    obtain ⟨n1, rfl⟩ := some_succ h1
    obtain ⟨n2, rfl⟩ := some_succ h2
    have hk : ¬ 20 < iN v := fun z => by have := (iN_lt (a := 20) (by decide) (by omega)).mp z; omega
    obtain ⟨j, S1, m1, f, hj, ef, em, eS⟩ := t_bestS h hN hv (show v ≤ 20 by omega)
    rw [p_X9_bestSpeak_L17, o_X10_bestSpeak_L17, if_neg hk, if_neg hk, ef, Option.bind_some]
    simp only [lt1]
    rw [nK0, sU_eq, em, Option.bind_some, if_neg (iN_neg (show b < 2147483648 by omega))]
    unfold p_X9_bestSpeak_L35 p_X9_bestSpeak_L48 p_X9_bestSpeak_L54
    rw [eS, iN_s]
    have hloop : ∀ b' mo', b' ≤ 20 → ∃ r S' m', p_X9_bestSpeak_L17 n1 (yU Y 1 S1) (iN N) (iN b') mo' (iN (v + 1)) = (r, yU Y 1 S') ∧ o_X10_bestSpeak_L17 n2 (sU X 2 m1) (iN N) (iN b') mo' (iN (v + 1)) = some (r, sU X 2 m') := by
      intro b' mo' hb'
      obtain ⟨r, S', m', g1, g2⟩ := ih (v + 1) b' mo' (yU Y 1 S1) (sU X 2 m1) n1 n2 (by omega) (by omega) hb' (by rw [yU_ne (by decide), sU_ne (by decide)]; exact h) (by omega) (by omega)
      rw [yU_yU] at g1
      rw [sU_sU] at g2
      exact ⟨r, S', m', g1, g2⟩
    by_cases q : mo < iN j
    · rw [if_pos q, if_pos q]
      exact hloop v _ (by omega)
    · rw [if_neg q, if_neg q]
      exact hloop b _ hb
theorem t_bestSpeak (h : Top B Y X) (x1 : Int32) : OpR B (p_X9_bestSpeak Y x1) (o_X10_bestSpeak X x1) := by
  obtain ⟨c, tc, hc2, hI, tm, htm, etm⟩ := h.1
  unfold p_X9_bestSpeak o_X10_bestSpeak
  rcases fore x1 0 with ⟨a1, a2⟩ | ⟨a1, a2, a3⟩ | ⟨a1, a2, a3, n, hn, rfl⟩
  · rw [if_pos a1, if_pos a2]
    exact OpR.same h _
  · exact absurd a3 (by decide)
  rw [if_neg a1, if_neg a2]
  obtain ⟨j, S1, m1, f, hj, ef, em, eS⟩ := t_bestS hI hn (v := 1) (by decide) (by decide)
  obtain ⟨r, S', m', g1, g2⟩ := t_bestL hn 19 2 1 (iN j) (yU Y 1 S1) (sU X 2 m1) (mu 1) 3999 (by omega) (by omega) (by omega) (by rw [yU_ne (by decide), sU_ne (by decide)]; exact hI) (by rw [show mu 1 = 2147483646 from rfl]; omega) (by omega)
  have em' : o_X10_passed (sU (sU X 2 f) 2 (upd f 0 1)) (iN n) 0 = _ := em
  have eS' : p_X9_triedMinutes (yU (yU Y 1 (Y 0)) 1 (sU (yU Y 1 (Y 0) 1) 0 (put_ 3 (yU Y 1 (Y 0) 1 0) 0 1))) (iN n) 0 = _ := eS
  have hm1 : (-1 : Int32) < iN j := by
    rw [Int32.lt_iff_toInt_lt, iN_toInt (by omega), show (-1 : Int32).toInt = -1 from rfl]
    omega
  have e1 : p_X9_bestSpeak_L17 (mu 1 + 1) Y (iN n) 1 (-1) 1 = p_X9_bestSpeak_L17 (mu 1) (yU Y 1 S1) (iN n) (iN 1) (iN j) (iN 2) := by
    rw [p_X9_bestSpeak_L17, if_neg (show ¬ (20 : Int32) < 1 by decide)]
    unfold p_X9_bestSpeak_L35 p_X9_bestSpeak_L48 p_X9_bestSpeak_L54
    rw [eS', if_pos hm1]
    rfl
  have e2 : o_X10_bestSpeak_L17 4000 X (iN n) (-2) 0 1 = o_X10_bestSpeak_L17 3999 (sU X 2 m1) (iN n) (iN 1) (iN j) (iN 2) := by
    rw [o_X10_bestSpeak_L17, if_neg (show ¬ (20 : Int32) < 1 by decide), ef, Option.bind_some]
    simp only [lt1]
    rw [nK0, sU_eq, em', Option.bind_some, if_pos m2_neg]
    rfl
  rw [e1, e2, g1, g2, yU_yU, sU_sU]
  exact ⟨_, rfl, h.scr _ _⟩
end FO
