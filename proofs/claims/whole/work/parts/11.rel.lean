-- PART 11: when a State and the reference's row are the same; what is read off them
def RO (c : Nat) (S : SM) (m : Nat → Int32) : Prop := c ≤ 10 ∧ S 18 2 = iN c ∧ m 4 = iN c ∧ ∀ o, o < c → (m (pO o 0) = S 2 o ∧ m (pO o 1) = S 3 o ∧ m (pO o 2) = S 4 o ∧ m (pO o 3) = S 5 o ∧ m (pO o 4) = S 7 o ∧ m (pO o 5) = S 6 o) ∧ ∃ w, w ≤ 6 ∧ S 7 o = iN w ∧ ∀ i, i < w → m (pL o i 0) = S 8 (6 * o + i) ∧ m (pL o i 1) = S 9 (6 * o + i)
def RT (tc : Nat) (S : SM) (m : Nat → Int32) : Prop := tc ≤ 3 ∧ S 18 3 = iN tc ∧ m 5 = iN tc ∧ m 7 = S 18 4 ∧ ∀ t, t < tc → m (pT t 0) = S 10 t ∧ m (pT t 1) = S 11 t ∧ m (pT t 2) = S 12 t ∧ m (pT t 3) = S 13 t ∧ m (pT t 4) = S 14 t ∧ m (pT t 5) = (if S 12 t = 0 then 1 else 0)
def RG (S : SM) (m : Nat → Int32) : Prop := ∃ lc od, lc ≤ 40 ∧ od < 40 ∧ S 18 6 = iN lc ∧ m 215 = iN lc ∧ S 18 5 = iN od ∧ ∀ i, i < lc → m (pG i 0) = S 15 ((od + i) % 40) ∧ m (pG i 1) = S 16 ((od + i) % 40) ∧ m (pG i 2) = S 17 ((od + i) % 40)
def RC (S : SM) (m : Nat → Int32) : Prop := (∀ k, k < 3 → m k = S 0 k) ∧ (∀ k, k < 9 → m (8 + k) = S 1 k) ∧ m 3 = S 18 0 ∧ m 6 = S 18 1
theorem iN_s (a : Nat) : iN a + 1 = iN (a + 1) := iN_add a 1
theorem some_succ {n d : Nat} (h : d < n) : ∃ z, n = z + 1 := ⟨n - 1, by omega⟩
section RR
variable {c tc : Nat} {S : SM} {m : Nat → Int32} {o t i : Nat}
theorem RO.f0 (h : RO c S m) (ho : o < c) : m (pO o 0) = S 2 o := (h.2.2.2 o ho).1.1
theorem RO.f1 (h : RO c S m) (ho : o < c) : m (pO o 1) = S 3 o := (h.2.2.2 o ho).1.2.1
theorem RO.f2 (h : RO c S m) (ho : o < c) : m (pO o 2) = S 4 o := (h.2.2.2 o ho).1.2.2.1
theorem RO.f3 (h : RO c S m) (ho : o < c) : m (pO o 3) = S 5 o := (h.2.2.2 o ho).1.2.2.2.1
theorem RO.f4 (h : RO c S m) (ho : o < c) : m (pO o 4) = S 7 o := (h.2.2.2 o ho).1.2.2.2.2.1
theorem RO.f5 (h : RO c S m) (ho : o < c) : m (pO o 5) = S 6 o := (h.2.2.2 o ho).1.2.2.2.2.2
theorem RO.lt (h : RO c S m) (ho : o < c) : o < 10 := Nat.lt_of_lt_of_le ho h.1
theorem RO.q (h : RO c S m) (ho : o < c) : ∃ w, w ≤ 6 ∧ S 7 o = iN w ∧ ∀ i, i < w → m (pL o i 0) = S 8 (6 * o + i) ∧ m (pL o i 1) = S 9 (6 * o + i) := (h.2.2.2 o ho).2
theorem RT.f0 (h : RT tc S m) (ht : t < tc) : m (pT t 0) = S 10 t := (h.2.2.2.2 t ht).1
theorem RT.f1 (h : RT tc S m) (ht : t < tc) : m (pT t 1) = S 11 t := (h.2.2.2.2 t ht).2.1
theorem RT.f2 (h : RT tc S m) (ht : t < tc) : m (pT t 2) = S 12 t := (h.2.2.2.2 t ht).2.2.1
theorem RT.f3 (h : RT tc S m) (ht : t < tc) : m (pT t 3) = S 13 t := (h.2.2.2.2 t ht).2.2.2.1
theorem RT.f4 (h : RT tc S m) (ht : t < tc) : m (pT t 4) = S 14 t := (h.2.2.2.2 t ht).2.2.2.2.1
theorem RT.f5 (h : RT tc S m) (ht : t < tc) : m (pT t 5) = (if S 12 t = 0 then 1 else 0) := (h.2.2.2.2 t ht).2.2.2.2.2
theorem RT.lt (h : RT tc S m) (ht : t < tc) : t < 3 := Nat.lt_of_lt_of_le ht h.1
/-- at the loops' heads: the index is behind the end, or ahead of it -/
theorem iN_nlt {a : Nat} (ha : a ≤ 100000) : ¬ iN a < iN a := fun q => by
  have := (iN_lt (by omega) (by omega)).mp q
  omega
theorem iN_ylt {a b : Nat} (h : a < b) (hb : b ≤ 100000) : iN a < iN b := (iN_lt (by omega) (by omega)).mpr h
theorem q_isOpen (h : RO c S m) (ho : o < c) : o_X10_isOpen m (iN o) = some (v_X2_isOpen S (iN o)) := by
  have h1 := h.lt ho
  unfold o_X10_isOpen v_X2_isOpen
  rw [oA2, if_pos (gO h1 (by decide)), nO h1 (by decide), at_in (by decide) h1, h.f2 ho]
  by_cases q : S 4 o = 1
  · rw [if_pos q, if_pos q]
  · rw [if_neg q, if_neg q]
theorem q_isAt (h : RT tc S m) (ht : t < tc) (x : Int32) : o_X10_isAt m (iN t) x = some (v_X8_isAt S (iN t) x) := by
  have h1 := h.lt ht
  unfold o_X10_isAt v_X8_isAt
  rw [tA5, tA1, if_pos (gT' h1 (by decide)), nT h1 (by decide), at_in (by decide) h1, at_in (by decide) h1, h.f5 ht, if_pos (gT' h1 (by decide)), nT h1 (by decide), h.f1 ht]
  by_cases q : S 12 t = 0
  · rw [if_pos q, if_pos q, if_pos rfl]
    by_cases q2 : S 11 t = x
    · rw [if_pos q2, if_pos q2]
    · rw [if_neg q2, if_neg q2]
  · rw [if_neg q, if_neg q, if_neg (by decide)]
theorem q_tokenOnL (h : RT tc S m) (x y : Int32) : ∀ d k n1 n2, k + d = tc → d < n1 → d < n2 → o_X10_tokenOn_L2 n1 m x y (iN k) = some (v_X8_standingAt_L2 n2 S x (iN k)) := by
  have h3 := h.1
  intro d
  induction d with
  | zero =>
    intro k n1 n2 e h1 h2
    obtain ⟨n1, rfl⟩ := some_succ h1
    obtain ⟨n2, rfl⟩ := some_succ h2
    rw [o_X10_tokenOn_L2, v_X8_standingAt_L2, nK5, h.2.2.1, h.2.1, show k = tc by omega, if_neg (iN_nlt (by omega)), if_neg (iN_nlt (by omega))]
  | succ d ih =>
    intro k n1 n2 e h1 h2
    obtain ⟨n1, rfl⟩ := some_succ h1
    obtain ⟨n2, rfl⟩ := some_succ h2
    rw [o_X10_tokenOn_L2, v_X8_standingAt_L2, nK5, h.2.2.1, h.2.1, if_pos (iN_ylt (by omega) (by omega)), if_pos (iN_ylt (by omega) (by omega)), q_isAt h (by omega), Option.bind_some]
    by_cases q : v_X8_isAt S (iN k) x = 0
    · rw [if_pos q, if_pos q, iN_s]
      exact ih (k + 1) n1 n2 (by omega) (by omega) (by omega)
    · rw [if_neg q, if_neg q]
theorem q_tokenOn (h : RT tc S m) (x : Int32) : o_X10_tokenOn m x 0 = some (v_X8_standingAt S x) := by
  have h3 := h.1
  exact q_tokenOnL h x 0 tc 0 4000 (mu 0 + 1) (by omega) (by omega) (by rw [mu_0]; omega)
theorem q_lettersAllL (h : RO c S m) : ∀ d o n1 n2 x, o + d = c → d < n1 → d < n2 → o_X10_lettersAll_L4 n1 m x (iN o) = some (v_X2_lettersInAll_L4 n2 S x (iN o)) := by
  have h3 := h.1
  intro d
  induction d with
  | zero =>
    intro k n1 n2 x e h1 h2
    obtain ⟨n1, rfl⟩ := some_succ h1
    obtain ⟨n2, rfl⟩ := some_succ h2
    rw [o_X10_lettersAll_L4, v_X2_lettersInAll_L4, nK4, h.2.2.1, h.2.1, show k = c by omega, if_neg (iN_nlt (by omega)), if_neg (iN_nlt (by omega))]
  | succ d ih =>
    intro k n1 n2 x e h1 h2
    obtain ⟨n1, rfl⟩ := some_succ h1
    obtain ⟨n2, rfl⟩ := some_succ h2
    have hk : k < 10 := by omega
    rw [o_X10_lettersAll_L4, v_X2_lettersInAll_L4, nK4, h.2.2.1, h.2.1, if_pos (iN_ylt (by omega) (by omega)), if_pos (iN_ylt (by omega) (by omega)), oA4, if_pos (gO hk (by decide)), nO hk (by decide), at_in (by decide) hk, h.f4 (by omega), iN_s]
    exact ih (k + 1) n1 n2 _ (by omega) (by omega) (by omega)
theorem q_lettersAll (h : RO c S m) : o_X10_lettersAll m = some (v_X2_lettersInAll S) := by
  have h3 := h.1
  exact q_lettersAllL h c 0 4000 (mu 0 + 1) 0 (by omega) (by omega) (by rw [mu_0]; omega)
theorem v_lengthOf (ho : o < 10) (hi : i < 6) : v_X2_lengthOf S (iN o) (iN i) = S 9 (6 * o + i) := by
  unfold v_X2_lengthOf
  rw [show iN o * 6 + iN i = iN (6 * o + i) by
    show iN o * iN 6 + iN i = _
    rw [iN_mul, iN_add, Nat.mul_comm]]
  exact at_in (by decide) (by omega)
theorem v_toOf (ho : o < 10) (hi : i < 6) : v_X2_toOf S (iN o) (iN i) = S 8 (6 * o + i) := by
  unfold v_X2_toOf
  rw [show iN o * 6 + iN i = iN (6 * o + i) by
    show iN o * iN 6 + iN i = _
    rw [iN_mul, iN_add, Nat.mul_comm]]
  exact at_in (by decide) (by omega)
theorem v_lengthOf0 (ho : o < 10) : v_X2_lengthOf S (iN o) 0 = S 9 (6 * o) := v_lengthOf (i := 0) ho (by decide)
theorem v_toOf0 (ho : o < 10) : v_X2_toOf S (iN o) 0 = S 8 (6 * o) := v_toOf (i := 0) ho (by decide)
theorem q_lengthOfL (h : RO c S m) (ho : o < c) {w : Nat} (hw : w ≤ 6) (e7 : S 7 o = iN w) (hq : ∀ i, i < w → m (pL o i 0) = S 8 (6 * o + i) ∧ m (pL o i 1) = S 9 (6 * o + i)) : ∀ d i n1 n2 x, i + d = w → d < n1 → d < n2 → o_X10_lengthOf_L4 n1 m (iN o) x (iN i) = some (v_X2_lengthInQueue_L4 n2 S (iN o) x (iN i)) := by
  have hk := h.lt ho
  intro d
  induction d with
  | zero =>
    intro i n1 n2 x e h1 h2
    obtain ⟨n1, rfl⟩ := some_succ h1
    obtain ⟨n2, rfl⟩ := some_succ h2
    rw [o_X10_lengthOf_L4, v_X2_lengthInQueue_L4, oA4, if_pos (gO hk (by decide)), nO hk (by decide), at_in (by decide) hk, h.f4 ho, e7, show i = w by omega, if_neg (iN_nlt (by omega)), if_neg (iN_nlt (by omega))]
  | succ d ih =>
    intro i n1 n2 x e h1 h2
    obtain ⟨n1, rfl⟩ := some_succ h1
    obtain ⟨n2, rfl⟩ := some_succ h2
    rw [o_X10_lengthOf_L4, v_X2_lengthInQueue_L4, oA4, if_pos (gO hk (by decide)), nO hk (by decide), at_in (by decide) hk, h.f4 ho, e7, if_pos (iN_ylt (by omega) (by omega)), if_pos (iN_ylt (by omega) (by omega)), lA1, if_pos (gL hk (by omega) (by decide)), nL' hk (by omega) (by decide), (hq i (by omega)).2, v_lengthOf hk (by omega), iN_s]
    exact ih (i + 1) n1 n2 _ (by omega) (by omega) (by omega)
theorem q_lengthOf (h : RO c S m) (ho : o < c) : o_X10_lengthOf m (iN o) = some (v_X2_lengthInQueue S (iN o)) := by
  obtain ⟨w, hw, e7, hq⟩ := h.q ho
  exact q_lengthOfL h ho hw e7 hq w 0 4000 (mu 0 + 1) 0 (by omega) (by omega) (by rw [mu_0]; omega)
theorem m2_neg : (-2 : Int32) < 0 := by decide
theorem iN_m2 {a : Nat} (h : a < 2147483648) : ¬ iN a = -2 := fun z => iN_neg h (by rw [z]; exact m2_neg)
theorem v_isOpen (ho : o < 10) : v_X2_isOpen S (iN o) = if S 4 o = 1 then 1 else 0 := by
  unfold v_X2_isOpen
  rw [at_in (by decide) ho]
theorem q_winnerL (h : RO c S m) : ∀ d o n1 n2 (x : Int32), (x = -2 ∨ ∃ p, p < c ∧ x = iN p ∧ S 4 p = 1) → o + d = c → d < n1 → d < n2 → o_X10_winnerOf_L5 n1 m x (iN o) = some (v_X2_openWithGreatestName_L5 n2 S x (iN o)) ∧ (v_X2_openWithGreatestName_L5 n2 S x (iN o) = -2 ∨ ∃ p, p < c ∧ v_X2_openWithGreatestName_L5 n2 S x (iN o) = iN p ∧ S 4 p = 1) := by
  have h3 := h.1
  intro d
  induction d with
  | zero =>
    intro k n1 n2 x hx e h1 h2
    obtain ⟨n1, rfl⟩ := some_succ h1
    obtain ⟨n2, rfl⟩ := some_succ h2
    rw [o_X10_winnerOf_L5, v_X2_openWithGreatestName_L5, nK4, h.2.2.1, h.2.1, show k = c by omega, if_neg (iN_nlt (by omega)), if_neg (iN_nlt (by omega))]
    exact ⟨rfl, hx⟩
  | succ d ih =>
    intro k n1 n2 x hx e h1 h2
    obtain ⟨n1, rfl⟩ := some_succ h1
    obtain ⟨n2, rfl⟩ := some_succ h2
    have hk : k < 10 := by omega
    rw [o_X10_winnerOf_L5, v_X2_openWithGreatestName_L5, nK4, h.2.2.1, h.2.1, if_pos (iN_ylt (by omega) (by omega)), if_pos (iN_ylt (by omega) (by omega)), q_isOpen h (by omega), Option.bind_some, v_isOpen hk, iN_s]
    by_cases q : S 4 k = 1
    · rw [if_pos q, if_neg (show ¬ (1 : Int32) = 0 by decide), if_neg (show ¬ (1 : Int32) = 0 by decide)]
      rcases hx with rfl | ⟨p, hp, rfl, hp4⟩
      · rw [if_pos m2_neg, if_pos rfl]
        exact ih (k + 1) n1 n2 _ (Or.inr ⟨k, by omega, rfl, q⟩) (by omega) (by omega) (by omega)
      · have hp10 := h.lt hp
        rw [if_neg (iN_neg (by omega)), if_neg (iN_m2 (by omega)), oA1, oA1, if_pos (gO hk (by decide)), nO hk (by decide), if_pos (gO hp10 (by decide)), nO hp10 (by decide), h.f1 hp, h.f1 (by omega), at_in (by decide) hk, at_in (by decide) hp10]
        by_cases q2 : S 3 p < S 3 k
        · rw [if_pos q2, if_pos q2]
          exact ih (k + 1) n1 n2 _ (Or.inr ⟨k, by omega, rfl, q⟩) (by omega) (by omega) (by omega)
        · rw [if_neg q2, if_neg q2]
          exact ih (k + 1) n1 n2 _ (Or.inr ⟨p, hp, rfl, hp4⟩) (by omega) (by omega) (by omega)
    · rw [if_neg q, if_pos rfl, if_pos rfl]
      exact ih (k + 1) n1 n2 _ hx (by omega) (by omega) (by omega)
theorem q_winner (h : RO c S m) : o_X10_winnerOf m = some (v_X2_openWithGreatestName S) ∧ (v_X2_openWithGreatestName S = -2 ∨ ∃ p, p < c ∧ v_X2_openWithGreatestName S = iN p ∧ S 4 p = 1) := by
  have h3 := h.1
  exact q_winnerL h c 0 4000 (mu 0 + 1) (-2) (Or.inl rfl) (by omega) (by omega) (by rw [mu_0]; omega)
theorem q_speakersL (h : RT tc S m) : ∀ d k n1 n2 x, k + d = tc → d < n1 → d < n2 → o_X10_speakers_L4 n1 m x (iN k) = some (v_X8_howManySpeak_L4 n2 S x (iN k)) := by
  have h3 := h.1
  intro d
  induction d with
  | zero =>
    intro k n1 n2 x e h1 h2
    obtain ⟨n1, rfl⟩ := some_succ h1
    obtain ⟨n2, rfl⟩ := some_succ h2
    rw [o_X10_speakers_L4, v_X8_howManySpeak_L4, nK5, h.2.2.1, h.2.1, show k = tc by omega, if_neg (iN_nlt (by omega)), if_neg (iN_nlt (by omega))]
  | succ d ih =>
    intro k n1 n2 x e h1 h2
    obtain ⟨n1, rfl⟩ := some_succ h1
    obtain ⟨n2, rfl⟩ := some_succ h2
    have hk : k < 3 := by omega
    rw [o_X10_speakers_L4, v_X8_howManySpeak_L4, nK5, h.2.2.1, h.2.1, if_pos (iN_ylt (by omega) (by omega)), if_pos (iN_ylt (by omega) (by omega)), tA4, if_pos (gT' hk (by decide)), nT hk (by decide), h.f4 (by omega), at_in (by decide) hk, iN_s]
    by_cases q : 0 < S 14 k
    · rw [if_pos q, if_pos q]
      exact ih (k + 1) n1 n2 _ (by omega) (by omega) (by omega)
    · rw [if_neg q, if_neg q]
      exact ih (k + 1) n1 n2 _ (by omega) (by omega) (by omega)
theorem q_speakers (h : RT tc S m) : o_X10_speakers m = some (v_X8_howManySpeak S) := by
  have h3 := h.1
  exact q_speakersL h tc 0 4000 (mu 0 + 1) 0 (by omega) (by omega) (by rw [mu_0]; omega)
end RR
