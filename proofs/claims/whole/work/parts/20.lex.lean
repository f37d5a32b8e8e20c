-- PART 20: reading a setup: its tokens
def TF (n : Nat) (T : Nat → Nat) (E X : SM) : Prop := n ≤ 1200 ∧ E 1 0 = iN n ∧ X 8 1 = iN n ∧ ∀ k, k < n → T k < 256 ∧ X 6 k = iN (T k) ∧ E 0 k &&& 255 = iN (T k) ∧ (E 0 k).toInt8.toInt32 = E 0 k
def XS (X0 X : SM) : Prop := (∀ j, j ≠ 8 → X j = X0 j) ∧ ∀ k, k ≠ 4 → k ≠ 5 → k ≠ 6 → k ≠ 7 → X 8 k = X0 8 k
abbrev dgt (t : Nat) : Prop := 48 ≤ t ∧ t ≤ 57
abbrev sml (t : Nat) : Prop := 97 ≤ t ∧ t ≤ 122
abbrev wht (t : Nat) : Prop := t = 32 ∨ t = 10
def wval (T : Nat → Nat) (b : Nat) : Nat → Nat
  | 0 => 0
  | l + 1 => 27 * wval T b l + (T (b + l) - 96)
def nval (T : Nat → Nat) (b : Nat) : Nat → Nat
  | 0 => 0
  | l + 1 => 10 * nval T b l + (T (b + l) - 48)
def Wl : List Nat := [10415990, 9454556, 9459316, 218546996, 380396, 175252482, 10932233]
def Wd (w : Nat) : Nat := Wl.getD w 0
def KR (c : Nat → Int32) (X : SM) : Prop :=
  (c 2 = 9 ∧ X 8 6 = 0) ∨ (c 2 = 7 ∧ X 8 6 = 2 ∧ ∃ v, v ≤ 99 ∧ c 3 = iN v ∧ X 8 7 = iN v) ∨ (c 2 = 8 ∧ X 8 6 = 3) ∨ (∃ w, w < 7 ∧ c 2 = iN w ∧ X 8 6 = 1 ∧ X 8 7 = iN (Wd w)) ∨ (c 2 = 10 ∧ (X 8 6 = 4 ∨ (X 8 6 = 1 ∧ ∃ v, v < 387420489 ∧ X 8 7 = iN v ∧ ∀ w, w < 7 → v ≠ Wd w)))
def TK (n : Nat) (c : Nat → Int32) (X : SM) : Prop := ∃ a b, b ≤ a ∧ a ≤ n ∧ c 0 = iN b ∧ X 8 5 = iN b ∧ c 1 = iN a ∧ X 8 4 = iN a ∧ KR c X
theorem v_dig : ∀ t, t < 256 → v_X3_isDigit (iN t) = if dgt t then 1 else 0 := by decide +kernel
theorem v_sml : ∀ t, t < 256 → v_X3_isSmallLetter (iN t) = if sml t then 1 else 0 := by decide +kernel
theorem v_wht : ∀ t, t < 256 → v_X3_isWhiteSpace (iN t) = if wht t then 1 else 0 := by decide +kernel
theorem o_dig_d : ∀ t, t < 256 → (if iN t < 48 then some (0 : Int32) else if 57 < iN t then some 0 else some 1) = some (if dgt t then 1 else 0) := by decide +kernel
theorem o_sml_d : ∀ t, t < 256 → (if iN t < 97 then some (0 : Int32) else if 122 < iN t then some 0 else some 1) = some (if sml t then 1 else 0) := by decide +kernel
theorem Wd_val : ∀ w, w < 7 → wval (fun i => (wd w).getD i 0) 0 (wd w).length = Wd w ∧ Wd w < 387420489 ∧ (wd w).length ≤ 6 ∧ v_X3_keyword (iN w) = w := by decide +kernel
theorem wd_sml : ∀ w, w < 7 → ∀ i, i < (wd w).length → sml ((wd w).getD i 0) := by decide +kernel
theorem wd_ne : ∀ w, w < 7 → ∀ y, y < 7 → Wd w = Wd y → w = y := by decide +kernel
section LX
variable {c tc B k n b e : Nat} {T : Nat → Nat} {S : SM} {m : Nat → Int32} {E X X' X0 : SM} {Y Y' : RS} {o t i : Nat}
theorem TF.of (h : Tp n E X) : ∃ T, TF n T E X := by
  refine ⟨fun k => (X 6 k).toNatClampNeg, h.1, h.2.1, h.2.2.1, fun k hk => ?_⟩
  obtain ⟨t, ht, et⟩ := and255 (E 0 k)
  obtain ⟨e1, e2⟩ := h.2.2.2 k hk
  have e3 : X 6 k = iN t := e1.trans et
  have e4 : (X 6 k).toNatClampNeg = t := by rw [e3, iN_nat (by omega)]
  show (X 6 k).toNatClampNeg < 256 ∧ X 6 k = iN (X 6 k).toNatClampNeg ∧ E 0 k &&& 255 = iN (X 6 k).toNatClampNeg ∧ _
  rw [e4]
  exact ⟨ht, e3, et, e2⟩
theorem XS.rf (X : SM) : XS X X := ⟨fun _ _ => rfl, fun _ _ _ _ _ => rfl⟩
theorem XS.set (h : XS X0 X) {j : Nat} (hj : j = 4 ∨ j = 5 ∨ j = 6 ∨ j = 7) (v : Int32) : XS X0 (sU X 8 (upd (X 8) j v)) :=
  ⟨fun i hi => (sU_ne hi).trans (h.1 i hi), fun k h4 h5 h6 h7 => by rw [sU_eq, upd_ne (by omega)]; exact h.2 k h4 h5 h6 h7⟩
theorem XS.nn (h : XS X0 X) (hT : TF n T E X0) : X 8 1 = iN n := (h.2 1 (by decide) (by decide) (by decide) (by decide)).trans hT.2.2.1
theorem XS.tt (h : XS X0 X) (hT : TF n T E X0) (hk : k < n) : X 6 k = iN (T k) := by
  rw [h.1 6 (by decide)]
  exact (hT.2.2.2 k hk).2.1
theorem v_byte (hT : TF n T E X0) (hk : k < n) : v_X7_byteAt E (iN k) = iN (T k) := by
  have h12 := hT.1
  unfold v_X7_byteAt
  rw [if_neg (iN_neg (by omega)), hT.2.1, if_pos (iN_ylt hk (by omega)), if_pos (show iN k < 1200 from iN_ylt (b := 1200) (by omega) (by decide)), iN_nat (by omega)]
  exact (hT.2.2.2 k hk).2.2.1
theorem o_dig (hT : TF n T E X0) (h : XS X0 X) (hk : k < n) : o_X10_isDigit X (iN k) = some (if dgt (T k) then 1 else 0) := by
  have h12 := hT.1
  unfold o_X10_isDigit
  rw [h.nn hT, if_pos (iN_ylt hk (by omega)), if_pos (gin_iN (by omega) (by omega)), if_pos (gin_iN (by omega) (by omega)), iN_nat (by omega), h.tt hT hk]
  exact o_dig_d _ (hT.2.2.2 k hk).1
theorem o_sml (hT : TF n T E X0) (h : XS X0 X) (hk : k < n) : o_X10_isSmall X (iN k) = some (if sml (T k) then 1 else 0) := by
  have h12 := hT.1
  unfold o_X10_isSmall
  rw [h.nn hT, if_pos (iN_ylt hk (by omega)), if_pos (gin_iN (by omega) (by omega)), if_pos (gin_iN (by omega) (by omega)), iN_nat (by omega), h.tt hT hk]
  exact o_sml_d _ (hT.2.2.2 k hk).1
theorem o_digE (hT : TF n T E X0) (h : XS X0 X) : o_X10_isDigit X (iN n) = some 0 := by
  have h12 := hT.1
  unfold o_X10_isDigit
  rw [h.nn hT, if_neg (iN_nlt (by omega))]
theorem o_smlE (hT : TF n T E X0) (h : XS X0 X) : o_X10_isSmall X (iN n) = some 0 := by
  have h12 := hT.1
  unfold o_X10_isSmall
  rw [h.nn hT, if_neg (iN_nlt (by omega))]
theorem lx_skip (hT : TF n T E X0) : ∀ d p (X : SM) (c : Nat → Int32) f1 f2, p + d = n → XS X0 X → X 8 4 = iN p → c 0 = iN p → d < f1 → d < f2 → ∃ b, p ≤ b ∧ b ≤ n ∧ (b < n → ¬ wht (T b)) ∧ (∃ X', o_X10_next_L0 f1 X = o_X10_next_L52 X' ∧ XS X0 X' ∧ X' 8 4 = iN b) ∧ s_X3_skipWhiteSpace_L8 f2 c E 0 = iN b ∧ s_X3_skipWhiteSpace_L8 f2 c E 1 = iN b ∧ s_X3_skipWhiteSpace_L8 f2 c E 3 = c 3 := by
  have h12 := hT.1
  intro d
  induction d with
  | zero =>
    intro p X c f1 f2 hp hX e4 e0 h1 h2
    obtain ⟨f1, rfl⟩ := some_succ h1
    obtain ⟨f2, rfl⟩ := some_succ h2
    rw [o_X10_next_L0, s_X3_skipWhiteSpace_L8, e4, hX.nn hT, e0, hT.2.1, show p = n by omega, if_neg (iN_nlt (by omega)), if_neg (iN_nlt (by omega))]
    unfold s_X3_skipWhiteSpace_L52
    rw [upd_ne (by decide), upd_eq, upd_ne (by decide), e0, show p = n by omega]
    exact ⟨n, by omega, Nat.le_refl _, fun z => absurd z (Nat.lt_irrefl _), ⟨X, rfl, hX, by rw [e4, show p = n by omega]⟩, rfl, rfl, rfl⟩
  | succ d ih =>
    intro p X c f1 f2 hp hX e4 e0 h1 h2
    obtain ⟨f1, rfl⟩ := some_succ h1
    obtain ⟨f2, rfl⟩ := some_succ h2
    have hk : p < n := by omega
    have ht := (hT.2.2.2 p hk).1
    have hgo : wht (T p) → ∃ b, p ≤ b ∧ b ≤ n ∧ (b < n → ¬ wht (T b)) ∧ (∃ X', o_X10_next_L0 f1 (sU X 8 (upd (X 8) 4 (iN p + 1))) = o_X10_next_L52 X' ∧ XS X0 X' ∧ X' 8 4 = iN b) ∧ s_X3_skipWhiteSpace_L8 f2 (upd c 0 (iN p + 1)) E 0 = iN b ∧ s_X3_skipWhiteSpace_L8 f2 (upd c 0 (iN p + 1)) E 1 = iN b ∧ s_X3_skipWhiteSpace_L8 f2 (upd c 0 (iN p + 1)) E 3 = c 3 := by
      intro hw
      rw [iN_s]
      obtain ⟨b, a1, a2, a3, a4, a5, a6, a7⟩ := ih (p + 1) (sU X 8 (upd (X 8) 4 (iN (p + 1)))) (upd c 0 (iN (p + 1))) f1 f2 (by omega) (hX.set (Or.inl rfl) _) (by rw [sU_eq, upd_eq]) (upd_eq ..) (by omega) (by omega)
      exact ⟨b, by omega, a2, a3, a4, a5, a6, a7⟩
    rw [o_X10_next_L0, s_X3_skipWhiteSpace_L8, e4, hX.nn hT, e0, hT.2.1, if_pos (iN_ylt hk (by omega)), if_pos (iN_ylt hk (by omega)), if_pos (gin_iN (by omega) (by omega)), if_pos (gin_iN (by omega) (by omega)), iN_nat (by omega), hX.tt hT hk, v_byte hT hk, v_wht _ ht]
    simp only [lt1]
    by_cases q32 : T p = 32
    · rw [if_pos (show iN (T p) = 32 by rw [q32]; rfl), if_neg (show ¬ (if wht (T p) then (1 : Int32) else 0) = 0 by rw [if_pos (Or.inl q32)]; decide)]
      exact hgo (Or.inl q32)
    · rw [if_neg (show ¬ iN (T p) = 32 from fun z => q32 ((iN_inj (b := 32) (by omega) (by decide)).mp z))]
      by_cases q10 : T p = 10
      · rw [if_pos (show iN (T p) = 10 by rw [q10]; rfl), if_neg (show ¬ (if wht (T p) then (1 : Int32) else 0) = 0 by rw [if_pos (Or.inr q10)]; decide)]
        exact hgo (Or.inr q10)
      · have hnw : ¬ wht (T p) := fun z => z.elim q32 q10
        rw [if_neg (show ¬ iN (T p) = 10 from fun z => q10 ((iN_inj (b := 10) (by omega) (by decide)).mp z)), if_pos (show (if wht (T p) then (1 : Int32) else 0) = 0 from if_neg hnw)]
        unfold s_X3_skipWhiteSpace_L52
        rw [upd_ne (by decide), upd_eq, upd_ne (by decide), e0]
        exact ⟨p, Nat.le_refl _, by omega, fun _ => hnw, ⟨X, rfl, hX, e4⟩, rfl, rfl, rfl⟩
theorem wval_s (T : Nat → Nat) (b l : Nat) : wval T b (l + 1) = 27 * wval T b l + (T (b + l) - 96) := rfl
theorem nval_s (T : Nat → Nat) (b l : Nat) : nval T b (l + 1) = 10 * nval T b l + (T (b + l) - 48) := rfl
theorem wval_lt : ∀ l, (∀ i, i < l → sml (T (b + i))) → wval T b l + 1 ≤ 27 ^ l := by
  intro l
  induction l with
  | zero =>
    intro h
    exact Nat.le_refl _
  | succ l ih =>
    intro h
    have h1 := ih (fun i hi => h i (by omega))
    have h2 := h l (by omega)
    rw [wval_s, Nat.pow_succ]
    omega
theorem wval_le {l : Nat} (hl : l ≤ 6) (h : ∀ i, i < l → sml (T (b + i))) : wval T b l < 387420489 := by
  have h1 := wval_lt l h
  have h2 : 27 ^ l ≤ 27 ^ 6 := Nat.pow_le_pow_right (by decide) hl
  have h3 : 27 ^ 6 = 387420489 := by decide
  omega
theorem wval_inj {f g : Nat → Nat} {bf bg : Nat} : ∀ l r, (∀ i, i < l → sml (f (bf + i))) → (∀ i, i < r → sml (g (bg + i))) → wval f bf l = wval g bg r → l = r ∧ ∀ i, i < l → f (bf + i) = g (bg + i) := by
  intro l
  induction l with
  | zero =>
    intro r hf hg h
    cases r with
    | zero => exact ⟨rfl, fun i hi => absurd hi (Nat.not_lt_zero _)⟩
    | succ r =>
      have h1 := hg r (by omega)
      rw [wval_s] at h
      have h0 : wval f bf 0 = 0 := rfl
      omega
  | succ l ih =>
    intro r hf hg h
    have h2 := hf l (by omega)
    cases r with
    | zero =>
      rw [wval_s] at h
      have h0 : wval g bg 0 = 0 := rfl
      omega
    | succ r =>
      have h1 := hg r (by omega)
      rw [wval_s, wval_s] at h
      obtain ⟨e1, e2⟩ := ih r (fun i hi => hf i (by omega)) (fun i hi => hg i (by omega)) (by omega)
      subst e1
      refine ⟨rfl, fun i hi => ?_⟩
      by_cases q : i = l
      · rw [q]
        omega
      · exact e2 i (by omega)
theorem wval_eq {f g : Nat → Nat} {bf bg : Nat} : ∀ l, (∀ i, i < l → f (bf + i) = g (bg + i)) → wval f bf l = wval g bg l := by
  intro l
  induction l with
  | zero =>
    intro h
    rfl
  | succ l ih =>
    intro h
    rw [wval_s, wval_s, ih (fun i hi => h i (by omega)), h l (by omega)]
theorem nval_le {l : Nat} (hl : l ≤ 2) (h : ∀ i, i < l → dgt (T (b + i))) : nval T b l ≤ 99 := by
  rcases (by omega : l = 0 ∨ l = 1 ∨ l = 2) with rfl | rfl | rfl
  · exact Nat.zero_le _
  · have h0 := h 0 (by omega)
    have e0 : nval T b 0 = 0 := rfl
    rw [nval_s]
    omega
  · have h0 := h 0 (by omega)
    have h1 := h 1 (by omega)
    have e0 : nval T b 0 = 0 := rfl
    rw [nval_s, nval_s]
    omega
theorem mn_lt {p b m : Nat} (hb : b ≤ p) (h : p - b < m) : min (p - b) m = p - b ∧ min (p + 1 - b) m = p - b + 1 := by omega
theorem mn_ge {p b m : Nat} (hb : b ≤ p) (h : ¬ p - b < m) : min (p - b) m = m ∧ min (p + 1 - b) m = m := by omega
theorem lx_word (hT : TF n T E X0) : ∀ d p (X : SM) (c : Nat → Int32) f1 f2, p + d = n → XS X0 X → b ≤ p → X 8 4 = iN p → X 8 5 = iN b → X 8 7 = iN (wval T b (min (p - b) 6)) → (∀ i, b ≤ i → i < p → sml (T i)) → c 1 = iN p → d < f1 → d < f2 → ∃ e, p ≤ e ∧ e ≤ n ∧ (∀ i, b ≤ i → i < e → sml (T i)) ∧ (∃ X', o_X10_nextWord_L0 f1 X = some X' ∧ XS X0 X' ∧ X' 8 4 = iN e ∧ X' 8 5 = iN b ∧ X' 8 6 = (if 6 < e - b then 4 else 1) ∧ X' 8 7 = iN (wval T b (min (e - b) 6))) ∧ ∃ c', s_X3_readWord_L0 f2 c E = s_X3_readWord_L44 c' E ∧ c' 0 = c 0 ∧ c' 1 = iN e ∧ c' 3 = c 3 := by
  have h12 := hT.1
  have hend : ∀ p (X : SM) (c : Nat → Int32), p ≤ n → XS X0 X → b ≤ p → X 8 4 = iN p → X 8 5 = iN b → X 8 7 = iN (wval T b (min (p - b) 6)) → (∀ i, b ≤ i → i < p → sml (T i)) → c 1 = iN p → ∃ e, p ≤ e ∧ e ≤ n ∧ (∀ i, b ≤ i → i < e → sml (T i)) ∧ (∃ X', (if 6 < X 8 4 - X 8 5 then o_X10_nextWord_L82 X 4 else o_X10_nextWord_L82 X 1) = some X' ∧ XS X0 X' ∧ X' 8 4 = iN e ∧ X' 8 5 = iN b ∧ X' 8 6 = (if 6 < e - b then 4 else 1) ∧ X' 8 7 = iN (wval T b (min (e - b) 6))) ∧ ∃ c', s_X3_readWord_L44 c E = s_X3_readWord_L44 c' E ∧ c' 0 = c 0 ∧ c' 1 = iN e ∧ c' 3 = c 3 := by
    intro p X c hp hX hb e4 e5 e7 hs ec
    refine ⟨p, Nat.le_refl _, hp, hs, ?_, c, rfl, rfl, ec, rfl⟩
    rw [e4, e5, iN_sub hb]
    unfold o_X10_nextWord_L82
    simp only [lt1]
    by_cases q : 6 < p - b
    · rw [if_pos (show 6 < iN (p - b) from iN_ylt (a := 6) q (by omega)), if_pos q]
      exact ⟨_, rfl, hX.set (by decide) _, by rw [sU_eq, upd_ne (by decide), e4], by rw [sU_eq, upd_ne (by decide), e5], by rw [sU_eq, upd_eq], by rw [sU_eq, upd_ne (by decide), e7]⟩
    · rw [if_neg (show ¬ 6 < iN (p - b) from fun z => q ((iN_lt (a := 6) (by decide) (by omega)).mp z)), if_neg q]
      exact ⟨_, rfl, hX.set (by decide) _, by rw [sU_eq, upd_ne (by decide), e4], by rw [sU_eq, upd_ne (by decide), e5], by rw [sU_eq, upd_eq], by rw [sU_eq, upd_ne (by decide), e7]⟩
  intro d
  induction d with
  | zero =>
    intro p X c f1 f2 hp hX hb e4 e5 e7 hs ec h1 h2
    obtain ⟨f1, rfl⟩ := some_succ h1
    obtain ⟨f2, rfl⟩ := some_succ h2
    have hpn : p = n := by omega
    subst hpn
    rw [o_X10_nextWord_L0, s_X3_readWord_L0]
    rw [show o_X10_isSmall X (X 8 4) = some 0 by rw [e4]; exact o_smlE hT hX, Option.bind_some, if_pos rfl, ec, hT.2.1, if_neg (iN_nlt (by omega))]
    exact hend p X c (Nat.le_refl _) hX hb e4 e5 e7 hs ec
  | succ d ih =>
    intro p X c f1 f2 hp hX hb e4 e5 e7 hs ec h1 h2
    obtain ⟨f1, rfl⟩ := some_succ h1
    obtain ⟨f2, rfl⟩ := some_succ h2
    have hk : p < n := by omega
    have ht := (hT.2.2.2 p hk).1
    rw [o_X10_nextWord_L0, s_X3_readWord_L0]
    rw [show o_X10_isSmall X (X 8 4) = some (if sml (T p) then 1 else 0) by rw [e4]; exact o_sml hT hX hk, Option.bind_some, ec, hT.2.1, if_pos (iN_ylt hk (by omega)), v_byte hT hk, v_sml _ ht]
    by_cases q : sml (T p)
    · rw [if_pos q, if_neg (show ¬ (1 : Int32) = 0 by decide), if_neg (show ¬ (1 : Int32) = 0 by decide), e4, e5, iN_sub hb]
      have hs' : ∀ i, b ≤ i → i < p + 1 → sml (T i) := fun i h1 h2 => by
        by_cases z : i = p
        · rw [z]
          exact q
        · exact hs i h1 (by omega)
      by_cases q6 : p - b < 6
      · obtain ⟨mn1, mn2⟩ := mn_lt hb q6
        have hv : wval T b (p - b) < 387420489 := wval_le (by omega) (fun i hi => hs (b + i) (by omega) (by omega))
        rw [mn1] at e7
        rw [if_pos (show iN (p - b) < 6 from iN_ylt (b := 6) q6 (by decide)), if_pos (gin_iN (by omega) (by omega)), iN_nat (by omega), hX.tt hT hk, e7, show (27 : Int32) * iN (wval T b (p - b)) = iN (27 * wval T b (p - b)) from iN_mul 27 _, iN_add, show iN (27 * wval T b (p - b) + T p) - 96 = iN (27 * wval T b (p - b) + T p - 96) from iN_sub (b := 96) (by have := q.1; omega)]
        simp only [lt1]
        rw [iN_s]
        have ev : 27 * wval T b (p - b) + T p - 96 = wval T b (min (p + 1 - b) 6) := by
          rw [mn2, wval_s, show b + (p - b) = p by omega]
          have := q.1
          omega
        rw [ev]
        obtain ⟨e, g1, g2, g3, g4, g5⟩ := ih (p + 1) (sU (sU X 8 (upd (X 8) 7 (iN (wval T b (min (p + 1 - b) 6))))) 8 (upd (sU X 8 (upd (X 8) 7 (iN (wval T b (min (p + 1 - b) 6)))) 8) 4 (sU X 8 (upd (X 8) 7 (iN (wval T b (min (p + 1 - b) 6)))) 8 4 + 1))) (upd c 1 (iN (p + 1))) f1 f2 (by omega) ((hX.set (by decide) _).set (by decide) _) (by omega) (by rw [sU_eq, upd_eq, sU_eq, upd_ne (by decide), e4, iN_s]) (by rw [sU_eq, upd_ne (by decide), sU_eq, upd_ne (by decide), e5]) (by rw [sU_eq, upd_ne (by decide), sU_eq, upd_eq]) hs' (upd_eq ..) (by omega) (by omega)
        obtain ⟨c', a1, a2, a3, a4⟩ := g5
        exact ⟨e, by omega, g2, g3, g4, c', a1, a2, a3, a4⟩
      · obtain ⟨mn1, mn2⟩ := mn_ge hb q6
        rw [if_neg (show ¬ iN (p - b) < 6 from fun z => q6 ((iN_lt (b := 6) (by omega) (by decide)).mp z))]
        simp only [lt1]
        rw [iN_s]
        obtain ⟨e, g1, g2, g3, g4, g5⟩ := ih (p + 1) (sU X 8 (upd (X 8) 4 (iN (p + 1)))) (upd c 1 (iN (p + 1))) f1 f2 (by omega) (hX.set (by decide) _) (by omega) (by rw [sU_eq, upd_eq]) (by rw [sU_eq, upd_ne (by decide), e5]) (by rw [sU_eq, upd_ne (by decide), e7, mn1, mn2]) hs' (upd_eq ..) (by omega) (by omega)
        obtain ⟨c', a1, a2, a3, a4⟩ := g5
        exact ⟨e, by omega, g2, g3, g4, c', a1, a2, a3, a4⟩
    · rw [if_neg q, if_pos rfl, if_pos rfl]
      exact hend p X c (by omega) hX hb e4 e5 e7 hs ec
theorem lx_num (hT : TF n T E X0) : ∀ d p (X : SM) (c : Nat → Int32) f1 f2, p + d = n → XS X0 X → b ≤ p → X 8 4 = iN p → X 8 5 = iN b → X 8 7 = iN (nval T b (min (p - b) 2)) → (∀ i, b ≤ i → i < p → dgt (T i)) → c 0 = iN b → c 1 = iN p → c 3 = iN (nval T b (min (p - b) 2)) → d < f1 → d < f2 → ∃ e, p ≤ e ∧ e ≤ n ∧ (∀ i, b ≤ i → i < e → dgt (T i)) ∧ (∃ X', o_X10_nextNumber_L0 f1 X = some X' ∧ XS X0 X' ∧ X' 8 4 = iN e ∧ X' 8 5 = iN b ∧ X' 8 6 = (if 2 < e - b then 4 else 2) ∧ X' 8 7 = iN (nval T b (min (e - b) 2))) ∧ s_X3_readNumeral_L5 f2 c E 0 = iN b ∧ s_X3_readNumeral_L5 f2 c E 1 = iN e ∧ s_X3_readNumeral_L5 f2 c E 2 = (if 2 < e - b then 10 else 7) ∧ s_X3_readNumeral_L5 f2 c E 3 = iN (nval T b (min (e - b) 2)) := by
  have h12 := hT.1
  have hend : ∀ p (X : SM) (c : Nat → Int32), p ≤ n → XS X0 X → b ≤ p → X 8 4 = iN p → X 8 5 = iN b → X 8 7 = iN (nval T b (min (p - b) 2)) → (∀ i, b ≤ i → i < p → dgt (T i)) → c 0 = iN b → c 1 = iN p → c 3 = iN (nval T b (min (p - b) 2)) → ∃ e, p ≤ e ∧ e ≤ n ∧ (∀ i, b ≤ i → i < e → dgt (T i)) ∧ (∃ X', (if 2 < X 8 4 - X 8 5 then o_X10_nextNumber_L80 X 4 else o_X10_nextNumber_L80 X 2) = some X' ∧ XS X0 X' ∧ X' 8 4 = iN e ∧ X' 8 5 = iN b ∧ X' 8 6 = (if 2 < e - b then 4 else 2) ∧ X' 8 7 = iN (nval T b (min (e - b) 2))) ∧ s_X3_readNumeral_L88 c E 0 = iN b ∧ s_X3_readNumeral_L88 c E 1 = iN e ∧ s_X3_readNumeral_L88 c E 2 = (if 2 < e - b then 10 else 7) ∧ s_X3_readNumeral_L88 c E 3 = iN (nval T b (min (e - b) 2)) := by
    intro p X c hp hX hb e4 e5 e7 hs e0 ec e3
    refine ⟨p, Nat.le_refl _, hp, hs, ?_⟩
    unfold o_X10_nextNumber_L80 s_X3_readNumeral_L88 s_X3_readNumeral_L109
    rw [e4, e5, e0, ec, iN_sub hb]
    simp only [lt1]
    by_cases q : 2 < p - b
    · rw [if_pos (show 2 < iN (p - b) from iN_ylt (a := 2) q (by omega)), if_pos (show 2 < iN (p - b) from iN_ylt (a := 2) q (by omega)), if_pos q, if_pos q]
      exact ⟨⟨_, rfl, hX.set (by decide) _, by rw [sU_eq, upd_ne (by decide), e4], by rw [sU_eq, upd_ne (by decide), e5], by rw [sU_eq, upd_eq], by rw [sU_eq, upd_ne (by decide), e7]⟩, by rw [upd_ne (by decide), e0], by rw [upd_ne (by decide), ec], upd_eq .., by rw [upd_ne (by decide), e3]⟩
    · rw [if_neg (show ¬ 2 < iN (p - b) from fun z => q ((iN_lt (a := 2) (by decide) (by omega)).mp z)), if_neg (show ¬ 2 < iN (p - b) from fun z => q ((iN_lt (a := 2) (by decide) (by omega)).mp z)), if_neg q, if_neg q]
      exact ⟨⟨_, rfl, hX.set (by decide) _, by rw [sU_eq, upd_ne (by decide), e4], by rw [sU_eq, upd_ne (by decide), e5], by rw [sU_eq, upd_eq], by rw [sU_eq, upd_ne (by decide), e7]⟩, by rw [upd_ne (by decide), e0], by rw [upd_ne (by decide), ec], upd_eq .., by rw [upd_ne (by decide), e3]⟩
  intro d
  induction d with
  | zero =>
    intro p X c f1 f2 hp hX hb e4 e5 e7 hs e0 ec e3 h1 h2
    obtain ⟨f1, rfl⟩ := some_succ h1
    obtain ⟨f2, rfl⟩ := some_succ h2
    have hpn : p = n := by omega
    subst hpn
    rw [o_X10_nextNumber_L0, s_X3_readNumeral_L5]
    rw [show o_X10_isDigit X (X 8 4) = some 0 by rw [e4]; exact o_digE hT hX, Option.bind_some, if_pos rfl, ec, hT.2.1, if_neg (iN_nlt (by omega))]
    exact hend p X c (Nat.le_refl _) hX hb e4 e5 e7 hs e0 ec e3
  | succ d ih =>
    intro p X c f1 f2 hp hX hb e4 e5 e7 hs e0 ec e3 h1 h2
    obtain ⟨f1, rfl⟩ := some_succ h1
    obtain ⟨f2, rfl⟩ := some_succ h2
    have hk : p < n := by omega
    have ht := (hT.2.2.2 p hk).1
    rw [o_X10_nextNumber_L0, s_X3_readNumeral_L5]
    rw [show o_X10_isDigit X (X 8 4) = some (if dgt (T p) then 1 else 0) by rw [e4]; exact o_dig hT hX hk, Option.bind_some, ec, hT.2.1, if_pos (iN_ylt hk (by omega)), v_byte hT hk, v_dig _ ht]
    by_cases q : dgt (T p)
    · rw [if_pos q, if_neg (show ¬ (1 : Int32) = 0 by decide), if_neg (show ¬ (1 : Int32) = 0 by decide), e4, e5, e0, iN_sub hb]
      have hs' : ∀ i, b ≤ i → i < p + 1 → dgt (T i) := fun i h1 h2 => by
        by_cases z : i = p
        · rw [z]
          exact q
        · exact hs i h1 (by omega)
      by_cases q6 : p - b < 2
      · obtain ⟨mn1, mn2⟩ := mn_lt hb q6
        have hv : nval T b (p - b) ≤ 99 := nval_le (by omega) (fun i hi => hs (b + i) (by omega) (by omega))
        rw [mn1] at e7 e3
        have ev : 10 * nval T b (p - b) + T p - 48 = nval T b (min (p + 1 - b) 2) := by
          rw [mn2, nval_s, show b + (p - b) = p by omega]
          have := q.1
          omega
        have ev2 : iN (nval T b (p - b)) * 10 + iN (T p) - 48 = iN (nval T b (min (p + 1 - b) 2)) := by
          rw [show iN (nval T b (p - b)) * 10 = iN (nval T b (p - b) * 10) from iN_mul _ 10, iN_add, show iN (nval T b (p - b) * 10 + T p) - 48 = iN (nval T b (p - b) * 10 + T p - 48) from iN_sub (b := 48) (by have := q.1; omega), Nat.mul_comm, ev]
        rw [if_pos (show iN (p - b) < 2 from iN_ylt (b := 2) q6 (by decide)), if_pos (show iN (p - b) < 2 from iN_ylt (b := 2) q6 (by decide)), if_pos (gin_iN (by omega) (by omega)), iN_nat (by omega), hX.tt hT hk, e7, e3, ev2, show (10 : Int32) * iN (nval T b (p - b)) = iN (10 * nval T b (p - b)) from iN_mul 10 _, iN_add, show iN (10 * nval T b (p - b) + T p) - 48 = iN (10 * nval T b (p - b) + T p - 48) from iN_sub (b := 48) (by have := q.1; omega), ev, upd_ne (show (1 : Nat) ≠ 3 by decide), ec]
        simp only [lt1]
        rw [iN_s]
        obtain ⟨e, g1, g2, g3, g4, g5⟩ := ih (p + 1) (sU (sU X 8 (upd (X 8) 7 (iN (nval T b (min (p + 1 - b) 2))))) 8 (upd (sU X 8 (upd (X 8) 7 (iN (nval T b (min (p + 1 - b) 2)))) 8) 4 (sU X 8 (upd (X 8) 7 (iN (nval T b (min (p + 1 - b) 2)))) 8 4 + 1))) (upd (upd c 3 (iN (nval T b (min (p + 1 - b) 2)))) 1 (iN (p + 1))) f1 f2 (by omega) ((hX.set (by decide) _).set (by decide) _) (by omega) (by rw [sU_eq, upd_eq, sU_eq, upd_ne (by decide), e4, iN_s]) (by rw [sU_eq, upd_ne (by decide), sU_eq, upd_ne (by decide), e5]) (by rw [sU_eq, upd_ne (by decide), sU_eq, upd_eq]) hs' (by rw [upd_ne (by decide), upd_ne (by decide), e0]) (upd_eq ..) (by rw [upd_ne (by decide), upd_eq]) (by omega) (by omega)
        exact ⟨e, by omega, g2, g3, g4, g5⟩
      · obtain ⟨mn1, mn2⟩ := mn_ge hb q6
        rw [if_neg (show ¬ iN (p - b) < 2 from fun z => q6 ((iN_lt (b := 2) (by omega) (by decide)).mp z)), if_neg (show ¬ iN (p - b) < 2 from fun z => q6 ((iN_lt (b := 2) (by omega) (by decide)).mp z))]
        simp only [lt1]
        rw [iN_s]
        obtain ⟨e, g1, g2, g3, g4, g5⟩ := ih (p + 1) (sU X 8 (upd (X 8) 4 (iN (p + 1)))) (upd c 1 (iN (p + 1))) f1 f2 (by omega) (hX.set (by decide) _) (by omega) (by rw [sU_eq, upd_eq]) (by rw [sU_eq, upd_ne (by decide), e5]) (by rw [sU_eq, upd_ne (by decide), e7, mn1, mn2]) hs' (by rw [upd_ne (by decide), e0]) (upd_eq ..) (by rw [upd_ne (by decide), e3, mn1, mn2]) (by omega) (by omega)
        exact ⟨e, by omega, g2, g3, g4, g5⟩
    · rw [if_neg q, if_pos rfl, if_pos rfl]
      exact hend p X c (by omega) hX hb e4 e5 e7 hs e0 ec e3
/-- a run of letters is the word w -/
def MW (T : Nat → Nat) (b e w : Nat) : Prop := e - b = (wd w).length ∧ ∀ i, i < (wd w).length → T (b + i) = (wd w).getD i 0
theorem byte_eq {z : Int32} {t w : Nat} (ht : t < 256) (hz : z &&& 255 = iN t) (hb : z.toInt8.toInt32 = z) (hw : w < 128) : z = iN w ↔ t = w := by
  constructor
  · intro h
    rw [h, and_b w hw] at hz
    exact ((iN_inj (by omega) (by omega)).mp hz).symm
  · intro h
    subst h
    have h1 := (sc_eq hb ht).mpr hz
    have h2 : vp_nar .byte (iN t).toInt8.toInt32 = iN t := nar_b t hw
    rw [pk_vb] at h2
    exact h1.trans h2
theorem lx_isL (hT : TF n T E X0) {w : Nat} (hw : w < 7) (hb : b + (wd w).length ≤ n) : ∀ d k f, k + d = (wd w).length → (∀ i, i < k → T (b + i) = (wd w).getD i 0) → d < f → (v_X7_isWord_L28 f E w (iN b) (iN k) = 1 ∧ ∀ i, i < (wd w).length → T (b + i) = (wd w).getD i 0) ∨ (v_X7_isWord_L28 f E w (iN b) (iN k) = 0 ∧ ¬ ∀ i, i < (wd w).length → T (b + i) = (wd w).getD i 0) := by
  have h12 := hT.1
  have hl := wd_le w (by omega)
  intro d
  induction d with
  | zero =>
    intro k f hk hm h1
    obtain ⟨f, rfl⟩ := some_succ h1
    rw [v_X7_isWord_L28, wd_len w (by omega), if_neg (show ¬ iN k < Int32.ofNat (wd w).length from fun z => by have := (iN_lt (by omega) (by omega)).mp z; omega)]
    exact Or.inl ⟨rfl, fun i hi => hm i (by omega)⟩
  | succ d ih =>
    intro k f hk hm h1
    obtain ⟨f, rfl⟩ := some_succ h1
    have hkl : k < (wd w).length := by omega
    obtain ⟨g1, g2, g3, g4⟩ := hT.2.2.2 (b + k) (by omega)
    have hw128 : (wd w).getD k 0 < 128 := by
      have := wd_sml w hw k hkl
      omega
    rw [v_X7_isWord_L28, wd_len w (by omega), if_pos (show iN k < Int32.ofNat (wd w).length from iN_ylt hkl (by omega)), iN_add, iN_nat (by omega), wd_ch w (by omega) k hkl, iN_s]
    by_cases q : T (b + k) = (wd w).getD k 0
    · rw [if_pos ((byte_eq g1 g3 g4 hw128).mpr q)]
      exact ih (k + 1) f (by omega) (fun i hi => by
        by_cases z : i = k
        · rw [z]
          exact q
        · exact hm i (by omega)) (by omega)
    · rw [if_neg (fun z => q ((byte_eq g1 g3 g4 hw128).mp z))]
      exact Or.inr ⟨rfl, fun z => q (z k hkl)⟩
theorem lx_is (hT : TF n T E X0) {w : Nat} (hw : w < 7) (hb : b ≤ e) (he : e ≤ n) : (v_X7_isWord E w (iN b) (iN e) = 0 ∧ ¬ MW T b e w) ∨ (¬ v_X7_isWord E w (iN b) (iN e) = 0 ∧ MW T b e w) := by
  have h12 := hT.1
  have hl := wd_le w (by omega)
  unfold v_X7_isWord
  rw [if_neg (iN_neg (by omega)), if_neg (show ¬ 1200 < iN e from fun z => by have := (iN_lt (a := 1200) (by decide) (by omega)).mp z; omega), iN_sub hb, wd_len w (by omega)]
  by_cases q : e - b = (wd w).length
  · rw [if_pos (show iN (e - b) = Int32.ofNat (wd w).length by rw [q]; rfl)]
    rcases lx_isL hT hw (b := b) (by omega) (wd w).length 0 (mu 0 + 1) (by omega) (fun i hi => absurd hi (Nat.not_lt_zero _)) (by rw [mu_0]; omega) with ⟨z1, z2⟩ | ⟨z1, z2⟩
    · have z1' : v_X7_isWord_L28 (mu 0 + 1) E w (iN b) 0 = 1 := z1
      rw [z1']
      exact Or.inr ⟨by decide, q, z2⟩
    · have z1' : v_X7_isWord_L28 (mu 0 + 1) E w (iN b) 0 = 0 := z1
      rw [z1']
      exact Or.inl ⟨rfl, fun z => z2 z.2⟩
  · rw [if_neg (show ¬ iN (e - b) = Int32.ofNat (wd w).length from fun z => q ((iN_inj (by omega) (by omega)).mp z))]
    exact Or.inl ⟨rfl, fun z => q z.1⟩
theorem lx_kw (hT : TF n T E X0) (hb : b ≤ e) (he : e ≤ n) : ∀ d x (c : Nat → Int32) f, x + d = 7 → c 0 = iN b → c 1 = iN e → d < f → ∃ c', s_X3_readWord_L52 f c E (iN x) = c' ∧ c' 0 = iN b ∧ c' 1 = iN e ∧ c' 3 = c 3 ∧ (c' 2 = c 2 ∧ (∀ y, x ≤ y → y < 7 → ¬ MW T b e y) ∨ ∃ y, x ≤ y ∧ y < 7 ∧ MW T b e y ∧ c' 2 = iN y) := by
  intro d
  induction d with
  | zero =>
    intro x c f hx e0 e1 h1
    obtain ⟨f, rfl⟩ := some_succ h1
    rw [s_X3_readWord_L52, show x = 7 by omega, if_pos (show 6 < iN 7 by decide)]
    exact ⟨c, rfl, e0, e1, rfl, Or.inl ⟨rfl, fun y a b => absurd a (by omega)⟩⟩
  | succ d ih =>
    intro x c f hx e0 e1 h1
    obtain ⟨f, rfl⟩ := some_succ h1
    rw [s_X3_readWord_L52, if_neg (show ¬ 6 < iN x from fun z => by have := (iN_lt (a := 6) (by decide) (by omega)).mp z; omega), (Wd_val x (by omega)).2.2.2, e0, e1, iN_s]
    rcases lx_is hT (w := x) (by omega) hb he with ⟨z1, z2⟩ | ⟨z1, z2⟩
    · rw [if_pos z1]
      obtain ⟨c', g1, g2, g3, g4, g5⟩ := ih (x + 1) c f (by omega) e0 e1 (by omega)
      refine ⟨c', g1, g2, g3, g4, ?_⟩
      rcases g5 with ⟨a1, a2⟩ | ⟨y, a1, a2, a3, a4⟩
      · refine Or.inl ⟨a1, fun y h1 h2 => ?_⟩
        by_cases q : y = x
        · rw [q]
          exact z2
        · exact a2 y (by omega) h2
      · exact Or.inr ⟨y, by omega, a2, a3, a4⟩
    · rw [if_neg z1]
      obtain ⟨c', g1, g2, g3, g4, g5⟩ := ih (x + 1) (upd c 2 (iN x)) f (by omega) (by rw [upd_ne (by decide), e0]) (by rw [upd_ne (by decide), e1]) (by omega)
      refine ⟨c', g1, g2, g3, g4.trans (upd_ne (by decide)), ?_⟩
      rcases g5 with ⟨a1, a2⟩ | ⟨y, a1, a2, a3, a4⟩
      · exact Or.inr ⟨x, Nat.le_refl _, by omega, z2, a1.trans (upd_eq ..)⟩
      · exact Or.inr ⟨y, by omega, a2, a3, a4⟩
theorem MW.val {w : Nat} (hw : w < 7) (h : MW T b e w) : wval T b (e - b) = Wd w := by
  rw [h.1, ← (Wd_val w hw).1]
  refine wval_eq _ (fun i hi => ?_)
  rw [h.2 i hi, Nat.zero_add]
theorem MW.of {w : Nat} (hw : w < 7) (hs : ∀ i, b ≤ i → i < e → sml (T i)) (h : wval T b (e - b) = Wd w) : MW T b e w := by
  rw [← (Wd_val w hw).1] at h
  obtain ⟨h1, h2⟩ := wval_inj (e - b) (wd w).length (fun i hi => hs (b + i) (by omega) (by omega)) (fun i hi => by rw [Nat.zero_add]; exact wd_sml w hw i hi) h
  exact ⟨h1, fun i hi => by rw [h2 i (by omega), Nat.zero_add]⟩
/-- THE NEXT TOKEN: the class's scanner and the reference read the same -/
theorem q_next (hT : TF n T E X) {a : Nat} (ha : a ≤ n) (e4 : X 8 4 = iN a) {c : Nat → Int32} (e1 : c 1 = iN a) : ∃ X', o_X10_next X = some X' ∧ TK n (s_X3_advance c E) X' ∧ XS X X' := by
  have h12 := hT.1
  have hmu : ∀ p, p ≤ n → n - p < mu (iN p) + 1 := fun p hp => by
    rw [mu_iN (by omega)]
    omega
  have hd0 : upd c 0 (c 1) 0 = iN a := (upd_eq ..).trans e1
  obtain ⟨b, hb1, hbn, hnw, ⟨Xb, eo, hXb, eb4⟩, s0, s1, s3⟩ := lx_skip hT (n - a) a X (upd c 0 (c 1)) 4000 (mu (upd c 0 (c 1) 0) + 1) (by omega) (XS.rf X) e4 hd0 (by omega) (by rw [hd0]; exact hmu a ha)
  have eo' : o_X10_next X = o_X10_next_L52 Xb := eo
  unfold s_X3_advance
  obtain ⟨c1, hc1⟩ : ∃ Z, s_X3_skipWhiteSpace c E = Z := ⟨_, rfl⟩
  have s0' : c1 0 = iN b := by rw [← hc1]; exact s0
  have s1' : c1 1 = iN b := by rw [← hc1]; exact s1
  rw [hc1, eo', s0', hT.2.1]
  unfold o_X10_next_L52
  simp only [lt1]
  obtain ⟨r, hr⟩ : ∃ Z, sU (sU Xb 8 (upd (Xb 8) 5 (Xb 8 4))) 8 (upd (sU Xb 8 (upd (Xb 8) 5 (Xb 8 4)) 8) 7 0) = Z := ⟨_, rfl⟩
  have hXr : XS X r := by
    rw [← hr]
    exact (hXb.set (by decide) _).set (by decide) _
  have r4 : r 8 4 = iN b := by rw [← hr, sU_eq, upd_ne (by decide), sU_eq, upd_ne (by decide), eb4]
  have r5 : r 8 5 = iN b := by rw [← hr, sU_eq, upd_ne (by decide), sU_eq, upd_eq, eb4]
  have r7 : r 8 7 = iN 0 := by
    rw [← hr, sU_eq, upd_eq]
    rfl
  rw [hr, r4, hXr.nn hT]
  by_cases q : b = n
  · subst q
    rw [if_pos rfl, if_neg (iN_nlt (by omega))]
    exact ⟨_, rfl, ⟨b, b, Nat.le_refl _, Nat.le_refl _, by rw [upd_ne (by decide), s0'], by rw [sU_eq, upd_ne (by decide), r5], by rw [upd_ne (by decide), s1'], by rw [sU_eq, upd_ne (by decide), r4], Or.inl ⟨upd_eq .., by rw [sU_eq, upd_eq]⟩⟩, hXr.set (by decide) _⟩
  have hbl : b < n := by omega
  have ht := (hT.2.2.2 b hbl).1
  rw [if_neg (show ¬ iN b = iN n from fun z => q ((iN_inj (by omega) (by omega)).mp z)), if_pos (iN_ylt hbl (by omega)), o_sml hT hXr hbl, Option.bind_some, v_byte hT hbl, v_dig _ ht, v_sml _ ht]
  by_cases qs : sml (T b)
  · rw [if_pos qs, if_neg (show ¬ (1 : Int32) = 0 by decide), if_pos (show (if dgt (T b) then (1 : Int32) else 0) = 0 from if_neg (by omega)), if_neg (show ¬ (1 : Int32) = 0 by decide)]
    obtain ⟨e, g1, g2, g3, ⟨X', x1, x2, x3, x4, x5, x6⟩, c', k1, k2, k3, k4⟩ := lx_word hT (b := b) (n - b) b r c1 4000 (mu (c1 1) + 1) (by omega) hXr (Nat.le_refl _) r4 r5 (by rw [r7, Nat.sub_self]; rfl) (fun i h1 h2 => absurd h1 (by omega)) s1' (by omega) (by rw [s1']; exact hmu b hbn)
    have x1' : o_X10_nextWord r = some X' := x1
    have k1' : s_X3_readWord c1 E = s_X3_readWord_L44 c' E := k1
    rw [x1', Option.bind_some, k1']
    obtain ⟨c2, w1, w2, w3, w4, w5⟩ := lx_kw hT (b := b) (e := e) (by omega) g2 7 0 (upd c' 2 10) (mu 0 + 1) (by omega) (by rw [upd_ne (by decide), k2, s0']) (by rw [upd_ne (by decide), k3]) (by rw [mu_0]; omega)
    have w1' : s_X3_readWord_L44 c' E = c2 := w1
    rw [w1']
    refine ⟨X', rfl, ⟨e, b, by omega, g2, w2, x4, w3, x3, ?_⟩, x2⟩
    by_cases q6 : 6 < e - b
    · rw [if_pos q6] at x5
      rcases w5 with ⟨a1, a2⟩ | ⟨y, a1, a2, a3, a4⟩
      · exact Or.inr (Or.inr (Or.inr (Or.inr ⟨a1.trans (upd_eq ..), Or.inl x5⟩)))
      · have := (Wd_val y a2).2.2.1
        have := a3.1
        omega
    · rw [if_neg q6] at x5
      rw [show min (e - b) 6 = e - b by omega] at x6
      rcases w5 with ⟨a1, a2⟩ | ⟨y, a1, a2, a3, a4⟩
      · refine Or.inr (Or.inr (Or.inr (Or.inr ⟨a1.trans (upd_eq ..), Or.inr ⟨x5, _, wval_le (by omega) (fun i hi => g3 (b + i) (by omega) (by omega)), x6, fun w hw z => ?_⟩⟩)))
        exact a2 w (Nat.zero_le _) hw (MW.of hw g3 z)
      · exact Or.inr (Or.inr (Or.inr (Or.inl ⟨y, a2, a4, x5, by rw [x6, a3.val a2]⟩)))
  · rw [if_neg qs, if_pos rfl, o_dig hT hXr hbl, Option.bind_some]
    by_cases qd : dgt (T b)
    · rw [if_pos qd, if_neg (show ¬ (1 : Int32) = 0 by decide), if_neg (show ¬ (1 : Int32) = 0 by decide)]
      obtain ⟨e, g1, g2, g3, ⟨X', x1, x2, x3, x4, x5, x6⟩, k0, k1, k2, k3⟩ := lx_num hT (b := b) (n - b) b r (upd c1 3 0) 4000 (mu (upd c1 3 0 1) + 1) (by omega) hXr (Nat.le_refl _) r4 r5 (by rw [r7, Nat.sub_self]; rfl) (fun i h1 h2 => absurd h1 (by omega)) (by rw [upd_ne (by decide), s0']) (by rw [upd_ne (by decide), s1']) (by rw [upd_eq, Nat.sub_self]; rfl) (by omega) (by rw [upd_ne (by decide), s1']; exact hmu b hbn)
      have x1' : o_X10_nextNumber r = some X' := x1
      rw [x1', Option.bind_some]
      refine ⟨X', rfl, ⟨e, b, by omega, g2, k0, x4, k1, x3, ?_⟩, x2⟩
      by_cases q2 : 2 < e - b
      · rw [if_pos q2] at x5 k2
        exact Or.inr (Or.inr (Or.inr (Or.inr ⟨k2, Or.inl x5⟩)))
      · rw [if_neg q2] at x5 k2
        rw [show min (e - b) 2 = e - b by omega] at x6 k3
        exact Or.inr (Or.inl ⟨k2, x5, _, nval_le (by omega) (fun i hi => g3 (b + i) (by omega) (by omega)), k3, x6⟩)
    · rw [if_neg qd, if_pos rfl, if_pos rfl, if_pos (gin_iN (by omega) (by omega)), iN_nat (by omega), hXr.tt hT hbl]
      unfold s_X3_readOther o_X10_next_L140
      simp only [lt1, ↓reduceIte]
      by_cases q59 : T b = 59
      · rw [if_pos (show iN (T b) = 59 by rw [q59]; rfl), if_pos (show iN (T b) = 59 by rw [q59]; rfl)]
        refine ⟨_, rfl, ⟨b + 1, b, by omega, by omega, by rw [upd_ne (by decide), upd_ne (by decide), s0'], by rw [sU_eq, upd_ne (by decide), sU_eq, upd_ne (by decide), r5], by rw [upd_eq, upd_ne (by decide), s0', iN_s], by rw [sU_eq, upd_eq, sU_eq, upd_ne (by decide), r4, iN_s], ?_⟩, (hXr.set (by decide) _).set (by decide) _⟩
        exact Or.inr (Or.inr (Or.inl ⟨by rw [upd_ne (by decide), upd_eq], by rw [sU_eq, upd_ne (by decide), sU_eq, upd_eq]⟩))
      · have h59 : ¬ iN (T b) = 59 := fun z => q59 ((iN_inj (b := 59) (by omega) (by decide)).mp z)
        rw [if_neg h59, if_neg h59]
        refine ⟨_, rfl, ⟨b + 1, b, by omega, by omega, by rw [upd_ne (by decide), upd_ne (by decide), s0'], by rw [sU_eq, upd_ne (by decide), sU_eq, upd_ne (by decide), r5], by rw [upd_eq, upd_ne (by decide), s0', iN_s], by rw [sU_eq, upd_eq, sU_eq, upd_ne (by decide), r4, iN_s], ?_⟩, (hXr.set (by decide) _).set (by decide) _⟩
        exact Or.inr (Or.inr (Or.inr (Or.inr ⟨by rw [upd_ne (by decide), upd_eq], Or.inl (by rw [sU_eq, upd_ne (by decide), sU_eq, upd_eq])⟩)))
end LX
