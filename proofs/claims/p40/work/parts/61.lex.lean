-- PART 61: reading a text, token by token
/-- the text T stands on the tape -/
def TPE (T : List Nat) (E : SM) : Prop := T.length ≤ 1200 ∧ E 1 0 = iN T.length ∧ ∀ k, k < T.length → T.getD k 0 < 128 ∧ E 0 k = iN (T.getD k 0)
abbrev dgt (t : Nat) : Prop := 48 ≤ t ∧ t ≤ 57
abbrev sml (t : Nat) : Prop := 97 ≤ t ∧ t ≤ 122
abbrev wht (t : Nat) : Prop := t = 32 ∨ t = 10
theorem v_dig : ∀ t, t < 128 → v_X3_isDigit (iN t) = if dgt t then 1 else 0 := by decide +kernel
theorem v_sml : ∀ t, t < 128 → v_X3_isSmallLetter (iN t) = if sml t then 1 else 0 := by decide +kernel
theorem v_wht : ∀ t, t < 128 → v_X3_isWhiteSpace (iN t) = if wht t then 1 else 0 := by decide +kernel
theorem kw_ok : ∀ w, w < 7 → v_X3_keyword (iN w) = w ∧ (stx w).length ≤ 6 ∧ 1 ≤ (stx w).length := by decide +kernel
theorem wd_sml : ∀ w, w < 7 → ∀ i, i < 6 → i < (stx w).length → sml ((stx w).getD i 0) := by decide +kernel
theorem wd_ne : ∀ w, w < 7 → ∀ y, y < 7 → w ≠ y → (stx w).length = (stx y).length → ∃ i, i < 6 ∧ i < (stx w).length ∧ (stx w).getD i 0 ≠ (stx y).getD i 0 := by decide +kernel
theorem sch_ok : ∀ j, j < 7 → ∀ i, i < 6 → i < (stx j).length → sch j (iN i) = iN ((stx j).getD i 0) := by decide +kernel
def MW (T : List Nat) (b e w : Nat) : Prop := e - b = (stx w).length ∧ ∀ i, i < (stx w).length → T.getD (b + i) 0 = (stx w).getD i 0
section LX
variable {T P R : List Nat} {E : SM} {c : Nat → Int32} {a b e n k v w : Nat}
theorem v_byte (hT : TPE T E) (hk : k < T.length) : v_X7_byteAt E (iN k) = iN (T.getD k 0) := by
  have h12 := hT.1
  obtain ⟨g1, g2⟩ := hT.2.2 k hk
  unfold v_X7_byteAt
  rw [if_neg (iN_neg (by omega)), hT.2.1, if_pos (iN_ylt' hk (by omega)), if_pos (show iN k < 1200 from iN_ylt' (b := 1200) (by omega) (by decide)), iN_nat (by omega), g2]
  exact by_i _ g1
/-- past one blank, or none -/
theorem lx_skip (hT : TPE T E) (hc : c 1 = iN a) {j : Nat} (hj : j ≤ 1) (ha : a + j ≤ T.length) (hs : j = 1 → T.getD a 0 = 32) (hn : a + j < T.length → ¬ wht (T.getD (a + j) 0)) : s_X3_skipWhiteSpace c E 0 = iN (a + j) ∧ s_X3_skipWhiteSpace c E 1 = iN (a + j) := by
  have h12 := hT.1
  -- one step at a place b that ends the blanks
  have fin : ∀ f (d : Nat → Int32) b, d 0 = iN b → b ≤ T.length → (b < T.length → ¬ wht (T.getD b 0)) → s_X3_skipWhiteSpace_L8 (f + 1) d E 0 = iN b ∧ s_X3_skipWhiteSpace_L8 (f + 1) d E 1 = iN b := by
    intro f d b hd hb hw
    have hz : s_X3_skipWhiteSpace_L8 (f + 1) d E = s_X3_skipWhiteSpace_L52 d E := by
      rw [s_X3_skipWhiteSpace_L8, hd, hT.2.1]
      by_cases q : b < T.length
      · rw [if_pos (iN_ylt' q (by omega)), v_byte hT q, v_wht _ (hT.2.2 b q).1, if_neg (hw q), if_pos rfl]
      · rw [if_neg (iN_nlt' (by omega) (by omega))]
    rw [hz]
    unfold s_X3_skipWhiteSpace_L52
    exact ⟨(upd_ne (by decide)).trans hd, (upd_eq _ _ _).trans hd⟩
  unfold s_X3_skipWhiteSpace
  have h0 : (upd c 0 (c 1)) 0 = iN a := (upd_eq _ _ _).trans hc
  rw [h0, mu_iN (by omega)]
  rcases (show j = 0 ∨ j = 1 by omega) with rfl | rfl
  · exact fin _ _ a h0 ha hn
  · obtain ⟨z, hz⟩ : ∃ z, 2147483647 - a = z + 1 := ⟨2147483647 - a - 1, by omega⟩
    have hw : wht (T.getD a 0) := Or.inl (hs rfl)
    rw [hz, s_X3_skipWhiteSpace_L8, h0, hT.2.1, if_pos (iN_ylt' (show a < T.length by omega) (by omega)), v_byte hT (by omega), v_wht _ (hT.2.2 a (by omega)).1, if_pos hw, if_neg (by decide), iN_s]
    exact fin _ _ (a + 1) (upd_eq _ _ _) ha hn
theorem lx_isL (hT : TPE T E) (hw : w < 7) (hb : b + (stx w).length ≤ T.length) : ∀ d k f, k + d = (stx w).length → (∀ i, i < k → T.getD (b + i) 0 = (stx w).getD i 0) → d < f → (v_X7_isWord_L28 f E w (iN b) (iN k) = 1 ∧ ∀ i, i < (stx w).length → T.getD (b + i) 0 = (stx w).getD i 0) ∨ (v_X7_isWord_L28 f E w (iN b) (iN k) = 0 ∧ ¬ ∀ i, i < (stx w).length → T.getD (b + i) 0 = (stx w).getD i 0) := by
  have h12 := hT.1
  obtain ⟨s1, s2, s3⟩ := stx_ok w (by omega)
  obtain ⟨-, k6, -⟩ := kw_ok w hw
  intro d
  induction d with
  | zero =>
    intro k f hk hm h1
    obtain ⟨f, rfl⟩ := some_succ h1
    rw [v_X7_isWord_L28, ← s1, if_neg (show ¬ iN k < Int32.ofNat (stx w).length from iN_nlt' (by omega) (by omega))]
    exact Or.inl ⟨rfl, fun i hi => hm i (by omega)⟩
  | succ d ih =>
    intro k f hk hm h1
    obtain ⟨f, rfl⟩ := some_succ h1
    have hkl : k < (stx w).length := by omega
    obtain ⟨g1, g2⟩ := hT.2.2 (b + k) (by omega)
    have hw128 := (s3 k (by omega)).1
    rw [v_X7_isWord_L28, ← s1, if_pos (show iN k < Int32.ofNat (stx w).length from iN_ylt' hkl (by omega)), iN_add, iN_nat (by omega), g2, sch_ok w hw k (by omega) hkl, iN_s]
    by_cases q : T.getD (b + k) 0 = (stx w).getD k 0
    · rw [if_pos (by rw [q])]
      exact ih (k + 1) f (by omega) (fun i hi => by
        by_cases z : i = k
        · rw [z]
          exact q
        · exact hm i (by omega)) (by omega)
    · rw [if_neg (iN_ne' q (by omega) (by omega))]
      exact Or.inr ⟨rfl, fun z => q (z k hkl)⟩
theorem lx_is (hT : TPE T E) (hw : w < 7) (hb : b ≤ e) (he : e ≤ T.length) : (v_X7_isWord E w (iN b) (iN e) = 0 ∧ ¬ MW T b e w) ∨ (¬ v_X7_isWord E w (iN b) (iN e) = 0 ∧ MW T b e w) := by
  have h12 := hT.1
  obtain ⟨s1, s2, s3⟩ := stx_ok w (by omega)
  unfold v_X7_isWord
  rw [if_neg (iN_neg (by omega)), if_neg (show ¬ 1200 < iN e from iN_nlt' (a := 1200) (by omega) (by decide)), iN_sub hb, ← s1]
  by_cases q : e - b = (stx w).length
  · rw [if_pos (show iN (e - b) = Int32.ofNat (stx w).length by rw [q]; rfl)]
    rcases lx_isL hT hw (b := b) (by omega) (stx w).length 0 (mu 0 + 1) (by omega) (fun i hi => absurd hi (Nat.not_lt_zero _)) (by rw [mu_0]; omega) with ⟨z1, z2⟩ | ⟨z1, z2⟩
    · have z1' : v_X7_isWord_L28 (mu 0 + 1) E w (iN b) 0 = 1 := z1
      rw [z1']
      exact Or.inr ⟨by decide, q, z2⟩
    · have z1' : v_X7_isWord_L28 (mu 0 + 1) E w (iN b) 0 = 0 := z1
      rw [z1']
      exact Or.inl ⟨rfl, fun z => z2 z.2⟩
  · rw [if_neg (show ¬ iN (e - b) = Int32.ofNat (stx w).length from iN_ne' q (by omega) (by omega))]
    exact Or.inl ⟨rfl, fun z => q z.1⟩
theorem MW.uniq {y : Nat} (hw : w < 7) (hy : y < 7) (h1 : MW T b e w) (h2 : MW T b e y) : w = y := by
  by_cases q : w = y
  · exact q
  · obtain ⟨i, i6, il, hi⟩ := wd_ne w hw y hy q (h1.1.symm.trans h2.1)
    exact absurd ((h1.2 i il).symm.trans (h2.2 i (by rw [← h2.1, h1.1]; exact il))) hi
theorem lx_kw (hT : TPE T E) (hb : b ≤ e) (he : e ≤ T.length) (hw : w < 7) (hM : MW T b e w) : ∀ d x (c : Nat → Int32) f, x + d = 7 → c 0 = iN b → c 1 = iN e → (w < x → c 2 = iN w) → d < f → s_X3_readWord_L52 f c E (iN x) 1 = iN e ∧ s_X3_readWord_L52 f c E (iN x) 2 = iN w := by
  intro d
  induction d with
  | zero =>
    intro x c f hx e0 e1 e2 h1
    obtain ⟨f, rfl⟩ := some_succ h1
    rw [s_X3_readWord_L52, show x = 7 by omega, if_pos (show 6 < iN 7 by decide)]
    exact ⟨e1, e2 (by omega)⟩
  | succ d ih =>
    intro x c f hx e0 e1 e2 h1
    obtain ⟨f, rfl⟩ := some_succ h1
    rw [s_X3_readWord_L52, if_neg (show ¬ 6 < iN x from iN_nlt' (a := 6) (by omega) (by decide)), (kw_ok x (by omega)).1, e0, e1, iN_s]
    rcases lx_is hT (w := x) (by omega) hb he with ⟨z1, z2⟩ | ⟨z1, z2⟩
    · rw [if_pos z1]
      refine ih (x + 1) c f (by omega) e0 e1 (fun q => ?_) (by omega)
      have hne : w ≠ x := fun z => z2 (z ▸ hM)
      exact e2 (by omega)
    · rw [if_neg z1]
      have hwx := MW.uniq hw (by omega) hM z2
      refine ih (x + 1) (upd c 2 (iN x)) f (by omega) (by rw [upd_ne (by decide), e0]) (by rw [upd_ne (by decide), e1]) (fun _ => by rw [upd_eq, hwx]) (by omega)
theorem lx_w0 (hT : TPE T E) (he : e ≤ T.length) (hn : e < T.length → ¬ sml (T.getD e 0)) : ∀ d p (c : Nat → Int32) f, p + d = e → c 0 = iN b → c 1 = iN p → (∀ i, p ≤ i → i < e → sml (T.getD i 0)) → d < f → ∃ c', s_X3_readWord_L0 f c E = s_X3_readWord_L44 c' E ∧ c' 0 = iN b ∧ c' 1 = iN e := by
  have h12 := hT.1
  intro d
  induction d with
  | zero =>
    intro p c f hp e0 e1 hs h1
    obtain ⟨f, rfl⟩ := some_succ h1
    have hpe : p = e := by omega
    subst hpe
    refine ⟨c, ?_, e0, e1⟩
    rw [s_X3_readWord_L0, e1, hT.2.1]
    by_cases q : p < T.length
    · rw [if_pos (iN_ylt' q (by omega)), v_byte hT q, v_sml _ (hT.2.2 p q).1, if_neg (hn q), if_pos rfl]
    · rw [if_neg (iN_nlt' (by omega) (by omega))]
  | succ d ih =>
    intro p c f hp e0 e1 hs h1
    obtain ⟨f, rfl⟩ := some_succ h1
    have q : p < T.length := by omega
    rw [s_X3_readWord_L0, e1, hT.2.1, if_pos (iN_ylt' q (by omega)), v_byte hT q, v_sml _ (hT.2.2 p q).1, if_pos (hs p (Nat.le_refl _) (by omega)), if_neg (by decide), iN_s]
    exact ih (p + 1) (upd c 1 (iN (p + 1))) f (by omega) (by rw [upd_ne (by decide), e0]) (upd_eq _ _ _) (fun i h2 h3 => hs i (by omega) h3) (by omega)
theorem ad_word (hT : TPE T E) (hc : c 1 = iN a) {j : Nat} (hj : j ≤ 1) (hs : j = 1 → T.getD a 0 = 32) (hw : w < 7) (hM : MW T (a + j) (a + j + (stx w).length) w) (he : a + j + (stx w).length ≤ T.length) (hn : a + j + (stx w).length < T.length → ¬ sml (T.getD (a + j + (stx w).length) 0)) : s_X3_advance c E 1 = iN (a + j + (stx w).length) ∧ s_X3_advance c E 2 = iN w := by
  have h12 := hT.1
  obtain ⟨-, k6, k1⟩ := kw_ok w hw
  have hlet : ∀ i, i < (stx w).length → sml (T.getD (a + j + i) 0) := fun i hi => by
    rw [hM.2 i hi]
    exact wd_sml w hw i (by omega) hi
  have h0 : sml (T.getD (a + j) 0) := by
    have := hlet 0 (by omega)
    rwa [Nat.add_zero] at this
  obtain ⟨z0, z1⟩ := lx_skip hT hc hj (by omega) hs (fun _ z => by rcases z with z | z <;> omega)
  unfold s_X3_advance
  rw [z0, hT.2.1, if_pos (iN_ylt' (show a + j < T.length by omega) (by omega)), v_byte hT (by omega), v_dig _ (hT.2.2 (a + j) (by omega)).1, if_neg (show ¬ dgt (T.getD (a + j) 0) from fun z => by omega), if_pos rfl, v_sml _ (hT.2.2 (a + j) (by omega)).1, if_pos h0, if_neg (by decide)]
  unfold s_X3_readWord
  rw [z1, mu_iN (by omega)]
  obtain ⟨c', e1, e2, e3⟩ := lx_w0 (b := a + j) hT he hn (stx w).length (a + j) (s_X3_skipWhiteSpace c E) (2147483647 - (a + j) + 1) rfl z0 z1 (fun i h1 h2 => by
    have := hlet (i - (a + j)) (by omega)
    rwa [show a + j + (i - (a + j)) = i by omega] at this) (by omega)
  rw [e1]
  unfold s_X3_readWord_L44 s_X3_readWord_L50
  exact lx_kw hT (by omega) he hw hM 7 0 (upd c' 2 10) (mu 0 + 1) (by omega) (by rw [upd_ne (by decide), e2]) (by rw [upd_ne (by decide), e3]) (fun z => absurd z (by omega)) (by rw [mu_0]; omega)
theorem lx_n1 : ∀ t, dgt t → iN 0 * 10 + iN t - 48 = iN (t - 48) := by
  intro t h
  rw [show (10 : Int32) = iN 10 from rfl, iN_mul, iN_add, show (48 : Int32) = iN 48 from rfl, iN_sub (by omega)]
  rw [Nat.zero_mul, Nat.zero_add]
theorem lx_n2 (x t : Nat) (h : dgt t) : iN x * 10 + iN t - 48 = iN (x * 10 + (t - 48)) := by
  rw [show (10 : Int32) = iN 10 from rfl, iN_mul, iN_add, show (48 : Int32) = iN 48 from rfl, iN_sub (by omega), show x * 10 + t - 48 = x * 10 + (t - 48) by omega]
/-- a numeral's end -/
theorem lx_nend (hT : TPE T E) (f : Nat) {d : Nat → Int32} (h0 : d 0 = iN b) (h1 : d 1 = iN e) (h3 : d 3 = iN v) (hbe : b ≤ e) (h2 : e - b ≤ 2) (he : e ≤ T.length) (hn : e < T.length → ¬ dgt (T.getD e 0)) : s_X3_readNumeral_L5 (f + 1) d E 1 = iN e ∧ s_X3_readNumeral_L5 (f + 1) d E 2 = iN 7 ∧ s_X3_readNumeral_L5 (f + 1) d E 3 = iN v := by
  have h12 := hT.1
  have hz : s_X3_readNumeral_L5 (f + 1) d E = s_X3_readNumeral_L88 d E := by
    rw [s_X3_readNumeral_L5, h1, hT.2.1]
    by_cases q : e < T.length
    · rw [if_pos (iN_ylt' q (by omega)), v_byte hT q, v_dig _ (hT.2.2 e q).1, if_neg (hn q), if_pos rfl]
    · rw [if_neg (iN_nlt' (by omega) (by omega))]
  rw [hz]
  unfold s_X3_readNumeral_L88
  rw [h0, h1, iN_sub hbe, if_neg (show ¬ 2 < iN (e - b) from iN_nlt' (a := 2) h2 (by decide))]
  unfold s_X3_readNumeral_L109
  exact ⟨(upd_ne (by decide)).trans h1, upd_eq _ _ _, (upd_ne (by decide)).trans h3⟩
theorem lx_nstep (hT : TPE T E) (f : Nat) {d : Nat → Int32} {x : Nat} (h0 : d 0 = iN b) (h1 : d 1 = iN e) (h3 : d 3 = iN x) (hbe : b ≤ e) (h2 : e - b < 2) (he : e < T.length) (hd : dgt (T.getD e 0)) : ∃ d2, s_X3_readNumeral_L5 (f + 1) d E = s_X3_readNumeral_L5 f d2 E ∧ d2 0 = iN b ∧ d2 1 = iN (e + 1) ∧ d2 3 = iN (x * 10 + (T.getD e 0 - 48)) := by
  have h12 := hT.1
  rw [s_X3_readNumeral_L5, h1, hT.2.1, if_pos (iN_ylt' he (by omega)), v_byte hT he, v_dig _ (hT.2.2 e he).1, if_pos hd, if_neg (by decide), h0, iN_sub hbe, if_pos (show iN (e - b) < 2 from iN_ylt' (b := 2) h2 (by decide)), h3, lx_n2 x _ hd]
  refine ⟨_, rfl, ?_, ?_, ?_⟩
  · rw [upd_ne (by decide), upd_ne (by decide), h0]
  · rw [upd_eq, upd_ne (by decide), h1, iN_s]
  · rw [upd_ne (by decide), upd_eq]
theorem ad_num (hT : TPE T E) (hc : c 1 = iN a) {j : Nat} (hj : j ≤ 1) (hs : j = 1 → T.getD a 0 = 32) (hv : v < 100) (hM : ∀ i, i < (dcN v).length → T.getD (a + j + i) 0 = (dcN v).getD i 0) (he : a + j + (dcN v).length ≤ T.length) (hn : a + j + (dcN v).length < T.length → ¬ dgt (T.getD (a + j + (dcN v).length) 0)) : s_X3_advance c E 1 = iN (a + j + (dcN v).length) ∧ s_X3_advance c E 2 = iN 7 ∧ s_X3_advance c E 3 = iN v := by
  have h12 := hT.1
  have hl := dcN_len v
  have hd1 : 1 ≤ dgN v := by unfold dgN; split <;> omega
  have h0 : dgt (T.getD (a + j) 0) := by
    have := hM 0 (by omega)
    rw [Nat.add_zero] at this
    rw [this]
    unfold dcN
    by_cases q : v < 10
    · rw [if_pos q]
      show dgt (48 + v)
      constructor <;> omega
    · rw [if_neg q]
      show dgt (48 + v / 10)
      constructor <;> omega
  obtain ⟨z0, z1⟩ := lx_skip hT hc hj (by omega) hs (fun _ z => by rcases z with z | z <;> omega)
  unfold s_X3_advance
  rw [z0, hT.2.1, if_pos (iN_ylt' (show a + j < T.length by omega) (by omega)), v_byte hT (by omega), v_dig _ (hT.2.2 (a + j) (by omega)).1, if_pos h0, if_neg (by decide)]
  unfold s_X3_readNumeral
  have y0 : (upd (s_X3_skipWhiteSpace c E) 3 0) 0 = iN (a + j) := (upd_ne (by decide)).trans z0
  have y1 : (upd (s_X3_skipWhiteSpace c E) 3 0) 1 = iN (a + j) := (upd_ne (by decide)).trans z1
  have y3 : (upd (s_X3_skipWhiteSpace c E) 3 0) 3 = iN 0 := upd_eq _ _ _
  rw [y1, mu_iN (by omega)]
  obtain ⟨f, hf⟩ : ∃ f, 2147483647 - (a + j) + 1 = f + 3 := ⟨2147483647 - (a + j) + 1 - 3, by omega⟩
  rw [hf]
  obtain ⟨d1, q1, q2, q3, q4⟩ := lx_nstep hT (f + 2) y0 y1 y3 (Nat.le_refl _) (by omega) (by omega) h0
  rw [show f + 3 = f + 2 + 1 from rfl, q1]
  by_cases q : v < 10
  · have e1 : dgN v = 1 := if_pos q
    have ev : T.getD (a + j) 0 = 48 + v := by
      have := hM 0 (by omega)
      rw [Nat.add_zero] at this
      rw [this]
      unfold dcN
      rw [if_pos q]
      rfl
    rw [ev, show 0 * 10 + (48 + v - 48) = v by omega] at q4
    rw [hl, e1] at he hn ⊢
    exact lx_nend hT (f + 1) q2 q3 q4 (by omega) (by omega) he hn
  · have e1 : dgN v = 2 := if_neg q
    have ev : T.getD (a + j) 0 = 48 + v / 10 := by
      have := hM 0 (by omega)
      rw [Nat.add_zero] at this
      rw [this]
      unfold dcN
      rw [if_neg q]
      rfl
    have ev1 : T.getD (a + j + 1) 0 = 48 + v % 10 := by
      rw [hM 1 (by omega)]
      unfold dcN
      rw [if_neg q]
      rfl
    rw [hl, e1] at he hn ⊢
    obtain ⟨d2, p1, p2, p3, p4⟩ := lx_nstep hT (f + 1) q2 q3 q4 (by omega) (by omega) (by omega) (by rw [ev1]; constructor <;> omega)
    rw [show f + 2 = f + 1 + 1 from rfl, p1]
    rw [ev, ev1, show (0 * 10 + (48 + v / 10 - 48)) * 10 + (48 + v % 10 - 48) = v by omega] at p4
    exact lx_nend hT f p2 p3 p4 (by omega) (by omega) he hn
theorem ad_semi (hT : TPE T E) (hc : c 1 = iN a) (ha : a < T.length) (hM : T.getD a 0 = 59) : s_X3_advance c E 1 = iN (a + 1) ∧ s_X3_advance c E 2 = iN 8 := by
  have h12 := hT.1
  obtain ⟨z0, z1⟩ := lx_skip (j := 0) hT hc (by omega) (by omega) (fun z => absurd z (by decide)) (fun _ z => by rw [Nat.add_zero] at z; rcases z with z | z <;> omega)
  rw [Nat.add_zero] at z0 z1
  unfold s_X3_advance
  rw [z0, hT.2.1, if_pos (iN_ylt' ha (by omega)), v_byte hT ha, hM, v_dig 59 (by decide), if_neg (show ¬ dgt 59 by decide), if_pos rfl, v_sml 59 (by decide), if_neg (show ¬ sml 59 by decide), if_pos rfl]
  unfold s_X3_readOther
  rw [if_pos (show iN 59 = 59 from rfl)]
  refine ⟨?_, ?_⟩
  · rw [upd_eq, upd_ne (by decide), z0, iN_s]
  · rw [upd_ne (by decide), upd_eq]
    rfl
theorem ad_end (hT : TPE T E) (hc : c 1 = iN T.length) : s_X3_advance c E 2 = iN 9 ∧ s_X3_advance c E 1 = iN T.length := by
  have h12 := hT.1
  obtain ⟨z0, z1⟩ := lx_skip (j := 0) hT hc (by omega) (Nat.le_refl _) (fun z => absurd z (by decide)) (fun z => absurd z (by omega))
  rw [Nat.add_zero] at z0 z1
  unfold s_X3_advance
  rw [z0, hT.2.1, if_neg (iN_nlt' (Nat.le_refl _) (by omega))]
  exact ⟨upd_eq _ _ _, (upd_ne (by decide)).trans z1⟩
theorem getD_add (P R : List Nat) (i : Nat) : (P ++ R).getD (P.length + i) 0 = R.getD i 0 := by
  rw [getD_r (by omega), show P.length + i - P.length = i by omega]
/-- where the scanner is: a token of kind k (and number v) was read, R is what comes -/
def Sx (T : List Nat) (c : Nat → Int32) (k v : Nat) (R : List Nat) : Prop := ∃ P, T = P ++ R ∧ c 1 = iN P.length ∧ c 2 = iN k ∧ (k = 7 → c 3 = iN v)
def nb (Pr : Nat → Prop) (R : List Nat) : Prop := ∀ x, R.head? = some x → ¬ Pr x
theorem nb.at_ {Pr : Nat → Prop} (h : nb Pr R) (P : List Nat) (hl : P.length < (P ++ R).length) : ¬ Pr ((P ++ R).getD P.length 0) := by
  have e := getD_add P R 0
  rw [Nat.add_zero] at e
  rw [e]
  cases R with
  | nil => simp at hl
  | cons x R => exact h x rfl
theorem Sx.sp {sp M : List Nat} (h : sp = [] ∨ sp = [32]) : sp.length ≤ 1 ∧ (sp.length = 1 → (P ++ (sp ++ M)).getD P.length 0 = 32) := by
  rcases h with rfl | rfl
  · exact ⟨by decide, fun z => absurd z (by decide)⟩
  · refine ⟨by decide, fun _ => ?_⟩
    have e := getD_add P ([32] ++ M) 0
    rw [Nat.add_zero] at e
    exact e
theorem Sx.word {sp : List Nat} (hT : TPE T E) (h : Sx T c k v (sp ++ (stx w ++ R))) (hsp : sp = [] ∨ sp = [32]) (hw : w < 7) (hR : nb sml R) : Sx T (s_X3_advance c E) w 0 R := by
  obtain ⟨P, e, h1, -, -⟩ := h
  obtain ⟨s1, s2⟩ := Sx.sp (P := P) (M := stx w ++ R) hsp
  rw [← e] at s2
  have el : T.length = P.length + sp.length + (stx w).length + R.length := by
    rw [e]
    simp only [List.length_append]
    omega
  have e2 : T = (P ++ sp ++ stx w) ++ R := by rw [e]; simp only [List.append_assoc]
  have el2 : (P ++ sp ++ stx w).length = P.length + sp.length + (stx w).length := by simp only [List.length_append]
  obtain ⟨q1, q2⟩ := ad_word hT h1 s1 s2 hw (w := w) ⟨by omega, fun i hi => by
    have e3 : T = (P ++ sp) ++ (stx w ++ R) := by rw [e]; simp only [List.append_assoc]
    have e4 := getD_add (P ++ sp) (stx w ++ R) i
    rw [← e3, List.length_append] at e4
    rw [e4, getD_l hi]⟩ (by omega) (fun hl => by
    have := hR.at_ (P ++ sp ++ stx w) (by rw [← e2, el2]; exact hl)
    rw [← e2, el2] at this
    exact this)
  exact ⟨P ++ sp ++ stx w, e2, by rw [q1, el2], q2, fun z => absurd z (by omega)⟩
theorem Sx.num {sp : List Nat} {x : Nat} (hT : TPE T E) (h : Sx T c k v (sp ++ (dcN x ++ R))) (hsp : sp = [] ∨ sp = [32]) (hx : x < 100) (hR : nb dgt R) : Sx T (s_X3_advance c E) 7 x R := by
  obtain ⟨P, e, h1, -, -⟩ := h
  obtain ⟨s1, s2⟩ := Sx.sp (P := P) (M := dcN x ++ R) hsp
  rw [← e] at s2
  have el : T.length = P.length + sp.length + (dcN x).length + R.length := by
    rw [e]
    simp only [List.length_append]
    omega
  have e2 : T = (P ++ sp ++ dcN x) ++ R := by rw [e]; simp only [List.append_assoc]
  have el2 : (P ++ sp ++ dcN x).length = P.length + sp.length + (dcN x).length := by simp only [List.length_append]
  obtain ⟨q1, q2, q3⟩ := ad_num hT h1 s1 s2 hx (fun i hi => by
    have e3 : T = (P ++ sp) ++ (dcN x ++ R) := by rw [e]; simp only [List.append_assoc]
    have e4 := getD_add (P ++ sp) (dcN x ++ R) i
    rw [← e3, List.length_append] at e4
    rw [e4, getD_l hi]) (by omega) (fun hl => by
    have := hR.at_ (P ++ sp ++ dcN x) (by rw [← e2, el2]; exact hl)
    rw [← e2, el2] at this
    exact this)
  exact ⟨P ++ sp ++ dcN x, e2, by rw [q1, el2], q2, fun _ => q3⟩
theorem Sx.semi (hT : TPE T E) (h : Sx T c k v (59 :: R)) : Sx T (s_X3_advance c E) 8 0 R := by
  obtain ⟨P, e, h1, -, -⟩ := h
  have el : T.length = P.length + 1 + R.length := by
    rw [e]
    simp only [List.length_append, List.length_cons]
    omega
  have e0 := getD_add P (59 :: R) 0
  rw [Nat.add_zero, ← e] at e0
  obtain ⟨q1, q2⟩ := ad_semi hT h1 (by omega) e0
  exact ⟨P ++ [59], by rw [e]; simp, by rw [q1]; simp, q2, fun z => absurd z (by decide)⟩
theorem Sx.end_ (hT : TPE T E) (h : Sx T c k v []) : Sx T (s_X3_advance c E) 9 0 [] := by
  obtain ⟨P, e, h1, -, -⟩ := h
  rw [List.append_nil] at e
  subst e
  obtain ⟨q1, q2⟩ := ad_end hT h1
  exact ⟨T, by simp, q2, q1, fun z => absurd z (by decide)⟩
end LX
