-- PART 15: all of the two objects; undo
def seg (f : Nat → Int32) (a : Nat) : Nat → Int32 := fun j => f (a + j)
def Good (B : Nat) (S : SM) (m : Nat → Int32) : Prop := ∃ c tc, 2 ≤ c ∧ Iv c tc B S m ∧ ∃ tm, tm ≤ 9999 ∧ S 18 0 = iN tm
def Hist (B : Nat) (Y : RS) (X : SM) : Prop := ∃ hn hc, hn < 8 ∧ hc ≤ 8 ∧ Y 4 0 2 = iN hn ∧ Y 4 0 3 = iN hc ∧ X 8 0 = iN hc ∧ ∀ i, i < hc → Good B (Y (5 + (hn + 8 - hc + i) % 8)) (seg (X 3) (336 * i))
def Slo (B : Nat) (Y : RS) (X : SM) : Prop := ∀ i, i < 2 → Y 4 2 i = X 5 i ∧ (X 5 i ≠ 0 → Good B (Y (13 + i)) (seg (X 4) (336 * i)))
def Tap (Y : RS) (X : SM) : Prop := ∃ n, n ≤ 1200 ∧ Y 2 1 0 = iN n ∧ X 8 1 = iN n ∧ ∀ k, k < n → X 6 k = (Y 2 0 k) &&& 255 ∧ (Y 2 0 k).toInt8.toInt32 = Y 2 0 k
def Top (B : Nat) (Y : RS) (X : SM) : Prop := Good B (Y 0) (X 0) ∧ Hist B Y X ∧ Slo B Y X ∧ Tap Y X ∧ Y 4 0 0 = X 8 2
section TP
variable {c tc B B' k : Nat} {S : SM} {m m' : Nat → Int32} {X X' : SM} {Y Y' : RS} {o t i : Nat}
theorem R4.cong (h : R4 c tc S m) (e : ∀ k, k < 336 → m' k = m k) : R4 c tc S m' :=
  ⟨h.1.fr (fun j a b => rfl) rfl (e 4 (by decide)) (fun k a b => e k (by omega)), h.2.1.fr (fun j a b => rfl) rfl rfl (e 5 (by decide)) (e 7 (by decide)) (fun k a b => e k (by omega)), h.2.2.1.fr rfl rfl rfl rfl rfl (fun k a b => e k b), h.2.2.2.fr rfl rfl rfl rfl (fun k a b d e' => e k (by omega))⟩
theorem Iv.cong (h : Iv c tc B S m) (e : ∀ k, k < 336 → m' k = m k) : Iv c tc B S m' := ⟨h.1.cong e, h.2⟩
theorem Good.cong (h : Good B S m) (e : ∀ k, k < 336 → m' k = m k) : Good B S m' := by
  obtain ⟨c, tc, h1, h2, h3⟩ := h
  exact ⟨c, tc, h1, h2.cong e, h3⟩
theorem Good.mono (h : Good B S m) (hB : B ≤ B') : Good B' S m := by
  obtain ⟨c, tc, h1, h2, h3⟩ := h
  exact ⟨c, tc, h1, h2.mono hB, h3⟩
theorem Hist.mono (h : Hist B Y X) (hB : B ≤ B') : Hist B' Y X := by
  obtain ⟨hn, hc, h1, h2, h3, h4, h5, h6⟩ := h
  exact ⟨hn, hc, h1, h2, h3, h4, h5, fun i hi => (h6 i hi).mono hB⟩
theorem Slo.mono (h : Slo B Y X) (hB : B ≤ B') : Slo B' Y X := fun i hi => ⟨(h i hi).1, fun z => ((h i hi).2 z).mono hB⟩
theorem Top.mono (h : Top B Y X) (hB : B ≤ B') : Top B' Y X := ⟨h.1.mono hB, h.2.1.mono hB, h.2.2.1.mono hB, h.2.2.2⟩
theorem yU_eq (Y : RS) (k : Nat) (S : SM) : yU Y k S k = S := if_pos rfl
theorem yU_ne {Y : RS} {k j : Nat} {S : SM} (h : j ≠ k) : yU Y k S j = Y j := if_neg h
/-- what is only beside now -/
theorem Hist.fr (h : Hist B Y X) (h5 : ∀ k, 5 ≤ k → k < 13 → Y' k = Y k) (h2 : Y' 4 0 2 = Y 4 0 2) (h3 : Y' 4 0 3 = Y 4 0 3) (x3 : X' 3 = X 3) (x8 : X' 8 0 = X 8 0) : Hist B Y' X' := by
  obtain ⟨hn, hc, g1, g2, g3, g4, g5, g6⟩ := h
  refine ⟨hn, hc, g1, g2, h2.trans g3, h3.trans g4, x8.trans g5, fun i hi => ?_⟩
  rw [h5 _ (by omega) (by omega), x3]
  exact g6 i hi
theorem Slo.fr (h : Slo B Y X) (h13 : ∀ k, 13 ≤ k → k < 15 → Y' k = Y k) (h2 : Y' 4 2 = Y 4 2) (x4 : X' 4 = X 4) (x5 : X' 5 = X 5) : Slo B Y' X' := by
  intro i hi
  rw [h2, h13 _ (by omega) (by omega), x4, x5]
  exact h i hi
theorem Tap.fr (h : Tap Y X) (h2 : Y' 2 = Y 2) (x6 : X' 6 = X 6) (x8 : X' 8 1 = X 8 1) : Tap Y' X' := by
  unfold Tap
  rw [h2, x6, x8]
  exact h
/-- now changes alone -/
theorem Top.now (h : Top B Y X) (hB : B ≤ B') (hG : Good B' S m) : Top B' (yU Y 0 S) (sU X 0 m) :=
  ⟨by rw [yU_eq, sU_eq]; exact hG, (h.2.1.mono hB).fr (fun k a b => yU_ne (by omega)) (by rw [yU_ne (by decide)]) (by rw [yU_ne (by decide)]) (sU_ne (by decide)) (by rw [sU_ne (by decide)]), (h.2.2.1.mono hB).fr (fun k a b => yU_ne (by omega)) (by rw [yU_ne (by decide)]) (sU_ne (by decide)) (sU_ne (by decide)), h.2.2.2.1.fr (yU_ne (by decide)) (sU_ne (by decide)) (by rw [sU_ne (by decide)]), by rw [yU_ne (by decide), sU_ne (by decide)]; exact h.2.2.2.2⟩
/-- the draft, the spare row and the texts that are written change -/
theorem Top.draft (h : Top B Y X) (h0 : Y' 0 = Y 0) (h2 : Y' 2 = Y 2) (h4 : Y' 4 0 = Y 4 0) (h42 : Y' 4 2 = Y 4 2) (h5 : ∀ k, 5 ≤ k → k < 15 → Y' k = Y k) (x0 : X' 0 = X 0) (x3 : X' 3 = X 3) (x4 : X' 4 = X 4) (x5 : X' 5 = X 5) (x6 : X' 6 = X 6) (x8 : ∀ k, k < 3 → X' 8 k = X 8 k) : Top B Y' X' :=
  ⟨by rw [h0, x0]; exact h.1, h.2.1.fr (fun k a b => h5 k a (by omega)) (by rw [h4]) (by rw [h4]) x3 (x8 0 (by decide)), h.2.2.1.fr (fun k a b => h5 k (by omega) b) h42 x4 x5, h.2.2.2.1.fr h2 x6 (x8 1 (by decide)), by rw [h4, x8 2 (by decide)]; exact h.2.2.2.2⟩
/-- rows laid -/
def cpy (f : Nat → Int32) (a b k : Nat) (g : Nat → Int32) : Nat → Int32 := fun j => if b ≤ j ∧ j < b + k then f (a + (j - b)) else g j
theorem cpy_0 (f g : Nat → Int32) (a b : Nat) : cpy f a b 0 g = g := by
  funext j
  unfold cpy
  rw [if_neg (by omega)]
theorem cpy_step (f g : Nat → Int32) (a b k : Nat) : upd (cpy f a b k g) (b + k) (f (a + k)) = cpy f a b (k + 1) g := by
  funext j
  unfold upd cpy
  by_cases h : j = b + k
  · subst h
    rw [if_pos rfl, if_pos (by omega), show b + k - b = k by omega]
  · rw [if_neg h]
    by_cases h2 : b ≤ j ∧ j < b + k
    · rw [if_pos h2, if_pos (by omega)]
    · rw [if_neg h2, if_neg (by omega)]
theorem lay2L {n n0 a b : Nat} {f g : Nat → Int32} (ha : a + 336 ≤ n0) (hb : b + 336 ≤ n) (hn0 : n0 < 100000) (hn : n < 100000) : ∀ d k fu, k + d = 336 → d < fu → o_X10_layRow2_L3 n n0 f fu (cpy f a b k g) (iN a) (iN b) (iN k) = some (cpy f a b 336 g) := by
  intro d
  induction d with
  | zero =>
    intro k fu e h
    obtain ⟨fu, rfl⟩ := some_succ h
    rw [o_X10_layRow2_L3, show k = 336 by omega, if_neg (show ¬ iN 336 < 336 by decide)]
  | succ d ih =>
    intro k fu e h
    obtain ⟨fu, rfl⟩ := some_succ h
    rw [o_X10_layRow2_L3, if_pos (show iN k < 336 from iN_ylt (b := 336) (by omega) (by omega)), iN_add, iN_add, if_pos (gin_iN (by omega) (by omega)), if_pos (gin_iN (by omega) (by omega)), iN_nat (by omega), iN_nat (by omega), cpy_step, iN_s]
    exact ih (k + 1) fu (by omega) (by omega)
theorem lay2 {n n0 a b : Nat} {f g : Nat → Int32} (ha : a + 336 ≤ n0) (hb : b + 336 ≤ n) (hn0 : n0 < 100000) (hn : n < 100000) : o_X10_layRow2 n n0 f g (iN a) (iN b) = some (cpy f a b 336 g) := by
  unfold o_X10_layRow2
  have := lay2L (f := f) (g := g) ha hb hn0 hn 336 0 4000 (by omega) (by omega)
  rw [cpy_0] at this
  exact this
theorem lay1L {n a b : Nat} {g : Nat → Int32} (ha : a + 336 ≤ n) (hab : b + 336 ≤ a) (hn : n < 100000) : ∀ d k fu, k + d = 336 → d < fu → o_X10_layRow1_L3 n fu (cpy g a b k g) (iN a) (iN b) (iN k) = some (cpy g a b 336 g) := by
  intro d
  induction d with
  | zero =>
    intro k fu e h
    obtain ⟨fu, rfl⟩ := some_succ h
    rw [o_X10_layRow1_L3, show k = 336 by omega, if_neg (show ¬ iN 336 < 336 by decide)]
  | succ d ih =>
    intro k fu e h
    obtain ⟨fu, rfl⟩ := some_succ h
    have er : cpy g a b k g (a + k) = g (a + k) := by
      unfold cpy
      rw [if_neg (by omega)]
    rw [o_X10_layRow1_L3, if_pos (show iN k < 336 from iN_ylt (b := 336) (by omega) (by omega)), iN_add, iN_add, if_pos (gin_iN (by omega) (by omega)), if_pos (gin_iN (by omega) (by omega)), iN_nat (by omega), iN_nat (by omega), er, cpy_step, iN_s]
    exact ih (k + 1) fu (by omega) (by omega)
theorem lay1 {n a b : Nat} {g : Nat → Int32} (ha : a + 336 ≤ n) (hab : b + 336 ≤ a) (hn : n < 100000) : o_X10_layRow1 n g (iN a) (iN b) = some (cpy g a b 336 g) := by
  unfold o_X10_layRow1
  have := lay1L (g := g) ha hab hn 336 0 4000 (by omega) (by omega)
  rw [cpy_0] at this
  exact this
def shE (k : Nat) (e : Nat → Int32) : Nat → Int32 := fun j => if j < 336 * (k - 1) then e (j + 336) else e j
theorem shE_1 (e : Nat → Int32) : shE 1 e = e := by
  funext j
  unfold shE
  rw [if_neg (by omega)]
theorem shE_step {k : Nat} (e : Nat → Int32) (hk : 1 ≤ k) : cpy (shE k e) (336 * k) (336 * (k - 1)) 336 (shE k e) = shE (k + 1) e := by
  funext j
  unfold cpy
  by_cases h : 336 * (k - 1) ≤ j ∧ j < 336 * (k - 1) + 336
  · rw [if_pos h]
    unfold shE
    rw [if_neg (by omega), if_pos (by omega), show 336 * k + (j - 336 * (k - 1)) = j + 336 by omega]
  · rw [if_neg h]
    unfold shE
    by_cases h2 : j < 336 * (k - 1)
    · rw [if_pos h2, if_pos (by omega)]
    · rw [if_neg h2, if_neg (by omega)]
theorem o_keep11 (X : SM) : ∀ d k fu, 1 ≤ k → k + d = 8 → d < fu → o_X10_keepForUndo_L11 fu (sU X 3 (shE k (X 3))) (iN k) = o_X10_keepForUndo_L56 (sU (sU X 3 (shE 8 (X 3))) 8 (upd (X 8) 0 (X 8 0 - 1))) := by
  intro d
  induction d with
  | zero =>
    intro k fu hk e h
    obtain ⟨fu, rfl⟩ := some_succ h
    rw [o_X10_keepForUndo_L11, show k = 8 by omega, if_neg (show ¬ iN 8 < 8 by decide)]
    rfl
  | succ d ih =>
    intro k fu hk e h
    obtain ⟨fu, rfl⟩ := some_succ h
    have e1 : (336 : Int32) * iN k = iN (336 * k) := iN_mul 336 k
    have e2 : (336 : Int32) * iN (k - 1) = iN (336 * (k - 1)) := iN_mul 336 (k - 1)
    rw [o_X10_keepForUndo_L11, if_pos (show iN k < 8 from iN_ylt (b := 8) (by omega) (by omega)), iN_1 hk, e1, e2, sU_eq, lay1 (by omega) (by omega) (by decide), Option.bind_some, shE_step _ hk, iN_s]
    have e3 : sU (sU X 3 (shE k (X 3))) 3 (shE (k + 1) (X 3)) = sU X 3 (shE (k + 1) (X 3)) := by
      funext j
      rw [sU_get, sU_get, sU_get]
      by_cases q : j = 3
      · rw [if_pos q, if_pos q]
      · rw [if_neg q, if_neg q, if_neg q]
    rw [e3]
    exact ih (k + 1) fu (by omega) (by omega) (by omega)
theorem o_keep56 (X : SM) {hc : Nat} (hh : hc < 8) (e : X 8 0 = iN hc) : o_X10_keepForUndo_L56 X = some (sU (sU X 3 (cpy (X 0) 0 (336 * hc) 336 (X 3))) 8 (upd (X 8) 0 (iN (hc + 1)))) := by
  unfold o_X10_keepForUndo_L56
  rw [e, show (336 : Int32) * iN hc = iN (336 * hc) from iN_mul 336 hc, show (0 : Int32) = iN 0 from rfl, lay2 (by decide) (by omega) (by decide) (by decide), Option.bind_some]
  simp only [lt1]
  rw [sU_ne (show (8 : Nat) ≠ 3 by decide), e, iN_s]
theorem yF_4 (Y : RS) (j : Nat) (v : Int32) : yF Y j v 4 0 = upd (Y 4 0) j v := by
  unfold yF
  rw [yU_eq, sU_eq]
theorem yF_42 (Y : RS) (j : Nat) (v : Int32) : yF Y j v 4 2 = Y 4 2 := by
  unfold yF
  rw [yU_eq, sU_ne (by decide)]
theorem yF_k (Y : RS) (j : Nat) (v : Int32) {k : Nat} (h : k ≠ 4) : yF Y j v k = Y k := yU_ne h
theorem v_rem {hn hc : Nat} (h1 : hn < 8) (h2 : hc ≤ 8) (e2 : Y 4 0 2 = iN hn) (e3 : Y 4 0 3 = iN hc) : (∀ k, k < 5 → k ≠ 4 → s_X0_remember Y k = Y k) ∧ (∀ k, 5 ≤ k → k ≠ 5 + hn → s_X0_remember Y k = Y k) ∧ s_X0_remember Y (5 + hn) = Y 0 ∧ s_X0_remember Y 4 0 2 = iN ((hn + 1) % 8) ∧ s_X0_remember Y 4 0 3 = iN (if hc < 8 then hc + 1 else hc) ∧ s_X0_remember Y 4 0 0 = Y 4 0 0 ∧ s_X0_remember Y 4 2 = Y 4 2 := by
  have ec : s_X0_copyTo Y = yU Y (5 + hn) (Y 0) := by
    unfold s_X0_copyTo
    rw [e2, if_neg (iN_neg (by omega)), if_pos (show iN hn < 8 from iN_ylt (b := 8) h1 (by decide)), show Int32.toNatClampNeg (iN hn) = hn from iN_nat (by omega)]
  have e40 : yU Y (5 + hn) (Y 0) 4 = Y 4 := yU_ne (by omega)
  have em : s_X0_remember Y = if hc < 8 then yF (yF (yU Y (5 + hn) (Y 0)) 2 (iN ((hn + 1) % 8))) 3 (iN (hc + 1)) else yF (yU Y (5 + hn) (Y 0)) 2 (iN ((hn + 1) % 8)) := by
    unfold s_X0_remember s_X0_remember_L5 s_X0_remember_L18
    rw [ec, e40, e2, iN_s, show (8 : Int32) = iN 8 from rfl, iN_rem (by omega) (by decide), yF_4, upd_ne (show (3 : Nat) ≠ 2 by decide), e40, e3]
    by_cases q : hc < 8
    · rw [if_pos q, if_pos (iN_ylt q (by decide)), iN_s]
    · rw [if_neg q, if_neg (fun z => q ((iN_lt (by omega) (by decide)).mp z))]
  rw [em]
  by_cases q : hc < 8
  · rw [if_pos q, if_pos q]
    refine ⟨fun k a b => by rw [yF_k _ _ _ b, yF_k _ _ _ b, yU_ne (by omega)], fun k a b => by rw [yF_k _ _ _ (by omega), yF_k _ _ _ (by omega), yU_ne b], by rw [yF_k _ _ _ (by omega), yF_k _ _ _ (by omega), yU_eq], ?_, ?_, ?_, ?_⟩
    · rw [yF_4, upd_ne (by decide), yF_4, upd_eq]
    · rw [yF_4, upd_eq]
    · rw [yF_4, upd_ne (by decide), yF_4, upd_ne (by decide), e40]
    · rw [yF_42, yF_42, e40]
  · rw [if_neg q, if_neg q]
    refine ⟨fun k a b => by rw [yF_k _ _ _ b, yU_ne (by omega)], fun k a b => by rw [yF_k _ _ _ (by omega), yU_ne b], by rw [yF_k _ _ _ (by omega), yU_eq], ?_, ?_, ?_, ?_⟩
    · rw [yF_4, upd_eq]
    · rw [yF_4, upd_ne (by decide), e40, e3]
    · rw [yF_4, upd_ne (by decide), e40]
    · rw [yF_42, e40]
/-- the state is kept for undo -/
theorem t_keepUndo (h : Top B Y X) : ∃ X', o_X10_keepForUndo X = some X' ∧ Top B (s_X0_remember Y) X' ∧ X' 0 = X 0 ∧ s_X0_remember Y 0 = Y 0 ∧ X' 4 = X 4 ∧ X' 5 = X 5 ∧ (∀ k, 13 ≤ k → k < 15 → s_X0_remember Y k = Y k) := by
  obtain ⟨hG, ⟨hn, hc, g1, g2, g3, g4, g5, g6⟩, hS, hT, hE⟩ := h
  obtain ⟨r1, r2, r3, r4, r5, r6, r7⟩ := v_rem g1 g2 g3 g4
  have r0 := r1 0 (by decide) (by decide)
  have r13 : ∀ k, 13 ≤ k → k < 15 → s_X0_remember Y k = Y k := fun k a b => r2 k (by omega) (by omega)
  unfold o_X10_keepForUndo
  rw [g5]
  by_cases q : hc = 8
  · subst q
    rw [if_pos (show iN 8 = 8 from rfl)]
    have e0 := o_keep11 X 7 1 4000 (by decide) (by decide) (by decide)
    rw [shE_1, show sU X 3 (X 3) = X from by
      funext j
      rw [sU_get]
      by_cases q : j = 3
      · rw [if_pos q, q]
      · rw [if_neg q]] at e0
    have e0' : o_X10_keepForUndo_L11 4000 X 1 = _ := e0
    rw [e0', g5, iN_1 (by decide), o_keep56 _ (hc := 7) (by decide) (by rw [sU_eq, upd_eq])]
    simp only [sU_get, Nat.reduceEqDiff, ↓reduceIte]
    refine ⟨_, rfl, ⟨?_, ⟨(hn + 1) % 8, 8, Nat.mod_lt _ (by decide), by decide, r4, ?_, ?_, fun i hi => ?_⟩, ?_, ?_, ?_⟩, ?_, r0, ?_, ?_, r13⟩
    · rw [r0]
      simp only [sU_get, Nat.reduceEqDiff, ↓reduceIte]
      exact hG
    · rw [r5, if_neg (by decide)]
    · rw [sU_eq, upd_eq]
    · by_cases qi : i = 7
      · subst qi
        rw [show 5 + ((hn + 1) % 8 + 8 - 8 + 7) % 8 = 5 + hn by omega, r3]
        refine hG.cong (fun k hk => ?_)
        rw [sU_ne (by decide), sU_eq]
        unfold seg cpy
        rw [if_pos (by omega), show 0 + (336 * 7 + k - 336 * 7) = k by omega]
      · rw [show 5 + ((hn + 1) % 8 + 8 - 8 + i) % 8 = 5 + (hn + 8 - 8 + (i + 1)) % 8 by omega, r2 _ (by omega) (by omega)]
        refine (g6 (i + 1) (by omega)).cong (fun k hk => ?_)
        rw [sU_ne (by decide), sU_eq]
        unfold seg cpy
        rw [if_neg (by omega)]
        unfold shE
        rw [if_pos (by omega), show 336 * i + k + 336 = 336 * (i + 1) + k by omega]
    · exact hS.fr r13 r7 rfl rfl
    · exact hT.fr (r1 2 (by decide) (by decide)) rfl rfl
    · rw [r6]
      exact hE
    · rfl
    · rfl
    · rfl
  · rw [if_neg (show ¬ iN hc = 8 from fun z => q ((iN_inj (b := 8) (by omega) (by decide)).mp z)), o_keep56 X (by omega) g5]
    refine ⟨_, rfl, ⟨?_, ⟨(hn + 1) % 8, hc + 1, Nat.mod_lt _ (by decide), by omega, r4, ?_, ?_, fun i hi => ?_⟩, ?_, ?_, ?_⟩, ?_, r0, ?_, ?_, r13⟩
    · rw [r0]
      exact hG
    · rw [r5, if_pos (by omega)]
    · rw [sU_eq, upd_eq]
    · by_cases qi : i = hc
      · subst qi
        rw [show 5 + ((hn + 1) % 8 + 8 - (i + 1) + i) % 8 = 5 + hn by omega, r3]
        refine hG.cong (fun k hk => ?_)
        rw [sU_ne (by decide), sU_eq]
        unfold seg cpy
        rw [if_pos (by omega), show 0 + (336 * i + k - 336 * i) = k by omega]
      · rw [show 5 + ((hn + 1) % 8 + 8 - (hc + 1) + i) % 8 = 5 + (hn + 8 - hc + i) % 8 by omega, r2 _ (by omega) (by omega)]
        refine (g6 i (by omega)).cong (fun k hk => ?_)
        rw [sU_ne (by decide), sU_eq]
        unfold seg cpy
        rw [if_neg (by omega)]
    · exact hS.fr r13 r7 rfl rfl
    · exact hT.fr (r1 2 (by decide) (by decide)) rfl rfl
    · rw [r6]
      exact hE
    · rfl
    · rfl
    · rfl
end TP
