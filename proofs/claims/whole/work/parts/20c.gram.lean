-- PART 20c: reading a setup: letters, the token
def sW (g : Nat → Int32) : Nat → Nat
  | 0 => 0
  | o + 1 => sW g o + (g o).toNatClampNeg
def LO (n : Nat) (Xb E : SM) (c s : Nat) (F : (PS → SM → Int32 → Int32 → Int32 × PS) → Int32 → Int32 × PS) (X' : SM) : Prop := (∃ q', GS n Xb q' X' ∧ DO c q'.2.2 (X' 1) ∧ sW (q'.2.2 7) c = s + 1 ∧ ∀ rc i, F rc i = rc q' E (iN (c - 1)) (i + 1)) ∨ (∃ q', FS (q'.1 0) Xb X' ∧ ∀ rc i, F rc i = (0, q'))
section GL
variable {c tc B k n b e w p : Nat} {T : Nat → Nat} {S : SM} {m : Nat → Int32} {E X X' Xb : SM} {Y Y' : RS} {o t i : Nat} {q : PS} {er : Int32}
theorem sW_s (g : Nat → Int32) (d : Nat) : sW g (d + 1) = sW g d + (g d).toNatClampNeg := rfl
theorem sW_le (h : OI c S) : ∀ d, d ≤ c → sW (S 7) d ≤ 6 * d := by
  intro d
  induction d with
  | zero =>
    intro _
    exact Nat.le_refl _
  | succ d ih =>
    intro hd
    obtain ⟨-, -, -, w, hw, e7, -⟩ := h.2.2 d (by omega)
    have h1 := ih (by omega)
    rw [sW_s, e7, iN_nat (by omega)]
    omega
theorem sW_ne {g g' : Nat → Int32} : ∀ d, (∀ i, i < d → g' i = g i) → sW g' d = sW g d := by
  intro d
  induction d with
  | zero =>
    intro _
    rfl
  | succ d ih =>
    intro h
    rw [sW_s, sW_s, ih (fun i hi => h i (by omega)), h d (by omega)]
theorem sW_upd {g : Nat → Int32} (hw : w < 100) (eg : g o = iN w) : ∀ d, o < d → sW (upd g o (iN (w + 1))) d = sW g d + 1 := by
  intro d
  induction d with
  | zero =>
    intro h
    exact absurd h (Nat.not_lt_zero _)
  | succ d ih =>
    intro h
    rw [sW_s, sW_s]
    by_cases z : o = d
    · subst z
      rw [upd_eq, eg, iN_nat (by omega), iN_nat (by omega), sW_ne (g := g) o (fun i hi => upd_ne (by omega))]
      omega
    · rw [ih (by omega), upd_ne (by omega)]
      omega
theorem DO.letr (h : DO c S m) (ho : o < c) (hw : w < 6) (e7 : S 7 o = iN w) (hp : p < c) {len : Nat} (h1 : 1 ≤ len) (h9 : len ≤ 9) : ∃ m', o_X10_addLetter m (iN o) (iN p) (iN len) = some m' ∧ DO c (sU (s_X2_addLetter S (iN o) (iN p) (iN len)) 1 (raise_ 9 (s_X2_addLetter S (iN o) (iN p) (iN len) 1) 0)) m' ∧ sU (s_X2_addLetter S (iN o) (iN p) (iN len)) 1 (raise_ 9 (s_X2_addLetter S (iN o) (iN p) (iN len) 1) 0) 7 = upd (S 7) o (iN (w + 1)) := by
  obtain ⟨hI, h18⟩ := h
  have c10 := hI.c10
  have o10 : o < 10 := by omega
  obtain ⟨m1, e1, R1⟩ := q_addLetter hI.1 ho hw e7 (iN p) (iN len)
  have O1 : OI c (s_X2_addLetter S (iN o) (iN p) (iN len)) := hI.2.1.more ho hw e7 hp h1 h9
  have ev := v_letAdd o10 hw e7 (iN p) (iN len)
  have aj : ∀ j, j ≠ 7 → j ≠ 8 → j ≠ 9 → s_X2_addLetter S (iN o) (iN p) (iN len) j = S j := fun j a b d => by rw [ev, sU_ne a, sU_ne d, sU_ne b]
  have a7 : s_X2_addLetter S (iN o) (iN p) (iN len) 7 = upd (S 7) o (iN (w + 1)) := by rw [ev, sU_eq]
  obtain ⟨A, hA⟩ : ∃ A, s_X2_addLetter S (iN o) (iN p) (iN len) = A := ⟨_, rfl⟩
  rw [hA] at R1 O1 aj a7 ⊢
  rw [aj 1 (by decide) (by decide) (by decide)]
  refine ⟨m1, e1, ⟨⟨R1, O1.fr (fun j hj => sU_ne (by omega)) rfl, ⟨hI.2.2.1.1, ?_, ?_, fun t ht => absurd ht (Nat.not_lt_zero _)⟩, fun t u _ hu => absurd hu (Nat.not_lt_zero _), hI.2.2.2.2.fr (by rw [sU_ne (by decide), aj 0 (by decide) (by decide) (by decide)])⟩, ?_⟩, ?_⟩
  · rw [sU_ne (by decide), aj 18 (by decide) (by decide) (by decide)]
    exact hI.et
  · rw [sU_ne (by decide), aj 18 (by decide) (by decide) (by decide)]
    exact hI.2.2.1.2.2.1
  · rw [sU_ne (by decide), aj 18 (by decide) (by decide) (by decide)]
    exact h18
  · rw [sU_ne (by decide), a7]
theorem L115_y {X1 : SM} {a b c t : Int32} (h : o_X10_takes X t = some (1, X1)) : o_X10_readLetter_L115 X a b c t = (o_X10_addLetter (X1 1) a b c).bind (fun r2 => some (sU X1 1 r2)) := by
  unfold o_X10_readLetter_L115
  rw [h]
  rfl
theorem L115_n {X1 : SM} {a b c t : Int32} (h : o_X10_takes X t = some (0, X1)) : o_X10_readLetter_L115 X a b c t = some X1 := by
  unfold o_X10_readLetter_L115
  rw [h]
  rfl
theorem L89_e {X1 X2 : SM} {a b t r v : Int32} (h : o_X10_takes X t = some (r, X1)) (h2 : o_X10_takesNumber X1 1 9 = some (v, X2)) : o_X10_readLetter_L89 X a b t = if X2 8 6 = 3 then o_X10_readLetter_L115 X2 a b v 1 else o_X10_readLetter_L115 X2 a b v 0 := by
  unfold o_X10_readLetter_L89
  rw [h]
  show (o_X10_takesNumber X1 1 9).bind _ = _
  rw [h2]
  rfl
theorem f_115 (h : FS er Xb X) (a b c t : Int32) : o_X10_readLetter_L115 X a b c t = some X := L115_n (h.takes t)
theorem L48_n {X1 : SM} {a t : Int32} (h : o_X10_takes X t = some (0, X1)) : o_X10_readLetter_L48 X a t = some X1 := by
  unfold o_X10_readLetter_L48
  rw [h]
  rfl
theorem L48_y {X1 : SM} {a t : Int32} (h : o_X10_takes X t = some (1, X1)) : o_X10_readLetter_L48 X a t = if X1 8 6 = 2 then (if X1 8 7 < X1 1 4 then (if X1 8 7 = a then o_X10_readLetter_L88 X1 a (X1 8 7) else o_X10_readLetter_L89 X1 a (X1 8 7) 1) else o_X10_readLetter_L88 X1 a (X1 8 7)) else o_X10_readLetter_L88 X1 a (X1 8 7) := by
  unfold o_X10_readLetter_L48
  rw [h]
  rfl
theorem f_88 (hT : TF n T E Xb) (h : GS n Xb q X) (a b : Int32) : ∃ X', o_X10_readLetter_L88 X a b = some X' ∧ FS (q.1 0) Xb X' := by
  obtain ⟨X1, e1, F1, -⟩ := h.takes0 hT.1
  refine ⟨X1, ?_, F1⟩
  unfold o_X10_readLetter_L88
  rw [L89_e e1 (f_num F1 1 9), f_115 F1, f_115 F1, ite_self]
theorem num_n {v lo hi : Int32} (h : q.1 2 = 7) (h3 : q.1 3 = v) (hz : v_X9_isWithin v lo hi = 0) : p_X4_takeNumber q E lo hi = (0, q) := by
  unfold p_X4_takeNumber
  rw [if_pos h, h3, if_pos hz]
theorem num_x {lo hi : Int32} (h : q.1 2 ≠ 7) : p_X4_takeNumber q E lo hi = (0, q) := by
  unfold p_X4_takeNumber
  rw [if_neg h]
theorem num_y {v lo hi : Int32} (h : q.1 2 = 7) (h3 : q.1 3 = v) (hz : ¬ v_X9_isWithin v lo hi = 0) : p_X4_takeNumber q E lo hi = (1, (s_X3_advance q.1 E, v, q.2.2)) := by
  unfold p_X4_takeNumber p_X4_takeNumber_L40
  rw [if_pos h, h3, if_neg hz]
theorem in0_y {v : Nat} (hv : v < c) (hc : c ≤ 10) : ¬ v_X9_isWithin (iN v) 0 (iN (c - 1)) = 0 := by
  unfold v_X9_isWithin
  rw [if_neg (iN_neg (by omega)), if_neg (fun z => by have := (iN_lt (by omega) (by omega)).mp z; omega)]
  decide
theorem in0_n {v : Nat} (hv : ¬ v < c) (h1 : 1 ≤ c) (hc : c ≤ 10) (hv9 : v ≤ 99) : v_X9_isWithin (iN v) 0 (iN (c - 1)) = 0 := by
  unfold v_X9_isWithin
  rw [if_neg (iN_neg (by omega)), if_pos (iN_ylt (by omega) (by omega))]
/-- from behind the TO of a letter -/
theorem g_let3 (hT : TF n T E Xb) (h : GS n Xb q X) (hD : DO c q.2.2 (X 1)) (ho : o < c) (hw : w < 6) (e7 : q.2.2 7 o = iN w) (hp : p < c) (e2 : q.2.1 = iN p) : ∃ v X4 X', o_X10_takesNumber X 1 9 = some (v, X4) ∧ (if X4 8 6 = 3 then o_X10_readLetter_L115 X4 (iN o) (iN p) v 1 else o_X10_readLetter_L115 X4 (iN o) (iN p) v 0) = some X' ∧ LO n Xb E c (sW (q.2.2 7) c) (fun rc i => p_X4_parseLetters_L89 rc q E (iN (c - 1)) i (iN o) 1) X' := by
  have h12 := hT.1
  have c10 := hD.1.c10
  obtain ⟨v, X4, e4, x4, hz⟩ := g_num hT h 1 9
  rcases hz with ⟨c1, G4, y, hy, rfl, hr⟩ | ⟨c1, F4, -⟩
  · obtain ⟨len, l1, l9, el⟩ := within_iN (a := 1) (b := 9) (by decide) (by decide) hr
    rw [el] at c1 G4 e4
    obtain ⟨q4, hq4⟩ : ∃ Z, ((s_X3_advance q.1 E, iN len, q.2.2) : PS) = Z := ⟨_, rfl⟩
    have q42 : q4.2.2 = q.2.2 := by rw [← hq4]
    have q41 : q4.2.1 = iN len := by rw [← hq4]
    rw [hq4] at c1 G4
    have e89 : ∀ rc i, p_X4_parseLetters_L89 rc q E (iN (c - 1)) i (iN o) 1 = p_X4_parseLetters_L116 rc ((p_X4_take q4 E 8).2) E (iN (c - 1)) i (iN o) (iN p) ((p_X4_take q4 E 8).1) := by
      intro rc i
      unfold p_X4_parseLetters_L89
      rw [if_neg (show ¬ (1 : Int32) = 0 by decide), c1, e2]
      unfold p_X4_parseLetters_L107
      rw [if_neg (show ¬ (1 : Int32) = 0 by decide)]
    rcases G4.semi with ⟨a1, a2⟩ | ⟨a1, a2⟩
    · obtain ⟨X5, e5, G5, x5⟩ := G4.takes1 hT q4.2.1 q4.2.2
      obtain ⟨m', e6, D6, d7⟩ := hD.letr ho hw e7 hp l1 l9
      refine ⟨iN len, X4, sU X5 1 m', e4, ?_, Or.inl ⟨(s_X3_advance q4.1 E, q4.2.1, sU (s_X2_addLetter q.2.2 (iN o) (iN p) (iN len)) 1 (raise_ 9 (s_X2_addLetter q.2.2 (iN o) (iN p) (iN len) 1) 0)), G5.row m' _ _, by rw [sU_eq]; exact D6, ?_, fun rc i => ?_⟩⟩
      · rw [if_pos a2, L115_y e5, x5, x4, e6, Option.bind_some]
      · show sW (sU (s_X2_addLetter q.2.2 (iN o) (iN p) (iN len)) 1 (raise_ 9 (s_X2_addLetter q.2.2 (iN o) (iN p) (iN len) 1) 0) 7) c = _
        rw [d7, sW_upd (by omega) e7 c ho]
      · show p_X4_parseLetters_L89 rc q E (iN (c - 1)) i (iN o) 1 = _
        rw [e89, take_y a1]
        unfold p_X4_parseLetters_L116 p_X4_parseLetters_L138
        rw [if_neg (show ¬ (1 : Int32) = 0 by decide), q41, q42]
    · obtain ⟨X5, e5, F5, x5⟩ := G4.takes0 h12
      refine ⟨iN len, X4, X5, e4, ?_, Or.inr ⟨q4, F5, fun rc i => ?_⟩⟩
      · rw [if_neg a2, L115_n e5]
      · show p_X4_parseLetters_L89 rc q E (iN (c - 1)) i (iN o) 1 = _
        rw [e89, take_n a1]
        unfold p_X4_parseLetters_L116
        rw [if_pos rfl]
  · refine ⟨v, X4, X4, e4, ?_, Or.inr ⟨q, F4, fun rc i => ?_⟩⟩
    · rw [f_115 F4, f_115 F4, ite_self]
    · show p_X4_parseLetters_L89 rc q E (iN (c - 1)) i (iN o) 1 = _
      unfold p_X4_parseLetters_L89
      rw [if_neg (show ¬ (1 : Int32) = 0 by decide), c1]
      unfold p_X4_parseLetters_L107
      rw [if_pos rfl]
/-- from behind the office of a letter -/
theorem g_let2 (hT : TF n T E Xb) {X0 : SM} {t0 : Int32} (h : GS n Xb q X) (et : o_X10_takes X0 t0 = some (1, X)) (hD : DO c q.2.2 (X 1)) (ho : o < c) (hw : w < 6) (e7 : q.2.2 7 o = iN w) (e2 : q.2.1 = iN o) : ∃ X', o_X10_readLetter_L48 X0 (iN o) t0 = some X' ∧ LO n Xb E c (sW (q.2.2 7) c) (fun rc i => p_X4_parseLetters_L62 rc q E (iN (c - 1)) i 1) X' := by
  have h12 := hT.1
  have c10 := hD.1.c10
  have e62 : ∀ rc i, q.1 3 ≠ q.2.1 → p_X4_parseLetters_L62 rc q E (iN (c - 1)) i 1 = p_X4_parseLetters_L89 rc ((p_X4_takeNumber q E 0 (iN (c - 1))).2) E (iN (c - 1)) i (iN o) ((p_X4_takeNumber q E 0 (iN (c - 1))).1) := by
    intro rc i hne
    unfold p_X4_parseLetters_L62
    rw [if_neg (show ¬ (1 : Int32) = 0 by decide), if_neg hne, e2]
  have e62' : ∀ rc i, q.1 3 = q.2.1 → p_X4_parseLetters_L62 rc q E (iN (c - 1)) i 1 = (0, q) := by
    intro rc i hne
    unfold p_X4_parseLetters_L62
    rw [if_neg (show ¬ (1 : Int32) = 0 by decide), if_pos hne]
  have e620 : ∀ rc i, p_X4_takeNumber q E 0 (iN (c - 1)) = (0, q) → p_X4_parseLetters_L62 rc q E (iN (c - 1)) i 1 = (0, q) := by
    intro rc i hz
    by_cases hne : q.1 3 = q.2.1
    · exact e62' rc i hne
    · rw [e62 rc i hne, hz]
      unfold p_X4_parseLetters_L89
      rw [if_pos rfl]
  have hbad : ∀ b, (∀ rc i, p_X4_parseLetters_L62 rc q E (iN (c - 1)) i 1 = (0, q)) → ∃ X', o_X10_readLetter_L88 X (iN o) b = some X' ∧ LO n Xb E c (sW (q.2.2 7) c) (fun rc i => p_X4_parseLetters_L62 rc q E (iN (c - 1)) i 1) X' := by
    intro b hz
    obtain ⟨X', e1, F1⟩ := f_88 hT h (iN o) b
    exact ⟨X', e1, Or.inr ⟨q, F1, hz⟩⟩
  rw [L48_y et]
  have m4 : X 1 4 = iN c := hD.1.mc
  rcases h.int with ⟨a1, a2, v, hv, a3, a4⟩ | ⟨a1, a2⟩
  · rw [if_pos a2, a4, m4]
    by_cases zc : v < c
    · rw [if_pos (iN_ylt zc (by omega))]
      by_cases zo : v = o
      · subst zo
        rw [if_pos rfl]
        exact hbad _ (fun rc i => e62' rc i (a3.trans e2.symm))
      · have zo' : ¬ iN v = iN o := fun z => zo ((iN_inj (by omega) (by omega)).mp z)
        rw [if_neg zo']
        obtain ⟨X3, e3, G3, x3⟩ := h.takes1 hT (iN v) q.2.2
        obtain ⟨u, X4, X', g1, g2, g3⟩ := g_let3 hT G3 (by rw [x3]; exact hD) ho hw e7 zc rfl
        refine ⟨X', ?_, ?_⟩
        · rw [L89_e e3 g1, g2]
        · have ef : (fun (rc : PS → SM → Int32 → Int32 → Int32 × PS) (i : Int32) => p_X4_parseLetters_L62 rc q E (iN (c - 1)) i 1) = (fun rc i => p_X4_parseLetters_L89 rc (s_X3_advance q.1 E, iN v, q.2.2) E (iN (c - 1)) i (iN o) 1) := by
            funext rc i
            rw [e62 rc i (by rw [a3, e2]; exact zo'), num_y a1 a3 (in0_y zc c10)]
          rw [ef]
          exact g3
    · rw [if_neg (show ¬ iN v < iN c from fun z => zc ((iN_lt (by omega) (by omega)).mp z))]
      exact hbad _ (fun rc i => e620 rc i (num_n a1 a3 (in0_n zc (by omega) c10 hv)))
  · rw [if_neg a2]
    exact hbad _ (fun rc i => e620 rc i (num_x a1))
/-- a letter is read, or refused by both -/
theorem g_letter (hT : TF n T E Xb) (h : GS n Xb q X) (hD : DO c q.2.2 (X 1)) (hc : 2 ≤ c) (hk : q.1 2 = 5) : ∃ X', o_X10_readLetter X = some X' ∧ LO n Xb E c (sW (q.2.2 7) c) (fun rc i => p_X4_parseLetters_L26 rc ((p_X4_take q E 5).2) E (iN (c - 1)) i ((p_X4_take q E 5).1)) X' := by
  have h12 := hT.1
  have c10 := hD.1.c10
  obtain ⟨X1, e1, G1, x1⟩ := h.next hT q.2.1 q.2.2
  unfold o_X10_readLetter
  rw [e1, Option.bind_some, take_y hk]
  obtain ⟨q1, hq1⟩ : ∃ Z, ((s_X3_advance q.1 E, q.2.1, q.2.2) : PS) = Z := ⟨_, rfl⟩
  have q12 : q1.2.2 = q.2.2 := by rw [← hq1]
  rw [hq1] at G1 ⊢
  show ∃ X', _ ∧ LO n Xb E c (sW (q.2.2 7) c) (fun rc i => p_X4_parseLetters_L26 rc q1 E (iN (c - 1)) i 1) X'
  have e26y : ∀ rc i, at_ 10 (q1.2.2 7) (q1.1 3) < 6 → p_X4_parseLetters_L26 rc q1 E (iN (c - 1)) i 1 = p_X4_parseLetters_L62 rc ((p_X4_takeNumber q1 E 0 (iN (c - 1))).2) E (iN (c - 1)) i ((p_X4_takeNumber q1 E 0 (iN (c - 1))).1) := by
    intro rc i hz
    unfold p_X4_parseLetters_L26
    rw [if_neg (show ¬ (1 : Int32) = 0 by decide), if_pos hz]
  have e26n : ∀ rc i, ¬ at_ 10 (q1.2.2 7) (q1.1 3) < 6 → p_X4_parseLetters_L26 rc q1 E (iN (c - 1)) i 1 = (0, q1) := by
    intro rc i hz
    unfold p_X4_parseLetters_L26
    rw [if_neg (show ¬ (1 : Int32) = 0 by decide), if_neg hz]
  have e260 : ∀ rc i, p_X4_takeNumber q1 E 0 (iN (c - 1)) = (0, q1) → p_X4_parseLetters_L26 rc q1 E (iN (c - 1)) i 1 = (0, q1) := by
    intro rc i hz
    by_cases hl : at_ 10 (q1.2.2 7) (q1.1 3) < 6
    · rw [e26y rc i hl, hz]
      unfold p_X4_parseLetters_L62
      rw [if_pos rfl]
    · exact e26n rc i hl
  have hbad : ∀ b, (∀ rc i, p_X4_parseLetters_L26 rc q1 E (iN (c - 1)) i 1 = (0, q1)) → ∃ X', o_X10_readLetter_L47 X1 b = some X' ∧ LO n Xb E c (sW (q.2.2 7) c) (fun rc i => p_X4_parseLetters_L26 rc q1 E (iN (c - 1)) i 1) X' := by
    intro b hz
    obtain ⟨X2, e2, F2, x2⟩ := G1.takes0 h12
    refine ⟨X2, ?_, Or.inr ⟨q1, F2, hz⟩⟩
    unfold o_X10_readLetter_L47
    rw [L48_n e2]
  have D1 : DO c q1.2.2 (X1 1) := by
    rw [q12, x1]
    exact hD
  have m4 : X1 1 4 = iN c := D1.1.mc
  rcases G1.int with ⟨a1, a2, v, hv, a3, a4⟩ | ⟨a1, a2⟩
  · rw [if_pos a2, a4, nK4, m4]
    by_cases zc : v < c
    · obtain ⟨-, -, -, w, hw, e7, -⟩ := D1.1.2.1.2.2 v zc
      have v10 : v < 10 := by omega
      have eat : at_ 10 (q1.2.2 7) (q1.1 3) = iN w := by rw [a3, at_in (by decide) v10, e7]
      rw [if_pos (iN_ylt zc (by omega)), oA4, if_pos (gO v10 (by decide)), nO v10 (by decide), D1.1.1.1.f4 zc, e7]
      by_cases zw : w < 6
      · have zw' : iN w < 6 := iN_ylt (b := 6) zw (by decide)
        rw [if_pos zw']
        obtain ⟨X2, e2, G2, x2⟩ := G1.takes1 hT (iN v) q1.2.2
        obtain ⟨X', g1, g2⟩ := g_let2 hT G2 e2 (by rw [x2]; exact D1) zc zw e7 rfl
        refine ⟨X', g1, ?_⟩
        have ef : (fun (rc : PS → SM → Int32 → Int32 → Int32 × PS) (i : Int32) => p_X4_parseLetters_L26 rc q1 E (iN (c - 1)) i 1) = (fun rc i => p_X4_parseLetters_L62 rc (s_X3_advance q1.1 E, iN v, q1.2.2) E (iN (c - 1)) i 1) := by
          funext rc i
          rw [e26y rc i (by rw [eat]; exact zw'), num_y a1 a3 (in0_y zc c10)]
        rw [ef, ← q12]
        exact g2
      · have zw' : ¬ iN w < 6 := fun z => zw ((iN_lt (b := 6) (by omega) (by decide)).mp z)
        rw [if_neg zw']
        exact hbad _ (fun rc i => e26n rc i (by rw [eat]; exact zw'))
    · rw [if_neg (show ¬ iN v < iN c from fun z => zc ((iN_lt (by omega) (by omega)).mp z))]
      exact hbad _ (fun rc i => e260 rc i (num_n a1 a3 (in0_n zc (by omega) c10 hv)))
  · rw [if_neg a2]
    exact hbad _ (fun rc i => e260 rc i (num_x a1))
/-- all the letters -/
theorem g_lets (hT : TF n T E Xb) (xx : Int32) (hc : 2 ≤ c) : ∀ d i (q : PS) (X : SM) f1 f2, i + d = 61 → GS n Xb q X → DO c q.2.2 (X 1) → i ≤ sW (q.2.2 7) c → d + 1 < f1 → d < f2 → ∃ X' q', o_X10_load_L135 f1 X xx = o_X10_load_L158 X' xx ∧ ((p_X4_parseLetters_L15 f2 q E (iN (c - 1)) (iN i) = (1, q') ∧ GS n Xb q' X' ∧ DO c q'.2.2 (X' 1)) ∨ (p_X4_parseLetters_L15 f2 q E (iN (c - 1)) (iN i) = (0, q') ∧ FS (q'.1 0) Xb X')) := by
  have h12 := hT.1
  have hF : ∀ (e : Int32) (X : SM) f, FS e Xb X → 0 < f → o_X10_load_L135 f X xx = o_X10_load_L158 X xx := by
    intro e X f hf h0
    obtain ⟨f, rfl⟩ := some_succ h0
    rw [o_X10_load_L135, hf.1, if_neg (show ¬ (1 : Int32) = 0 by decide)]
  intro d
  induction d with
  | zero =>
    intro i q X f1 f2 hi h hD hs h1 h2
    have := sW_le hD.1.2.1 c (Nat.le_refl _)
    have c10 := hD.1.c10
    omega
  | succ d ih =>
    intro i q X f1 f2 hi h hD hs h1 h2
    obtain ⟨f1, rfl⟩ := some_succ h1
    obtain ⟨f2, rfl⟩ := some_succ h2
    rw [o_X10_load_L135, p_X4_parseLetters_L15, if_pos h.2.1, if_neg (show ¬ 60 < iN i from fun z => by have := (iN_lt (a := 60) (by decide) (by omega)).mp z; omega)]
    rcases h.is (w := 5) (by decide) with ⟨a1, a2⟩ | ⟨a1, a2⟩
    · have a2' : o_X10_is X 175252482 = some 1 := a2
      obtain ⟨X1, e1, hz⟩ := g_letter hT h hD hc a1
      rw [a2', Option.bind_some, if_neg (show ¬ (1 : Int32) = 0 by decide), e1, Option.bind_some]
      rcases hz with ⟨q', g1, g2, g3, g4⟩ | ⟨q', g1, g2⟩
      · have g4' := g4 (p_X4_parseLetters_L15 f2) (iN i)
        have g4'' : p_X4_parseLetters_L26 (p_X4_parseLetters_L15 f2) ((p_X4_take q E 5).2) E (iN (c - 1)) (iN i) ((p_X4_take q E 5).1) = _ := g4'
        rw [g4'', iN_s]
        exact ih (i + 1) q' X1 f1 f2 (by omega) g1 g2 (by rw [g3]; omega) (by omega) (by omega)
      · have g2' : p_X4_parseLetters_L26 (p_X4_parseLetters_L15 f2) ((p_X4_take q E 5).2) E (iN (c - 1)) (iN i) ((p_X4_take q E 5).1) = (0, q') := g2 (p_X4_parseLetters_L15 f2) (iN i)
        rw [g2', hF _ X1 f1 g1 (by omega)]
        exact ⟨X1, q', rfl, Or.inr ⟨rfl, g1⟩⟩
    · have a2' : o_X10_is X 175252482 = some 0 := a2
      have a1' : q.1 2 ≠ 5 := a1
      rw [a2', Option.bind_some, if_pos rfl, take_n a1']
      unfold p_X4_parseLetters_L26
      rw [if_pos rfl]
      exact ⟨X, q, rfl, Or.inl ⟨rfl, h, hD⟩⟩
/-- the draft at the end -/
def DE (S : SM) (m : Nat → Int32) : Prop := ∃ c tc, 2 ≤ c ∧ Iv c tc 1 S m ∧ S 18 0 = iN 0
theorem DO.de (h : DO c S m) (hc : 2 ≤ c) : DE S m := ⟨c, 0, hc, h.1.mono (by decide), h.2⟩
theorem DO.tok (h : DO c S m) (hc : 2 ≤ c) (ho : o < c) (hop : S 4 o = 1) : ∃ r, o_X10_addToken m (iN o) = some r ∧ DE (s_X8_add S (iN o)) r.2 := by
  obtain ⟨hI, h18⟩ := h
  obtain ⟨m1, e1, R1, f1⟩ := q_addToken hI.1 (by decide) (iN o)
  obtain ⟨a10, a11, a12, a13, a14, a3, a4, aj, aj2, ak⟩ := v_tokAdd (S := S) hI.et (by decide) (iN o)
  refine ⟨_, e1, c, 1, hc, ⟨R1, hI.2.1.fr (fun j hj => aj j (by omega)) (ak 2 (by decide) (by decide)), hI.2.2.1.add (by decide) ho hop, fun t u htu hu => ?_, hI.2.2.2.2.fr (aj 0 (by decide))⟩, (ak 0 (by decide) (by decide)).trans h18⟩
  omega
theorem L65_y {X1 : SM} {a t : Int32} (h : o_X10_takes X t = some (1, X1)) {r : Int32 × (Nat → Int32)} (h2 : o_X10_addToken (X1 1) a = some r) : o_X10_readToken_L65 X a t = some (sU X1 1 r.2) := by
  unfold o_X10_readToken_L65
  rw [h]
  show (o_X10_addToken (X1 1) a).bind _ = _
  rw [h2]
  rfl
theorem L65_n {X1 : SM} {a t : Int32} (h : o_X10_takes X t = some (0, X1)) : o_X10_readToken_L65 X a t = some X1 := by
  unfold o_X10_readToken_L65
  rw [h]
  rfl
theorem L44_n {X1 : SM} {a t : Int32} (h : o_X10_takes X t = some (0, X1)) : o_X10_readToken_L44 X a t = some X1 := by
  unfold o_X10_readToken_L44
  rw [h]
  rfl
theorem L44_y {X1 : SM} {a t : Int32} (h : o_X10_takes X t = some (1, X1)) : o_X10_readToken_L44 X a t = if X1 8 6 = 3 then o_X10_readToken_L65 X1 a 1 else o_X10_readToken_L65 X1 a 0 := by
  unfold o_X10_readToken_L44
  rw [h]
  rfl
/-- the token is read, or refused by both -/
theorem g_token (hT : TF n T E Xb) (h : GS n Xb q X) (hD : DO c q.2.2 (X 1)) (hc : 2 ≤ c) (hk : q.1 2 = 6) : ∃ X', o_X10_readToken X = some X' ∧ ((∃ q', GS n Xb q' X' ∧ DE q'.2.2 (X' 1) ∧ p_X4_parseToken q E = (1, q')) ∨ (∃ q', FS (q'.1 0) Xb X' ∧ p_X4_parseToken q E = (0, q'))) := by
  have h12 := hT.1
  have c10 := hD.1.c10
  obtain ⟨X1, e1, G1, x1⟩ := h.next hT q.2.1 q.2.2
  unfold o_X10_readToken p_X4_parseToken
  rw [e1, Option.bind_some, take_y hk]
  obtain ⟨q1, hq1⟩ : ∃ Z, ((s_X3_advance q.1 E, q.2.1, q.2.2) : PS) = Z := ⟨_, rfl⟩
  have q12 : q1.2.2 = q.2.2 := by rw [← hq1]
  rw [hq1] at G1 ⊢
  have D1 : DO c q1.2.2 (X1 1) := by
    rw [q12, x1]
    exact hD
  have m4 : X1 1 4 = iN c := D1.1.mc
  have e18 : q1.2.2 18 2 - 1 = iN (c - 1) := by
    rw [D1.1.ec]
    exact iN_1 (by omega)
  show ∃ X', _ ∧ ((∃ q', GS n Xb q' X' ∧ DE q'.2.2 (X' 1) ∧ p_X4_parseToken_L6 q1 E 1 = (1, q')) ∨ (∃ q', FS (q'.1 0) Xb X' ∧ p_X4_parseToken_L6 q1 E 1 = (0, q')))
  unfold p_X4_parseToken_L6
  rw [if_neg (show ¬ (1 : Int32) = 0 by decide), e18]
  have hbad : ∀ b, ((if v_X2_isOpen q1.2.2 (q1.1 3) = 0 then (0, q1) else p_X4_parseToken_L50 ((p_X4_takeNumber q1 E 0 (iN (c - 1))).2) E ((p_X4_takeNumber q1 E 0 (iN (c - 1))).1)) = ((0, q1) : Int32 × PS)) → ∃ X', o_X10_readToken_L43 X1 b = some X' ∧ ((∃ q', GS n Xb q' X' ∧ DE q'.2.2 (X' 1) ∧ (if v_X2_isOpen q1.2.2 (q1.1 3) = 0 then (0, q1) else p_X4_parseToken_L50 ((p_X4_takeNumber q1 E 0 (iN (c - 1))).2) E ((p_X4_takeNumber q1 E 0 (iN (c - 1))).1)) = (1, q')) ∨ (∃ q', FS (q'.1 0) Xb X' ∧ (if v_X2_isOpen q1.2.2 (q1.1 3) = 0 then (0, q1) else p_X4_parseToken_L50 ((p_X4_takeNumber q1 E 0 (iN (c - 1))).2) E ((p_X4_takeNumber q1 E 0 (iN (c - 1))).1)) = (0, q'))) := by
    intro b hz
    obtain ⟨X2, e2, F2, x2⟩ := G1.takes0 h12
    refine ⟨X2, ?_, Or.inr ⟨q1, F2, hz⟩⟩
    unfold o_X10_readToken_L43
    rw [L44_n e2]
  have e60 : p_X4_takeNumber q1 E 0 (iN (c - 1)) = (0, q1) → (if v_X2_isOpen q1.2.2 (q1.1 3) = 0 then (0, q1) else p_X4_parseToken_L50 ((p_X4_takeNumber q1 E 0 (iN (c - 1))).2) E ((p_X4_takeNumber q1 E 0 (iN (c - 1))).1)) = ((0, q1) : Int32 × PS) := by
    intro hz
    rw [hz]
    unfold p_X4_parseToken_L50
    rw [if_pos rfl, ite_self]
  rcases G1.int with ⟨a1, a2, v, hv, a3, a4⟩ | ⟨a1, a2⟩
  · rw [if_pos a2, a4, nK4, m4]
    by_cases zc : v < c
    · have v10 : v < 10 := by omega
      rw [if_pos (iN_ylt zc (by omega)), q_isOpen D1.1.1.1 zc, Option.bind_some]
      by_cases zo : v_X2_isOpen q1.2.2 (iN v) = 0
      · rw [if_pos zo]
        exact hbad _ (by rw [a3, if_pos zo])
      · have hop : q1.2.2 4 v = 1 := by
          rw [v_isOpen v10] at zo
          by_cases z : q1.2.2 4 v = 1
          · exact z
          · rw [if_neg z] at zo
            exact absurd rfl zo
        rw [if_neg zo, a3, if_neg zo, num_y a1 a3 (in0_y zc c10)]
        obtain ⟨X2, e2, G2, x2⟩ := G1.takes1 hT (iN v) q1.2.2
        rw [L44_y e2]
        obtain ⟨q2, hq2⟩ : ∃ Z, ((s_X3_advance q1.1 E, iN v, q1.2.2) : PS) = Z := ⟨_, rfl⟩
        have q22 : q2.2.2 = q1.2.2 := by rw [← hq2]
        have q21 : q2.2.1 = iN v := by rw [← hq2]
        rw [hq2] at G2 ⊢
        show ∃ X', _ ∧ ((∃ q', GS n Xb q' X' ∧ DE q'.2.2 (X' 1) ∧ p_X4_parseToken_L50 q2 E 1 = (1, q')) ∨ (∃ q', FS (q'.1 0) Xb X' ∧ p_X4_parseToken_L50 q2 E 1 = (0, q')))
        unfold p_X4_parseToken_L50
        rw [if_neg (show ¬ (1 : Int32) = 0 by decide)]
        rcases G2.semi with ⟨b1, b2⟩ | ⟨b1, b2⟩
        · obtain ⟨X3, e3, G3, x3⟩ := G2.takes1 hT q2.2.1 q2.2.2
          obtain ⟨r, er, Dr⟩ := D1.tok hc zc hop
          rw [if_pos b2, L65_y e3 (r := r) (by rw [x3, x2]; exact er), take_y b1]
          unfold p_X4_parseToken_L59
          rw [if_neg (show ¬ (1 : Int32) = 0 by decide)]
          refine ⟨_, rfl, Or.inl ⟨_, G3.row r.2 q2.2.1 (s_X8_add q2.2.2 q2.2.1), ?_, rfl⟩⟩
          rw [sU_eq]
          show DE (s_X8_add q2.2.2 q2.2.1) r.2
          rw [q22, q21]
          exact Dr
        · obtain ⟨X3, e3, F3, x3⟩ := G2.takes0 h12
          rw [if_neg b2, L65_n e3, take_n b1]
          unfold p_X4_parseToken_L59
          rw [if_pos rfl]
          exact ⟨X3, rfl, Or.inr ⟨q2, F3, rfl⟩⟩
    · rw [if_neg (show ¬ iN v < iN c from fun z => zc ((iN_lt (by omega) (by omega)).mp z))]
      exact hbad _ (e60 (num_n a1 a3 (in0_n zc (by omega) c10 hv)))
  · rw [if_neg a2]
    exact hbad _ (e60 (num_x a1))
end GL
