-- PART 20b: reading a setup: takes, rules, offices
def XF (Xb X : SM) : Prop := (∀ j, j ≠ 1 → j ≠ 8 → X j = Xb j) ∧ ∀ k, k < 2 → X 8 k = Xb 8 k
def GS (n : Nat) (Xb : SM) (q : PS) (X : SM) : Prop := TK n q.1 X ∧ X 8 8 = 0 ∧ X 8 2 = -2 ∧ XF Xb X
def FS (e : Int32) (Xb X : SM) : Prop := X 8 8 = 1 ∧ X 8 2 = e ∧ XF Xb X ∧ ∃ b, b ≤ 1200 ∧ e = iN b
section GM
variable {c tc B k n b e : Nat} {T : Nat → Nat} {S : SM} {m : Nat → Int32} {E X X' Xb : SM} {Y Y' : RS} {o t i : Nat} {q : PS} {er : Int32}
theorem XF.xs (h : XF Xb X) (hs : XS X X') : XF Xb X' := ⟨fun j a b => (hs.1 j b).trans (h.1 j a b), fun k hk => (hs.2 k (by omega) (by omega) (by omega) (by omega)).trans (h.2 k hk)⟩
theorem XF.row (h : XF Xb X) (f : Nat → Int32) : XF Xb (sU X 1 f) := ⟨fun j a b => (sU_ne a).trans (h.1 j a b), fun k hk => by rw [sU_ne (by decide)]; exact h.2 k hk⟩
theorem TF.mv (hT : TF n T E Xb) (h : XF Xb X) : TF n T E X := by
  refine ⟨hT.1, hT.2.1, (h.2 1 (by decide)).trans hT.2.2.1, fun k hk => ?_⟩
  rw [h.1 6 (by decide) (by decide)]
  exact hT.2.2.2 k hk
theorem GS.row (h : GS n Xb q X) (f : Nat → Int32) (u : Int32) (S : SM) : GS n Xb (q.1, u, S) (sU X 1 f) := by
  obtain ⟨⟨a, b, h1, h2, h3, h4, h5, h6, h7⟩, g2, g3, g4⟩ := h
  have e8 : sU X 1 f 8 = X 8 := sU_ne (by decide)
  refine ⟨⟨a, b, h1, h2, h3, by rw [e8]; exact h4, h5, by rw [e8]; exact h6, ?_⟩, by rw [e8]; exact g2, by rw [e8]; exact g3, g4.row f⟩
  unfold KR at h7 ⊢
  rw [e8]
  exact h7
theorem FS.row (h : FS er Xb X) (f : Nat → Int32) : FS er Xb (sU X 1 f) := by
  have e8 : sU X 1 f 8 = X 8 := sU_ne (by decide)
  exact ⟨by rw [e8]; exact h.1, by rw [e8]; exact h.2.1, h.2.2.1.row f, h.2.2.2⟩
theorem GS.next (hT : TF n T E Xb) (h : GS n Xb q X) (u : Int32) (S : SM) : ∃ X', o_X10_next X = some X' ∧ GS n Xb (s_X3_advance q.1 E, u, S) X' ∧ X' 1 = X 1 := by
  obtain ⟨⟨a, b, h1, h2, h3, h4, h5, h6, h7⟩, g2, g3, g4⟩ := h
  obtain ⟨X', e1, t1, x1⟩ := q_next (hT.mv g4) h2 h6 h5
  exact ⟨X', e1, ⟨t1, (x1.2 8 (by decide) (by decide) (by decide) (by decide)).trans g2, (x1.2 2 (by decide) (by decide) (by decide) (by decide)).trans g3, g4.xs x1⟩, x1.1 1 (by decide)⟩
theorem GS.takes1 (hT : TF n T E Xb) (h : GS n Xb q X) (u : Int32) (S : SM) : ∃ X', o_X10_takes X 1 = some (1, X') ∧ GS n Xb (s_X3_advance q.1 E, u, S) X' ∧ X' 1 = X 1 := by
  obtain ⟨X', e1, G, x1⟩ := h.next hT u S
  unfold o_X10_takes
  rw [if_pos h.2.1, if_neg (show ¬ (1 : Int32) = 0 by decide), e1, Option.bind_some]
  exact ⟨X', rfl, G, x1⟩
theorem GS.takes0 (h : GS n Xb q X) (hn : n ≤ 1200) : ∃ X', o_X10_takes X 0 = some (0, X') ∧ FS (q.1 0) Xb X' ∧ X' 1 = X 1 := by
  obtain ⟨⟨a, b, h1, h2, h3, h4, h5, h6, h7⟩, g2, g3, g4⟩ := h
  unfold o_X10_takes
  rw [if_pos g2, if_pos rfl]
  simp only [lt1]
  refine ⟨_, rfl, ⟨?_, ?_, ⟨fun j z1 z2 => ?_, fun k hk => ?_⟩, b, by omega, h3⟩, ?_⟩
  · rw [sU_eq, upd_ne (by decide), sU_eq, upd_eq]
  · rw [sU_eq, upd_eq, sU_eq, upd_ne (by decide), h4, h3]
  · rw [sU_ne z2, sU_ne z2]
    exact g4.1 j z1 z2
  · rw [sU_eq, upd_ne (by omega), sU_eq, upd_ne (by omega)]
    exact g4.2 k hk
  · rw [sU_ne (by decide), sU_ne (by decide)]
theorem FS.takes (h : FS er Xb X) (t : Int32) : o_X10_takes X t = some (0, X) := by
  unfold o_X10_takes
  rw [h.1, if_neg (show ¬ (1 : Int32) = 0 by decide)]
theorem is_tot (X : SM) (w : Int32) : ∃ r, o_X10_is X w = some r := by
  unfold o_X10_is
  split
  · split
    · exact ⟨_, rfl⟩
    · exact ⟨_, rfl⟩
  · exact ⟨_, rfl⟩
theorem iN_lit {w : Nat} (hw : w < 7) : iN w ≠ 9 ∧ iN w ≠ 7 ∧ iN w ≠ 8 ∧ iN w ≠ 10 := by
  rcases (by omega : w = 0 ∨ w = 1 ∨ w = 2 ∨ w = 3 ∨ w = 4 ∨ w = 5 ∨ w = 6) with rfl | rfl | rfl | rfl | rfl | rfl | rfl <;> decide
theorem GS.is (h : GS n Xb q X) {w : Nat} (hw : w < 7) : (q.1 2 = iN w ∧ o_X10_is X (iN (Wd w)) = some 1) ∨ (q.1 2 ≠ iN w ∧ o_X10_is X (iN (Wd w)) = some 0) := by
  obtain ⟨⟨a, b, -, -, -, -, -, -, h7⟩, -⟩ := h
  obtain ⟨l9, l7, l8, l10⟩ := iN_lit hw
  have hWl := (Wd_val w hw).2.1
  unfold o_X10_is
  rcases h7 with ⟨a1, a2⟩ | ⟨a1, a2, -⟩ | ⟨a1, a2⟩ | ⟨y, hy, a1, a2, a3⟩ | ⟨a1, a2 | ⟨a2, v, hv, a3, a4⟩⟩
  · rw [a2, if_neg (by decide), a1]
    exact Or.inr ⟨fun z => l9 z.symm, rfl⟩
  · rw [a2, if_neg (by decide), a1]
    exact Or.inr ⟨fun z => l7 z.symm, rfl⟩
  · rw [a2, if_neg (by decide), a1]
    exact Or.inr ⟨fun z => l8 z.symm, rfl⟩
  · rw [a2, if_pos rfl, a3, a1]
    have hYl := (Wd_val y hy).2.1
    by_cases z : y = w
    · subst z
      rw [if_pos rfl]
      exact Or.inl ⟨rfl, rfl⟩
    · rw [if_neg (fun u => z ((wd_ne w hw y hy ((iN_inj (by omega) (by omega)).mp u).symm).symm))]
      exact Or.inr ⟨fun u => z ((iN_inj (by omega) (by omega)).mp u), rfl⟩
  · rw [a2, if_neg (by decide), a1]
    exact Or.inr ⟨fun z => l10 z.symm, rfl⟩
  · rw [a2, if_pos rfl, a3, if_neg (fun u => a4 w hw ((iN_inj (by omega) (by omega)).mp u)), a1]
    exact Or.inr ⟨fun z => l10 z.symm, rfl⟩
theorem GS.semi (h : GS n Xb q X) : (q.1 2 = 8 ∧ X 8 6 = 3) ∨ (q.1 2 ≠ 8 ∧ X 8 6 ≠ 3) := by
  obtain ⟨⟨a, b, -, -, -, -, -, -, h7⟩, -⟩ := h
  rcases h7 with ⟨a1, a2⟩ | ⟨a1, a2, -⟩ | ⟨a1, a2⟩ | ⟨y, hy, a1, a2, a3⟩ | ⟨a1, a2 | ⟨a2, -⟩⟩
  · exact Or.inr ⟨by rw [a1]; decide, by rw [a2]; decide⟩
  · exact Or.inr ⟨by rw [a1]; decide, by rw [a2]; decide⟩
  · exact Or.inl ⟨a1, a2⟩
  · exact Or.inr ⟨by rw [a1]; exact (iN_lit hy).2.2.1, by rw [a2]; decide⟩
  · exact Or.inr ⟨by rw [a1]; decide, by rw [a2]; decide⟩
  · exact Or.inr ⟨by rw [a1]; decide, by rw [a2]; decide⟩
theorem GS.end (h : GS n Xb q X) : (q.1 2 = 9 ∧ X 8 6 = 0) ∨ (q.1 2 ≠ 9 ∧ X 8 6 ≠ 0) := by
  obtain ⟨⟨a, b, -, -, -, -, -, -, h7⟩, -⟩ := h
  rcases h7 with ⟨a1, a2⟩ | ⟨a1, a2, -⟩ | ⟨a1, a2⟩ | ⟨y, hy, a1, a2, a3⟩ | ⟨a1, a2 | ⟨a2, -⟩⟩
  · exact Or.inl ⟨a1, a2⟩
  · exact Or.inr ⟨by rw [a1]; decide, by rw [a2]; decide⟩
  · exact Or.inr ⟨by rw [a1]; decide, by rw [a2]; decide⟩
  · exact Or.inr ⟨by rw [a1]; exact (iN_lit hy).1, by rw [a2]; decide⟩
  · exact Or.inr ⟨by rw [a1]; decide, by rw [a2]; decide⟩
  · exact Or.inr ⟨by rw [a1]; decide, by rw [a2]; decide⟩
theorem GS.int (h : GS n Xb q X) : (q.1 2 = 7 ∧ X 8 6 = 2 ∧ ∃ v, v ≤ 99 ∧ q.1 3 = iN v ∧ X 8 7 = iN v) ∨ (q.1 2 ≠ 7 ∧ X 8 6 ≠ 2) := by
  obtain ⟨⟨a, b, -, -, -, -, -, -, h7⟩, -⟩ := h
  rcases h7 with ⟨a1, a2⟩ | ⟨a1, a2, a3⟩ | ⟨a1, a2⟩ | ⟨y, hy, a1, a2, a3⟩ | ⟨a1, a2 | ⟨a2, -⟩⟩
  · exact Or.inr ⟨by rw [a1]; decide, by rw [a2]; decide⟩
  · exact Or.inl ⟨a1, a2, a3⟩
  · exact Or.inr ⟨by rw [a1]; decide, by rw [a2]; decide⟩
  · exact Or.inr ⟨by rw [a1]; exact (iN_lit hy).2.1, by rw [a2]; decide⟩
  · exact Or.inr ⟨by rw [a1]; decide, by rw [a2]; decide⟩
  · exact Or.inr ⟨by rw [a1]; decide, by rw [a2]; decide⟩
theorem take_y {κ : Int32} (h : q.1 2 = κ) : p_X4_take q E κ = (1, (s_X3_advance q.1 E, q.2.1, q.2.2)) := if_pos h
theorem take_n {κ : Int32} (h : q.1 2 ≠ κ) : p_X4_take q E κ = (0, q) := if_neg h
/-- a number is taken, or refused by both -/
theorem g_num (hT : TF n T E Xb) (h : GS n Xb q X) (lo hi : Int32) : ∃ v X', o_X10_takesNumber X lo hi = some (v, X') ∧ X' 1 = X 1 ∧ ((p_X4_takeNumber q E lo hi = (1, (s_X3_advance q.1 E, v, q.2.2)) ∧ GS n Xb (s_X3_advance q.1 E, v, q.2.2) X' ∧ ∃ w, w ≤ 99 ∧ v = iN w ∧ ¬ v_X9_isWithin (iN w) lo hi = 0) ∨ (p_X4_takeNumber q E lo hi = (0, q) ∧ FS (q.1 0) Xb X' ∧ v = 0)) := by
  have h12 := hT.1
  unfold o_X10_takesNumber p_X4_takeNumber o_X10_takesNumber_L27 o_X10_takesNumber_L28
  rw [in_within]
  rcases h.int with ⟨a1, a2, v, hv, a3, a4⟩ | ⟨a1, a2⟩
  · rw [if_pos a2, if_pos a1, a3, a4]
    by_cases z : v_X9_isWithin (iN v) lo hi = 0
    · obtain ⟨X', e1, F, x1⟩ := h.takes0 h12
      rw [if_pos z, if_pos z, e1, Option.bind_some, if_pos rfl]
      exact ⟨0, X', rfl, x1, Or.inr ⟨rfl, F, rfl⟩⟩
    · obtain ⟨X', e1, G, x1⟩ := h.takes1 hT (iN v) q.2.2
      rw [if_neg z, if_neg z, e1, Option.bind_some, if_neg (show ¬ (1 : Int32) = 0 by decide)]
      exact ⟨iN v, X', rfl, x1, Or.inl ⟨rfl, G, v, hv, rfl, z⟩⟩
  · rw [if_neg a2, if_neg a1]
    obtain ⟨X', e1, F, x1⟩ := h.takes0 h12
    rw [e1, Option.bind_some, if_pos rfl]
    exact ⟨0, X', rfl, x1, Or.inr ⟨rfl, F, rfl⟩⟩
theorem f_num (h : FS er Xb X) (lo hi : Int32) : o_X10_takesNumber X lo hi = some (0, X) := by
  unfold o_X10_takesNumber o_X10_takesNumber_L27 o_X10_takesNumber_L28
  rw [h.takes, h.takes]
  show (if X 8 6 = 2 then if v_X10_in (X 8 7) lo hi = 0 then some (0, X) else some (0, X) else some (0, X)) = some (0, X)
  rw [ite_self, ite_self]
theorem f_rule (h : FS er Xb X) (w hi : Int32) : o_X10_takesRule X w hi = some (0, X) := by
  unfold o_X10_takesRule
  obtain ⟨r, er⟩ := is_tot X w
  rw [er, Option.bind_some, h.takes, Option.bind_some, f_num h, Option.bind_some]
theorem most_k {w : Nat} (hw : w < 3) : v_X9_mostOfRule (iN w) = iN (mxR w) := by
  rcases (by omega : w = 0 ∨ w = 1 ∨ w = 2) with rfl | rfl | rfl <;> decide
theorem mxR_le (w : Nat) : mxR w ≤ 99 := by
  unfold mxR
  split
  · omega
  · split <;> omega
/-- a rule is read, or refused by both -/
theorem g_rule (hT : TF n T E Xb) (h : GS n Xb q X) {w : Nat} (hw : w < 3) : ∃ v X', o_X10_takesRule X (iN (Wd w)) (iN (mxR w)) = some (v, X') ∧ X' 1 = X 1 ∧ ((∃ c' a, p_X4_parseRule q E (iN w) (iN w) = (1, (c', iN a, sU q.2.2 0 (upd (q.2.2 0) w (iN a)))) ∧ v = iN a ∧ 1 ≤ a ∧ a ≤ mxR w ∧ GS n Xb (c', iN a, q.2.2) X') ∨ (∃ q', p_X4_parseRule q E (iN w) (iN w) = (0, q') ∧ FS (q'.1 0) Xb X')) := by
  have h12 := hT.1
  have hm := mxR_le w
  unfold o_X10_takesRule p_X4_parseRule
  rcases h.is (w := w) (by omega) with ⟨a1, a2⟩ | ⟨a1, a2⟩
  · obtain ⟨X1, e1, G1, x1⟩ := h.takes1 hT q.2.1 q.2.2
    rw [a2, Option.bind_some, e1, Option.bind_some, take_y a1]
    unfold p_X4_parseRule_L5
    rw [if_neg (show ¬ (1 : Int32) = 0 by decide), most_k hw]
    obtain ⟨v, X2, e2, x2, hz⟩ := g_num hT G1 1 (iN (mxR w))
    rw [e2, Option.bind_some]
    unfold p_X4_parseRule_L17
    rcases hz with ⟨c1, G2, y, hy, rfl, hr⟩ | ⟨c1, F, -⟩
    · rw [c1, if_neg (show ¬ (1 : Int32) = 0 by decide)]
      obtain ⟨y2, hy1, hym, ey⟩ := within_iN (a := 1) (by decide) (by omega) hr
      have hyy : y = y2 := (iN_inj (by omega) (by omega)).mp ey
      subst hyy
      refine ⟨_, X2, rfl, x2.trans x1, Or.inl ⟨_, y, ?_, rfl, hy1, hym, G2⟩⟩
      rw [put_in (by decide) hw]
    · rw [c1, if_pos rfl]
      exact ⟨_, X2, rfl, x2.trans x1, Or.inr ⟨_, rfl, F⟩⟩
  · obtain ⟨X1, e1, F1, x1⟩ := h.takes0 h12
    rw [a2, Option.bind_some, e1, Option.bind_some, f_num F1, Option.bind_some, take_n a1]
    unfold p_X4_parseRule_L5
    rw [if_pos rfl]
    exact ⟨0, X1, rfl, x1, Or.inr ⟨q, rfl, F1⟩⟩
/-- the draft while the rules are read -/
def DP (r : Nat) (S : SM) (m : Nat → Int32) : Prop := R4 0 0 (sU S 0 m) m ∧ OI 0 S ∧ TI 0 0 0 S ∧ S 18 0 = iN 0 ∧ ∀ k, k < r → ∃ a, 1 ≤ a ∧ a ≤ mxR k ∧ S 0 k = iN a ∧ m k = iN a
theorem DP.step {r a : Nat} (h : DP r S m) (hr : r < 3) (h1 : 1 ≤ a) (h2 : a ≤ mxR r) : DP (r + 1) (sU S 0 (upd (S 0) r (iN a))) (upd m r (iN a)) := by
  obtain ⟨hR, hO, hTi, h18, hk⟩ := h
  have R1 := q_rule hR hr (iN a)
  rw [sU_eq, sU_sU] at R1
  refine ⟨by rw [sU_sU]; exact R1, hO.fr (fun j hj => sU_ne (by omega)) rfl, hTi.fr (fun j a b => sU_ne (by omega)) (sU_ne (by decide)) (sU_ne (by decide)) rfl rfl, h18, fun k hk2 => ?_⟩
  rw [sU_eq, upd_get, upd_get]
  by_cases z : k = r
  · subst z
    rw [if_pos rfl, if_pos rfl]
    exact ⟨a, h1, h2, rfl, rfl⟩
  · rw [if_neg z, if_neg z]
    exact hk k (by omega)
theorem DP.end (h : DP 3 S m) : Iv 0 0 0 S m := by
  obtain ⟨⟨g1, g2, g3, g4⟩, hO, hTi, h18, hk⟩ := h
  refine ⟨⟨g1.fr (fun j a b => (sU_ne (by omega)).symm) rfl rfl (fun _ _ _ => rfl), g2.fr (fun j a b => (sU_ne (by omega)).symm) rfl rfl rfl rfl (fun _ _ _ => rfl), g3.fr rfl rfl rfl rfl rfl (fun _ _ _ => rfl), ?_⟩, hO, hTi, fun t u _ hu => absurd hu (Nat.not_lt_zero _), ?_⟩
  · obtain ⟨-, r2, r3, r4⟩ := g4
    refine ⟨fun k hk3 => ?_, r2, r3, r4⟩
    obtain ⟨a, -, -, e1, e2⟩ := hk k hk3
    rw [e1, e2]
  · obtain ⟨a, a1, a2, e1, -⟩ := hk 0 (by decide)
    obtain ⟨b, b1, b2, e2, -⟩ := hk 1 (by decide)
    obtain ⟨c, c1, c2, e3, -⟩ := hk 2 (by decide)
    exact ⟨a, b, c, a1, a2, b1, b2, c1, c2, e1, e2, e3⟩
theorem OI.newoff (h : OI c S) (hc : c < 10) {wy nm : Nat} (w1 : 1 ≤ wy) (w9 : wy ≤ 9) (n1 : 1 ≤ nm) (n9 : nm ≤ 99) {x : Int32} (hx : x = 0 ∨ x = 1) : OI (c + 1) (s_X2_add S (iN wy) (iN nm) x) := by
  obtain ⟨a2, a3, a4, a5, a6, a7, a8, aj, ak⟩ := v_offAdd h.2.1 hc (iN wy) (iN nm) x
  refine ⟨by omega, a8, fun u hu => ?_⟩
  rw [a2, a3, a4, a7, aj 8 (by decide) (by decide), aj 9 (by decide) (by decide)]
  by_cases z : u = c
  · subst z
    rw [upd_eq, upd_eq, upd_eq, upd_eq]
    exact ⟨⟨wy, w1, w9, rfl⟩, ⟨nm, n1, n9, rfl⟩, hx, 0, by decide, rfl, fun i hi => absurd hi (Nat.not_lt_zero _)⟩
  · rw [upd_ne z, upd_ne z, upd_ne z, upd_ne z]
    obtain ⟨b1, b2, b3, w, hw, e7, hl⟩ := h.2.2 u (by omega)
    refine ⟨b1, b2, b3, w, hw, e7, fun i hi => ?_⟩
    obtain ⟨⟨p, hp, ep⟩, d2⟩ := hl i hi
    exact ⟨⟨p, by omega, ep⟩, d2⟩
/-- the draft while offices are read -/
def DO (c : Nat) (S : SM) (m : Nat → Int32) : Prop := Iv c 0 0 S m ∧ S 18 0 = iN 0
theorem DO.add (h : DO c S m) (hc : c < 10) {wy nm : Nat} (w1 : 1 ≤ wy) (w9 : wy ≤ 9) (n1 : 1 ≤ nm) (n9 : nm ≤ 99) {x : Int32} (hx : x = 0 ∨ x = 1) : ∃ m', o_X10_addOffice m (iN wy) (iN nm) x = some m' ∧ DO (c + 1) (s_X2_add S (iN wy) (iN nm) x) m' := by
  obtain ⟨hI, h18⟩ := h
  obtain ⟨a2, a3, a4, a5, a6, a7, a8, aj, ak⟩ := v_offAdd hI.ec hc (iN wy) (iN nm) x
  obtain ⟨m', e1, R1⟩ := q_addOffice hI.1 hc (iN wy) (iN nm) x
  refine ⟨m', e1, ⟨R1, hI.2.1.newoff hc w1 w9 n1 n9 hx, ?_, fun t u _ hu => absurd hu (Nat.not_lt_zero _), hI.2.2.2.2.fr (aj 0 (by decide) (by decide))⟩, (ak 0 (by decide)).trans h18⟩
  exact ⟨by omega, (ak 3 (by decide)).trans hI.et, by rw [ak 4 (by decide)]; exact hI.2.2.1.2.2.1, fun t ht => absurd ht (Nat.not_lt_zero _)⟩
theorem L123_y {X1 : SM} {a b c t : Int32} (h : o_X10_takes X t = some (1, X1)) : o_X10_readOffice_L123 X a b c t = (o_X10_addOffice (X1 1) a b c).bind (fun r2 => some (sU X1 1 r2)) := by
  unfold o_X10_readOffice_L123
  rw [h]
  rfl
theorem L123_n {X1 : SM} {a b c t : Int32} (h : o_X10_takes X t = some (0, X1)) : o_X10_readOffice_L123 X a b c t = some X1 := by
  unfold o_X10_readOffice_L123
  rw [h]
  rfl
theorem L83_e {X1 : SM} {a b c t r : Int32} (h : o_X10_takes X t = some (r, X1)) : o_X10_readOffice_L83 X a b c t = if X1 8 8 = 0 then (o_X10_is X1 380396).bind (fun r2 => if r2 = 0 then o_X10_readOffice_L109 X1 a b c else (o_X10_next X1).bind (fun r3 => o_X10_readOffice_L109 r3 a b 0)) else o_X10_readOffice_L109 X1 a b c := by
  unfold o_X10_readOffice_L83
  rw [h]
  rfl
theorem L26_n {X1 : SM} {t : Int32} (h : o_X10_takes X t = some (0, X1)) : o_X10_readOffice_L26 X t = some X1 := by
  unfold o_X10_readOffice_L26
  rw [h]
  rfl
theorem L26_y {X1 X2 : SM} {t v : Int32} (h : o_X10_takes X t = some (1, X1)) (h2 : o_X10_takesNumber X1 1 9 = some (v, X2)) : o_X10_readOffice_L26 X t = if X2 8 6 = 2 then (if v_X10_in (X2 8 7) 1 99 = 0 then o_X10_readOffice_L82 X2 v (X2 8 7) 1 else (o_X10_isNamed (X2 1) (X2 8 7)).bind (fun r3 => if r3 = 0 then o_X10_readOffice_L83 X2 v (X2 8 7) 1 1 else o_X10_readOffice_L82 X2 v (X2 8 7) 1)) else o_X10_readOffice_L82 X2 v (X2 8 7) 1 := by
  unfold o_X10_readOffice_L26
  rw [h]
  show (o_X10_takesNumber X1 1 9).bind _ = _
  rw [h2]
  rfl
theorem f_109 (h : FS er Xb X) (a b c : Int32) : o_X10_readOffice_L109 X a b c = some X := by
  unfold o_X10_readOffice_L109
  rw [L123_n (h.takes 1), L123_n (h.takes 0), ite_self]
theorem f_off83 (h : FS er Xb X) (a b c t : Int32) : o_X10_readOffice_L83 X a b c t = some X := by
  rw [L83_e (h.takes t), h.1, if_neg (show ¬ (1 : Int32) = 0 by decide), f_109 h]
/-- the end of an office: its semicolon -/
theorem g_off109 (hT : TF n T E Xb) (h : GS n Xb q X) (hD : DO c q.2.2 (X 1)) (hc : c < 10) {wy nm : Nat} (w1 : 1 ≤ wy) (w9 : wy ≤ 9) (n1 : 1 ≤ nm) (n9 : nm ≤ 99) {x : Int32} (hx : x = 0 ∨ x = 1) : ∃ X', o_X10_readOffice_L109 X (iN wy) (iN nm) x = some X' ∧ ((∃ q', GS n Xb q' X' ∧ DO (c + 1) q'.2.2 (X' 1) ∧ ∀ rc x1, p_X4_parseOffices_L91 rc ((p_X4_take q E 8).2) E x1 (iN wy) (iN nm) x ((p_X4_take q E 8).1) = rc q' E (x1 + 1)) ∨ (∃ q', FS (q'.1 0) Xb X' ∧ ∀ rc x1, p_X4_parseOffices_L91 rc ((p_X4_take q E 8).2) E x1 (iN wy) (iN nm) x ((p_X4_take q E 8).1) = (0, q'))) := by
  have h12 := hT.1
  unfold o_X10_readOffice_L109
  rcases h.semi with ⟨a1, a2⟩ | ⟨a1, a2⟩
  · obtain ⟨X1, e1, G1, x1⟩ := h.takes1 hT q.2.1 q.2.2
    obtain ⟨m', e2, D2⟩ := hD.add hc w1 w9 n1 n9 hx
    rw [if_pos a2, L123_y e1, x1, e2, Option.bind_some, take_y a1]
    refine ⟨_, rfl, Or.inl ⟨(s_X3_advance q.1 E, q.2.1, s_X2_add q.2.2 (iN wy) (iN nm) x), G1.row m' _ _, by rw [sU_eq]; exact D2, fun rc x1 => ?_⟩⟩
    unfold p_X4_parseOffices_L91
    rw [if_neg (show ¬ (1 : Int32) = 0 by decide)]
  · obtain ⟨X1, e1, F1, x1⟩ := h.takes0 h12
    rw [if_neg a2, L123_n e1, take_n a1]
    refine ⟨X1, rfl, Or.inr ⟨q, F1, fun rc x1 => ?_⟩⟩
    unfold p_X4_parseOffices_L91
    rw [if_pos rfl]
/-- an office is read, or refused by both -/
theorem g_office (hT : TF n T E Xb) (h : GS n Xb q X) (hD : DO c q.2.2 (X 1)) (hc : c < 10) (hk : q.1 2 = 3) : ∃ X', o_X10_readOffice X = some X' ∧ ((∃ q', GS n Xb q' X' ∧ DO (c + 1) q'.2.2 (X' 1) ∧ ∀ rc x1, p_X4_parseOffices_L13 rc ((p_X4_take q E 3).2) E x1 ((p_X4_take q E 3).1) = rc q' E (x1 + 1)) ∨ (∃ q', FS (q'.1 0) Xb X' ∧ ∀ rc x1, p_X4_parseOffices_L13 rc ((p_X4_take q E 3).2) E x1 ((p_X4_take q E 3).1) = (0, q'))) := by
  have h12 := hT.1
  have eis : o_X10_is X 218546996 = some 1 := by
    rcases h.is (w := 3) (by decide) with ⟨-, a2⟩ | ⟨a1, -⟩
    · exact a2
    · exact absurd hk a1
  unfold o_X10_readOffice
  rw [eis, Option.bind_some, if_neg (show ¬ (1 : Int32) = 0 by decide), nK4, hD.1.mc, if_pos (show iN c < 10 from iN_ylt (b := 10) hc (by decide))]
  obtain ⟨X1, e1, G1, x1⟩ := h.takes1 hT q.2.1 q.2.2
  obtain ⟨v, X2, e2, x2, hz⟩ := g_num hT G1 1 9
  rw [L26_y e1 e2, take_y hk]
  have x21 : X2 1 = X 1 := x2.trans x1
  rcases hz with ⟨c1, G2, y, hy, rfl, hr⟩ | ⟨c1, F2, -⟩
  · obtain ⟨wy, w1, w9, ew⟩ := within_iN (a := 1) (b := 9) (by decide) (by decide) hr
    rw [ew] at c1 G2 ⊢
    obtain ⟨q2, hq2⟩ : ∃ Z, (s_X3_advance (s_X3_advance q.1 E, q.2.1, q.2.2).1 E, iN wy, (s_X3_advance q.1 E, q.2.1, q.2.2).2.2) = Z := ⟨_, rfl⟩
    have q22 : q2.2.2 = q.2.2 := by rw [← hq2]
    have q21 : q2.2.1 = iN wy := by rw [← hq2]
    rw [hq2] at c1 G2
    have e13 : ∀ rc x1, p_X4_parseOffices_L13 rc ((1, (s_X3_advance q.1 E, q.2.1, q.2.2)) : Int32 × PS).2 E x1 ((1, (s_X3_advance q.1 E, q.2.1, q.2.2)) : Int32 × PS).1 = p_X4_parseOffices_L23 rc q2 E x1 1 := by
      intro rc x1
      unfold p_X4_parseOffices_L13
      rw [if_neg (show ¬ (1 : Int32) = 0 by decide), c1]
    have D2 : DO c q2.2.2 (X2 1) := by
      rw [q22, x21]
      exact hD
    have hbad : ∀ (hz2 : ∀ rc x1, p_X4_parseOffices_L23 rc q2 E x1 1 = (0, q2)) (u : Int32), ∃ X', o_X10_readOffice_L82 X2 (iN wy) u 1 = some X' ∧ ((∃ q', GS n Xb q' X' ∧ DO (c + 1) q'.2.2 (X' 1) ∧ ∀ rc x1, p_X4_parseOffices_L13 rc ((1, (s_X3_advance q.1 E, q.2.1, q.2.2)) : Int32 × PS).2 E x1 ((1, (s_X3_advance q.1 E, q.2.1, q.2.2)) : Int32 × PS).1 = rc q' E (x1 + 1)) ∨ (∃ q', FS (q'.1 0) Xb X' ∧ ∀ rc x1, p_X4_parseOffices_L13 rc ((1, (s_X3_advance q.1 E, q.2.1, q.2.2)) : Int32 × PS).2 E x1 ((1, (s_X3_advance q.1 E, q.2.1, q.2.2)) : Int32 × PS).1 = (0, q'))) := by
      intro hz2 u
      obtain ⟨X3, e3, F3, x3⟩ := G2.takes0 h12
      refine ⟨X3, ?_, Or.inr ⟨q2, F3, fun rc x1 => by rw [e13, hz2]⟩⟩
      unfold o_X10_readOffice_L82
      rw [L83_e e3, F3.1, if_neg (show ¬ (1 : Int32) = 0 by decide), f_109 F3]
    rcases G2.int with ⟨a1, a2, nmv, hnv, a3, a4⟩ | ⟨a1, a2⟩
    · rw [if_pos a2, in_within, a4]
      by_cases z : v_X9_isWithin (iN nmv) 1 99 = 0
      · rw [if_pos z]
        refine hbad (fun rc x1 => ?_) _
        unfold p_X4_parseOffices_L23
        rw [if_neg (show ¬ (1 : Int32) = 0 by decide)]
        have et : p_X4_takeNumber q2 E 1 99 = (0, q2) := by
          unfold p_X4_takeNumber
          rw [if_pos a1, a3, if_pos z]
        rw [et]
        unfold p_X4_parseOffices_L60
        rw [if_pos rfl]
        split <;> rfl
      · obtain ⟨nm, n1, n9, en⟩ := within_iN (a := 1) (b := 99) (by decide) (by decide) z
        rw [if_neg z, q_isNamed D2.1.1.1, Option.bind_some]
        by_cases zn : v_X2_isNameTaken q2.2.2 (iN nmv) = 0
        · rw [if_pos zn]
          obtain ⟨X3, e3, G3, x3⟩ := G2.takes1 hT (iN nmv) q2.2.2
          rw [L83_e e3, if_pos G3.2.1]
          have e23 : ∀ rc x1, p_X4_parseOffices_L23 rc q2 E x1 1 = p_X4_parseOffices_L75 rc ((p_X4_take (s_X3_advance q2.1 E, iN nmv, q2.2.2) E 4).2) E x1 (iN wy) (iN nmv) ((p_X4_take (s_X3_advance q2.1 E, iN nmv, q2.2.2) E 4).1) := by
            intro rc x1
            have et : p_X4_takeNumber q2 E 1 99 = (1, (s_X3_advance q2.1 E, iN nmv, q2.2.2)) := by
              unfold p_X4_takeNumber p_X4_takeNumber_L40
              rw [if_pos a1, a3, if_neg z]
            unfold p_X4_parseOffices_L23
            rw [if_neg (show ¬ (1 : Int32) = 0 by decide), a3, if_pos zn, et]
            unfold p_X4_parseOffices_L60
            rw [if_neg (show ¬ (1 : Int32) = 0 by decide), q21]
          obtain ⟨q3, hq3⟩ : ∃ Z, ((s_X3_advance q2.1 E, iN nmv, q2.2.2) : PS) = Z := ⟨_, rfl⟩
          have q32 : q3.2.2 = q2.2.2 := by rw [← hq3]
          rw [hq3] at G3 e23
          have D3 : DO c q3.2.2 (X3 1) := by
            rw [q32, x3]
            exact D2
          rw [en] at e23 ⊢
          rcases G3.is (w := 4) (by decide) with ⟨b1, b2⟩ | ⟨b1, b2⟩
          · have b2' : o_X10_is X3 380396 = some 1 := b2
            have b1' : q3.1 2 = 4 := b1
            rw [b2', Option.bind_some, if_neg (show ¬ (1 : Int32) = 0 by decide)]
            obtain ⟨X4, e4, G4, x4⟩ := G3.next hT q3.2.1 q3.2.2
            rw [e4, Option.bind_some]
            obtain ⟨X5, e5, hz5⟩ := g_off109 hT G4 (by rw [x4]; exact D3) hc w1 w9 n1 n9 (x := 0) (Or.inl rfl)
            refine ⟨X5, e5, ?_⟩
            have e75 : ∀ rc x1, p_X4_parseOffices_L13 rc ((1, (s_X3_advance q.1 E, q.2.1, q.2.2)) : Int32 × PS).2 E x1 ((1, (s_X3_advance q.1 E, q.2.1, q.2.2)) : Int32 × PS).1 = p_X4_parseOffices_L91 rc ((p_X4_take (s_X3_advance q3.1 E, q3.2.1, q3.2.2) E 8).2) E x1 (iN wy) (iN nm) 0 ((p_X4_take (s_X3_advance q3.1 E, q3.2.1, q3.2.2) E 8).1) := by
              intro rc x1
              rw [e13, e23, take_y b1']
              unfold p_X4_parseOffices_L75
              rw [if_neg (show ¬ (1 : Int32) = 0 by decide)]
            rcases hz5 with ⟨q', g1, g2, g3⟩ | ⟨q', g1, g2⟩
            · exact Or.inl ⟨q', g1, g2, fun rc x1 => by rw [e75, g3]⟩
            · exact Or.inr ⟨q', g1, fun rc x1 => by rw [e75, g2]⟩
          · have b2' : o_X10_is X3 380396 = some 0 := b2
            have b1' : q3.1 2 ≠ 4 := b1
            rw [b2', Option.bind_some, if_pos rfl]
            obtain ⟨X5, e5, hz5⟩ := g_off109 hT G3 D3 hc w1 w9 n1 n9 (x := 1) (Or.inr rfl)
            refine ⟨X5, e5, ?_⟩
            have e75 : ∀ rc x1, p_X4_parseOffices_L13 rc ((1, (s_X3_advance q.1 E, q.2.1, q.2.2)) : Int32 × PS).2 E x1 ((1, (s_X3_advance q.1 E, q.2.1, q.2.2)) : Int32 × PS).1 = p_X4_parseOffices_L91 rc ((p_X4_take q3 E 8).2) E x1 (iN wy) (iN nm) 1 ((p_X4_take q3 E 8).1) := by
              intro rc x1
              rw [e13, e23, take_n b1']
              unfold p_X4_parseOffices_L75
              rw [if_pos rfl]
            rcases hz5 with ⟨q', g1, g2, g3⟩ | ⟨q', g1, g2⟩
            · exact Or.inl ⟨q', g1, g2, fun rc x1 => by rw [e75, g3]⟩
            · exact Or.inr ⟨q', g1, fun rc x1 => by rw [e75, g2]⟩
        · rw [if_neg zn]
          refine hbad (fun rc x1 => ?_) _
          unfold p_X4_parseOffices_L23
          rw [if_neg (show ¬ (1 : Int32) = 0 by decide), a3, if_neg zn]
    · rw [if_neg a2]
      refine hbad (fun rc x1 => ?_) _
      unfold p_X4_parseOffices_L23
      rw [if_neg (show ¬ (1 : Int32) = 0 by decide)]
      have et : p_X4_takeNumber q2 E 1 99 = (0, q2) := by
        unfold p_X4_takeNumber
        rw [if_neg a1]
      rw [et]
      unfold p_X4_parseOffices_L60
      rw [if_pos rfl]
      split <;> rfl
  · have e13 : ∀ rc x1, p_X4_parseOffices_L13 rc ((1, (s_X3_advance q.1 E, q.2.1, q.2.2)) : Int32 × PS).2 E x1 ((1, (s_X3_advance q.1 E, q.2.1, q.2.2)) : Int32 × PS).1 = (0, (s_X3_advance q.1 E, q.2.1, q.2.2)) := by
      intro rc x1
      unfold p_X4_parseOffices_L13
      rw [if_neg (show ¬ (1 : Int32) = 0 by decide), c1]
      unfold p_X4_parseOffices_L23
      rw [if_pos rfl]
    refine ⟨X2, ?_, Or.inr ⟨_, F2, e13⟩⟩
    unfold o_X10_readOffice_L82
    rw [f_off83 F2]
    by_cases z1 : X2 8 6 = 2
    · rw [if_pos z1]
      by_cases z2 : v_X10_in (X2 8 7) 1 99 = 0
      · rw [if_pos z2]
      · rw [if_neg z2, x21, q_isNamed hD.1.1.1, Option.bind_some, f_off83 F2]
        split <;> rfl
    · rw [if_neg z1]
/-- all the offices -/
theorem g_offs (hT : TF n T E Xb) (xx : Int32) : ∀ d c (q : PS) (X : SM) f1 f2, c + d = 10 → GS n Xb q X → DO c q.2.2 (X 1) → d + 1 < f1 → d < f2 → ∃ X' q', o_X10_load_L102 f1 X xx = o_X10_load_L135 4000 X' xx ∧ ((p_X4_parseOffices_L2 f2 q E (iN c) = (1, q') ∧ (∃ c', 2 ≤ c' ∧ GS n Xb q' X' ∧ DO c' q'.2.2 (X' 1))) ∨ (p_X4_parseOffices_L2 f2 q E (iN c) = (0, q') ∧ FS (q'.1 0) Xb X') ∨ (p_X4_parseOffices_L2 f2 q E (iN c) = (1, q') ∧ q'.1 2 = 3 ∧ FS (q'.1 0) Xb X')) := by
  have h12 := hT.1
  have hF : ∀ (e : Int32) (X : SM) f, FS e Xb X → 0 < f → o_X10_load_L102 f X xx = o_X10_load_L135 4000 X xx := by
    intro e X f hf h0
    obtain ⟨f, rfl⟩ := some_succ h0
    rw [o_X10_load_L102, hf.1, if_neg (show ¬ (1 : Int32) = 0 by decide)]
  intro d
  induction d with
  | zero =>
    intro c q X f1 f2 hc h hD h1 h2
    obtain ⟨f1, rfl⟩ := some_succ h1
    obtain ⟨f2, rfl⟩ := some_succ h2
    have hc10 : c = 10 := by omega
    subst hc10
    have e116 : p_X4_parseOffices_L116 q E (iN 10) = (1, q) := by
      unfold p_X4_parseOffices_L116
      rw [hD.1.ec, if_neg (show ¬ iN 10 < 2 by decide)]
    rw [o_X10_load_L102, p_X4_parseOffices_L2, if_pos h.2.1, nK4, hD.1.mc, if_neg (show ¬ iN 10 < 2 by decide), if_neg (show ¬ iN 10 < 10 by decide), e116]
    rcases h.is (w := 3) (by decide) with ⟨a1, a2⟩ | ⟨a1, a2⟩
    · have a2' : o_X10_is X 218546996 = some 1 := a2
      obtain ⟨X1, e1, F1, x1⟩ := h.takes0 h12
      have er : o_X10_readOffice X = some X1 := by
        unfold o_X10_readOffice o_X10_readOffice_L25
        rw [a2', Option.bind_some, if_neg (show ¬ (1 : Int32) = 0 by decide), nK4, hD.1.mc, if_neg (show ¬ iN 10 < 10 by decide), L26_n e1]
      rw [a2', Option.bind_some, if_neg (show ¬ (1 : Int32) = 0 by decide), er, Option.bind_some, hF _ X1 f1 F1 (by omega)]
      exact ⟨X1, q, rfl, Or.inr (Or.inr ⟨rfl, a1, F1⟩)⟩
    · have a2' : o_X10_is X 218546996 = some 0 := a2
      rw [a2', Option.bind_some, if_pos rfl]
      exact ⟨X, q, rfl, Or.inl ⟨rfl, 10, by decide, h, hD⟩⟩
  | succ d ih =>
    intro c q X f1 f2 hc h hD h1 h2
    obtain ⟨f1, rfl⟩ := some_succ h1
    obtain ⟨f2, rfl⟩ := some_succ h2
    have hc10 : c < 10 := by omega
    rw [o_X10_load_L102, p_X4_parseOffices_L2, if_pos h.2.1, nK4, hD.1.mc, if_pos (show iN c < 10 from iN_ylt (b := 10) hc10 (by decide))]
    rcases h.is (w := 3) (by decide) with ⟨a1, a2⟩ | ⟨a1, a2⟩
    · have a2' : o_X10_is X 218546996 = some 1 := a2
      obtain ⟨X1, e1, hz⟩ := g_office hT h hD hc10 a1
      have eo : (if iN c < 2 then (o_X10_readOffice X).bind (fun r1 => o_X10_load_L102 f1 r1 xx) else (o_X10_is X 218546996).bind (fun r2 => if r2 = 0 then o_X10_load_L135 4000 X xx else (o_X10_readOffice X).bind (fun r3 => o_X10_load_L102 f1 r3 xx))) = o_X10_load_L102 f1 X1 xx := by
        rw [e1, a2', Option.bind_some, Option.bind_some, if_neg (show ¬ (1 : Int32) = 0 by decide), ite_self]
      rw [eo]
      rcases hz with ⟨q', g1, g2, g3⟩ | ⟨q', g1, g2⟩
      · rw [g3, iN_s]
        exact ih (c + 1) q' X1 f1 f2 (by omega) g1 g2 (by omega) (by omega)
      · rw [g2, hF _ X1 f1 g1 (by omega)]
        exact ⟨X1, q', rfl, Or.inr (Or.inl ⟨rfl, g1⟩)⟩
    · have a2' : o_X10_is X 218546996 = some 0 := a2
      have a1' : q.1 2 ≠ 3 := a1
      rw [take_n a1']
      unfold p_X4_parseOffices_L13 p_X4_parseOffices_L116
      rw [if_pos rfl, hD.1.ec]
      by_cases z : c < 2
      · obtain ⟨X1, e1, F1, x1⟩ := h.takes0 h12
        have er : o_X10_readOffice X = some X1 := by
          unfold o_X10_readOffice o_X10_readOffice_L25
          rw [a2', Option.bind_some, if_pos rfl, L26_n e1]
        rw [if_pos (show iN c < 2 from iN_ylt (b := 2) z (by decide)), if_pos (show iN c < 2 from iN_ylt (b := 2) z (by decide)), er, Option.bind_some, hF _ X1 f1 F1 (by omega)]
        exact ⟨X1, q, rfl, Or.inr (Or.inl ⟨rfl, F1⟩)⟩
      · have z' : ¬ iN c < 2 := fun u => z ((iN_lt (b := 2) (by omega) (by decide)).mp u)
        rw [if_neg z', if_neg z', a2', Option.bind_some, if_pos rfl]
        exact ⟨X, q, rfl, Or.inl ⟨rfl, c, by omega, h, hD⟩⟩
end GM
