-- PART 16e: keep, restore, undo
section OP5
variable {c tc B B' k : Nat} {S S' : SM} {m m' : Nat → Int32} {X X' : SM} {Y Y' : RS} {o t i : Nat}
theorem within01n {x : Int32} (h : ¬ v_X9_isWithin x 0 1 = 0) : ∃ n, n < 2 ∧ x = iN n := by
  obtain ⟨n, -, hn, e⟩ := within_iN (a := 0) (b := 1) (by decide) (by decide) h
  exact ⟨n, by omega, e⟩
theorem Good.tm (h : Good B S m) : m 3 = S 18 0 := by
  obtain ⟨c, tc, -, hI, -⟩ := h
  exact hI.1.2.2.2.2.2.1
theorem t_keep (h : Top B Y X) (x1 : Int32) : OpR B (p_X9_keep Y x1) (o_X10_keep X x1) := by
  unfold p_X9_keep o_X10_keep
  rw [in_within]
  by_cases q : v_X9_isWithin x1 0 1 = 0
  · rw [if_pos q, if_pos q]
    exact OpR.same h _
  rw [if_neg q, if_neg q]
  obtain ⟨n, hn, rfl⟩ := within01n q
  have e1 : (336 : Int32) * iN n = iN (336 * n) := iN_mul 336 n
  have el := lay2 (n := 672) (n0 := 336) (a := 0) (b := 336 * n) (f := X 0) (g := X 4) (by decide) (by omega) (by decide) (by decide)
  have el' : o_X10_layRow2 672 336 (X 0) (X 4) 0 (iN (336 * n)) = _ := el
  rw [e1, el', Option.bind_some]
  simp only [lt1]
  rw [if_pos (gin_iN (by omega) (by omega)), iN_nat (by omega), sU_ne (show (5 : Nat) ≠ 4 by decide), sU_ne (show (0 : Nat) ≠ 5 by decide), sU_ne (show (0 : Nat) ≠ 4 by decide), nK3]
  have ef : s_X5_fill Y (iN n) = yU (yU Y (13 + n) (Y 0)) 4 (sU (Y 4) 2 (upd (Y 4 2) n 1)) := by
    unfold s_X5_fill
    rw [if_neg (iN_neg (by omega)), if_pos (show iN n < 2 from iN_ylt (b := 2) hn (by decide)), show Int32.toNatClampNeg (iN n) = n from iN_nat (by omega), yU_ne (show (4 : Nat) ≠ 13 + n by omega)]
    rfl
  unfold p_X9_keep_L23
  rw [ef, yU_ne (show (0 : Nat) ≠ 4 by decide), yU_ne (show (0 : Nat) ≠ 13 + n by omega), h.1.tm]
  refine ⟨_, rfl, ?_⟩
  show Top B (yU (yU Y (13 + n) (Y 0)) 4 (sU (Y 4) 2 (upd (Y 4 2) n 1))) _
  refine ⟨?_, ?_, ?_, ?_, ?_⟩
  · rw [yU_ne (show (0 : Nat) ≠ 4 by decide), yU_ne (show (0 : Nat) ≠ 13 + n by omega), sU_ne (show (0 : Nat) ≠ 5 by decide), sU_ne (show (0 : Nat) ≠ 4 by decide)]
    exact h.1
  · exact h.2.1.fr (fun k a b => by rw [yU_ne (by omega), yU_ne (by omega)]) (by rw [yU_eq, sU_ne (by decide)]) (by rw [yU_eq, sU_ne (by decide)]) (by rw [sU_ne (by decide), sU_ne (by decide)]) (by rw [sU_ne (by decide), sU_ne (by decide)])
  · intro i hi
    rw [yU_eq, sU_eq, sU_eq, yU_ne (show 13 + i ≠ 4 by omega), sU_ne (show (4 : Nat) ≠ 5 by decide), sU_eq]
    by_cases qi : i = n
    · subst qi
      rw [upd_eq, upd_eq, yU_eq]
      refine ⟨rfl, fun _ => h.1.cong (fun k hk => ?_)⟩
      unfold seg cpy
      rw [if_pos (by omega), show 0 + (336 * i + k - 336 * i) = k by omega]
    · rw [upd_ne qi, upd_ne qi, yU_ne (show 13 + i ≠ 13 + n by omega)]
      have hs := h.2.2.1 i hi
      refine ⟨hs.1, fun z => (hs.2 z).cong (fun k hk => ?_)⟩
      unfold seg cpy
      rw [if_neg (by omega)]
  · exact h.2.2.2.1.fr (by rw [yU_ne (by decide), yU_ne (by omega)]) (by rw [sU_ne (by decide), sU_ne (by decide)]) (by rw [sU_ne (by decide), sU_ne (by decide)])
  · rw [yU_eq, sU_ne (by decide), sU_ne (by decide), sU_ne (by decide)]
    exact h.2.2.2.2
theorem t_restore (h : Top B Y X) (x1 : Int32) : OpR B (p_X9_restore Y x1) (o_X10_restore X x1) := by
  unfold p_X9_restore o_X10_restore
  rw [in_within]
  by_cases q : v_X9_isWithin x1 0 1 = 0
  · rw [if_pos q, if_pos q]
    exact OpR.same h _
  rw [if_neg q, if_neg q]
  obtain ⟨n, hn, rfl⟩ := within01n q
  rw [if_pos (gin_iN (by omega) (by omega)), iN_nat (by omega), (h.2.2.1 n hn).1]
  by_cases q2 : X 5 n = 0
  · rw [if_pos q2, if_pos q2]
    exact OpR.same h _
  rw [if_neg q2, if_neg q2]
  obtain ⟨X1, ek, hT1, x0, y0, x4, x5, y13⟩ := t_keepUndo h
  have e1 : (336 : Int32) * iN n = iN (336 * n) := iN_mul 336 n
  have el := lay2 (n := 336) (n0 := 672) (a := 336 * n) (b := 0) (f := X1 4) (g := X1 0) (by omega) (by decide) (by decide) (by decide)
  have el' : o_X10_layRow2 336 672 (X1 4) (X1 0) (iN (336 * n)) 0 = _ := el
  rw [ek, Option.bind_some, e1, el', Option.bind_some]
  simp only [lt1]
  have hG : Good B (s_X0_remember Y (13 + n)) (cpy (X1 4) (336 * n) 0 336 (X1 0)) := by
    rw [y13 (13 + n) (by omega) (by omega), x4]
    refine ((h.2.2.1 n hn).2 q2).cong (fun k hk => ?_)
    unfold seg cpy
    rw [if_pos (by omega), Nat.sub_zero]
  unfold p_restore2
  simp only [lt1]
  rw [sU_eq, nK3, hG.tm, yU_eq]
  exact ⟨_, rfl, hT1.now (Nat.le_refl B) hG⟩
theorem t_undo (h : Top B Y X) : OpR B (p_X9_undo Y) (o_X10_undo X) := by
  obtain ⟨hG, ⟨hn, hc, g1, g2, g3, g4, g5, g6⟩, hS, hT, hE⟩ := h
  unfold p_X9_undo o_X10_undo
  rw [g4, g5]
  by_cases q : hc = 0
  · subst q
    rw [if_pos (show iN 0 = 0 from rfl), if_pos (show iN 0 = 0 from rfl)]
    exact ⟨X, rfl, hG, ⟨hn, 0, g1, g2, g3, g4, g5, g6⟩, hS, hT, hE⟩
  have q0 : ¬ iN hc = 0 := fun z => q ((iN_0 (by omega)).mp z)
  rw [if_neg q0, if_neg q0, iN_1 (by omega)]
  simp only [lt1]
  have e1 : (336 : Int32) * iN (hc - 1) = iN (336 * (hc - 1)) := iN_mul 336 (hc - 1)
  have el := lay2 (n := 336) (n0 := 2688) (a := 336 * (hc - 1)) (b := 0) (f := X 3) (g := X 0) (by omega) (by decide) (by decide) (by decide)
  have el' : o_X10_layRow2 336 2688 (X 3) (X 0) (iN (336 * (hc - 1))) 0 = _ := el
  rw [sU_eq, upd_eq, sU_ne (show (3 : Nat) ≠ 8 by decide), sU_ne (show (0 : Nat) ≠ 8 by decide), e1, el', Option.bind_some, sU_ne (show (8 : Nat) ≠ 0 by decide), sU_eq, upd_eq]
  have en : jrem (iN hn + 8 - 1) 8 = iN ((hn + 7) % 8) := by
    rw [show iN hn + 8 = iN (hn + 8) from iN_add hn 8, iN_1 (by omega), show (8 : Int32) = iN 8 from rfl, iN_rem (by omega) (by decide), show hn + 8 - 1 = hn + 7 by omega]
  have hm : (hn + 7) % 8 < 8 := Nat.mod_lt _ (by decide)
  obtain ⟨Z, hZ⟩ : ∃ Z, yF (yF Y 2 (iN ((hn + 7) % 8))) 3 (iN (hc - 1)) = Z := ⟨_, rfl⟩
  have zk : ∀ k, k ≠ 4 → Z k = Y k := fun k hk => by rw [← hZ, yF_k _ _ _ hk, yF_k _ _ _ hk]
  have z2 : Z 4 0 2 = iN ((hn + 7) % 8) := by rw [← hZ, yF_4, upd_ne (by decide), yF_4, upd_eq]
  have z3 : Z 4 0 3 = iN (hc - 1) := by rw [← hZ, yF_4, upd_eq]
  have z0 : Z 4 0 0 = Y 4 0 0 := by rw [← hZ, yF_4, upd_ne (by decide), yF_4, upd_ne (by decide)]
  have z42 : Z 4 2 = Y 4 2 := by rw [← hZ, yF_42, yF_42]
  have et : s_X0_takeBack Y = yU Z 0 (Y (5 + (hn + 7) % 8)) := by
    unfold s_X0_takeBack s_X0_takeBack_L24 s_X0_takeBack_L34
    have e3 : yF Y 2 (iN ((hn + 7) % 8)) 4 0 3 = iN hc := by rw [yF_4, upd_ne (show (3 : Nat) ≠ 2 by decide), g4]
    rw [g4, if_neg q0, g3, en, e3, iN_1 (by omega), hZ, z2, if_neg (iN_neg (by omega)), if_pos (show iN ((hn + 7) % 8) < 8 from iN_ylt (b := 8) hm (by decide)), show Int32.toNatClampNeg (iN ((hn + 7) % 8)) = (hn + 7) % 8 from iN_nat (by omega), zk _ (by omega)]
  have hG' : Good B (Y (5 + (hn + 7) % 8)) (cpy (X 3) (336 * (hc - 1)) 0 336 (X 0)) := by
    have := g6 (hc - 1) (by omega)
    rw [show (hn + 8 - hc + (hc - 1)) % 8 = (hn + 7) % 8 by omega] at this
    refine this.cong (fun k hk => ?_)
    unfold seg cpy
    rw [if_pos (by omega), Nat.sub_zero]
  unfold p_X9_undo_L23
  rw [et, yU_ne (show (4 : Nat) ≠ 0 by decide), z3]
  refine ⟨_, rfl, ?_⟩
  show Top B (yU Z 0 (Y (5 + (hn + 7) % 8))) _
  refine ⟨?_, ?_, ?_, ?_, ?_⟩
  · rw [yU_eq, sU_eq]
    exact hG'
  · refine ⟨(hn + 7) % 8, hc - 1, hm, by omega, by rw [yU_ne (by decide)]; exact z2, by rw [yU_ne (by decide)]; exact z3, by rw [sU_ne (by decide), sU_eq, upd_eq], fun i hi => ?_⟩
    rw [yU_ne (by omega), zk _ (by omega), sU_ne (by decide), sU_ne (by decide)]
    have := g6 i (by omega)
    rw [show ((hn + 7) % 8 + 8 - (hc - 1) + i) % 8 = (hn + 8 - hc + i) % 8 by omega]
    exact this
  · exact hS.fr (fun k a b => by rw [yU_ne (by omega), zk _ (by omega)]) (by rw [yU_ne (by decide)]; exact z42) rfl rfl
  · exact hT.fr (by rw [yU_ne (by decide), zk _ (by decide)]) rfl rfl
  · rw [yU_ne (by decide), z0, hE]
    rfl
end OP5
