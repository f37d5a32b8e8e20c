-- PART 24: the two new objects stand alike
theorem dpZ0 : DP 0 zS (zS 0) := by
  refine ⟨⟨⟨by decide, rfl, rfl, fun o h => absurd h (Nat.not_lt_zero _)⟩, ⟨by decide, rfl, rfl, rfl, fun t h => absurd h (Nat.not_lt_zero _)⟩, ⟨0, 0, by decide, by decide, rfl, rfl, rfl, fun i h => absurd h (Nat.not_lt_zero _)⟩, ⟨fun k _ => rfl, fun k _ => rfl, rfl, rfl⟩⟩, ⟨by decide, rfl, fun o h => absurd h (Nat.not_lt_zero _)⟩, ⟨by decide, rfl, ⟨0, by decide, rfl⟩, fun t h => absurd h (Nat.not_lt_zero _)⟩, rfl, fun k h => absurd h (Nat.not_lt_zero _)⟩
theorem dpZ3 : DP 3 (sU zS 0 (upd (upd (upd (zS 0) 0 6) 1 10) 2 30)) (upd (upd (upd (zS 0) 0 6) 1 10) 2 30) := by
  have h1 := dpZ0.step (a := 6) (by decide) (by decide) (by decide)
  have h2 := h1.step (a := 10) (by decide) (by decide) (by decide)
  have h3 := h2.step (a := 30) (by decide) (by decide) (by decide)
  rw [sU_eq, sU_eq, sU_sU, sU_sU] at h3
  exact h3
theorem beg_eq : s_X6_beginAsNew zS = s_X8_add (s_X2_add (s_X2_add (s_X2_add (sU zS 0 (upd (upd (upd (zS 0) 0 6) 1 10) 2 30)) 2 40 1) 3 70 1) 1 20 1) 0 := by
  unfold s_X6_beginAsNew s_X6_beginAsNew_L10 s_X6_beginAsNew_L20 s_X6_beginAsNew_L30 s_X6_beginAsNew_L41 s_X6_beginAsNew_L52 s_X6_beginAsNew_L63
  rw [sU_eq, sU_sU, sU_eq, sU_sU, show put_ 3 (zS 0) 0 6 = upd (zS 0) 0 6 from put_in (i := 0) (by decide) (by decide), show put_ 3 (upd (zS 0) 0 6) 1 10 = upd (upd (zS 0) 0 6) 1 10 from put_in (i := 1) (by decide) (by decide), show put_ 3 (upd (upd (zS 0) 0 6) 1 10) 2 30 = upd (upd (upd (zS 0) 0 6) 1 10) 2 30 from put_in (i := 2) (by decide) (by decide)]
theorem st_new : ∃ (r1 r2 r3 : Nat → Int32) (r4 : Int32 × (Nat → Int32)), o_X10_addOffice (upd (upd (upd (zS 0) 0 6) 1 10) 2 30) 2 40 1 = some r1 ∧ o_X10_addOffice r1 3 70 1 = some r2 ∧ o_X10_addOffice r2 1 20 1 = some r3 ∧ o_X10_addToken r3 0 = some r4 ∧ DE (s_X6_beginAsNew zS) r4.2 := by
  have h0 : DO 0 _ _ := ⟨dpZ3.end, dpZ3.2.2.2.1⟩
  obtain ⟨r1, e1, h1⟩ := h0.add (by decide) (wy := 2) (nm := 40) (by decide) (by decide) (by decide) (by decide) (x := 1) (Or.inr rfl)
  obtain ⟨r2, e2, h2⟩ := h1.add (by decide) (wy := 3) (nm := 70) (by decide) (by decide) (by decide) (by decide) (x := 1) (Or.inr rfl)
  obtain ⟨r3, e3, h3⟩ := h2.add (by decide) (wy := 1) (nm := 20) (by decide) (by decide) (by decide) (by decide) (x := 1) (Or.inr rfl)
  obtain ⟨r4, e4, h4⟩ := h3.tok (by decide) (o := 0) (by decide) (by
    rw [(v_offAdd h2.1.ec (by decide) (iN 1) (iN 20) 1).2.2.1, upd_ne (by decide), (v_offAdd h1.1.ec (by decide) (iN 3) (iN 70) 1).2.2.1, upd_ne (by decide), (v_offAdd h0.1.ec (by decide) (iN 2) (iN 40) 1).2.2.1, upd_eq])
  refine ⟨r1, r2, r3, r4, e1, e2, e3, e4, ?_⟩
  rw [beg_eq]
  exact h4
theorem Y2_0 : Y2 0 = s_X6_beginAsNew zS := yU_eq _ _ _
theorem Y2_k {k : Nat} (h : k ≠ 0) : Y2 k = Y1 k := yU_ne h
theorem t_start : ∃ (r1 r2 r3 : Nat → Int32) (r4 : Int32 × (Nat → Int32)), o_X10_addOffice (upd (upd (upd (zS 0) 0 6) 1 10) 2 30) 2 40 1 = some r1 ∧ o_X10_addOffice r1 3 70 1 = some r2 ∧ o_X10_addOffice r2 1 20 1 = some r3 ∧ o_X10_addToken r3 0 = some r4 ∧ Top 1 Y2 (sU X1 0 r4.2) := by
  obtain ⟨r1, r2, r3, r4, e1, e2, e3, e4, c, tc, hc, hI, h18⟩ := st_new
  refine ⟨r1, r2, r3, r4, e1, e2, e3, e4, ?_, ?_, ?_, ?_, ?_⟩
  · rw [Y2_0, sU_eq]
    exact ⟨c, tc, hc, hI, 0, by decide, h18⟩
  · refine ⟨0, 0, by decide, by decide, ?_, ?_, rfl, fun i h => absurd h (Nat.not_lt_zero _)⟩
    · rw [Y2_k (by decide)]
      rfl
    · rw [Y2_k (by decide)]
      rfl
  · intro i hi
    rw [Y2_k (by decide)]
    exact ⟨rfl, fun z => absurd rfl z⟩
  · unfold Tap
    rw [Y2_k (by decide)]
    exact ⟨0, by decide, rfl, rfl, fun k h => absurd h (Nat.not_lt_zero _)⟩
  · rw [Y2_k (by decide)]
    rfl
