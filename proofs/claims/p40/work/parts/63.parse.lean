-- PART 63: the parser reads just what a setup text says
def OVd (os : List (Nat × Nat × Nat)) : Prop := (∀ o, o ∈ os → 1 ≤ o.1 ∧ o.1 ≤ 9 ∧ 1 ≤ o.2.1 ∧ o.2.1 ≤ 99 ∧ o.2.2 ≤ 1) ∧ os.Pairwise (fun a b => a.2.1 ≠ b.2.1)
def LVd (c : Nat) : (Nat → Nat) → List (Nat × Nat × Nat) → Prop
  | _, [] => True
  | cnt, x :: xs => x.1 < c ∧ x.2.1 < c ∧ x.2.1 ≠ x.1 ∧ 1 ≤ x.2.2 ∧ x.2.2 ≤ 9 ∧ cnt x.1 < 6 ∧ LVd c (fun i => if i = x.1 then cnt i + 1 else cnt i) xs
section PB
variable {T R : List Nat} {E : SM} {q : PS} {S : SM} {M : NM} {c : Nat → Int32} {k v w x n z : Nat}
theorem oaN_get (M : NM) (o : Nat × Nat × Nat) (j b : Nat) : oaN M o j b = if j = 18 ∧ b = 2 then M 18 2 + 1 else if j = 7 ∧ b = M 18 2 then 0 else if j = 6 ∧ b = M 18 2 then 0 else if j = 5 ∧ b = M 18 2 then 0 else if j = 4 ∧ b = M 18 2 then o.2.2 else if j = 3 ∧ b = M 18 2 then o.2.1 else if j = 2 ∧ b = M 18 2 then o.1 else M j b := rfl
theorem oaN_c (M : NM) (o : Nat × Nat × Nat) : oaN M o 18 2 = M 18 2 + 1 := (oaN_get M o 18 2).trans (if_pos ⟨rfl, rfl⟩)
theorem oaN_j {j : Nat} (h : j < 2 ∨ 7 < j) (hb : ¬ (j = 18 ∧ n = 2)) (o : Nat × Nat × Nat) : oaN M o j n = M j n := by
  rw [oaN_get, if_neg hb, if_neg (by omega), if_neg (by omega), if_neg (by omega), if_neg (by omega), if_neg (by omega), if_neg (by omega)]
theorem oaN_3 (o : Nat × Nat × Nat) : oaN M o 3 n = if n = M 18 2 then o.2.1 else M 3 n := by
  rw [oaN_get, if_neg (by omega), if_neg (by omega), if_neg (by omega), if_neg (by omega), if_neg (by omega)]
  by_cases q : n = M 18 2
  · rw [if_pos ⟨rfl, q⟩, if_pos q]
  · rw [if_neg (fun y => q y.2), if_neg q, if_neg (by omega)]
theorem Sx.k3 (h : Sx T c 7 v R) : c 3 = iN v := by
  obtain ⟨P, e, h1, h2, h3⟩ := h
  exact h3 rfl
theorem Sx.kk (h : Sx T c k v R) : c 2 = iN k := by
  obtain ⟨P, e, h1, h2, h3⟩ := h
  exact h2
theorem tk0 {d : Int32} {q2 : PS} (rc : PS → SM → Int32 → Int32 × PS) : True := trivial
/-- the offices -/
theorem pr_offs (hT : TPE T E) (hN : ∀ c, Sx T c 8 0 R → ∃ k v R2, Sx T (s_X3_advance c E) k v R2 ∧ k ≤ 10 ∧ k ≠ 3) : ∀ (os : List (Nat × Nat × Nat)) (i : Nat) (q : PS) (M : NM) (f : Nat), PD T E q (ofsR os R) → LL q.2.2 M → M 18 2 = i → i + os.length ≤ 10 → 2 ≤ i + os.length → OVd os → (∀ j, j < i → M 3 j ≤ 99 ∧ ∀ o, o ∈ os → M 3 j ≠ o.2.1) → os.length < f → ∃ q2, p_X4_parseOffices_L2 f q E (iN i) = (1, q2) ∧ PD T E q2 R ∧ LL q2.2.2 (oasN M os) := by
  intro os
  induction os with
  | nil =>
    intro i q M f hP hL hc h10 h2 hO hM hf
    obtain ⟨f, rfl⟩ := some_succ hf
    have e116 : p_X4_parseOffices_L116 q E (iN i) = (1, q) := by
      unfold p_X4_parseOffices_L116
      rw [hL.c, hc, if_neg (show ¬ iN i < 2 from iN_nlt' (b := 2) (by simpa using h2) (by simp at h10; omega))]
    refine ⟨q, ?_, hP, hL⟩
    rw [p_X4_parseOffices_L2]
    by_cases q10 : i < 10
    · rw [if_pos (show iN i < 10 from iN_ylt' (b := 10) q10 (by decide))]
      obtain ⟨c, e, hc8⟩ := hP
      obtain ⟨k, v, R2, hk, hk10, hk3⟩ := hN c hc8
      rw [← e] at hk
      have ht : p_X4_take q E 3 = (0, q) := tk_n (n := 3) hk hk10 (by decide) hk3
      rw [ht]
      unfold p_X4_parseOffices_L13
      rw [if_pos rfl]
      exact e116
    · rw [if_neg (show ¬ iN i < 10 from iN_nlt' (b := 10) (by omega) (by simp at h10; omega))]
      exact e116
  | cons o os ih =>
    intro i q M f hP hL hc h10 h2 hO hM hf
    obtain ⟨f, rfl⟩ := some_succ hf
    have hl : (o :: os).length = os.length + 1 := rfl
    obtain ⟨hO1, hO2⟩ := hO
    obtain ⟨w1, w9, n1, n99, hop⟩ := hO1 o List.mem_cons_self
    obtain ⟨hO3, hO4⟩ := List.pairwise_cons.mp hO2
    obtain ⟨c, e, hc8⟩ := hP
    have hc8 : Sx T c 8 0 ([] ++ (stx 3 ++ ([32] ++ (dcN o.1 ++ ([32] ++ (dcN o.2.1 ++ (if o.2.2 = 1 then 59 :: ofsR os R else [32] ++ (stx 4 ++ (59 :: ofsR os R))))))))) := hc8
    have a1 := hc8.word hT (Or.inl rfl) (by decide) (nb_32 s32.1 _)
    rw [← e] at a1
    have a2 := a1.num hT (Or.inr rfl) (by omega) (nb_32 s32.2.1 _)
    have hnb : nb dgt (if o.2.2 = 1 then 59 :: ofsR os R else [32] ++ (stx 4 ++ (59 :: ofsR os R))) := by
      split
      · exact nb_59 s32.2.2.2 _
      · exact nb_32 s32.2.1 _
    have a3 := a2.num hT (Or.inr rfl) (by omega) hnb
    -- what follows the name
    have fin : ∃ c2 op, op = iN o.2.2 ∧ Sx T c2 8 0 (ofsR os R) ∧ p_X4_parseOffices_L75 (p_X4_parseOffices_L2 f) ((p_X4_take (s_X3_advance (s_X3_advance (s_X3_advance q.1 E) E) E, iN o.2.1, q.2.2) E 4).2) E (iN i) (iN o.1) (iN o.2.1) ((p_X4_take (s_X3_advance (s_X3_advance (s_X3_advance q.1 E) E) E, iN o.2.1, q.2.2) E 4).1) = p_X4_parseOffices_L91 (p_X4_parseOffices_L2 f) (s_X3_advance c2 E, iN o.2.1, q.2.2) E (iN i) (iN o.1) (iN o.2.1) op 1 := by
      by_cases ho : o.2.2 = 1
      · rw [if_pos ho] at a3
        have a4 := a3.semi hT
        refine ⟨_, 1, by rw [ho]; rfl, a4, ?_⟩
        have t4 : p_X4_take (s_X3_advance (s_X3_advance (s_X3_advance q.1 E) E) E, iN o.2.1, q.2.2) E 4 = (0, _) := tk_n (n := 4) a4 (by decide) (by decide) (by decide)
        rw [t4]
        unfold p_X4_parseOffices_L75
        rw [if_pos rfl]
        have t8 : p_X4_take (s_X3_advance (s_X3_advance (s_X3_advance q.1 E) E) E, iN o.2.1, q.2.2) E 8 = (1, _) := tk_y (k := 8) a4
        rw [t8]
      · rw [if_neg ho] at a3
        have a4 := a3.word hT (Or.inr rfl) (by decide) (nb_59 s32.2.2.1 _)
        have a5 := a4.semi hT
        refine ⟨_, 0, by rw [show o.2.2 = 0 by omega]; rfl, a5, ?_⟩
        have t4 : p_X4_take (s_X3_advance (s_X3_advance (s_X3_advance q.1 E) E) E, iN o.2.1, q.2.2) E 4 = (1, _) := tk_y (k := 4) a4
        rw [t4]
        unfold p_X4_parseOffices_L75
        rw [if_neg (show ¬ (1 : Int32) = 0 by decide)]
        have t8 : p_X4_take (s_X3_advance (s_X3_advance (s_X3_advance (s_X3_advance q.1 E) E) E) E, iN o.2.1, q.2.2) E 8 = (1, _) := tk_y (k := 8) a5
        rw [t8]
    obtain ⟨c2, op, eop, hx, e75⟩ := fin
    subst eop
    have hc2 : oaN M o 18 2 = i + 1 := by rw [oaN_c, hc]
    obtain ⟨q2, z1, z2, z3⟩ := ih (i + 1) (s_X3_advance c2 E, iN o.2.1, s_X2_add q.2.2 (iN o.1) (iN o.2.1) (iN o.2.2)) (oaN M o) f ⟨c2, rfl, hx⟩ (hL.addO (by omega) o) hc2 (by omega) (by omega) ⟨fun p hp => hO1 p (List.mem_cons_of_mem _ hp), hO4⟩ (fun j hj => by
      rw [oaN_3, hc]
      by_cases y : j = i
      · rw [if_pos y]
        exact ⟨n99, fun p hp => hO3 p hp⟩
      · rw [if_neg y]
        obtain ⟨y1, y2⟩ := hM j (by omega)
        exact ⟨y1, fun p hp => y2 p (List.mem_cons_of_mem _ hp)⟩) (by omega)
    refine ⟨q2, ?_, z2, z3⟩
    rw [p_X4_parseOffices_L2, if_pos (show iN i < 10 from iN_ylt' (b := 10) (by omega) (by decide))]
    have t3 : p_X4_take q E 3 = (1, _) := tk_y (k := 3) a1
    rw [t3]
    unfold p_X4_parseOffices_L13
    rw [if_neg (show ¬ (1 : Int32) = 0 by decide)]
    have t9 : p_X4_takeNumber (s_X3_advance q.1 E, q.2.1, q.2.2) E 1 9 = (1, _) := tkn_y (lo := 1) (hi := 9) a2 w1 w9 (by decide)
    rw [t9]
    unfold p_X4_parseOffices_L23
    rw [if_neg (show ¬ (1 : Int32) = 0 by decide)]
    have tn : v_X2_isNameTaken q.2.2 ((s_X3_advance (s_X3_advance q.1 E) E) 3) = 0 := by
      rw [a3.k3]
      exact (hL.taken (by omega) (fun j hj => (hM j (by omega)).1) n99).mpr (fun j hj => (hM j (by omega)).2 o List.mem_cons_self)
    rw [if_pos tn]
    have t99 : p_X4_takeNumber (s_X3_advance (s_X3_advance q.1 E) E, iN o.1, q.2.2) E 1 99 = (1, _) := tkn_y (lo := 1) (hi := 99) a3 n1 n99 (by decide)
    rw [t99]
    unfold p_X4_parseOffices_L60
    rw [if_neg (show ¬ (1 : Int32) = 0 by decide)]
    show p_X4_parseOffices_L75 (p_X4_parseOffices_L2 f) ((p_X4_take (s_X3_advance (s_X3_advance (s_X3_advance q.1 E) E) E, iN o.2.1, q.2.2) E 4).2) E (iN i) (iN o.1) (iN o.2.1) ((p_X4_take (s_X3_advance (s_X3_advance (s_X3_advance q.1 E) E) E, iN o.2.1, q.2.2) E 4).1) = (1, q2)
    rw [e75]
    unfold p_X4_parseOffices_L91
    rw [if_neg (show ¬ (1 : Int32) = 0 by decide), iN_s]
    exact z1
end PB
