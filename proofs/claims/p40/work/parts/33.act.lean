-- PART 33: what a token's minute leaves (whole numbers alone)
section NA
variable {M N M' : NM} {B o p i t u k : Nat}
theorem rmN_j {j : Nat} (h7 : j ≠ 7) (h8 : j ≠ 8) (h9 : j ≠ 9) (o i b : Nat) : rmN M o i j b = M j b := by
  unfold rmN
  rw [if_neg (fun z => by rcases z.1 with z | z <;> omega), if_neg (fun z => h7 z.1)]
theorem rmN_7 (o i b : Nat) : rmN M o i 7 b = if b = o then M 7 o - 1 else M 7 b := by
  unfold rmN
  rw [if_neg (fun z => by rcases z.1 with z | z <;> omega)]
  by_cases q : b = o
  · rw [if_pos ⟨rfl, q⟩, if_pos q]
  · rw [if_neg (fun z => q z.2), if_neg q]
theorem rmN_q {j : Nat} (hj : j = 8 ∨ j = 9) (hw : M 7 o ≤ 6) (hp : p ≠ o) {i' : Nat} (hi : i' < 6) : rmN M o i j (6 * p + i') = M j (6 * p + i') := by
  unfold rmN
  rw [if_neg (fun z => by omega), if_neg (fun z => by omega)]
theorem rmN_o {j : Nat} (hj : j = 8 ∨ j = 9) (i' : Nat) : rmN M o i j (6 * o + i') = if i ≤ i' ∧ i' + 1 < M 7 o then M j (6 * o + (i' + 1)) else M j (6 * o + i') := by
  unfold rmN
  by_cases q : i ≤ i' ∧ i' + 1 < M 7 o
  · rw [if_pos q, if_pos ⟨hj, by omega, by omega⟩, Nat.add_assoc]
  · rw [if_neg q, if_neg (fun z => q ⟨by omega, by omega⟩), if_neg (fun z => by omega)]
theorem OI.rem (h : OI M) (ho : o < M 18 2) (hi : i < M 7 o) : OI (rmN M o i) := by
  have w6 := h.w6 ho
  obtain ⟨a, b, d, e⟩ := h
  have e18 : rmN M o i 18 2 = M 18 2 := rmN_j (by decide) (by decide) (by decide) _ _ _
  refine ⟨by rw [e18]; exact a, by rw [e18]; exact b, fun u hu => ?_, fun u v h1 h2 => ?_⟩
  · rw [e18] at hu ⊢
    rw [rmN_j (by decide) (by decide) (by decide), rmN_j (by decide) (by decide) (by decide), rmN_j (by decide) (by decide) (by decide), rmN_7]
    obtain ⟨d1, d2, d3, d4, d5, d6, d7⟩ := d u hu
    refine ⟨d1, d2, d3, d4, d5, ?_, fun j hj => ?_⟩
    · split <;> omega
    · by_cases q : u = o
      · subst q
        rw [if_pos rfl] at hj
        rw [rmN_o (Or.inl rfl), rmN_o (Or.inr rfl)]
        by_cases q2 : i ≤ j ∧ j + 1 < M 7 u
        · rw [if_pos q2, if_pos q2]
          exact d7 (j + 1) (by omega)
        · rw [if_neg q2, if_neg q2]
          exact d7 j (by omega)
      · rw [if_neg q] at hj
        rw [rmN_q (Or.inl rfl) w6 q (by omega), rmN_q (Or.inr rfl) w6 q (by omega)]
        exact d7 j hj
  · rw [e18] at h2
    rw [rmN_j (by decide) (by decide) (by decide), rmN_j (by decide) (by decide) (by decide)]
    exact e u v h1 h2
theorem enN_j {j : Nat} (h1 : j ≠ 1) (h6 : j ≠ 6) (h7 : j ≠ 7) (h8 : j ≠ 8) (h9 : j ≠ 9) (p b : Nat) : enN M p j b = M j b := by
  unfold enN
  split
  · rw [rmN_j h7 h8 h9, nP_r h6, nP_r h1]
  · rw [rmN_j h7 h8 h9, nP_r h1]
theorem enN_7 (p b : Nat) : enN M p 7 b = if b = p then M 7 p - 1 else M 7 b := by
  unfold enN
  split
  · rw [rmN_7, nP_r (by decide), nP_r (by decide), nP_r (by decide), nP_r (by decide)]
  · rw [rmN_7, nP_r (by decide), nP_r (by decide)]
theorem enN_q {j : Nat} (hj : j = 8 ∨ j = 9) (hw : M 7 p ≤ 6) (hp : o ≠ p) (hi : i < 6) : enN M p j (6 * o + i) = M j (6 * o + i) := by
  unfold enN
  split
  · rw [rmN_q hj (by rw [nP_r (by decide), nP_r (by decide)]; exact hw) hp hi, nP_r (by omega), nP_r (by omega)]
  · rw [rmN_q hj (by rw [nP_r (by decide)]; exact hw) hp hi, nP_r (by omega)]
theorem OI.en (h : OI M) (hp : p < M 18 2) (hw : 1 ≤ M 7 p) : OI (enN M p) := by
  unfold enN
  split
  · refine OI.rem (h.fr (fun j b hj => by rw [nP_r (by omega), nP_r (by omega)]) (by rw [nP_r (by decide), nP_r (by decide)])) ?_ ?_
    · rw [nP_r (by decide), nP_r (by decide)]
      exact hp
    · rw [nP_r (by decide), nP_r (by decide)]
      omega
  · refine OI.rem (h.fr (fun j b hj => by rw [nP_r (by omega)]) (by rw [nP_r (by decide)])) ?_ ?_
    · rw [nP_r (by decide)]
      exact hp
    · rw [nP_r (by decide)]
      omega
/-- the counts when a letter goes -/
theorem en_cnt (h : OI M) (hp : p < M 18 2) (hw : 1 ≤ M 7 p) (hc : IC M) : IC (enN M p) ∧ (∀ b, b = 0 ∨ (3 ≤ b ∧ b ≤ 8) → enN M p 1 b = M 1 b) ∧ M 1 1 ≤ enN M p 1 1 ∧ enN M p 1 1 ≤ M 1 1 + 1 := by
  have l0 := h.let hp (i := 0) (by omega)
  rw [Nat.add_zero] at l0
  obtain ⟨h1, h2⟩ := hc
  have e7 : nsum (enN M p 7) (M 18 2) + M 7 p = nsum (M 7) (M 18 2) + (M 7 p - 1) := nsum_upd (f := M 7) (g := enN M p 7) (o := p) (by rw [enN_7, if_pos rfl]) (fun i hi => by rw [enN_7, if_neg hi]) _ hp
  have e18 : enN M p 18 2 = M 18 2 := enN_j (by decide) (by decide) (by decide) (by decide) (by decide) _ _
  by_cases q : M 4 (M 8 (6 * p)) = 1
  · have ee : enN M p = rmN (nP (nP M 1 1 (M 1 1 + 1)) 6 (M 8 (6 * p)) (M 6 (M 8 (6 * p)) + 1)) p 0 := if_pos q
    have g1 : ∀ b, enN M p 1 b = if b = 1 then M 1 1 + 1 else M 1 b := fun b => by
      rw [ee, rmN_j (by decide) (by decide) (by decide), nP_r (by decide), nP_get]
      by_cases z : b = 1
      · rw [if_pos ⟨rfl, z⟩, if_pos z]
      · rw [if_neg (fun w => z w.2), if_neg z]
    have g6 : ∀ b, enN M p 6 b = if b = M 8 (6 * p) then M 6 (M 8 (6 * p)) + 1 else M 6 b := fun b => by
      rw [ee, rmN_j (by decide) (by decide) (by decide), nP_get]
      by_cases z : b = M 8 (6 * p)
      · rw [if_pos ⟨rfl, z⟩, if_pos z]
      · rw [if_neg (fun w => z w.2), if_neg z, nP_r (by decide)]
    have e6 : nsum (enN M p 6) (M 18 2) + M 6 (M 8 (6 * p)) = nsum (M 6) (M 18 2) + (M 6 (M 8 (6 * p)) + 1) := nsum_upd (f := M 6) (g := enN M p 6) (o := M 8 (6 * p)) (by rw [g6, if_pos rfl]) (fun i hi => by rw [g6, if_neg hi]) _ l0.1
    refine ⟨⟨?_, ?_⟩, fun b hb => ?_, ?_, ?_⟩
    · rw [e18, g1, g1, g1, g1, if_neg (by decide), if_pos rfl, if_neg (by decide), if_neg (by decide)]
      omega
    · rw [e18, g1, if_pos rfl]
      omega
    · rw [g1, if_neg (by omega)]
    · rw [g1, if_pos rfl]
      omega
    · rw [g1, if_pos rfl]
      omega
  · have ee : enN M p = rmN (nP M 1 2 (M 1 2 + 1)) p 0 := if_neg q
    have g1 : ∀ b, enN M p 1 b = if b = 2 then M 1 2 + 1 else M 1 b := fun b => by
      rw [ee, rmN_j (by decide) (by decide) (by decide), nP_get]
      by_cases z : b = 2
      · rw [if_pos ⟨rfl, z⟩, if_pos z]
      · rw [if_neg (fun w => z w.2), if_neg z]
    have g6 : ∀ b, enN M p 6 b = M 6 b := fun b => by
      rw [ee, rmN_j (by decide) (by decide) (by decide), nP_r (by decide)]
    refine ⟨⟨?_, ?_⟩, fun b hb => ?_, ?_, ?_⟩
    · rw [e18, g1, g1, g1, g1, if_neg (by decide), if_neg (by decide), if_pos rfl, if_neg (by decide)]
      omega
    · rw [e18, g1, if_neg (by decide), nsum_congr (f := enN M p 6) (g := M 6) _ (fun i _ => g6 i)]
      exact h2
    · rw [g1, if_neg (by omega)]
    · rw [g1, if_neg (by decide)]
      exact Nat.le_refl _
    · rw [g1, if_neg (by decide)]
      omega
/-- a token reads on -/
def RDg (M : NM) (t : Nat) : Prop := M 12 t = 0 ∧ M 14 t ≠ 0
theorem acN_rd (h : RDg M t) : acN M t = rdN M t := by
  unfold acN
  rw [if_neg (by rw [h.1]; decide), if_pos (Nat.pos_of_ne_zero h.2)]
theorem lvN_j {j : Nat} (h1 : j ≠ 11) (h2 : j ≠ 12) (h3 : j ≠ 13) (t o b : Nat) : lvN M t o j b = M j b := by
  unfold lvN
  rw [nP_r h3, nP_r h2, nP_r h1]
theorem lvN_u (hu : u ≠ t) (o j : Nat) : lvN M t o j u = M j u := by
  unfold lvN
  rw [nP_k _ hu, nP_k _ hu, nP_k _ hu]
/-- one that does not read on changes its own three rows alone -/
theorem acN_nr (h : ¬ RDg M t) {j b : Nat} (hj : j < 11 ∨ 14 < j ∨ b ≠ t) : acN M t j b = M j b := by
  have f1 : ∀ (X : NM) (v : Nat), nP X 12 t v j b = X j b := fun X v => by
    rw [nP_get, if_neg (fun z => by omega)]
  have f2 : ∀ (X : NM) (o : Nat), lvN X t o j b = X j b := fun X o => by
    unfold lvN
    rw [nP_get, if_neg (fun z => by omega), nP_get, if_neg (fun z => by omega), nP_get, if_neg (fun z => by omega)]
  unfold acN
  by_cases q : 0 < M 12 t
  · rw [if_pos q]
    unfold nrN
    split
    · split
      · rw [f1]
      · rw [f2, f1]
    · rw [f1]
  · rw [if_neg q, if_neg (fun z => h ⟨by omega, by omega⟩)]
    rcases beg_dec M t with g | g
    · rw [bgN_y g, nP_get, if_neg (fun z => by omega)]
    · rw [bgN_n g, f2]
theorem rdN_j (h : OI M) {j : Nat} (hj : j = 0 ∨ j = 2 ∨ j = 3 ∨ j = 4 ∨ j = 10 ∨ j = 11 ∨ j = 12 ∨ 14 < j) (b : Nat) : rdN M t j b = M j b := by
  have e := rd1_j M t (j := j) (by omega) (by omega) (by omega) (by omega) b
  unfold rdN
  split
  · rw [enN_j (by omega) (by omega) (by omega) (by omega) (by omega), e]
  · exact e
theorem rdN_u (hu : u ≠ t) {j : Nat} (hj : 10 ≤ j) : rdN M t j u = M j u := by
  have e : rd1 M t j u = M j u := by
    unfold rd1
    rw [nP_r (by omega), nP_r (by omega), nP_k _ hu, nP_k _ hu]
  unfold rdN
  split
  · rw [enN_j (by omega) (by omega) (by omega) (by omega) (by omega), e]
  · exact e
theorem rdN_13 : rdN M t 13 t = M 13 t + 1 := by
  have e : rd1 M t 13 t = M 13 t + 1 := by
    unfold rd1
    rw [nP_r (by decide), nP_r (by decide), nP_e]
  unfold rdN
  split
  · rw [enN_j (by decide) (by decide) (by decide) (by decide) (by decide), e]
  · exact e
theorem rdN_14 : rdN M t 14 t = M 14 t - 1 := by
  have e : rd1 M t 14 t = M 14 t - 1 := by
    unfold rd1
    rw [nP_r (by decide), nP_r (by decide), nP_r (by decide), nP_e]
  unfold rdN
  split
  · rw [enN_j (by decide) (by decide) (by decide) (by decide) (by decide), e]
  · exact e
/-- rows that no token's minute touches -/
theorem acN_st (h : OI M) {j : Nat} (hj : j = 0 ∨ j = 2 ∨ j = 3 ∨ j = 4 ∨ j = 10 ∨ 14 < j) (b : Nat) : acN M t j b = M j b := by
  by_cases q : RDg M t
  · rw [acN_rd q]
    exact rdN_j h (by omega) b
  · exact acN_nr q (by omega)
theorem acN_u (hu : u ≠ t) {j : Nat} (hj : 10 ≤ j) : acN M t j u = M j u := by
  by_cases q : RDg M t
  · rw [acN_rd q]
    exact rdN_u hu hj
  · exact acN_nr q (by omega)
theorem rd1_oi (h : OI M) : OI (rd1 M t) := h.fr (fun j b hj => rd1_j M t (by omega) (by omega) (by omega) (by omega) b) (rd1_j M t (by decide) (by decide) (by decide) (by decide) 2)
theorem OI.ac (h : OI M) (hp : M 11 t < M 18 2) (hw : RDg M t → 1 ≤ M 7 (M 11 t)) : OI (acN M t) := by
  by_cases q : RDg M t
  · rw [acN_rd q]
    unfold rdN
    split
    · refine (rd1_oi h).en ?_ ?_
      · rw [rd1_j M t (by decide) (by decide) (by decide) (by decide)]
        exact hp
      · rw [rd1_j M t (by decide) (by decide) (by decide) (by decide)]
        exact hw q
    · exact rd1_oi h
  · exact h.fr (fun j b hj => acN_nr q (by omega)) (acN_nr q (by omega))
theorem rd1_1 (b : Nat) : rd1 M t 1 b = if b = 8 then M 1 8 + 1 else M 1 b := by
  unfold rd1
  rw [nP_get]
  by_cases q : b = 8
  · rw [if_pos ⟨rfl, q⟩, if_pos q]
  · rw [if_neg (fun z => q z.2), if_neg q, nP_r (by decide), nP_r (by decide), nP_r (by decide)]
theorem rd1_5 (b : Nat) : rd1 M t 5 b = if b = M 11 t then M 5 (M 11 t) + 1 else M 5 b := by
  unfold rd1
  rw [nP_r (by decide), nP_get]
  by_cases q : b = M 11 t
  · rw [if_pos ⟨rfl, q⟩, if_pos q]
  · rw [if_neg (fun z => q z.2), if_neg q, nP_r (by decide), nP_r (by decide)]
/-- the counts behind a token's minute -/
theorem ac_cnt (h : OI M) (hp : M 11 t < M 18 2) (hw : RDg M t → 1 ≤ M 7 (M 11 t)) (hc : IC M) : IC (acN M t) ∧ (∀ b, b = 0 ∨ (3 ≤ b ∧ b ≤ 7) → acN M t 1 b = M 1 b) ∧ M 1 1 ≤ acN M t 1 1 ∧ acN M t 1 1 ≤ M 1 1 + 1 ∧ (RDg M t → acN M t 1 8 = M 1 8 + 1) ∧ (¬ RDg M t → acN M t 1 8 = M 1 8) := by
  by_cases q : RDg M t
  · rw [acN_rd q]
    have c1 : IC (rd1 M t) := by
      obtain ⟨h1, h2⟩ := hc
      refine ⟨?_, ?_⟩
      · rw [rd1_1, rd1_1, rd1_1, rd1_1, rd1_j M t (j := 18) (by decide) (by decide) (by decide) (by decide), if_neg (by decide), if_neg (by decide), if_neg (by decide), if_neg (by decide), nsum_congr (f := rd1 M t 7) (g := M 7) _ (fun i _ => rd1_j M t (by decide) (by decide) (by decide) (by decide) i)]
        exact h1
      · rw [rd1_1, rd1_j M t (j := 18) (by decide) (by decide) (by decide) (by decide), if_neg (by decide), nsum_congr (f := rd1 M t 6) (g := M 6) _ (fun i _ => rd1_j M t (by decide) (by decide) (by decide) (by decide) i)]
        exact h2
    unfold rdN
    split
    · obtain ⟨a1, a2, a3, a4⟩ := en_cnt (rd1_oi h) (p := M 11 t) (by rw [rd1_j M t (by decide) (by decide) (by decide) (by decide)]; exact hp) (by rw [rd1_j M t (by decide) (by decide) (by decide) (by decide)]; exact hw q) c1
      rw [rd1_1, if_neg (by decide)] at a3 a4
      refine ⟨a1, fun b hb => ?_, a3, a4, fun _ => ?_, fun z => absurd q z⟩
      · rw [a2 b (by omega), rd1_1, if_neg (by omega)]
      · rw [a2 8 (by decide), rd1_1, if_pos rfl]
    · refine ⟨c1, fun b hb => ?_, ?_, ?_, fun _ => ?_, fun z => absurd q z⟩
      · rw [rd1_1, if_neg (by omega)]
      · rw [rd1_1, if_neg (by decide)]
        exact Nat.le_refl _
      · rw [rd1_1, if_neg (by decide)]
        omega
      · rw [rd1_1, if_pos rfl]
  · have e : ∀ b, acN M t 1 b = M 1 b := fun b => acN_nr q (by omega)
    refine ⟨⟨?_, ?_⟩, fun b _ => e b, ?_, ?_, fun z => absurd z q, fun _ => e 8⟩
    · rw [e, e, e, e, acN_nr q (j := 18) (by omega), nsum_congr (f := acN M t 7) (g := M 7) _ (fun i _ => acN_nr q (by omega))]
      exact hc.1
    · rw [e, acN_nr q (j := 18) (by omega), nsum_congr (f := acN M t 6) (g := M 6) _ (fun i _ => acN_nr q (by omega))]
      exact hc.2
    · rw [e]
      exact Nat.le_refl _
    · rw [e]
      omega
/-- an office at which no token reads on stays as it is -/
theorem ac_off (h : OI M) (hp : M 11 t < M 18 2) (ho : o < M 18 2) (hn : RDg M t → M 11 t ≠ o) : acN M t 5 o = M 5 o ∧ acN M t 7 o = M 7 o ∧ ∀ i, i < 6 → acN M t 8 (6 * o + i) = M 8 (6 * o + i) ∧ acN M t 9 (6 * o + i) = M 9 (6 * o + i) := by
  by_cases q : RDg M t
  · have hne := hn q
    rw [acN_rd q]
    have e : ∀ j b, j = 7 ∨ j = 8 ∨ j = 9 → rd1 M t j b = M j b := fun j b hj => rd1_j M t (by omega) (by omega) (by omega) (by omega) b
    have e5 : rd1 M t 5 o = M 5 o := by rw [rd1_5, if_neg (fun z => hne z.symm)]
    unfold rdN
    split
    · have hw : rd1 M t 7 (M 11 t) ≤ 6 := by rw [e _ _ (by decide)]; exact h.w6 hp
      refine ⟨?_, ?_, fun i hi => ⟨?_, ?_⟩⟩
      · rw [enN_j (by decide) (by decide) (by decide) (by decide) (by decide), e5]
      · rw [enN_7, if_neg (fun z => hne z.symm), e _ _ (by decide)]
      · rw [enN_q (Or.inl rfl) hw (fun z => hne z.symm) hi, e _ _ (by decide)]
      · rw [enN_q (Or.inr rfl) hw (fun z => hne z.symm) hi, e _ _ (by decide)]
    · exact ⟨e5, e _ _ (by decide), fun i hi => ⟨e _ _ (by decide), e _ _ (by decide)⟩⟩
  · exact ⟨acN_nr q (by omega), acN_nr q (by omega), fun i _ => ⟨acN_nr q (by omega), acN_nr q (by omega)⟩⟩
theorem ac_5 (hp : M 11 t < M 18 2) (o : Nat) : acN M t 5 o ≤ M 5 o + 1 := by
  by_cases q : RDg M t
  · rw [acN_rd q]
    have e : rd1 M t 5 o ≤ M 5 o + 1 := by
      rw [rd1_5]
      split
      · rename_i z
        rw [z]
        exact Nat.le_refl _
      · omega
    unfold rdN
    split
    · rw [enN_j (by decide) (by decide) (by decide) (by decide) (by decide)]
      exact e
    · exact e
  · rw [acN_nr q (by omega)]
    omega
/-- what becomes of the token, case by case -/
theorem ac_drive (h12 : M 12 t ≠ 0) (h : M 12 t ≠ 1 ∨ M 4 (M 11 t) = 1) : acN M t 11 t = M 11 t ∧ acN M t 12 t = M 12 t - 1 ∧ acN M t 13 t = M 13 t ∧ acN M t 14 t = M 14 t := by
  unfold acN
  rw [if_pos (Nat.pos_of_ne_zero h12)]
  unfold nrN
  by_cases q : M 12 t - 1 = 0
  · rw [if_pos q, if_pos (by omega)]
    simp [nP_get]
  · rw [if_neg q]
    simp [nP_get]
theorem lv_4 (X : NM) (o : Nat) : lvN X t o 11 t = nxt (X 18 2) o ∧ lvN X t o 12 t = X 2 o ∧ lvN X t o 13 t = 0 ∧ lvN X t o 14 t = X 14 t := by
  unfold lvN
  simp [nP_get]
theorem ac_pass (h12 : M 12 t = 1) (h : M 4 (M 11 t) ≠ 1) : acN M t 11 t = nxt (M 18 2) (M 11 t) ∧ acN M t 12 t = M 2 (M 11 t) ∧ acN M t 13 t = 0 ∧ acN M t 14 t = M 14 t := by
  unfold acN
  rw [if_pos (by omega)]
  unfold nrN
  rw [if_pos (by omega), if_neg h]
  obtain ⟨a, b, d, e⟩ := lv_4 (t := t) (nP M 12 t (M 12 t - 1)) (M 11 t)
  rw [nP_r (by decide)] at a b e
  exact ⟨a, b, d, e⟩
theorem ac_read (h : RDg M t) (hO : OI M) : acN M t 11 t = M 11 t ∧ acN M t 12 t = 0 ∧ acN M t 13 t = M 13 t + 1 ∧ acN M t 14 t = M 14 t - 1 := by
  rw [acN_rd h]
  exact ⟨rdN_j hO (by omega) t, (rdN_j hO (by omega) t).trans h.1, rdN_13, rdN_14⟩
theorem ac_beg (h12 : M 12 t = 0) (h14 : M 14 t = 0) (h : beg M t) : acN M t 11 t = M 11 t ∧ acN M t 12 t = 0 ∧ acN M t 13 t = M 13 t ∧ acN M t 14 t = M 9 (6 * M 11 t) := by
  unfold acN
  rw [if_neg (by omega), if_neg (by omega), bgN_y h]
  simp [nP_get, h12]
theorem ac_leave (h12 : M 12 t = 0) (h14 : M 14 t = 0) (h : ¬ beg M t) : acN M t 11 t = nxt (M 18 2) (M 11 t) ∧ acN M t 12 t = M 2 (M 11 t) ∧ acN M t 13 t = 0 ∧ acN M t 14 t = 0 := by
  unfold acN
  rw [if_neg (by omega), if_neg (by omega), bgN_n h]
  obtain ⟨a, b, d, e⟩ := lv_4 (t := t) M (M 11 t)
  exact ⟨a, b, d, e.trans h14⟩
/-- five ways -/
theorem ac_ways (M : NM) (t : Nat) : (M 12 t ≠ 0 ∧ (M 12 t ≠ 1 ∨ M 4 (M 11 t) = 1)) ∨ (M 12 t = 1 ∧ M 4 (M 11 t) ≠ 1) ∨ RDg M t ∨ (M 12 t = 0 ∧ M 14 t = 0 ∧ beg M t) ∨ (M 12 t = 0 ∧ M 14 t = 0 ∧ ¬ beg M t) := by
  by_cases q : M 12 t = 0
  · by_cases q2 : M 14 t = 0
    · rcases beg_dec M t with g | g
      · exact Or.inr (Or.inr (Or.inr (Or.inl ⟨q, q2, g⟩)))
      · exact Or.inr (Or.inr (Or.inr (Or.inr ⟨q, q2, g⟩)))
    · exact Or.inr (Or.inr (Or.inl ⟨q, q2⟩))
  · by_cases q2 : M 12 t = 1
    · by_cases q3 : M 4 (M 11 t) = 1
      · exact Or.inl ⟨q, Or.inr q3⟩
      · exact Or.inr (Or.inl ⟨q2, q3⟩)
    · exact Or.inl ⟨q, Or.inl q2⟩
/-- the token's own rows depend on little -/
theorem ac_cong (hO : OI M) (hN : OI N) (h11 : N 11 t = M 11 t) (h12 : N 12 t = M 12 t) (h13 : N 13 t = M 13 t) (h14 : N 14 t = M 14 t) (h0 : ∀ b, N 0 b = M 0 b) (h2 : ∀ b, N 2 b = M 2 b) (h4 : ∀ b, N 4 b = M 4 b) (hc : N 18 2 = M 18 2) (hq : M 12 t = 0 → M 14 t = 0 → N 5 (M 11 t) = M 5 (M 11 t) ∧ N 7 (M 11 t) = M 7 (M 11 t) ∧ N 9 (6 * M 11 t) = M 9 (6 * M 11 t)) : ∀ j, 11 ≤ j → j ≤ 14 → acN N t j t = acN M t j t := by
  have fin : ∀ a1 a2 a3 a4 : Nat, (acN M t 11 t = a1 ∧ acN M t 12 t = a2 ∧ acN M t 13 t = a3 ∧ acN M t 14 t = a4) → (acN N t 11 t = a1 ∧ acN N t 12 t = a2 ∧ acN N t 13 t = a3 ∧ acN N t 14 t = a4) → ∀ j, 11 ≤ j → j ≤ 14 → acN N t j t = acN M t j t := by
    intro a1 a2 a3 a4 x y j j1 j2
    rcases (by omega : j = 11 ∨ j = 12 ∨ j = 13 ∨ j = 14) with rfl | rfl | rfl | rfl
    · rw [x.1, y.1]
    · rw [x.2.1, y.2.1]
    · rw [x.2.2.1, y.2.2.1]
    · rw [x.2.2.2, y.2.2.2]
  rcases ac_ways M t with ⟨a, b⟩ | ⟨a, b⟩ | a | ⟨a, b, g⟩ | ⟨a, b, g⟩
  · have z := ac_drive (M := N) (t := t) (by rw [h12]; exact a) (by rw [h12, h11, h4]; exact b)
    rw [h11, h12, h13, h14] at z
    exact fin _ _ _ _ (ac_drive a b) z
  · have z := ac_pass (M := N) (t := t) (by rw [h12]; exact a) (by rw [h11, h4]; exact b)
    rw [h11, h14, h2, hc] at z
    exact fin _ _ _ _ (ac_pass a b) z
  · have z := ac_read (M := N) (t := t) ⟨by rw [h12]; exact a.1, by rw [h14]; exact a.2⟩ hN
    rw [h11, h13, h14] at z
    exact fin _ _ _ _ (ac_read a hO) z
  · obtain ⟨q5, q7, q9⟩ := hq a b
    have z := ac_beg (M := N) (t := t) (by rw [h12]; exact a) (by rw [h14]; exact b) (by
      unfold beg
      rw [h11, h13, h4, h0, h0, q5, q7, q9]
      exact g)
    rw [h11, h13, q9] at z
    exact fin _ _ _ _ (ac_beg a b g) z
  · obtain ⟨q5, q7, q9⟩ := hq a b
    have z := ac_leave (M := N) (t := t) (by rw [h12]; exact a) (by rw [h14]; exact b) (by
      unfold beg
      rw [h11, h13, h4, h0, h0, q5, q7, q9]
      exact g)
    rw [h11, h2, hc] at z
    exact fin _ _ _ _ (ac_leave a b g) z
/-- behind its minute a speaking token stands where it stood -/
theorem ac_speaks (hO : OI M) (h9 : M 12 t ≠ 0 → M 14 t = 0) (h : acN M t 14 t ≠ 0) : M 12 t = 0 ∧ acN M t 11 t = M 11 t ∧ acN M t 12 t = 0 := by
  rcases ac_ways M t with ⟨a, b⟩ | ⟨a, b⟩ | a | ⟨a, b, g⟩ | ⟨a, b, g⟩
  · exact absurd ((ac_drive a b).2.2.2.trans (h9 a)) h
  · exact absurd ((ac_pass a b).2.2.2.trans (h9 (by omega))) h
  · exact ⟨a.1, (ac_read a hO).1, (ac_read a hO).2.1⟩
  · exact ⟨a, (ac_beg a b g).1, (ac_beg a b g).2.1⟩
  · exact absurd (ac_leave a b g).2.2.2 h
theorem TT.fr {t' : Nat} (h : TT B M t) (h10 : N 10 t' = M 10 t) (h11 : N 11 t' = M 11 t) (h12 : N 12 t' = M 12 t) (h13 : N 13 t' = M 13 t) (h14 : N 14 t' = M 14 t) (h4 : ∀ b, N 4 b = M 4 b) (hc : N 18 2 = M 18 2) (hl : M 18 4 ≤ N 18 4) (hq : M 14 t ≠ 0 → N 7 (M 11 t) ≠ 0 ∧ M 14 t ≤ N 9 (6 * M 11 t)) : TT B N t' := by
  obtain ⟨a1, a2, a3, a4, a5, a6, a7, a8, a9⟩ := h
  unfold TT
  rw [h10, h11, h12, h13, h14, hc]
  exact ⟨a1, by omega, a3, a4, a5, a6, a7, fun z => by rw [h4]; exact a8 z, hq⟩
theorem TT.mono {B' : Nat} (h : TT B M t) (hB : B ≤ B') : TT B' M t := by
  obtain ⟨a1, a2, a3, a4, a5, a6⟩ := h
  exact ⟨a1, a2, a3, a4, by omega, a6⟩
theorem ac_TT (hO : OI M) (h : TT B M t) : TT (B + 1) (acN M t) t := by
  have h' := h
  obtain ⟨a1, a2, a3, a4, a5, a6, a7, a8, a9⟩ := h
  have st : ∀ j b, j = 0 ∨ j = 2 ∨ j = 3 ∨ j = 4 ∨ j = 10 ∨ 14 < j → acN M t j b = M j b := fun j b hj => acN_st hO hj b
  obtain ⟨d1, d2, -⟩ := hO.2.2.1 (M 11 t) a3
  have c2 := hO.c2
  unfold TT
  rw [st 10 t (by omega), st 18 4 (by omega), st 18 2 (by omega)]
  rcases ac_ways M t with ⟨a, b⟩ | ⟨a, b⟩ | a | ⟨a, b, g⟩ | ⟨a, b, g⟩
  · obtain ⟨e1, e2, e3, e4⟩ := ac_drive a b
    obtain ⟨z1, z2⟩ := a7 a
    rw [e1, e2, e3, e4, st 4 _ (by omega), z1, z2]
    refine ⟨a1, a2, a3, by omega, by omega, by omega, fun _ => ⟨rfl, rfl⟩, fun z => ?_, fun z => absurd rfl z⟩
    omega
  · obtain ⟨e1, e2, e3, e4⟩ := ac_pass a b
    obtain ⟨z1, z2⟩ := a7 (by omega)
    rw [e1, e2, e3, e4, z2]
    exact ⟨a1, a2, nxt_lt (by omega), d2, by omega, by omega, fun _ => ⟨rfl, rfl⟩, fun z => by omega, fun z => absurd rfl z⟩
  · obtain ⟨e1, e2, e3, e4⟩ := ac_read a hO
    rw [e1, e2, e3, e4, st 4 _ (by omega)]
    refine ⟨a1, a2, a3, by omega, by omega, by omega, fun z => absurd rfl z, fun _ => a8 a.1, fun z => ?_⟩
    rw [acN_rd a]
    unfold rdN
    rw [if_neg z, rd1_j M t (by decide) (by decide) (by decide) (by decide), rd1_j M t (by decide) (by decide) (by decide) (by decide)]
    have := a9 a.2
    exact ⟨this.1, by omega⟩
  · obtain ⟨e1, e2, e3, e4⟩ := ac_beg a b g
    have hr : ¬ RDg M t := fun z => z.2 b
    have l0 := hO.let a3 g.2.1
    rw [Nat.add_zero] at l0
    rw [e1, e2, e3, e4, st 4 _ (by omega), acN_nr hr (by omega), acN_nr hr (by omega)]
    exact ⟨a1, a2, a3, by omega, by omega, l0.2.2.2, fun z => absurd rfl z, fun _ => a8 a, fun _ => ⟨Nat.ne_of_gt g.2.1, Nat.le_refl _⟩⟩
  · obtain ⟨e1, e2, e3, e4⟩ := ac_leave a b g
    rw [e1, e2, e3, e4]
    exact ⟨a1, a2, nxt_lt (by omega), d2, by omega, by omega, fun _ => ⟨rfl, rfl⟩, fun z => by omega, fun z => absurd rfl z⟩
theorem ac_TTo (hO : OI M) (h : TT B M u) (hu : u ≠ t) (hp : M 11 t < M 18 2) (hn : RDg M t → M 14 u ≠ 0 → M 11 t ≠ M 11 u) : TT B (acN M t) u := by
  have a3 := h.2.2.1
  refine h.fr (acN_u hu (by decide)) (acN_u hu (by decide)) (acN_u hu (by decide)) (acN_u hu (by decide)) (acN_u hu (by decide)) (fun b => acN_st hO (by omega) b) (acN_st hO (by omega) 2) (Nat.le_of_eq (acN_st hO (by omega) 4).symm) (fun z => ?_)
  have g := h.2.2.2.2.2.2.2.2 z
  obtain ⟨-, w, q⟩ := ac_off hO hp a3 (fun r => hn r z)
  have q0 := (q 0 (by decide)).2
  rw [Nat.add_zero] at q0
  rw [w, q0]
  exact g
end NA
