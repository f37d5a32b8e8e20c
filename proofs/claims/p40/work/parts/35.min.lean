-- PART 35: a minute, whole: what holds behind it, what it brings
def MS (M N : NM) : Prop :=
  (∀ j b, j = 0 ∨ j = 2 ∨ j = 3 ∨ j = 4 → N j b = M j b) ∧ N 18 2 = M 18 2 ∧ N 18 0 = M 18 0 + 1 ∧
  (1 ≤ M 18 3 → (∃ f : Nat → Nat, 1 ≤ N 18 3 ∧ N 18 3 ≤ M 18 3 ∧ (∀ q, q < N 18 3 → f q < M 18 3) ∧ (∀ q r, q < r → r < N 18 3 → f q < f r) ∧ (∀ q, q < N 18 3 → N 10 q = M 10 (f q) ∧ ∀ j, 11 ≤ j → j ≤ 14 → N j q = acN (tmN M) (f q) j (f q))) ∧ (N 18 3 < M 18 3 → M 1 5 < N 1 5) ∧ N 18 1 = 0 ∧ N 1 4 = M 1 4) ∧
  (M 18 3 = 0 → (M 18 1 + 1 < M 0 1 ∨ winN M (M 18 2) = none) → N 18 3 = 0 ∧ N 1 4 = M 1 4 ∧ N 18 1 = M 18 1 + 1) ∧
  (M 18 3 = 0 → ∀ p, ¬ (M 18 1 + 1 < M 0 1) → winN M (M 18 2) = some p → N 18 3 = 1 ∧ N 11 0 = p ∧ N 12 0 = 0 ∧ N 18 1 = 0 ∧ N 1 4 = M 1 4 + 1) ∧
  N 1 8 = M 1 8 + nsum (rdC M) (M 18 3) ∧ M 1 1 ≤ N 1 1 ∧ (M 18 3 ≤ 1 → N 1 7 = M 1 7) ∧
  ∀ o, o < M 18 2 → (∀ t, t < M 18 3 → ¬ (RDg M t ∧ M 11 t = o)) → N 7 o = M 7 o ∧ ∀ i, i < 6 → N 9 (6 * o + i) = M 9 (6 * o + i)
section MJ
variable {S S' : SM} {M N M0 M' : NM} {B o p i t k : Nat}
theorem winN_cong (h3 : ∀ b, N 3 b = M 3 b) (h4 : ∀ b, N 4 b = M 4 b) : ∀ k, winN N k = winN M k := by
  intro k
  induction k with
  | zero => rfl
  | succ k ih =>
    rw [winN, winN, ih, h4, h3]
    cases winN M k with
    | none => rfl
    | some p => simp only [h3]
theorem IC.fr (h : IC M) (h1 : ∀ b, b ≤ 3 → N 1 b = M 1 b) (h7 : ∀ b, N 7 b = M 7 b) (h6 : ∀ b, N 6 b = M 6 b) (hc : N 18 2 = M 18 2) : IC N := by
  obtain ⟨a, b⟩ := h
  refine ⟨?_, ?_⟩
  · rw [hc, h1 0 (by decide), h1 1 (by decide), h1 2 (by decide), h1 3 (by decide), nsum_congr (f := N 7) (g := M 7) _ (fun i _ => h7 i)]
    exact a
  · rw [hc, h1 1 (by decide), nsum_congr (f := N 6) (g := M 6) _ (fun i _ => h6 i)]
    exact b
theorem IT.fr (h : IT B M) (hr : ∀ j b, j = 4 ∨ j = 7 ∨ j = 9 ∨ (10 ≤ j ∧ j ≤ 14) → N j b = M j b) (h2 : N 18 2 = M 18 2) (h3 : N 18 3 = M 18 3) (h4 : N 18 4 = M 18 4) : IT B N := by
  obtain ⟨a, b, d, e⟩ := h
  refine ⟨by rw [h3]; exact a, by rw [h4]; exact b, fun t ht => ?_, fun t u h1 hu => ?_⟩
  · rw [h3] at ht
    have T := d t ht
    refine T.fr (hr _ _ (by omega)) (hr _ _ (by omega)) (hr _ _ (by omega)) (hr _ _ (by omega)) (hr _ _ (by omega)) (fun b => hr _ _ (by omega)) h2 (Nat.le_of_eq h4.symm) (fun z => ?_)
    rw [hr _ _ (by omega), hr _ _ (by omega)]
    exact T.2.2.2.2.2.2.2.2 z
  · rw [h3] at hu
    rw [hr _ _ (by omega), hr _ _ (by omega)]
    exact e t u h1 hu
theorem ID.fr (h : ID M) (h11 : ∀ b, N 11 b = M 11 b) (h12 : ∀ b, N 12 b = M 12 b) (h3 : N 18 3 = M 18 3) : ID N := by
  intro t u h1 h2
  rw [h3] at h2
  rw [h11, h11, h12, h12]
  exact h t u h1 h2
theorem IR.fr (h : IR M) (h0 : ∀ b, N 0 b = M 0 b) : IR N := by
  unfold IR
  rw [h0, h0, h0]
  exact h
theorem IT.mono {B' : Nat} (h : IT B M) (hB : B ≤ B') : IT B' M := by
  obtain ⟨a, b, d, e⟩ := h
  exact ⟨a, by omega, fun t ht => (d t ht).mono hB, e⟩
theorem IB.mono {B' : Nat} (h : IB B M) (hB : B ≤ B') : IB B' M := by
  obtain ⟨a, b, d, e, f, g⟩ := h
  exact ⟨by omega, by omega, fun o ho => by have := d o ho; omega, by omega, by omega, by omega⟩
theorem Inv.mono {B' : Nat} (h : Inv B M) (hB : B ≤ B') : Inv B' M := by
  obtain ⟨a, b, d, e, f, g⟩ := h
  exact ⟨a, b.mono hB, d, e.mono hB, f, g⟩
theorem Inv.cnt (h : Inv B M) {b : Nat} (hb : b = 4 ∨ b = 7 ∨ b = 8) (v : Nat) : Inv B (nP M 1 b v) := by
  obtain ⟨a, t, d, e, f, g⟩ := h
  refine ⟨a.fr (fun j k hj => nP_r (by omega) k) (nP_r (by decide) _), t.fr (fun j k hj => nP_r (by omega) k) (nP_r (by decide) _) (nP_r (by decide) _) (nP_r (by decide) _), d.fr (fun k => nP_r (by decide) k) (fun k => nP_r (by decide) k) (nP_r (by decide) _), ?_, f.fr (fun k hk => nP_k _ (by omega)) (fun k => nP_r (by decide) k) (fun k => nP_r (by decide) k) (nP_r (by decide) _), g.fr (fun k => nP_r (by decide) k)⟩
  obtain ⟨e1, e2, e3, e4, e5, e6⟩ := e
  refine ⟨by rw [nP_r (by decide)]; exact e1, by rw [nP_r (by decide)]; exact e2, fun o ho => ?_, by rw [nP_k _ (by omega)]; exact e4, by rw [nP_k _ (by omega)]; exact e5, by rw [nP_k _ (by omega)]; exact e6⟩
  rw [nP_r (by decide)] at ho
  rw [nP_r (by decide)]
  exact e3 o ho
theorem Inv.sil (h : Inv B M) {v : Nat} (hv : v ≤ B) : Inv B (nP M 18 1 v) := by
  obtain ⟨a, t, d, e, f, g⟩ := h
  refine ⟨a.fr (fun j k hj => nP_r (by omega) k) (nP_k _ (by decide)), t.fr (fun j k hj => nP_r (by omega) k) (nP_k _ (by decide)) (nP_k _ (by decide)) (nP_k _ (by decide)), d.fr (fun k => nP_r (by decide) k) (fun k => nP_r (by decide) k) (nP_k _ (by decide)), ?_, f.fr (fun k hk => nP_r (by omega) k) (fun k => nP_r (by decide) k) (fun k => nP_r (by decide) k) (nP_k _ (by decide)), g.fr (fun k => nP_r (by decide) k)⟩
  obtain ⟨e1, e2, e3, e4, e5, e6⟩ := e
  refine ⟨by rw [nP_k _ (by decide)]; exact e1, by rw [nP_e]; exact hv, fun o ho => ?_, by rw [nP_r (by decide)]; exact e4, by rw [nP_r (by decide)]; exact e5, by rw [nP_r (by decide)]; exact e6⟩
  rw [nP_k _ (by decide)] at ho
  rw [nP_r (by decide)]
  exact e3 o ho
/-- a token more, where none stands -/
theorem adN_t {j : Nat} (b : Nat) : adN M o 10 b = (if b = M 18 3 then M 18 4 + 1 else M 10 b) ∧ adN M o 11 b = (if b = M 18 3 then o else M 11 b) ∧ adN M o 12 b = (if b = M 18 3 then 0 else M 12 b) ∧ adN M o 13 b = (if b = M 18 3 then 0 else M 13 b) ∧ adN M o 14 b = (if b = M 18 3 then 0 else M 14 b) := by
  simp [adN, nP_get]
theorem adN_j {j : Nat} (h : j < 10 ∨ 14 < j) (h18 : j ≠ 18) (b : Nat) : adN M o j b = M j b := by
  unfold adN
  rw [nP_r h18, nP_r (by omega), nP_r (by omega), nP_r (by omega), nP_r (by omega), nP_r (by omega), nP_r h18]
theorem adN_18 (b : Nat) : adN M o 18 b = if b = 3 then M 18 3 + 1 else if b = 4 then M 18 4 + 1 else M 18 b := by
  simp [adN, nP_get]
theorem IT.add (h : IT B M) (h3 : M 18 3 < 3) (ho : o < M 18 2) (h4 : M 4 o = 1) : IT (B + 1) (adN M o) := by
  obtain ⟨a, b, d, e⟩ := h
  have e3 : adN M o 18 3 = M 18 3 + 1 := by rw [adN_18, if_pos rfl]
  have e4 : adN M o 18 4 = M 18 4 + 1 := by rw [adN_18, if_neg (by decide), if_pos rfl]
  have e2 : adN M o 18 2 = M 18 2 := by rw [adN_18, if_neg (by decide), if_neg (by decide)]
  refine ⟨by omega, by omega, fun t ht => ?_, fun t u htu hu => ?_⟩
  · obtain ⟨t10, t11, t12, t13, t14⟩ := adN_t (M := M) (o := o) (j := 0) t
    by_cases q : t = M 18 3
    · rw [if_pos q] at t10 t11 t12 t13 t14
      unfold TT
      rw [t10, t11, t12, t13, t14, e2, e4, adN_j (j := 4) (by decide) (by decide)]
      exact ⟨by omega, by omega, ho, by omega, by omega, by omega, fun z => absurd rfl z, fun _ => h4, fun z => absurd rfl z⟩
    · rw [if_neg q] at t10 t11 t12 t13 t14
      have T := (d t (by omega)).mono (show B ≤ B + 1 by omega)
      refine T.fr t10 t11 t12 t13 t14 (fun b => adN_j (by decide) (by decide) b) e2 (by omega) (fun z => ?_)
      rw [adN_j (by decide) (by decide), adN_j (by decide) (by decide)]
      exact T.2.2.2.2.2.2.2.2 z
  · rw [e3] at hu
    rw [(adN_t (M := M) (o := o) (j := 0) t).1, (adN_t (M := M) (o := o) (j := 0) u).1, if_neg (by omega)]
    by_cases q : u = M 18 3
    · rw [if_pos q]
      have := (d t (by omega)).2.1
      omega
    · rw [if_neg q]
      exact e t u htu (by omega)
/-- behind all tokens' acts and where two met -/
theorem m3_facts (hI : Inv B M) : LI B (M 18 3) (tmN M) (acs (tmN M) (M 18 3)) ∧ TR 3 (acs (tmN M) (M 18 3)) (m3N M) ∧ ID (m3N M) := by
  obtain ⟨hO, hT, hD, hB, hC, hR⟩ := hI
  have e3 : tmN M 18 3 = M 18 3 := tmN_j (by decide) (by decide)
  have hO' : OI (tmN M) := hO.fr (fun j b hj => tmN_j (by omega) (by omega)) (tmN_j (by decide) (by decide))
  have hT' : IT B (tmN M) := hT.fr (fun j b hj => tmN_j (by omega) (by omega)) (tmN_j (by decide) (by decide)) e3 (tmN_j (by decide) (by decide))
  have hD' : ID (tmN M) := hD.fr (fun b => tmN_j (by decide) (by omega)) (fun b => tmN_j (by decide) (by omega)) e3
  have hC' : IC (tmN M) := hC.fr (fun b _ => tmN_j (by decide) (by omega)) (fun b => tmN_j (by decide) (by omega)) (fun b => tmN_j (by decide) (by omega)) (tmN_j (by decide) (by decide))
  have hL := acs_LI hO' hT'.2.2.1 hD' hC' (M 18 3) (by omega)
  have h3 : acs (tmN M) (M 18 3) 18 3 = M 18 3 := (hL.2.1 18 3 (by omega)).trans e3
  have t3 := hT.1
  have := te_TR 3 0 (acs (tmN M) (M 18 3)) (by omega) (fun u hu => absurd hu (by omega))
  exact ⟨hL, this.1, this.2⟩
theorem m3_inv (hI : Inv B M) : Inv (B + 3) (m3N M) := by
  obtain ⟨hL, hTR, hD3⟩ := m3_facts hI
  obtain ⟨hO, hT, hD, hB, hC, hR⟩ := hI
  obtain ⟨a, b, c, d, e, f1, f2, ⟨g1, g2, g3, g4, g5⟩, h5⟩ := hL
  obtain ⟨⟨f, k1, k2, k3⟩, r1, r2, r3, r4, r5, r6, r7⟩ := hTR
  generalize acs (tmN M) (M 18 3) = A at *
  generalize m3N M = N at *
  have t3 := hT.1
  have eA3 : A 18 3 = M 18 3 := (b 18 3 (by omega)).trans (tmN_j (by decide) (by decide))
  have eA2 : A 18 2 = M 18 2 := (b 18 2 (by omega)).trans (tmN_j (by decide) (by decide))
  have eN2 : N 18 2 = A 18 2 := r7 2 (by decide)
  have hON : OI N := a.fr (fun j b hj => r6 j b (by omega) (by omega)) eN2
  have e4 : N 18 4 = M 18 4 := (r7 4 (by decide)).trans ((b 18 4 (by omega)).trans (tmN_j (by decide) (by decide)))
  refine ⟨hON, ⟨by omega, by have := hT.2.1; omega, fun q hq => ?_, fun q r hqr hr => ?_⟩, hD3, ⟨?_, ?_, fun o ho => ?_, ?_, ?_, ?_⟩, ?_, ?_⟩
  · have hk := k1 q hq
    have T := (f1 (f q) (by omega)).mono (show B + 1 ≤ B + 3 by omega)
    refine T.fr (k3 q hq 10 (by decide) (by decide)) (k3 q hq 11 (by decide) (by decide)) (k3 q hq 12 (by decide) (by decide)) (k3 q hq 13 (by decide) (by decide)) (k3 q hq 14 (by decide) (by decide)) (fun b => r6 4 b (by decide) (by omega)) eN2 (Nat.le_of_eq (r7 4 (by decide)).symm) (fun z => ?_)
    rw [r6 7 _ (by decide) (by omega), r6 9 _ (by decide) (by omega)]
    exact T.2.2.2.2.2.2.2.2 z
  · have hk := k1 r hr
    rw [k3 q (by omega) 10 (by decide) (by decide), k3 r hr 10 (by decide) (by decide), b 10 _ (by omega), b 10 _ (by omega), tmN_j (by decide) (by omega), tmN_j (by decide) (by omega)]
    exact hT.2.2.2 _ _ (k2 q r hqr hr) (by omega)
  · rw [r7 0 (by decide), b 18 0 (by omega), tmN_0]
    have := hB.1
    omega
  · rw [r7 1 (by decide), b 18 1 (by omega), tmN_j (by decide) (by decide)]
    have := hB.2.1
    omega
  · rw [r6 5 o (by decide) (by omega)]
    have z1 := h5 o
    have z2 := (tmN_5 (M := M) o).1
    have z3 := hB.2.2.1 o (by omega)
    omega
  · rw [r6 1 1 (by decide) (by omega)]
    have := hB.2.2.2.1
    rw [tmN_j (by decide) (by omega)] at g4
    omega
  · have z := g2 5 (by omega)
    rw [tmN_j (by decide) (by omega)] at z
    have := hB.2.2.2.2.1
    omega
  · rw [r6 1 6 (by decide) (by omega), g2 6 (by omega), tmN_j (by decide) (by omega)]
    have := hB.2.2.2.2.2
    omega
  · exact g1.fr (fun b hb => r6 1 b (by decide) (by omega)) (fun b => r6 7 b (by decide) (by omega)) (fun b => r6 6 b (by decide) (by omega)) eN2
  · exact hR.fr (fun b' => by rw [r6 0 b' (by decide) (by omega), b 0 b' (by omega), tmN_j (by decide) (by omega)])
theorem m4_j {j b : Nat} (h : ¬ (j = 1 ∧ b = 7)) : m4N M j b = m3N M j b := by
  unfold m4N
  split
  · rfl
  · rw [nP_get, if_neg h]
theorem m4_inv (hI : Inv B M) : Inv (B + 3) (m4N M) := by
  unfold m4N
  split
  · exact m3_inv hI
  · exact (m3_inv hI).cnt (by decide) _
theorem mi_y (h : 0 < m4N M 18 3) : miN M = nP (m4N M) 18 1 0 := if_pos h
theorem mi_n (h : ¬ 0 < m4N M 18 3) : miN M = elN (nP (m4N M) 18 1 (m4N M 18 1 + 1)) := if_neg h
theorem el_inv (hI : Inv B M) (h3 : M 18 3 = 0) : Inv (B + 1) (elN M) := by
  by_cases q : M 18 1 < M 0 1
  · rw [elN_n (Or.inl q)]
    exact hI.mono (by omega)
  · cases hw : winN M (M 18 2) with
    | none =>
      rw [elN_n (Or.inr hw)]
      exact hI.mono (by omega)
    | some p =>
      rw [elN_y q hw]
      obtain ⟨hp, hop⟩ := winN_some _ hw
      refine Inv.cnt ?_ (by decide) _
      have hI' := hI.sil (v := 0) (by omega)
      generalize hZ : nP M 18 1 0 = Z at hI' ⊢
      have z3 : Z 18 3 = 0 := by rw [← hZ, nP_k _ (by decide)]; exact h3
      have z2 : Z 18 2 = M 18 2 := by rw [← hZ, nP_k _ (by decide)]
      have z4 : Z 4 p = 1 := by rw [← hZ, nP_r (by decide)]; exact hop
      obtain ⟨a, t, d, e, f, g⟩ := hI'
      have e2 : adN Z p 18 2 = Z 18 2 := by rw [adN_18, if_neg (by decide), if_neg (by decide)]
      refine ⟨a.fr (fun j b hj => adN_j (by omega) (by omega) b) e2, t.add (by omega) (by omega) z4, fun u v huv hv => ?_, ?_, f.fr (fun b _ => adN_j (by decide) (by decide) b) (fun b => adN_j (by decide) (by decide) b) (fun b => adN_j (by decide) (by decide) b) e2, g.fr (fun b => adN_j (by decide) (by decide) b)⟩
      · rw [adN_18, if_pos rfl, z3] at hv
        omega
      · obtain ⟨e1, e2', e3, e4, e5, e6⟩ := e
        refine ⟨by rw [adN_18, if_neg (by decide), if_neg (by decide)]; omega, by rw [adN_18, if_neg (by decide), if_neg (by decide)]; omega, fun o ho => ?_, by rw [adN_j (by decide) (by decide)]; omega, by rw [adN_j (by decide) (by decide)]; omega, by rw [adN_j (by decide) (by decide)]; omega⟩
        rw [e2] at ho
        rw [adN_j (by decide) (by decide)]
        have := e3 o ho
        omega
theorem mi_inv (hI : Inv B M) : Inv (B + 5) (miN M) := by
  have h4 := m4_inv hI
  by_cases q : 0 < m4N M 18 3
  · rw [mi_y q]
    exact (h4.sil (by omega)).mono (by omega)
  · rw [mi_n q]
    have h5 : Inv (B + 4) (nP (m4N M) 18 1 (m4N M 18 1 + 1)) := (h4.mono (show B + 3 ≤ B + 4 by omega)).sil (by have := h4.2.2.2.1.2.1; omega)
    exact el_inv h5 (by rw [nP_k _ (by decide)]; omega)
theorem mi_MS (hI : Inv B M) : MS M (miN M) := by
  have h3i := m3_inv hI
  obtain ⟨hL, hTR, -⟩ := m3_facts hI
  obtain ⟨hO, hT, hD, hB, hC, hR⟩ := hI
  obtain ⟨a, b, c, d, e, f1, f2, ⟨g1, g2, g3, g4, g5⟩, h5⟩ := hL
  obtain ⟨⟨f, k1, k2, k3⟩, r1, r2, r3, r4, r5, r6, r7⟩ := hTR
  have m4 : ∀ j b, ¬ (j = 1 ∧ b = 7) → m4N M j b = m3N M j b := fun j b h => m4_j h
  have m47 : spkN (m3N M) (m3N M 18 3) < 2 → m4N M 1 7 = m3N M 1 7 := fun h => by
    unfold m4N
    rw [if_pos h]
  have ey := mi_y (M := M)
  have en := mi_n (M := M)
  generalize acs (tmN M) (M 18 3) = A at *
  generalize m3N M = N at *
  generalize m4N M = N4 at *
  have t3 := hT.1
  have eA3 : A 18 3 = M 18 3 := (b 18 3 (by omega)).trans (tmN_j (by decide) (by decide))
  have eA2 : A 18 2 = M 18 2 := (b 18 2 (by omega)).trans (tmN_j (by decide) (by decide))
  have e43 : N4 18 3 = N 18 3 := m4 18 3 (by omega)
  have e42 : N4 18 2 = M 18 2 := (m4 18 2 (by omega)).trans ((r7 2 (by decide)).trans eA2)
  have e41 : N4 18 1 = M 18 1 := (m4 18 1 (by omega)).trans ((r7 1 (by decide)).trans ((b 18 1 (by omega)).trans (tmN_j (by decide) (by decide))))
  have hst : ∀ j b', j = 0 ∨ j = 2 ∨ j = 3 ∨ j = 4 → N4 j b' = M j b' := fun j b' hj => by
    rw [m4 j b' (by omega), r6 j b' (by omega) (by omega), b j b' (by omega), tmN_j (by omega) (by omega)]
  have h0 : N4 18 0 = M 18 0 + 1 := by rw [m4 18 0 (by omega), r7 0 (by decide), b 18 0 (by omega), tmN_0]
  have h8 : N4 1 8 = M 1 8 + nsum (rdC M) (M 18 3) := by
    rw [m4 1 8 (by omega), r6 1 8 (by decide) (by omega), g5, tmN_j (by decide) (by omega)]
    congr 1
    refine nsum_congr _ (fun i _ => ?_)
    unfold rdC
    rw [tmN_j (by decide) (by omega), tmN_j (by decide) (by omega)]
  have h1 : M 1 1 ≤ N4 1 1 := by
    rw [m4 1 1 (by omega), r6 1 1 (by decide) (by omega)]
    rw [tmN_j (by decide) (by omega)] at g3
    exact g3
  have h14 : N4 1 4 = M 1 4 := by rw [m4 1 4 (by omega), r6 1 4 (by decide) (by omega), g2 4 (by omega), tmN_j (by decide) (by omega)]
  have h17 : M 18 3 ≤ 1 → N4 1 7 = M 1 7 := fun z => by
    have y : spkN N (N 18 3) ≤ N 18 3 * 1 := nsum_le _ (fun i _ => by show (if N 14 i = 0 then 0 else 1) ≤ 1; split <;> omega)
    rw [m47 (by omega), r6 1 7 (by decide) (by omega), g2 7 (by omega), tmN_j (by decide) (by omega)]
  have hq : ∀ o, o < M 18 2 → (∀ t, t < M 18 3 → ¬ (RDg M t ∧ M 11 t = o)) → N4 7 o = M 7 o ∧ ∀ i, i < 6 → N4 9 (6 * o + i) = M 9 (6 * o + i) := fun o ho hn => by
    have hrd : ∀ t, RDg (tmN M) t ↔ RDg M t := fun t => by
      unfold RDg
      rw [tmN_j (by decide) (by omega), tmN_j (by decide) (by omega)]
    obtain ⟨-, y2, y3⟩ := e o (by rw [tmN_j (by decide) (by decide)]; exact ho) (fun t ht z => hn t ht ⟨(hrd t).mp z.1, by have := z.2; rw [tmN_j (by decide) (by omega)] at this; exact this⟩)
    refine ⟨?_, fun i hi => ?_⟩
    · rw [m4 7 o (by omega), r6 7 o (by decide) (by omega), y2, tmN_j (by decide) (by omega)]
    · rw [m4 9 _ (by omega), r6 9 _ (by decide) (by omega), (y3 i hi).2, tmN_j (by decide) (by omega)]
  have htok : ∃ f : Nat → Nat, N4 18 3 ≤ M 18 3 ∧ (∀ q, q < N4 18 3 → f q < M 18 3) ∧ (∀ q r, q < r → r < N4 18 3 → f q < f r) ∧ (∀ q, q < N4 18 3 → N4 10 q = M 10 (f q) ∧ ∀ j, 11 ≤ j → j ≤ 14 → N4 j q = acN (tmN M) (f q) j (f q)) := by
    refine ⟨f, by omega, fun q hq => by have := k1 q (by omega); omega, fun q r h1 h2 => k2 q r h1 (by omega), fun q hq => ⟨?_, fun j j1 j2 => ?_⟩⟩
    · rw [m4 10 q (by omega), k3 q (by omega) 10 (by decide) (by decide), b 10 _ (by omega), tmN_j (by decide) (by omega)]
    · have hk := k1 q (by omega)
      rw [m4 j q (by omega), k3 q (by omega) j (by omega) j2, d (f q) (by omega) j j1 j2]
  have h5' : N4 1 5 = N 1 5 := m4 1 5 (by omega)
  have eA5 : A 1 5 = M 1 5 := by rw [g2 5 (by omega), tmN_j (by decide) (by omega)]
  obtain ⟨f', w1, w2, w3, w4⟩ := htok
  by_cases q : 0 < N4 18 3
  · rw [ey q]
    refine ⟨fun j b' hj => by rw [nP_r (by omega)]; exact hst j b' hj, by rw [nP_k _ (by decide)]; exact e42, by rw [nP_k _ (by decide)]; exact h0, fun hm => ⟨⟨f', ?_⟩, ?_, nP_e _ _ _ _, ?_⟩, fun z => by omega, fun z => by omega, by rw [nP_r (by decide)]; exact h8, by rw [nP_r (by decide)]; exact h1, fun z => by rw [nP_r (by decide)]; exact h17 z, fun o ho hn => ?_⟩
    · rw [nP_k _ (by decide)]
      exact ⟨q, w1, w2, w3, fun q' hq' => ⟨by rw [nP_r (by decide)]; exact (w4 q' hq').1, fun j j1 j2 => by rw [nP_r (by omega)]; exact (w4 q' hq').2 j j1 j2⟩⟩
    · rw [nP_k _ (by decide), nP_r (by decide), h5', ← eA5]
      intro z
      exact r3 (by omega)
    · rw [nP_r (by decide)]
      exact h14
    · obtain ⟨x1, x2⟩ := hq o ho hn
      exact ⟨by rw [nP_r (by decide)]; exact x1, fun i hi => by rw [nP_r (by decide)]; exact x2 i hi⟩
  · have hm0 : M 18 3 = 0 := by
      by_cases z : M 18 3 = 0
      · exact z
      · have := r2 (by omega)
        omega
    have g0 : N4 18 3 = 0 := by omega
    rw [en q, e41]
    have x0 : nP N4 18 1 (M 18 1 + 1) 0 1 = M 0 1 := by rw [nP_r (by decide)]; exact hst 0 1 (by decide)
    have x2 : nP N4 18 1 (M 18 1 + 1) 18 2 = M 18 2 := by rw [nP_k _ (by decide)]; exact e42
    have x1 : nP N4 18 1 (M 18 1 + 1) 18 1 = M 18 1 + 1 := nP_e _ _ _ _
    have xw : winN (nP N4 18 1 (M 18 1 + 1)) (M 18 2) = winN M (M 18 2) := winN_cong (fun b' => by rw [nP_r (by decide)]; exact hst 3 b' (by decide)) (fun b' => by rw [nP_r (by decide)]; exact hst 4 b' (by decide)) _
    by_cases y : M 18 1 + 1 < M 0 1 ∨ winN M (M 18 2) = none
    · rw [elN_n (by rw [x1, x0, x2, xw]; exact y)]
      refine ⟨fun j b' hj => by rw [nP_r (by omega)]; exact hst j b' hj, x2, by rw [nP_k _ (by decide)]; exact h0, fun z => by omega, fun _ _ => ⟨by rw [nP_k _ (by decide)]; exact g0, by rw [nP_r (by decide)]; exact h14, x1⟩, fun _ p z1 z2 => ?_, by rw [nP_r (by decide)]; exact h8, by rw [nP_r (by decide)]; exact h1, fun z => by rw [nP_r (by decide)]; exact h17 z, fun o ho hn => ?_⟩
      · rcases y with y | y
        · exact absurd y z1
        · rw [y] at z2
          cases z2
      · obtain ⟨y1, y2⟩ := hq o ho hn
        exact ⟨by rw [nP_r (by decide)]; exact y1, fun i hi => by rw [nP_r (by decide)]; exact y2 i hi⟩
    · have y1 : ¬ M 18 1 + 1 < M 0 1 := fun z => y (Or.inl z)
      obtain ⟨p, hp⟩ : ∃ p, winN M (M 18 2) = some p := by
        cases hw : winN M (M 18 2) with
        | none => exact absurd (Or.inr hw) y
        | some p => exact ⟨p, rfl⟩
      rw [elN_y (p := p) (by rw [x1, x0]; exact y1) (by rw [x2, xw]; exact hp)]
      have x14 : nP N4 18 1 (M 18 1 + 1) 1 4 = M 1 4 := by rw [nP_r (by decide)]; exact h14
      rw [x14]
      obtain ⟨Z, hZ⟩ : ∃ Z, nP (nP N4 18 1 (M 18 1 + 1)) 18 1 0 = Z := ⟨_, rfl⟩
      rw [hZ]
      have zj : ∀ j b', j ≠ 18 → Z j b' = N4 j b' := fun j b' hj => by rw [← hZ, nP_r hj, nP_r hj]
      have z3 : Z 18 3 = 0 := by rw [← hZ, nP_k _ (by decide), nP_k _ (by decide)]; exact g0
      have zk : ∀ b', b' ≠ 1 → Z 18 b' = N4 18 b' := fun b' hb => by rw [← hZ, nP_k _ hb, nP_k _ hb]
      have z1 : Z 18 1 = 0 := by rw [← hZ, nP_e]
      have ad : ∀ j b', (j < 10 ∨ 14 < j) → j ≠ 18 → j ≠ 1 → nP (adN Z p) 1 4 (M 1 4 + 1) j b' = N4 j b' := fun j b' h1 h2 h3 => by rw [nP_r h3, adN_j h1 h2, zj j b' h2]
      have ad1 : ∀ b', b' ≠ 4 → nP (adN Z p) 1 4 (M 1 4 + 1) 1 b' = N4 1 b' := fun b' h => by rw [nP_k _ h, adN_j (by decide) (by decide), zj 1 b' (by decide)]
      have ad18 : ∀ b', b' ≠ 3 → b' ≠ 4 → b' ≠ 1 → nP (adN Z p) 1 4 (M 1 4 + 1) 18 b' = N4 18 b' := fun b' h1 h2 h3 => by rw [nP_r (by decide), adN_18, if_neg h1, if_neg h2, zk b' h3]
      have hat := adN_t (M := Z) (o := p) (j := 0) 0
      rw [z3, if_pos rfl, if_pos rfl, if_pos rfl, if_pos rfl, if_pos rfl] at hat
      refine ⟨fun j b' hj => by rw [ad j b' (by omega) (by omega) (by omega)]; exact hst j b' hj, by rw [ad18 2 (by decide) (by decide) (by decide)]; exact e42, by rw [ad18 0 (by decide) (by decide) (by decide)]; exact h0, fun z => by omega, fun _ z => absurd z y, fun _ p' _ hp' => ?_, by rw [ad1 8 (by decide)]; exact h8, by rw [ad1 1 (by decide)]; exact h1, fun z => by rw [ad1 7 (by decide)]; exact h17 z, fun o ho hn => ?_⟩
      · rw [hp] at hp'
        cases hp'
        refine ⟨?_, ?_, ?_, ?_, nP_e _ _ _ _⟩
        · rw [nP_r (by decide), adN_18, if_pos rfl, z3]
        · rw [nP_r (by decide)]
          exact hat.2.1
        · rw [nP_r (by decide)]
          exact hat.2.2.1
        · rw [nP_r (by decide), adN_18, if_neg (by decide), if_neg (by decide)]
          exact z1
      · obtain ⟨y1, y2⟩ := hq o ho hn
        exact ⟨by rw [ad 7 o (by decide) (by decide) (by decide)]; exact y1, fun i hi => by rw [ad 9 _ (by decide) (by decide) (by decide)]; exact y2 i hi⟩
theorem TS.of (hO : OI M) (hT : IT B M) (hB : B ≤ 100000000) : TS M := by
  have c10 := hO.c10
  refine ⟨hT.1, fun t ht => ?_⟩
  obtain ⟨a1, a2, a3, a4, a5, a6, -⟩ := hT.2.2.1 t ht
  exact ⟨by omega, a4, a6, by omega⟩
/-- A MINUTE of the class is the minute of the whole numbers -/
theorem LL.minute (h : LL S M) (hI : Inv B M) (hB : B ≤ 10000000) : LL (s_X6_passMinute S) (miN M) := by
  have h3i := m3_inv hI
  obtain ⟨hL, hTR, hD3⟩ := m3_facts hI
  obtain ⟨hO, hT, hD, hIB, hC, hR⟩ := id hI
  have c10 := hO.c10
  have t3 := hT.1
  have b0 := hIB.1
  have b1 := hIB.2.1
  have e3 : tmN M 18 3 = M 18 3 := tmN_j (by decide) (by decide)
  have e2 : tmN M 18 2 = M 18 2 := tmN_j (by decide) (by decide)
  have hO' : OI (tmN M) := hO.fr (fun j b hj => tmN_j (by omega) (by omega)) e2
  have hT' : IT B (tmN M) := hT.fr (fun j b hj => tmN_j (by omega) (by omega)) e2 e3 (tmN_j (by decide) (by decide))
  have hD' : ID (tmN M) := hD.fr (fun b => tmN_j (by decide) (by omega)) (fun b => tmN_j (by decide) (by omega)) e3
  have hC' : IC (tmN M) := hC.fr (fun b _ => tmN_j (by decide) (by omega)) (fun b => tmN_j (by decide) (by omega)) (fun b => tmN_j (by decide) (by omega)) e2
  -- the time
  have hT0 : ∃ S0, LL S0 (tmN M) ∧ s_X6_passMinute S = s_X6_passMinute_L29 (mu 0 + 1) S0 (iN 0) := by
    have h1 := h.sf 0 (M 18 0 + 1)
    unfold s_X6_passMinute
    rw [h.2 0 (by decide) (by decide), iN_s]
    unfold s_X6_passMinute_L10
    rw [sF_e, show (60 : Int32) = iN 60 from rfl, iN_rem (by omega) (by decide)]
    by_cases q : (M 18 0 + 1) % 60 = 0
    · rw [if_pos ((iN_0 (by omega)).mpr q)]
      refine ⟨_, ?_, rfl⟩
      unfold tmN
      rw [if_pos q]
      exact h1.day (by rw [nP_k _ (by decide)]; exact c10)
    · rw [if_neg (fun z => q ((iN_0 (by omega)).mp z))]
      refine ⟨_, ?_, rfl⟩
      unfold tmN
      rw [if_neg q]
      exact h1
  obtain ⟨S0, hS0, es⟩ := hT0
  obtain ⟨S', hS', es'⟩ := LL.acts hO' hT'.2.2.1 hD' hC' (by omega) (show B < 100000000 by omega) (by rw [tmN_j (by decide) (by omega), tmN_j (by decide) (by omega)]; exact ⟨hR.2.1, hR.2.2.2.2.2⟩) (fun o ho => by
    have z1 := (tmN_5 (M := M) o).1
    have z2 := hIB.2.2.1 o (by omega)
    omega) (M 18 3) 0 S0 (mu 0 + 1) (by omega) (by rw [mu_0]; omega) hS0
  rw [es, es', e3]
  rw [e3] at hS'
  have hTS := hL.ts (by omega) (show B < 1000000000 by omega) (by omega)
  have h3 : LL (s_X6_tearUpWhereTwoMeet S') (m3N M) := LL.tear 3 0 0 S' _ (mu 0 + 1) (by decide) (by decide) hS' hTS (by rw [mu_0]; omega)
  generalize s_X6_tearUpWhereTwoMeet S' = S3 at h3 ⊢
  have hTS3 := TS.of h3i.1 h3i.2.1 (show B + 3 ≤ 100000000 by omega)
  have n3 := h3i.2.1.1
  have fin : ∀ (S4 : SM), LL S4 (m4N M) → LL (s_X6_passMinute_L119 S4 (iN (M 18 3))) (miN M) := by
    intro S4 h4
    have h4i := m4_inv hI
    have c4 := h4i.1
    have n4 := h4i.2.1.1
    unfold s_X6_passMinute_L119
    rw [h4.tc]
    by_cases q : 0 < m4N M 18 3
    · rw [if_pos ((iN_pos (by omega)).mpr q), mi_y q]
      exact h4.sf 1 0
    · rw [if_neg (fun z => q ((iN_pos (by omega)).mp z)), mi_n q]
      unfold s_X6_stayWithoutToken
      rw [h4.2 1 (by decide) (by decide), iN_s]
      have h5 : Inv (B + 4) (nP (m4N M) 18 1 (m4N M 18 1 + 1)) := (h4i.mono (show B + 3 ≤ B + 4 by omega)).sil (by have := h4i.2.2.2.1.2.1; omega)
      exact (h4.sf 1 (m4N M 18 1 + 1)).elect h5.1 (by rw [nP_k _ (by decide)]; omega) (by have := h5.2.2.2.1.2.1; omega) (by have := h5.2.2.2.2.2; exact this.2.2.2.1)
  unfold s_X6_passMinute_L99
  rw [h3.spk hTS3]
  have hs : spkN (m3N M) (m3N M 18 3) ≤ m3N M 18 3 * 1 := nsum_le _ (fun i _ => by show (if m3N M 14 i = 0 then 0 else 1) ≤ 1; split <;> omega)
  by_cases q : spkN (m3N M) (m3N M 18 3) < 2
  · rw [if_pos (show iN (spkN (m3N M) (m3N M 18 3)) < 2 from (iN_lt (b := 2) (by omega) (by decide)).mpr q)]
    refine fin S3 ?_
    unfold m4N
    rw [if_pos q]
    exact h3
  · rw [if_neg (show ¬ iN (spkN (m3N M) (m3N M 18 3)) < 2 from fun z => q ((iN_lt (b := 2) (by omega) (by decide)).mp z))]
    refine fin _ ?_
    unfold m4N
    rw [if_neg q]
    exact h3.raise (j := 1) (by decide) (n := 9) (by decide) (k := 7) (by decide)
end MJ
