-- PART 36: the operations in whole numbers
def adL (M : NM) (o p len : Nat) : NM := nP (nP (nP (nP M 8 (6 * o + M 7 o) p) 9 (6 * o + M 7 o) len) 7 o (M 7 o + 1)) 1 0 (M 1 0 + 1)
def loN (M : NM) (t : Nat) : NM := drN (nP M 1 6 (M 1 6 + 1)) t
def shN (M : NM) (o v : Nat) : NM := match stand M o with
  | none => nP M 4 o v
  | some t => loN (nP M 4 o v) t
def sxN (M : NM) (o : Nat) : NM := match stand M o with
  | none => adN M o
  | some t => drN (nP (adN M o) 1 5 (M 1 5 + 1)) t
section OP
variable {S S' : SM} {M N M' : NM} {B o p i t u k v : Nat}
theorem IB.fr (h : IB B M) {B' : Nat} (hB : B ≤ B') (h0 : N 18 0 = M 18 0) (h1 : N 18 1 = M 18 1) (h2 : N 18 2 = M 18 2) (h5 : ∀ o, N 5 o = M 5 o) (g1 : N 1 1 ≤ B') (g5 : N 1 5 ≤ B') (g6 : N 1 6 ≤ B') : IB B' N := by
  obtain ⟨a, b, d, -, -, -⟩ := h
  refine ⟨by omega, by omega, fun o ho => ?_, g1, g5, g6⟩
  rw [h2] at ho
  rw [h5]
  have := d o ho
  omega
theorem IT.drop (h : IT B M) (ht : t < M 18 3) : IT B (drN M t) := by
  obtain ⟨a, b, d, e⟩ := h
  have e3 : drN M t 18 3 = M 18 3 - 1 := drN_3 t
  have e4 : drN M t 18 4 = M 18 4 := drN_o (by omega) t
  have e2 : drN M t 18 2 = M 18 2 := drN_o (by omega) t
  refine ⟨by omega, by omega, fun w hw => ?_, fun w x h1 hx => ?_⟩
  · rw [e3] at hw
    have g : ∀ y, y < M 18 3 → (∀ j, 10 ≤ j → j ≤ 14 → drN M t j w = M j y) → TT B (drN M t) w := by
      intro y hy hj
      have T := d y hy
      refine T.fr (hj 10 (by decide) (by decide)) (hj 11 (by decide) (by decide)) (hj 12 (by decide) (by decide)) (hj 13 (by decide) (by decide)) (hj 14 (by decide) (by decide)) (fun b => drN_o (by omega) t) e2 (by omega) (fun z => ?_)
      rw [drN_o (by omega), drN_o (by omega)]
      exact T.2.2.2.2.2.2.2.2 z
    by_cases q : t ≤ w ∧ w + 1 < M 18 3
    · exact g (w + 1) (by omega) (fun j j1 j2 => by rw [drN_t j1 j2, if_pos q])
    · exact g w (by omega) (fun j j1 j2 => by rw [drN_t j1 j2, if_neg q])
  · rw [e3] at hx
    rw [drN_t (by decide) (by decide), drN_t (by decide) (by decide)]
    split <;> split
    · exact e _ _ (by omega) (by omega)
    · omega
    · exact e _ _ (by omega) (by omega)
    · exact e _ _ (by omega) (by omega)
theorem ID.drop (h : ID M) : ID (drN M t) := by
  intro w x h1 hx
  rw [drN_3] at hx
  rw [drN_t (by decide) (by decide), drN_t (by decide) (by decide), drN_t (by decide) (by decide), drN_t (by decide) (by decide)]
  by_cases q1 : t ≤ w ∧ w + 1 < M 18 3
  · rw [if_pos q1, if_pos q1, if_pos (by omega), if_pos (by omega)]
    exact h _ _ (by omega) (by omega)
  · rw [if_neg q1, if_neg q1]
    by_cases q2 : t ≤ x ∧ x + 1 < M 18 3
    · rw [if_pos q2, if_pos q2]
      exact h _ _ (by omega) (by omega)
    · rw [if_neg q2, if_neg q2]
      exact h _ _ (by omega) (by omega)
theorem drop_j {v : Nat} {j b : Nat} (h : (j < 10 ∨ 14 < j) ∧ ¬ (j = 18 ∧ b = 3)) (hk : ¬ (j = 1 ∧ b = k)) (t : Nat) : drN (nP M 1 k v) t j b = M j b := by
  rw [drN_o h, nP_get, if_neg hk]
/-- a token goes: it was lost, or torn up -/
theorem Inv.drop (h : Inv B M) (ht : t < M 18 3) (hk : k = 5 ∨ k = 6) : Inv (B + 1) (drN (nP M 1 k (M 1 k + 1)) t) := by
  obtain ⟨a, b, d, e, f, g⟩ := h
  have e2 : drN (nP M 1 k (M 1 k + 1)) t 18 2 = M 18 2 := drop_j (by omega) (by omega) t
  have hT : IT B (nP M 1 k (M 1 k + 1)) := b.fr (fun j b hj => nP_r (by omega) b) (nP_r (by decide) _) (nP_r (by decide) _) (nP_r (by decide) _)
  have hD : ID (nP M 1 k (M 1 k + 1)) := d.fr (fun b => nP_r (by decide) b) (fun b => nP_r (by decide) b) (nP_r (by decide) _)
  have hv : ∀ b, drN (nP M 1 k (M 1 k + 1)) t 1 b = if b = k then M 1 k + 1 else M 1 b := fun b => by
    rw [drN_o (by omega), nP_get]
    by_cases q : b = k
    · rw [if_pos ⟨rfl, q⟩, if_pos q]
    · rw [if_neg (fun z => q z.2), if_neg q]
  obtain ⟨e1, e2', e3, e4, e5, e6⟩ := e
  refine ⟨a.fr (fun j b hj => drop_j (by omega) (by omega) t) e2, (hT.drop (by rw [nP_r (by decide)]; exact ht)).mono (by omega), hD.drop, ?_, f.fr (fun b hb => drop_j (by omega) (by omega) t) (fun b => drop_j (by omega) (by omega) t) (fun b => drop_j (by omega) (by omega) t) e2, g.fr (fun b => drop_j (by omega) (by omega) t)⟩
  refine IB.fr (M := M) (B := B) ⟨e1, e2', e3, e4, e5, e6⟩ (by omega) (drop_j (by omega) (by omega) t) (drop_j (by omega) (by omega) t) e2 (fun o => drop_j (by omega) (by omega) t) ?_ ?_ ?_
  · rw [hv]
    split <;> omega
  · rw [hv]
    split
    · rcases hk with rfl | rfl <;> omega
    · omega
  · rw [hv]
    split
    · rcases hk with rfl | rfl <;> omega
    · omega
theorem LL.lose (h : LL S M) (h3 : M 18 3 ≤ 3) (ht : t < M 18 3) : LL (s_X6_loseToken S (iN t)) (loN M t) := by
  unfold s_X6_loseToken s_X6_loseToken_L30 s_X6_loseToken_L39 loN
  have h1 := (h.log 5 (at_ 3 (S 10) (iN t)) (at_ 3 (S 11) (iN t))).raise (j := 1) (by decide) (n := 9) (by decide) (k := 6) (by decide)
  exact h1.drop (by rw [nP_r (by decide)]; exact h3) (by rw [nP_r (by decide)]; exact ht)
theorem Inv.lose (h : Inv B M) (ht : t < M 18 3) : Inv (B + 1) (loN M t) := h.drop ht (by decide)
theorem stand_cong (h11 : ∀ b, N 11 b = M 11 b) (h12 : ∀ b, N 12 b = M 12 b) (h3 : N 18 3 = M 18 3) (x : Nat) : stand N x = stand M x := by
  unfold stand
  rw [h3]
  generalize M 18 3 = n
  induction n with
  | zero => rfl
  | succ n ih => rw [stN, stN, ih, h11, h12]
theorem TS.inv (h : Inv B M) (hB : B ≤ 100000000) : TS M := TS.of h.1 h.2.1 hB
/-- at most one stands there -/
theorem stand_of (h : ID M) (ht : t < M 18 3) (h12 : M 12 t = 0) : stand M (M 11 t) = some t := by
  cases hs : stand M (M 11 t) with
  | none => exact absurd ⟨h12, rfl⟩ ((stN_none _).mp hs t ht)
  | some u =>
    obtain ⟨a, b, d, e⟩ := stN_some _ hs
    rcases Nat.lt_trichotomy u t with q | q | q
    · exact absurd d (h u t q ht b h12)
    · rw [q]
    · exact absurd d.symm (h t u q a h12 b)
theorem LL.shut (h : LL S M) (hT : TS M) (ho : o < 10) (hv : v ≤ 1) : LL (s_X6_shutOrOpen S (iN o) (iN v)) (shN M o v) := by
  have t3 := hT.1
  unfold s_X6_shutOrOpen s_X6_shutOrOpen_L12 s_X6_shutOrOpen_L23
  have h1 := (h.put (j := 4) (by decide) (n := 10) (by decide) ho v).log 7 (iN o) (iN v)
  have hT1 : TS (nP M 4 o v) := by
    unfold TS
    rw [nP_r (by decide)]
    refine ⟨t3, fun t ht => ?_⟩
    rw [nP_r (by decide), nP_r (by decide), nP_r (by decide), nP_r (by decide)]
    exact hT.2 t ht
  have es := stand_cong (N := nP M 4 o v) (M := M) (fun b => nP_r (by decide) b) (fun b => nP_r (by decide) b) (nP_r (by decide) _) o
  rw [h1.std hT1 (by omega), es]
  unfold shN
  cases hs : stand M o with
  | none =>
    rw [if_pos (show iO none = -2 from rfl)]
    exact h1
  | some t =>
    have ht := (stN_some _ hs).1
    rw [if_neg (show ¬ iO (some t) = -2 from iN_m2 (by omega))]
    exact h1.lose (by rw [nP_r (by decide)]; exact t3) (by rw [nP_r (by decide)]; exact ht)
theorem Inv.shut (h : Inv B M) (ho : o < M 18 2) (hv : v ≤ 1) (hne : M 4 o ≠ v) : Inv (B + 1) (shN M o v) := by
  obtain ⟨a, b, d, e, f, g⟩ := h
  have e2 : nP M 4 o v 18 2 = M 18 2 := nP_r (by decide) _
  have hO : OI (nP M 4 o v) := by
    obtain ⟨a1, a2, a3, a4⟩ := a
    refine ⟨by rw [e2]; exact a1, by rw [e2]; exact a2, fun w hw => ?_, fun w x h1 h2 => ?_⟩
    · rw [e2] at hw ⊢
      rw [nP_r (show (2 : Nat) ≠ 4 by decide), nP_r (show (3 : Nat) ≠ 4 by decide), nP_r (show (7 : Nat) ≠ 4 by decide)]
      obtain ⟨d1, d2, d3, d4, d5, d6, d7⟩ := a3 w hw
      refine ⟨d1, d2, d3, d4, ?_, d6, fun i hi => ?_⟩
      · rw [nP_get]
        split
        · exact hv
        · exact d5
      · rw [nP_r (by decide), nP_r (by decide)]
        exact d7 i hi
    · rw [e2] at h2
      rw [nP_r (by decide), nP_r (by decide)]
      exact a4 w x h1 h2
  have hC : IC (nP M 4 o v) := f.fr (fun b _ => nP_r (by decide) b) (fun b => nP_r (by decide) b) (fun b => nP_r (by decide) b) e2
  have hR : IR (nP M 4 o v) := g.fr (fun b => nP_r (by decide) b)
  have hD : ID (nP M 4 o v) := d.fr (fun b => nP_r (by decide) b) (fun b => nP_r (by decide) b) (nP_r (by decide) _)
  have hB : IB B (nP M 4 o v) := e.fr (Nat.le_refl _) (nP_r (by decide) _) (nP_r (by decide) _) e2 (fun b => nP_r (by decide) b) (by rw [nP_r (by decide)]; exact e.2.2.2.1) (by rw [nP_r (by decide)]; exact e.2.2.2.2.1) (by rw [nP_r (by decide)]; exact e.2.2.2.2.2)
  -- a token that does not stand there
  have hTT : ∀ t, t < M 18 3 → ¬ (M 12 t = 0 ∧ M 11 t = o) → TT B (nP M 4 o v) t := by
    intro t ht hn
    have T := b.2.2.1 t ht
    obtain ⟨a1, a2, a3, a4, a5, a6, a7, a8, a9⟩ := T
    unfold TT
    rw [nP_r (show (10 : Nat) ≠ 4 by decide), nP_r (show (11 : Nat) ≠ 4 by decide), nP_r (show (12 : Nat) ≠ 4 by decide), nP_r (show (13 : Nat) ≠ 4 by decide), nP_r (show (14 : Nat) ≠ 4 by decide), nP_r (show (18 : Nat) ≠ 4 by decide), e2, nP_r (show (7 : Nat) ≠ 4 by decide), nP_r (show (9 : Nat) ≠ 4 by decide)]
    refine ⟨a1, a2, a3, a4, a5, a6, a7, fun z => ?_, a9⟩
    rw [nP_get, if_neg (fun w => hn ⟨z, w.2⟩)]
    exact a8 z
  unfold shN
  cases hs : stand M o with
  | none =>
    have hno := (stN_none _).mp hs
    show Inv (B + 1) (nP M 4 o v)
    refine (Inv.mono (B := B) ⟨hO, ⟨by rw [nP_r (by decide)]; exact b.1, by rw [nP_r (by decide)]; exact b.2.1, fun t ht => ?_, fun t u h1 hu => ?_⟩, hD, hB, hC, hR⟩ (by omega))
    · rw [nP_r (by decide)] at ht
      exact hTT t ht (hno t ht)
    · rw [nP_r (by decide)] at hu
      rw [nP_r (by decide), nP_r (by decide)]
      exact b.2.2.2 t u h1 hu
  | some t0 =>
    obtain ⟨s1, s2, s3, s4⟩ := stN_some _ hs
    -- drop the one first, then the office is shut
    have hI1 := (show Inv B M from ⟨a, b, d, e, f, g⟩).lose s1
    have eq : loN (nP M 4 o v) t0 = nP (loN M t0) 4 o v := by
      funext j b'
      unfold loN
      by_cases q4 : j = 4 ∧ b' = o
      · rw [nP_get (drN _ _), if_pos q4, drN_o (by omega), nP_r (by omega), nP_get, if_pos q4]
      · rw [nP_get (drN _ _), if_neg q4]
        unfold drN
        rw [nP_r (show (18 : Nat) ≠ 1 by decide), nP_r (show (18 : Nat) ≠ 4 by decide), nP_r (show (18 : Nat) ≠ 1 by decide), nP_r (show (1 : Nat) ≠ 4 by decide)]
        by_cases q1 : (10 ≤ j ∧ j ≤ 14) ∧ t0 ≤ b' ∧ b' + 1 < M 18 3
        · rw [if_pos q1, if_pos q1, nP_r (by omega), nP_r (by omega), nP_r (by omega)]
        · rw [if_neg q1, if_neg q1]
          by_cases q2 : j = 18 ∧ b' = 3
          · rw [if_pos q2, if_pos q2]
          · rw [if_neg q2, if_neg q2, nP_get, nP_get M 1 6]
            by_cases q3 : j = 1 ∧ b' = 6
            · rw [if_pos q3, if_pos q3]
            · rw [if_neg q3, if_neg q3, nP_get, if_neg q4]
    show Inv (B + 1) (loN (nP M 4 o v) t0)
    have n18 : ∀ b', b' ≠ 3 → loN M t0 18 b' = M 18 b' := fun b' hb => drop_j (by omega) (by omega) t0
    have n3 : loN M t0 18 3 = M 18 3 - 1 := by unfold loN; rw [drN_3, nP_r (by decide)]
    have nt : ∀ j b', 10 ≤ j → j ≤ 14 → loN M t0 j b' = if t0 ≤ b' ∧ b' + 1 < M 18 3 then M j (b' + 1) else M j b' := fun j b' j1 j2 => by
      unfold loN
      rw [drN_t j1 j2, nP_r (by decide), nP_r (by omega), nP_r (by omega)]
    obtain ⟨a', b', d', e', f', g'⟩ := hI1
    rw [eq]
    generalize loN M t0 = L at *
    have e2' : nP L 4 o v 18 2 = L 18 2 := nP_r (by decide) _
    refine ⟨?_, ⟨by rw [nP_r (by decide)]; exact b'.1, by rw [nP_r (by decide)]; exact b'.2.1, fun t ht => ?_, fun t u h1 hu => ?_⟩, d'.fr (fun b => nP_r (by decide) b) (fun b => nP_r (by decide) b) (nP_r (by decide) _), ?_, f'.fr (fun b _ => nP_r (by decide) b) (fun b => nP_r (by decide) b) (fun b => nP_r (by decide) b) e2', g'.fr (fun b => nP_r (by decide) b)⟩
    · obtain ⟨a1, a2, a3, a4⟩ := a'
      refine ⟨by rw [e2']; exact a1, by rw [e2']; exact a2, fun w hw => ?_, fun w x h1 h2 => ?_⟩
      · rw [e2'] at hw ⊢
        rw [nP_r (show (2 : Nat) ≠ 4 by decide), nP_r (show (3 : Nat) ≠ 4 by decide), nP_r (show (7 : Nat) ≠ 4 by decide)]
        obtain ⟨d1, d2, d3, d4, d5, d6, d7⟩ := a3 w hw
        refine ⟨d1, d2, d3, d4, ?_, d6, fun i hi => ?_⟩
        · rw [nP_get]
          split
          · exact hv
          · exact d5
        · rw [nP_r (by decide), nP_r (by decide)]
          exact d7 i hi
      · rw [e2'] at h2
        rw [nP_r (by decide), nP_r (by decide)]
        exact a4 w x h1 h2
    · rw [nP_r (by decide), n3] at ht
      have T := b'.2.2.1 t (by omega)
      obtain ⟨a1, a2, a3, a4, a5, a6, a7, a8, a9⟩ := T
      unfold TT
      rw [nP_r (show (10 : Nat) ≠ 4 by decide), nP_r (show (11 : Nat) ≠ 4 by decide), nP_r (show (12 : Nat) ≠ 4 by decide), nP_r (show (13 : Nat) ≠ 4 by decide), nP_r (show (14 : Nat) ≠ 4 by decide), nP_r (show (18 : Nat) ≠ 4 by decide), e2', nP_r (show (7 : Nat) ≠ 4 by decide), nP_r (show (9 : Nat) ≠ 4 by decide)]
      refine ⟨a1, a2, a3, a4, a5, a6, a7, fun z => ?_, a9⟩
      rw [nP_get, if_neg (fun w => ?_)]
      · exact a8 z
      · have w2 := w.2
        rw [nt 11 t (by decide) (by decide)] at w2
        rw [nt 12 t (by decide) (by decide)] at z
        by_cases q : t0 ≤ t ∧ t + 1 < M 18 3
        · rw [if_pos q] at w2 z
          exact d t0 (t + 1) (by omega) q.2 s2 z (s3.trans w2.symm)
        · rw [if_neg q] at w2 z
          exact d t t0 (by omega) s1 z s2 (w2.trans s3.symm)
    · rw [nP_r (by decide)] at hu
      rw [nP_r (by decide), nP_r (by decide)]
      exact b'.2.2.2 t u h1 hu
    · exact e'.fr (Nat.le_refl _) (nP_r (by decide) _) (nP_r (by decide) _) e2' (fun b => nP_r (by decide) b) (by rw [nP_r (by decide)]; exact e'.2.2.2.1) (by rw [nP_r (by decide)]; exact e'.2.2.2.2.1) (by rw [nP_r (by decide)]; exact e'.2.2.2.2.2)
/-- a letter comes -/
theorem LL.letter (h : LL S M) (ho : o < 10) (hw : M 7 o < 6) : LL (sU (s_X2_addLetter S (iN o) (iN p) (iN k)) 1 (raise_ 9 ((s_X2_addLetter S (iN o) (iN p) (iN k)) 1) 0)) (adL M o p k) := by
  rw [v_letAdd ho hw (h.a (by decide) o)]
  have h1 := (h.upd (j := 8) (by decide) (6 * o + M 7 o) p).upd (j := 9) (by decide) (6 * o + M 7 o) k
  have h2 := h1.upd (j := 7) (by decide) o (M 7 o + 1)
  have h3 := h2.raise (j := 1) (by decide) (n := 9) (by decide) (k := 0) (by decide)
  rw [nP_r (show (1 : Nat) ≠ 7 by decide), nP_r (show (1 : Nat) ≠ 9 by decide), nP_r (show (1 : Nat) ≠ 8 by decide)] at h3
  exact h3
theorem adL_j {j : Nat} (h1 : j ≠ 1) (h7 : j ≠ 7) (h8 : j ≠ 8) (h9 : j ≠ 9) (b : Nat) : adL M o p k j b = M j b := by
  unfold adL
  rw [nP_r h1, nP_r h7, nP_r h9, nP_r h8]
theorem adL_7 (b : Nat) : adL M o p k 7 b = if b = o then M 7 o + 1 else M 7 b := by
  unfold adL
  rw [nP_r (by decide), nP_get]
  by_cases q : b = o
  · rw [if_pos ⟨rfl, q⟩, if_pos q]
  · rw [if_neg (fun z => q z.2), if_neg q, nP_r (by decide), nP_r (by decide)]
theorem adL_8 (b : Nat) : adL M o p k 8 b = if b = 6 * o + M 7 o then p else M 8 b := by
  unfold adL
  rw [nP_r (by decide), nP_r (by decide), nP_r (by decide), nP_get]
  by_cases q : b = 6 * o + M 7 o
  · rw [if_pos ⟨rfl, q⟩, if_pos q]
  · rw [if_neg (fun z => q z.2), if_neg q]
theorem adL_9 (b : Nat) : adL M o p k 9 b = if b = 6 * o + M 7 o then k else M 9 b := by
  unfold adL
  rw [nP_r (by decide), nP_r (by decide), nP_get]
  by_cases q : b = 6 * o + M 7 o
  · rw [if_pos ⟨rfl, q⟩, if_pos q]
  · rw [if_neg (fun z => q z.2), if_neg q, nP_r (by decide)]
theorem adL_1 (b : Nat) : adL M o p k 1 b = if b = 0 then M 1 0 + 1 else M 1 b := by
  unfold adL
  rw [nP_get]
  by_cases q : b = 0
  · rw [if_pos ⟨rfl, q⟩, if_pos q]
  · rw [if_neg (fun z => q z.2), if_neg q, nP_r (by decide), nP_r (by decide), nP_r (by decide)]
theorem OI.letter (a : OI M) (ho : o < M 18 2) (hp : p < M 18 2) (hne : p ≠ o) (hw : M 7 o < 6) (h1 : 1 ≤ k) (h9 : k ≤ 9) : OI (adL M o p k) := by
  have e2 : adL M o p k 18 2 = M 18 2 := adL_j (by decide) (by decide) (by decide) (by decide) _
  obtain ⟨a1, a2, a3, a4⟩ := a
  refine ⟨by rw [e2]; exact a1, by rw [e2]; exact a2, fun w hw' => ?_, fun w x g1 g2 => ?_⟩
  · rw [e2] at hw' ⊢
    rw [adL_j (by decide) (by decide) (by decide) (by decide), adL_j (by decide) (by decide) (by decide) (by decide), adL_j (by decide) (by decide) (by decide) (by decide), adL_7]
    obtain ⟨d1, d2, d3, d4, d5, d6, d7⟩ := a3 w hw'
    refine ⟨d1, d2, d3, d4, d5, ?_, fun i hi => ?_⟩
    · split <;> omega
    · rw [adL_8, adL_9]
      by_cases q : w = o
      · subst q
        rw [if_pos rfl] at hi
        by_cases q2 : i = M 7 w
        · rw [if_pos (by omega), if_pos (by omega)]
          exact ⟨hp, hne, h1, h9⟩
        · rw [if_neg (by omega), if_neg (by omega)]
          exact d7 i (by omega)
      · rw [if_neg q] at hi
        rw [if_neg (by omega), if_neg (by omega)]
        exact d7 i hi
  · rw [e2] at g2
    rw [adL_j (by decide) (by decide) (by decide) (by decide), adL_j (by decide) (by decide) (by decide) (by decide)]
    exact a4 w x g1 g2
theorem IC.letter (f : IC M) (ho : o < M 18 2) : IC (adL M o p k) := by
  have e2 : adL M o p k 18 2 = M 18 2 := adL_j (by decide) (by decide) (by decide) (by decide) _
  obtain ⟨f1, f2⟩ := f
  have e7 : nsum (adL M o p k 7) (M 18 2) + M 7 o = nsum (M 7) (M 18 2) + (M 7 o + 1) := nsum_upd (f := M 7) (g := adL M o p k 7) (o := o) (by rw [adL_7, if_pos rfl]) (fun i hi => by rw [adL_7, if_neg hi]) _ ho
  refine ⟨?_, ?_⟩
  · rw [e2, adL_1, adL_1, adL_1, adL_1, if_pos rfl, if_neg (by decide), if_neg (by decide), if_neg (by decide)]
    omega
  · rw [e2, adL_1, if_neg (by decide), nsum_congr (f := adL M o p k 6) (g := M 6) _ (fun i _ => adL_j (by decide) (by decide) (by decide) (by decide) i)]
    exact f2
theorem Inv.letter (h : Inv B M) (ho : o < M 18 2) (hp : p < M 18 2) (hne : p ≠ o) (hw : M 7 o < 6) (h1 : 1 ≤ k) (h9 : k ≤ 9) : Inv B (adL M o p k) := by
  obtain ⟨a, b, d, e, f, g⟩ := h
  have w6 := fun u hu => a.w6 (o := u) hu
  have e2 : adL M o p k 18 2 = M 18 2 := adL_j (by decide) (by decide) (by decide) (by decide) _
  have ej : ∀ j b, j ≠ 1 → j ≠ 7 → j ≠ 8 → j ≠ 9 → adL M o p k j b = M j b := fun j b x1 x7 x8 x9 => adL_j x1 x7 x8 x9 b
  refine ⟨a.letter ho hp hne hw h1 h9, ⟨by rw [ej 18 3 (by decide) (by decide) (by decide) (by decide)]; exact b.1, by rw [ej 18 4 (by decide) (by decide) (by decide) (by decide)]; exact b.2.1, fun t ht => ?_, fun t u g1 hu => ?_⟩, d.fr (fun b => ej 11 b (by decide) (by decide) (by decide) (by decide)) (fun b => ej 12 b (by decide) (by decide) (by decide) (by decide)) (ej 18 3 (by decide) (by decide) (by decide) (by decide)), ?_, f.letter ho, g.fr (fun b => ej 0 b (by decide) (by decide) (by decide) (by decide))⟩
  · rw [ej 18 3 (by decide) (by decide) (by decide) (by decide)] at ht
    have T := b.2.2.1 t ht
    refine T.fr (ej 10 _ (by decide) (by decide) (by decide) (by decide)) (ej 11 _ (by decide) (by decide) (by decide) (by decide)) (ej 12 _ (by decide) (by decide) (by decide) (by decide)) (ej 13 _ (by decide) (by decide) (by decide) (by decide)) (ej 14 _ (by decide) (by decide) (by decide) (by decide)) (fun b => ej 4 b (by decide) (by decide) (by decide) (by decide)) e2 (Nat.le_of_eq (ej 18 4 (by decide) (by decide) (by decide) (by decide)).symm) (fun z => ?_)
    obtain ⟨y1, y2⟩ := T.2.2.2.2.2.2.2.2 z
    rw [adL_7, adL_9]
    have z1 := w6 _ T.2.2.1
    refine ⟨?_, ?_⟩
    · split <;> omega
    · rw [if_neg (fun w => y1 (by
        have : M 11 t = o := by omega
        rw [this]
        omega))]
      exact y2
  · rw [ej 18 3 (by decide) (by decide) (by decide) (by decide)] at hu
    rw [ej 10 _ (by decide) (by decide) (by decide) (by decide), ej 10 _ (by decide) (by decide) (by decide) (by decide)]
    exact b.2.2.2 t u g1 hu
  · refine e.fr (Nat.le_refl _) (ej 18 0 (by decide) (by decide) (by decide) (by decide)) (ej 18 1 (by decide) (by decide) (by decide) (by decide)) e2 (fun b => ej 5 b (by decide) (by decide) (by decide) (by decide)) ?_ ?_ ?_
    · rw [adL_1, if_neg (by decide)]
      exact e.2.2.2.1
    · rw [adL_1, if_neg (by decide)]
      exact e.2.2.2.2.1
    · rw [adL_1, if_neg (by decide)]
      exact e.2.2.2.2.2
/-- a letter is taken back -/
def caN (M : NM) (o i : Nat) : NM := nP (rmN M o i) 1 3 (M 1 3 + 1)
theorem LL.cancel (h : LL S M) (ho : o < 10) (hw : M 7 o ≤ 6) (hi : i < M 7 o) : LL (sU (s_X2_removeLetter S (iN o) (iN i)) 1 (raise_ 9 ((s_X2_removeLetter S (iN o) (iN i)) 1) 3)) (caN M o i) := by
  have h1 := (h.rem ho hw hi).raise (j := 1) (by decide) (n := 9) (by decide) (k := 3) (by decide)
  rw [rmN_j (by decide) (by decide) (by decide)] at h1
  exact h1
theorem Inv.cancel (h : Inv B M) (ho : o < M 18 2) (hi : i < M 7 o) (hz : i = 0 → ∀ t, t < M 18 3 → M 14 t ≠ 0 → M 11 t ≠ o) : Inv B (caN M o i) := by
  obtain ⟨a, b, d, e, f, g⟩ := h
  have w6 := a.w6 ho
  have ej : ∀ j b, j ≠ 1 → j ≠ 7 → j ≠ 8 → j ≠ 9 → caN M o i j b = M j b := fun j b x1 x7 x8 x9 => by
    unfold caN
    rw [nP_r x1, rmN_j x7 x8 x9]
  have e789 : ∀ j b, j ≠ 1 → caN M o i j b = rmN M o i j b := fun j b x1 => by
    unfold caN
    rw [nP_r x1]
  have e1 : ∀ b, caN M o i 1 b = if b = 3 then M 1 3 + 1 else M 1 b := fun b => by
    unfold caN
    rw [nP_get]
    by_cases q : b = 3
    · rw [if_pos ⟨rfl, q⟩, if_pos q]
    · rw [if_neg (fun z => q z.2), if_neg q, rmN_j (by decide) (by decide) (by decide)]
  have e2 : caN M o i 18 2 = M 18 2 := ej 18 2 (by decide) (by decide) (by decide) (by decide)
  have hO : OI (caN M o i) := (a.rem ho hi).fr (fun j b hj => e789 j b (by omega)) (e789 18 2 (by decide))
  have e7 : nsum (caN M o i 7) (M 18 2) + M 7 o = nsum (M 7) (M 18 2) + (M 7 o - 1) := nsum_upd (f := M 7) (g := caN M o i 7) (o := o) (by rw [e789 7 _ (by decide), rmN_7, if_pos rfl]) (fun i' hi' => by rw [e789 7 _ (by decide), rmN_7, if_neg hi']) _ ho
  refine ⟨hO, ⟨by rw [ej 18 3 (by decide) (by decide) (by decide) (by decide)]; exact b.1, by rw [ej 18 4 (by decide) (by decide) (by decide) (by decide)]; exact b.2.1, fun t ht => ?_, fun t u g1 hu => ?_⟩, d.fr (fun b => ej 11 b (by decide) (by decide) (by decide) (by decide)) (fun b => ej 12 b (by decide) (by decide) (by decide) (by decide)) (ej 18 3 (by decide) (by decide) (by decide) (by decide)), ?_, ?_, g.fr (fun b => ej 0 b (by decide) (by decide) (by decide) (by decide))⟩
  · rw [ej 18 3 (by decide) (by decide) (by decide) (by decide)] at ht
    have T := b.2.2.1 t ht
    refine T.fr (ej 10 _ (by decide) (by decide) (by decide) (by decide)) (ej 11 _ (by decide) (by decide) (by decide) (by decide)) (ej 12 _ (by decide) (by decide) (by decide) (by decide)) (ej 13 _ (by decide) (by decide) (by decide) (by decide)) (ej 14 _ (by decide) (by decide) (by decide) (by decide)) (fun b => ej 4 b (by decide) (by decide) (by decide) (by decide)) e2 (Nat.le_of_eq (ej 18 4 (by decide) (by decide) (by decide) (by decide)).symm) (fun z => ?_)
    obtain ⟨y1, y2⟩ := T.2.2.2.2.2.2.2.2 z
    rw [e789 7 _ (by decide), e789 9 _ (by decide), rmN_7]
    by_cases q : M 11 t = o
    · have i0 : i ≠ 0 := fun w => hz w t ht z q
      have q9 := rmN_o (M := M) (o := o) (i := i) (Or.inr (rfl : (9 : Nat) = 9)) 0
      rw [Nat.add_zero, if_neg (by omega)] at q9
      rw [q, if_pos rfl, q9]
      rw [q] at y2
      exact ⟨by omega, y2⟩
    · have q9 := rmN_q (M := M) (o := o) (i := i) (p := M 11 t) (Or.inr (rfl : (9 : Nat) = 9)) w6 q (i' := 0) (by decide)
      rw [Nat.add_zero] at q9
      rw [if_neg q, q9]
      exact ⟨y1, y2⟩
  · rw [ej 18 3 (by decide) (by decide) (by decide) (by decide)] at hu
    rw [ej 10 _ (by decide) (by decide) (by decide) (by decide), ej 10 _ (by decide) (by decide) (by decide) (by decide)]
    exact b.2.2.2 t u g1 hu
  · refine e.fr (Nat.le_refl _) (ej 18 0 (by decide) (by decide) (by decide) (by decide)) (ej 18 1 (by decide) (by decide) (by decide) (by decide)) e2 (fun b => ej 5 b (by decide) (by decide) (by decide) (by decide)) ?_ ?_ ?_
    · rw [e1, if_neg (by decide)]
      exact e.2.2.2.1
    · rw [e1, if_neg (by decide)]
      exact e.2.2.2.2.1
    · rw [e1, if_neg (by decide)]
      exact e.2.2.2.2.2
  · obtain ⟨f1, f2⟩ := f
    refine ⟨?_, ?_⟩
    · rw [e2, e1, e1, e1, e1, if_neg (by decide), if_neg (by decide), if_neg (by decide), if_pos rfl]
      omega
    · rw [e2, e1, if_neg (by decide), nsum_congr (f := caN M o i 6) (g := M 6) _ (fun i' _ => ej 6 i' (by decide) (by decide) (by decide) (by decide))]
      exact f2
/-- a number of an office, a rule -/
theorem Inv.way (h : Inv B M) (h1 : 1 ≤ v) (h9 : v ≤ 9) : Inv B (nP M 2 o v) := by
  obtain ⟨a, b, d, e, f, g⟩ := h
  have ej : ∀ j b, j ≠ 2 → nP M 2 o v j b = M j b := fun j b x => nP_r x b
  have e2 : nP M 2 o v 18 2 = M 18 2 := ej 18 2 (by decide)
  refine ⟨?_, b.fr (fun j b hj => ej j b (by omega)) e2 (ej 18 3 (by decide)) (ej 18 4 (by decide)), d.fr (fun b => ej 11 b (by decide)) (fun b => ej 12 b (by decide)) (ej 18 3 (by decide)), ?_, f.fr (fun b _ => ej 1 b (by decide)) (fun b => ej 7 b (by decide)) (fun b => ej 6 b (by decide)) e2, g.fr (fun b => ej 0 b (by decide))⟩
  · obtain ⟨a1, a2, a3, a4⟩ := a
    refine ⟨by rw [e2]; exact a1, by rw [e2]; exact a2, fun w hw => ?_, fun w x g1 g2 => ?_⟩
    · rw [e2] at hw ⊢
      rw [ej 3 _ (by decide), ej 4 _ (by decide), ej 7 _ (by decide), nP_get]
      obtain ⟨d1, d2, d3, d4, d5, d6, d7⟩ := a3 w hw
      refine ⟨?_, ?_, d3, d4, d5, d6, fun i hi => ?_⟩
      · split <;> omega
      · split <;> omega
      · rw [ej 8 _ (by decide), ej 9 _ (by decide)]
        exact d7 i hi
    · rw [e2] at g2
      rw [ej 3 _ (by decide), ej 3 _ (by decide)]
      exact a4 w x g1 g2
  · exact e.fr (Nat.le_refl _) (ej 18 0 (by decide)) (ej 18 1 (by decide)) e2 (fun b => ej 5 b (by decide)) (by rw [ej 1 _ (by decide)]; exact e.2.2.2.1) (by rw [ej 1 _ (by decide)]; exact e.2.2.2.2.1) (by rw [ej 1 _ (by decide)]; exact e.2.2.2.2.2)
theorem Inv.name (h : Inv B M) (h1 : 1 ≤ v) (h9 : v ≤ 99) (hn : ∀ u, u < M 18 2 → M 3 u ≠ v) : Inv B (nP M 3 o v) := by
  obtain ⟨a, b, d, e, f, g⟩ := h
  have ej : ∀ j b, j ≠ 3 → nP M 3 o v j b = M j b := fun j b x => nP_r x b
  have e2 : nP M 3 o v 18 2 = M 18 2 := ej 18 2 (by decide)
  refine ⟨?_, b.fr (fun j b hj => ej j b (by omega)) e2 (ej 18 3 (by decide)) (ej 18 4 (by decide)), d.fr (fun b => ej 11 b (by decide)) (fun b => ej 12 b (by decide)) (ej 18 3 (by decide)), ?_, f.fr (fun b _ => ej 1 b (by decide)) (fun b => ej 7 b (by decide)) (fun b => ej 6 b (by decide)) e2, g.fr (fun b => ej 0 b (by decide))⟩
  · obtain ⟨a1, a2, a3, a4⟩ := a
    refine ⟨by rw [e2]; exact a1, by rw [e2]; exact a2, fun w hw => ?_, fun w x g1 g2 => ?_⟩
    · rw [e2] at hw ⊢
      rw [ej 2 _ (by decide), ej 4 _ (by decide), ej 7 _ (by decide), nP_get]
      obtain ⟨d1, d2, d3, d4, d5, d6, d7⟩ := a3 w hw
      refine ⟨d1, d2, ?_, ?_, d5, d6, fun i hi => ?_⟩
      · split <;> omega
      · split <;> omega
      · rw [ej 8 _ (by decide), ej 9 _ (by decide)]
        exact d7 i hi
    · rw [e2] at g2
      rw [nP_get, nP_get]
      by_cases q1 : w = o
      · rw [if_pos ⟨rfl, q1⟩, if_neg (fun z => by omega)]
        exact fun z => hn x g2 z.symm
      · rw [if_neg (fun z => q1 z.2)]
        by_cases q2 : x = o
        · rw [if_pos ⟨rfl, q2⟩]
          exact hn w (by omega)
        · rw [if_neg (fun z => q2 z.2)]
          exact a4 w x g1 g2
  · exact e.fr (Nat.le_refl _) (ej 18 0 (by decide)) (ej 18 1 (by decide)) e2 (fun b => ej 5 b (by decide)) (by rw [ej 1 _ (by decide)]; exact e.2.2.2.1) (by rw [ej 1 _ (by decide)]; exact e.2.2.2.2.1) (by rw [ej 1 _ (by decide)]; exact e.2.2.2.2.2)
theorem Inv.rule (h : Inv B M) {w : Nat} (hw : (w = 0 ∧ v ≤ 20) ∨ (w = 1 ∧ v ≤ 99) ∨ (w = 2 ∧ v ≤ 60)) (h1 : 1 ≤ v) : Inv B (nP M 0 w v) := by
  obtain ⟨a, b, d, e, f, g⟩ := h
  have ej : ∀ j b, j ≠ 0 → nP M 0 w v j b = M j b := fun j b x => nP_r x b
  have e2 : nP M 0 w v 18 2 = M 18 2 := ej 18 2 (by decide)
  refine ⟨a.fr (fun j b hj => ej j b (by omega)) e2, b.fr (fun j b hj => ej j b (by omega)) e2 (ej 18 3 (by decide)) (ej 18 4 (by decide)), d.fr (fun b => ej 11 b (by decide)) (fun b => ej 12 b (by decide)) (ej 18 3 (by decide)), ?_, f.fr (fun b _ => ej 1 b (by decide)) (fun b => ej 7 b (by decide)) (fun b => ej 6 b (by decide)) e2, ?_⟩
  · exact e.fr (Nat.le_refl _) (ej 18 0 (by decide)) (ej 18 1 (by decide)) e2 (fun b => ej 5 b (by decide)) (by rw [ej 1 _ (by decide)]; exact e.2.2.2.1) (by rw [ej 1 _ (by decide)]; exact e.2.2.2.2.1) (by rw [ej 1 _ (by decide)]; exact e.2.2.2.2.2)
  · obtain ⟨g1, g2, g3, g4, g5, g6⟩ := g
    unfold IR
    simp only [nP_get, true_and]
    refine ⟨?_, ?_, ?_, ?_, ?_, ?_⟩ <;> split <;> omega
/-- a stray token -/
theorem te_no : ∀ e t (M : NM), (∀ u, t ≤ u → u < M 18 3 → ¬ FW M u) → teN e t M = M := by
  intro e
  induction e with
  | zero => intro t M _; rfl
  | succ e ih =>
    intro t M h
    rw [teN_n (fun z => h t (Nat.le_refl _) z.1 z.2)]
    exact ih (t + 1) M (fun u a b => h u (by omega) b)
theorem te_one : ∀ e t (M : NM) (t0 : Nat), t ≤ t0 → t0 < t + e → t0 < M 18 3 → FW M t0 → (∀ u, u < M 18 3 → u ≠ t0 → ¬ FW M u) → (∀ u, u < M 18 3 - 1 → ¬ FW (drN (nP M 1 5 (M 1 5 + 1)) t0) u) → teN e t M = drN (nP M 1 5 (M 1 5 + 1)) t0 := by
  intro e
  induction e with
  | zero => intro t M t0 h1 h2; omega
  | succ e ih =>
    intro t M t0 h1 h2 h3 hF hn hd
    by_cases q : t = t0
    · subst q
      rw [teN_y ⟨h3, hF⟩]
      refine te_no _ _ _ (fun u _ hu => hd u ?_)
      rw [drN_3, nP_r (by decide)] at hu
      exact hu
    · rw [teN_n (fun z => hn t z.1 q z.2)]
      exact ih (t + 1) M t0 (by omega) (by omega) h3 hF hn hd
theorem sx_te (hD : ID M) (h3 : M 18 3 < 3) : teN 3 0 (adN M o) = sxN M o := by
  have e3 : adN M o 18 3 = M 18 3 + 1 := by rw [adN_18, if_pos rfl]
  have a11 : ∀ b, adN M o 11 b = if b = M 18 3 then o else M 11 b := fun b => (adN_t (j := 0) b).2.1
  have a12 : ∀ b, adN M o 12 b = if b = M 18 3 then 0 else M 12 b := fun b => (adN_t (j := 0) b).2.2.1
  have a1 : adN M o 1 5 = M 1 5 := adN_j (by decide) (by decide) _
  have hF : ∀ u, u < M 18 3 + 1 → (FW (adN M o) u ↔ u < M 18 3 ∧ M 12 u = 0 ∧ M 11 u = o) := by
    intro u hu
    unfold FW
    rw [e3, a11, a12]
    constructor
    · rintro ⟨x1, v, x2, x3, x4, x5⟩
      rw [if_neg (by omega)] at x1
      rw [a12] at x4
      rw [a11, if_neg (show ¬ u = M 18 3 by omega)] at x5
      by_cases q : v = M 18 3
      · rw [if_pos q] at x5
        exact ⟨by omega, x1, x5.symm⟩
      · rw [if_neg q] at x4 x5
        exact absurd x5.symm (hD u v x2 (by omega) x1 x4)
    · rintro ⟨x1, x2, x3⟩
      rw [if_neg (by omega), if_neg (by omega)]
      exact ⟨x2, M 18 3, by omega, by omega, by rw [a12, if_pos rfl], by rw [a11, if_pos rfl]; exact x3.symm⟩
  unfold sxN
  cases hs : stand M o with
  | none =>
    have hno := (stN_none _).mp hs
    refine te_no _ _ _ (fun u _ hu z => ?_)
    have := (hF u (by omega)).mp z
    exact hno u this.1 ⟨this.2.1, this.2.2⟩
  | some t0 =>
    obtain ⟨s1, s2, s3, s4⟩ := stN_some _ hs
    show teN 3 0 (adN M o) = drN (nP (adN M o) 1 5 (M 1 5 + 1)) t0
    have := te_one 3 0 (adN M o) t0 (by omega) (by omega) (by omega) ((hF t0 (by omega)).mpr ⟨s1, s2, s3⟩) (fun u hu hne z => by
      have w := (hF u (by omega)).mp z
      rcases Nat.lt_or_gt_of_ne hne with q | q
      · exact hD u t0 q s1 w.2.1 s2 (w.2.2.trans s3.symm)
      · exact hD t0 u q w.1 s2 w.2.1 (s3.trans w.2.2.symm)) (fun u hu z => by
      obtain ⟨x1, v, x2, x3, x4, x5⟩ := z
      rw [drN_3, nP_r (by decide), e3] at x3
      rw [e3] at hu
      rw [drN_t (by decide) (by decide), nP_r (by decide), nP_r (by decide), nP_r (by decide), e3] at x1 x4
      rw [drN_t (by decide) (by decide), drN_t (by decide) (by decide), nP_r (by decide), nP_r (by decide), nP_r (by decide), nP_r (by decide), nP_r (by decide), e3] at x5
      -- where they were
      obtain ⟨u', hu', eu1, eu2⟩ : ∃ u', u' < M 18 3 + 1 ∧ (if t0 ≤ u ∧ u + 1 < M 18 3 + 1 then u + 1 else u) = u' ∧ u' ≠ t0 := ⟨_, by split <;> omega, rfl, by split <;> omega⟩
      obtain ⟨v', hv', ev1, ev2⟩ : ∃ v', v' < M 18 3 + 1 ∧ (if t0 ≤ v ∧ v + 1 < M 18 3 + 1 then v + 1 else v) = v' ∧ v' ≠ t0 := ⟨_, by split <;> omega, rfl, by split <;> omega⟩
      have huv : u' < v' := by
        rw [← eu1, ← ev1]
        split <;> split <;> omega
      have y1 : adN M o 12 u' = 0 := by
        rw [← eu1]
        split at x1 <;> rename_i q
        · rw [if_pos q]; exact x1
        · rw [if_neg q]; exact x1
      have y4 : adN M o 12 v' = 0 := by
        rw [← ev1]
        split at x4 <;> rename_i q
        · rw [if_pos q]; exact x4
        · rw [if_neg q]; exact x4
      have y5 : adN M o 11 v' = adN M o 11 u' := by
        rw [← eu1, ← ev1]
        by_cases q1 : t0 ≤ v ∧ v + 1 < M 18 3 + 1
        · by_cases q2 : t0 ≤ u ∧ u + 1 < M 18 3 + 1
          · rw [if_pos q1, if_pos q2] at x5 ⊢
            exact x5
          · rw [if_pos q1, if_neg q2] at x5 ⊢
            exact x5
        · by_cases q2 : t0 ≤ u ∧ u + 1 < M 18 3 + 1
          · rw [if_neg q1, if_pos q2] at x5 ⊢
            exact x5
          · rw [if_neg q1, if_neg q2] at x5 ⊢
            exact x5
      have w := (hF u' hu').mp ⟨y1, v', huv, by omega, y4, y5⟩
      rcases Nat.lt_or_gt_of_ne eu2 with q | q
      · exact hD u' t0 q s1 w.2.1 s2 (w.2.2.trans s3.symm)
      · exact hD t0 u' q w.1 s2 w.2.1 (s3.trans w.2.2.symm))
    rw [a1] at this
    exact this
theorem Inv.stray (h : Inv B M) (h3 : M 18 3 < 3) (ho : o < M 18 2) (hop : M 4 o = 1) : Inv (B + 1) (sxN M o) := by
  obtain ⟨a, b, d, e, f, g⟩ := h
  have e3 : adN M o 18 3 = M 18 3 + 1 := by rw [adN_18, if_pos rfl]
  have e2 : adN M o 18 2 = M 18 2 := by rw [adN_18, if_neg (by decide), if_neg (by decide)]
  have hO : OI (adN M o) := a.fr (fun j b hj => adN_j (by omega) (by omega) b) e2
  have hT := b.add h3 ho hop
  have hB : IB B (adN M o) := e.fr (Nat.le_refl _) (by rw [adN_18, if_neg (by decide), if_neg (by decide)]) (by rw [adN_18, if_neg (by decide), if_neg (by decide)]) e2 (fun o => adN_j (by decide) (by decide) o) (by rw [adN_j (by decide) (by decide)]; exact e.2.2.2.1) (by rw [adN_j (by decide) (by decide)]; exact e.2.2.2.2.1) (by rw [adN_j (by decide) (by decide)]; exact e.2.2.2.2.2)
  have hC : IC (adN M o) := f.fr (fun b _ => adN_j (by decide) (by decide) b) (fun b => adN_j (by decide) (by decide) b) (fun b => adN_j (by decide) (by decide) b) e2
  have hR : IR (adN M o) := g.fr (fun b => adN_j (by decide) (by decide) b)
  have a11 : ∀ b, adN M o 11 b = if b = M 18 3 then o else M 11 b := fun b => (adN_t (j := 0) b).2.1
  have a12 : ∀ b, adN M o 12 b = if b = M 18 3 then 0 else M 12 b := fun b => (adN_t (j := 0) b).2.2.1
  unfold sxN
  cases hs : stand M o with
  | none =>
    have hno := (stN_none _).mp hs
    show Inv (B + 1) (adN M o)
    refine ⟨hO, hT, fun t u htu hu => ?_, hB.mono (by omega), hC, hR⟩
    rw [e3] at hu
    rw [a11, a11, a12, a12, if_neg (show ¬ t = M 18 3 by omega), if_neg (show ¬ t = M 18 3 by omega)]
    by_cases q : u = M 18 3
    · rw [if_pos q, if_pos q]
      exact fun z _ w => hno t (by omega) ⟨z, w⟩
    · rw [if_neg q, if_neg q]
      exact d t u htu (by omega)
  | some t0 =>
    obtain ⟨s1, s2, s3, s4⟩ := stN_some _ hs
    show Inv (B + 1) (drN (nP (adN M o) 1 5 (M 1 5 + 1)) t0)
    have a1 : adN M o 1 5 = M 1 5 := adN_j (by decide) (by decide) _
    rw [← a1]
    have hT5 : IT (B + 1) (nP (adN M o) 1 5 (adN M o 1 5 + 1)) := hT.fr (fun j b hj => nP_r (by omega) b) (nP_r (by decide) _) (nP_r (by decide) _) (nP_r (by decide) _)
    have ej : ∀ j b, (j < 10 ∨ 14 < j) ∧ ¬ (j = 18 ∧ b = 3) → ¬ (j = 1 ∧ b = 5) → drN (nP (adN M o) 1 5 (adN M o 1 5 + 1)) t0 j b = adN M o j b := fun j b h1 h2 => drop_j h1 h2 t0
    have e5 : drN (nP (adN M o) 1 5 (adN M o 1 5 + 1)) t0 1 5 = adN M o 1 5 + 1 := by rw [drN_o (by omega), nP_e]
    refine ⟨hO.fr (fun j b hj => ej j b (by omega) (by omega)) (ej 18 2 (by omega) (by omega)), hT5.drop (by rw [nP_r (by decide), e3]; omega), fun t u htu hu => ?_, ?_, hC.fr (fun b hb => ej 1 b (by omega) (by omega)) (fun b => ej 7 b (by omega) (by omega)) (fun b => ej 6 b (by omega) (by omega)) (ej 18 2 (by omega) (by omega)), hR.fr (fun b => ej 0 b (by omega) (by omega))⟩
    · rw [drN_3, nP_r (by decide), e3] at hu
      rw [drN_t (by decide) (by decide), drN_t (by decide) (by decide), drN_t (by decide) (by decide), drN_t (by decide) (by decide), nP_r (show (18 : Nat) ≠ 1 by decide), e3]
      have g : ∀ x y, x < y → y < M 18 3 + 1 → x ≠ t0 → y ≠ t0 → adN M o 12 x = 0 → adN M o 12 y = 0 → adN M o 11 x ≠ adN M o 11 y := by
        intro x y h1 h2 h3' h4
        rw [a11, a11, a12, a12, if_neg (show ¬ x = M 18 3 by omega), if_neg (show ¬ x = M 18 3 by omega)]
        by_cases q : y = M 18 3
        · rw [if_pos q, if_pos q]
          intro z _ w
          rcases Nat.lt_or_gt_of_ne h3' with q | q
          · exact d x t0 q s1 z s2 (w.trans s3.symm)
          · exact d t0 x q (by omega) s2 z (s3.trans w.symm)
        · rw [if_neg q, if_neg q]
          exact d x y h1 (by omega)
      simp only [nP_r (show (11 : Nat) ≠ 1 by decide), nP_r (show (12 : Nat) ≠ 1 by decide)]
      by_cases q1 : t0 ≤ t ∧ t + 1 < M 18 3 + 1
      · rw [if_pos q1, if_pos q1]
        by_cases q2 : t0 ≤ u ∧ u + 1 < M 18 3 + 1
        · rw [if_pos q2, if_pos q2]
          exact g _ _ (by omega) (by omega) (by omega) (by omega)
        · rw [if_neg q2, if_neg q2]
          omega
      · rw [if_neg q1, if_neg q1]
        by_cases q2 : t0 ≤ u ∧ u + 1 < M 18 3 + 1
        · rw [if_pos q2, if_pos q2]
          exact g _ _ (by omega) (by omega) (by omega) (by omega)
        · rw [if_neg q2, if_neg q2]
          exact g _ _ (by omega) (by omega) (by omega) (by omega)
    · refine hB.fr (by omega) (ej 18 0 (by omega) (by omega)) (ej 18 1 (by omega) (by omega)) (ej 18 2 (by omega) (by omega)) (fun o => ej 5 o (by omega) (by omega)) ?_ ?_ ?_
      · rw [ej 1 1 (by omega) (by omega)]
        have := hB.2.2.2.1
        omega
      · rw [e5]
        have := hB.2.2.2.2.1
        omega
      · rw [ej 1 6 (by omega) (by omega)]
        have := hB.2.2.2.2.2
        omega
theorem LL.stray (h : LL S M) (hT : TS M) (hD : ID M) (h3 : M 18 3 < 3) (ho : o < 10) (x y z : Int32) : LL (s_X6_tearUpWhereTwoMeet (s_X1_add (s_X8_add S (iN o)) x y z)) (sxN M o) := by
  rw [← sx_te hD h3]
  have h1 := (h.add h3 o).log x y z
  have hT1 : TS (adN M o) := by
    have e3 : adN M o 18 3 = M 18 3 + 1 := by rw [adN_18, if_pos rfl]
    refine ⟨by omega, fun t ht => ?_⟩
    obtain ⟨t10, t11, t12, t13, t14⟩ := adN_t (M := M) (o := o) (j := 0) t
    rw [t11, t12, t13, t14]
    by_cases q : t = M 18 3
    · rw [if_pos q, if_pos q, if_pos q, if_pos q]
      exact ⟨ho, by omega, by omega, by omega⟩
    · rw [if_neg q, if_neg q, if_neg q, if_neg q]
      exact hT.2 t (by omega)
  exact LL.tear 3 0 0 _ _ (mu 0 + 1) (by decide) (by decide) h1 hT1 (by rw [mu_0]; omega)
end OP
