-- PART 32: a State's changes, as whole numbers: a token's minute
def lvN (M : NM) (t o : Nat) : NM := nP (nP (nP M 11 t (nxt (M 18 2) o)) 12 t (M 2 o)) 13 t 0
def nrN (M : NM) (t : Nat) : NM := if M 12 t - 1 = 0 then (if M 4 (M 11 t) = 1 then nP M 12 t (M 12 t - 1) else lvN (nP M 12 t (M 12 t - 1)) t (M 11 t)) else nP M 12 t (M 12 t - 1)
def rmN (M : NM) (o i : Nat) : NM := fun a b => if (a = 8 ∨ a = 9) ∧ 6 * o + i ≤ b ∧ b + 1 < 6 * o + M 7 o then M a (b + 1) else if a = 7 ∧ b = o then M 7 o - 1 else M a b
def enN (M : NM) (p : Nat) : NM := if M 4 (M 8 (6 * p)) = 1 then rmN (nP (nP M 1 1 (M 1 1 + 1)) 6 (M 8 (6 * p)) (M 6 (M 8 (6 * p)) + 1)) p 0 else rmN (nP M 1 2 (M 1 2 + 1)) p 0
def rd1 (M : NM) (t : Nat) : NM := nP (nP (nP (nP M 14 t (M 14 t - 1)) 13 t (M 13 t + 1)) 5 (M 11 t) (M 5 (M 11 t) + 1)) 1 8 (M 1 8 + 1)
def rdN (M : NM) (t : Nat) : NM := if M 14 t - 1 = 0 then enN (rd1 M t) (M 11 t) else rd1 M t
/-- it will begin -/
def beg (M : NM) (t : Nat) : Prop := M 4 (M 11 t) = 1 ∧ 0 < M 7 (M 11 t) ∧ M 9 (6 * M 11 t) + M 13 t ≤ M 0 0 ∧ M 9 (6 * M 11 t) + M 5 (M 11 t) ≤ M 0 2
theorem beg_dec (M : NM) (t : Nat) : beg M t ∨ ¬ beg M t := Classical.em _
noncomputable def bgN (M : NM) (t : Nat) : NM := @ite _ (beg M t) (Classical.propDecidable _) (nP M 14 t (M 9 (6 * M 11 t))) (lvN M t (M 11 t))
noncomputable def acN (M : NM) (t : Nat) : NM := if 0 < M 12 t then nrN M t else if 0 < M 14 t then rdN M t else bgN M t
def drN (M : NM) (t : Nat) : NM := fun a b => if (10 ≤ a ∧ a ≤ 14) ∧ t ≤ b ∧ b + 1 < M 18 3 then M a (b + 1) else if a = 18 ∧ b = 3 then M 18 3 - 1 else M a b
def adN (M : NM) (o : Nat) : NM := nP (nP (nP (nP (nP (nP (nP M 18 4 (M 18 4 + 1)) 10 (M 18 3) (M 18 4 + 1)) 11 (M 18 3) o) 12 (M 18 3) 0) 13 (M 18 3) 0) 14 (M 18 3) 0) 18 3 (M 18 3 + 1)
section LC
variable {S S' : SM} {M M' : NM} {B o p i t k : Nat}
theorem LL.leave (h : LL S M) (hc : M 18 2 ≤ 10) (ht : t < 3) (ho : o < 10) : LL (s_X6_leave S (iN t) (iN o)) (lvN M t o) := by
  unfold s_X6_leave
  rw [h.behind hc ho, at_in (by decide) ho, h.a (by decide)]
  have h1 := h.put (j := 11) (by decide) (n := 3) (by decide) ht (nxt (M 18 2) o)
  have h2 := h1.put (j := 12) (by decide) (n := 3) (by decide) ht (M 2 o)
  exact h2.put (j := 13) (by decide) (n := 3) (by decide) ht 0
theorem LL.near (h : LL S M) (hO : OI M) (ht : t < 3) (hp : M 11 t < M 18 2) (h12 : 1 ≤ M 12 t) (h9 : M 12 t ≤ 9) : LL (s_X6_comeNearer S (iN t)) (nrN M t) := by
  have c10 := hO.c10
  have h1 := h.put (j := 12) (by decide) (n := 3) (by decide) ht (M 12 t - 1)
  unfold s_X6_comeNearer
  rw [at_in (by decide) ht, h.a (by decide), iN_1 h12]
  unfold s_X6_comeNearer_L26 nrN
  have e11 : sU S 12 (put_ 3 (S 12) (iN t) (iN (M 12 t - 1))) 11 = S 11 := sU_ne (by decide)
  rw [e11, at_in (by decide) ht, h.a (by decide)]
  have e4 : v_X2_isOpen (sU S 12 (put_ 3 (S 12) (iN t) (iN (M 12 t - 1)))) (iN (M 11 t)) = if M 4 (M 11 t) = 1 then 1 else 0 := (h1.isOpen (show M 11 t < 10 by omega) (by rw [nP_r (by decide)]; exact hO.op hp)).trans (by rw [nP_r (by decide)])
  rw [e4]
  by_cases q : M 12 t - 1 = 0
  · rw [if_pos q, if_pos ((iN_0 (by omega)).mpr q)]
    by_cases q2 : M 4 (M 11 t) = 1
    · rw [if_pos q2, if_pos q2, if_neg (by decide)]
      exact h1
    · rw [if_neg q2, if_neg q2, if_pos rfl]
      exact h1.leave c10 ht (by omega)
  · rw [if_neg q, if_neg (fun z => q ((iN_0 (by omega)).mp z))]
    exact h1
theorem LL.rem (h : LL S M) (ho : o < 10) (hw : M 7 o ≤ 6) (hi : i < M 7 o) : LL (s_X2_removeLetter S (iN o) (iN i)) (rmN M o i) := by
  obtain ⟨a8, a9, a7, aj⟩ := v_letDrop (S := S) ho hw hi (h.a (by decide) o)
  refine ⟨fun a b ha => ?_, fun b b1 b2 => ?_⟩
  · unfold rmN
    by_cases q8 : a = 8
    · subst q8
      rw [a8]
      by_cases q : 6 * o + i ≤ b ∧ b + 1 < 6 * o + M 7 o
      · rw [if_pos q, if_pos ⟨Or.inl rfl, q⟩, h.a (by decide)]
      · rw [if_neg q, if_neg (fun z => q z.2), if_neg (fun z => absurd z.1 (by decide)), h.a (by decide)]
    · by_cases q9 : a = 9
      · subst q9
        rw [a9]
        by_cases q : 6 * o + i ≤ b ∧ b + 1 < 6 * o + M 7 o
        · rw [if_pos q, if_pos ⟨Or.inr rfl, q⟩, h.a (by decide)]
        · rw [if_neg q, if_neg (fun z => q z.2), if_neg (fun z => absurd z.1 (by decide)), h.a (by decide)]
      · rw [if_neg (fun z => by rcases z.1 with z | z <;> omega)]
        by_cases q7 : a = 7
        · subst q7
          rw [a7, upd_get]
          by_cases q : b = o
          · rw [if_pos q, if_pos ⟨rfl, q⟩]
          · rw [if_neg q, if_neg (fun z => q z.2), h.a (by decide)]
        · rw [if_neg (fun z => q7 z.1), aj a q7 q8 q9, h.a ha]
  · rw [aj 18 (by decide) (by decide) (by decide), h.2 b b1 b2]
    unfold rmN
    rw [if_neg (fun z => by rcases z.1 with z | z <;> omega), if_neg (fun z => absurd z.1 (by decide))]
theorem LL.endL (h : LL S M) (hO : OI M) (hp : p < M 18 2) (hw : 1 ≤ M 7 p) : LL (s_X6_endLetter S (iN p)) (enN M p) := by
  have c10 := hO.c10
  have w6 := hO.w6 hp
  have l0 := hO.let hp (i := 0) (by omega)
  rw [Nat.add_zero] at l0
  obtain ⟨l1, l2, l3, l4⟩ := l0
  unfold s_X6_endLetter enN
  have eto : v_X2_toOf S (iN p) 0 = iN (M 8 (6 * p)) := (v_toOf0 (by omega)).trans (h.a (by decide) _)
  rw [eto, h.isOpen (show M 8 (6 * p) < 10 by omega) (hO.op l1)]
  by_cases q : M 4 (M 8 (6 * p)) = 1
  · rw [if_pos q, if_pos q, if_neg (by decide)]
    have h1 := h.raise (j := 1) (by decide) (n := 9) (by decide) (k := 1) (by decide)
    have h2 := h1.raise (j := 6) (by decide) (n := 10) (by decide) (k := M 8 (6 * p)) (by omega)
    rw [nP_r (show (6 : Nat) ≠ 1 by decide)] at h2
    have h3 := h2.log 1 (100 * iN p + iN (M 8 (6 * p))) (v_X2_lengthOf S (iN p) 0)
    exact h3.rem (by omega) (by rw [nP_r (by decide), nP_r (by decide)]; exact w6) (i := 0) (by rw [nP_r (by decide), nP_r (by decide)]; omega)
  · rw [if_neg q, if_neg q, if_pos rfl]
    have h1 := h.raise (j := 1) (by decide) (n := 9) (by decide) (k := 2) (by decide)
    have h3 := h1.log 2 (100 * iN p + iN (M 8 (6 * p))) (v_X2_lengthOf S (iN p) 0)
    exact h3.rem (by omega) (by rw [nP_r (by decide)]; exact w6) (i := 0) (by rw [nP_r (by decide)]; omega)
theorem rd1_j (M : NM) (t : Nat) {j : Nat} (h1 : j ≠ 14) (h2 : j ≠ 13) (h3 : j ≠ 5) (h4 : j ≠ 1) (b : Nat) : rd1 M t j b = M j b := by
  unfold rd1
  rw [nP_r h4, nP_r h3, nP_r h2, nP_r h1]
theorem OI.fr (h : OI M) (h2 : ∀ j b, j = 2 ∨ j = 3 ∨ j = 4 ∨ j = 7 ∨ j = 8 ∨ j = 9 → M' j b = M j b) (hc : M' 18 2 = M 18 2) : OI M' := by
  obtain ⟨a, b, d, e⟩ := h
  refine ⟨by rw [hc]; exact a, by rw [hc]; exact b, fun o ho => ?_, fun o p h1 h3 => ?_⟩
  · rw [hc] at ho ⊢
    rw [h2 2 o (by decide), h2 3 o (by decide), h2 4 o (by decide), h2 7 o (by decide)]
    obtain ⟨d1, d2, d3, d4, d5, d6, d7⟩ := d o ho
    refine ⟨d1, d2, d3, d4, d5, d6, fun i hi => ?_⟩
    rw [h2 8 _ (by decide), h2 9 _ (by decide)]
    exact d7 i hi
  · rw [hc] at h3
    rw [h2 3 o (by decide), h2 3 p (by decide)]
    exact e o p h1 h3
theorem LL.read (h : LL S M) (hO : OI M) (ht : t < 3) (hp : M 11 t < M 18 2) (h14 : 1 ≤ M 14 t) (h9 : M 14 t ≤ 9) (hw : 1 ≤ M 7 (M 11 t)) : LL (s_X6_readOn S (iN t)) (rdN M t) := by
  have c10 := hO.c10
  have h1 := h.put (j := 14) (by decide) (n := 3) (by decide) ht (M 14 t - 1)
  have h2 := h1.raise (j := 13) (by decide) (n := 3) (by decide) ht
  rw [nP_r (show (13 : Nat) ≠ 14 by decide)] at h2
  have h3 := h2.raise (j := 5) (by decide) (n := 10) (by decide) (k := M 11 t) (by omega)
  rw [nP_r (show (5 : Nat) ≠ 13 by decide), nP_r (show (5 : Nat) ≠ 14 by decide)] at h3
  have h4 := h3.raise (j := 1) (by decide) (n := 9) (by decide) (k := 8) (by decide)
  rw [nP_r (show (1 : Nat) ≠ 5 by decide), nP_r (show (1 : Nat) ≠ 13 by decide), nP_r (show (1 : Nat) ≠ 14 by decide)] at h4
  unfold s_X6_readOn
  rw [at_in (by decide) ht, at_in (by decide) ht, h.a (by decide), h.a (by decide), iN_1 h14]
  unfold s_X6_readOn_L38 s_X6_readOn_L49 s_X6_readOn_L60 s_X6_readOn_L69 rdN
  have h4' : LL _ (rd1 M t) := h4
  by_cases q : M 14 t - 1 = 0
  · rw [if_pos q, if_pos ((iN_0 (by omega)).mpr q)]
    refine h4'.endL (hO.fr (fun j b hj => rd1_j M t (by omega) (by omega) (by omega) (by omega) b) (rd1_j M t (by decide) (by decide) (by decide) (by decide) 2)) ?_ ?_
    · rw [rd1_j M t (by decide) (by decide) (by decide) (by decide)]
      exact hp
    · rw [rd1_j M t (by decide) (by decide) (by decide) (by decide)]
      exact hw
  · rw [if_neg q, if_neg (fun z => q ((iN_0 (by omega)).mp z))]
    exact h4'
theorem bgN_y (h : beg M t) : bgN M t = nP M 14 t (M 9 (6 * M 11 t)) := if_pos h
theorem bgN_n (h : ¬ beg M t) : bgN M t = lvN M t (M 11 t) := if_neg h
theorem LL.begin (h : LL S M) (hO : OI M) (ht : t < 3) (hp : M 11 t < M 18 2) (hR : M 0 0 ≤ 1000000000 ∧ M 0 2 ≤ 1000000000) (h13 : M 13 t ≤ 1000000000) (h5 : M 5 (M 11 t) ≤ 1000000000) : LL (s_X6_beginOrSetOut S (iN t)) (bgN M t) := by
  have c10 := hO.c10
  have w6 := hO.w6 hp
  have hl := h.leave c10 ht (show M 11 t < 10 by omega)
  unfold s_X6_beginOrSetOut
  rw [at_in (by decide) ht, h.a (by decide), h.isOpen (by omega) (hO.op hp), at_in (by decide) (show M 11 t < 10 by omega), h.a (by decide)]
  by_cases q1 : M 4 (M 11 t) = 1
  · rw [if_pos q1, if_neg (by decide)]
    by_cases q2 : 0 < M 7 (M 11 t)
    · rw [if_pos ((iN_pos (by omega)).mpr q2)]
      unfold s_X6_beginOrSetOut_L42
      obtain ⟨-, -, l3, l4⟩ := hO.let hp q2
      rw [Nat.add_zero] at l3 l4
      rw [if_neg (by decide), h.inTurn (by omega) ht hR.1 h13 (by omega), h.inDay (by omega) hR.2 h5 (by omega)]
      by_cases q3 : M 9 (6 * M 11 t) + M 13 t ≤ M 0 0
      · rw [if_pos q3, if_neg (by decide)]
        by_cases q4 : M 9 (6 * M 11 t) + M 5 (M 11 t) ≤ M 0 2
        · rw [if_pos q4, if_neg (by decide), bgN_y ⟨q1, q2, q3, q4⟩]
          have e9 : v_X2_lengthOf S (iN (M 11 t)) 0 = iN (M 9 (6 * M 11 t)) := (v_lengthOf0 (by omega)).trans (h.a (by decide) _)
          rw [e9]
          exact h.put (by decide) (by decide) ht _
        · rw [if_neg q4, if_pos rfl, bgN_n (fun z => q4 z.2.2.2)]
          exact hl
      · rw [if_neg q3, if_pos rfl, bgN_n (fun z => q3 z.2.2.1)]
        exact hl
    · rw [if_neg (fun z => q2 ((iN_pos (by omega)).mp z)), bgN_n (fun z => q2 z.2.1)]
      unfold s_X6_beginOrSetOut_L41 s_X6_beginOrSetOut_L42
      rw [if_pos rfl]
      exact hl
  · rw [if_neg q1, if_pos rfl, bgN_n (fun z => q1 z.1)]
    unfold s_X6_beginOrSetOut_L41 s_X6_beginOrSetOut_L42
    rw [if_pos rfl]
    exact hl
theorem LL.drop (h : LL S M) (h3 : M 18 3 ≤ 3) (ht : t < M 18 3) : LL (s_X8_remove S (iN t)) (drN M t) := by
  obtain ⟨a1, a2, a3, a4, a5⟩ := v_tokDrop h.tc h3 ht
  refine ⟨fun a b ha => ?_, fun b b1 b2 => ?_⟩
  · unfold drN
    by_cases q : 10 ≤ a
    · rw [a1 a b q ha]
      by_cases q2 : t ≤ b ∧ b + 1 < M 18 3
      · rw [if_pos q2, if_pos ⟨⟨q, ha⟩, q2⟩, h.a ha]
      · rw [if_neg q2, if_neg (fun z => q2 z.2), if_neg (fun z => by omega), h.a ha]
    · rw [a3 a (by omega), if_neg (fun z => q z.1.1), if_neg (fun z => by omega), h.a ha]
  · unfold drN
    rw [if_neg (fun z => by omega)]
    by_cases q : b = 3
    · subst q
      rw [a2, if_pos ⟨rfl, rfl⟩]
    · rw [a5 b q, if_neg (fun z => q z.2), h.2 b b1 b2]
theorem LL.add (h : LL S M) (h3 : M 18 3 < 3) (o : Nat) : LL (s_X8_add S (iN o)) (adN M o) := by
  obtain ⟨a10, a11, a12, a13, a14, a3, a4, aj, aj2, ak⟩ := v_tokAdd (S := S) h.tc h3 (iN o)
  rw [h.2 4 (by decide) (by decide), iN_s] at a10 a4
  refine ⟨fun a b ha => ?_, fun b b1 b2 => ?_⟩
  · by_cases q10 : a < 10
    · rw [aj a q10, h.a ha]
      simp (disch := omega) only [adN, nP_get, if_neg]
    · rcases (by omega : a = 10 ∨ a = 11 ∨ a = 12 ∨ a = 13 ∨ a = 14) with rfl | rfl | rfl | rfl | rfl
      · rw [a10, upd_get, h.a (by decide)]
        by_cases q : b = M 18 3 <;> simp [adN, nP_get, q]
      · rw [a11, upd_get, h.a (by decide)]
        by_cases q : b = M 18 3 <;> simp [adN, nP_get, q]
      · rw [a12, upd_get, h.a (by decide)]
        by_cases q : b = M 18 3 <;> simp [adN, nP_get, q] <;> rfl
      · rw [a13, upd_get, h.a (by decide)]
        by_cases q : b = M 18 3 <;> simp [adN, nP_get, q] <;> rfl
      · rw [a14, upd_get, h.a (by decide)]
        by_cases q : b = M 18 3 <;> simp [adN, nP_get, q] <;> rfl
  · by_cases q3 : b = 3
    · subst q3
      rw [a3]
      simp [adN, nP_get]
    · by_cases q4 : b = 4
      · subst q4
        rw [a4]
        simp [adN, nP_get]
      · rw [ak b q3 q4, h.2 b b1 b2]
        simp [adN, nP_get, q3, q4]
end LC
