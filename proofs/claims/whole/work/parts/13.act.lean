-- PART 13: what holds of a State; a token drives, speaks, begins
def OI (c : Nat) (S : SM) : Prop := c ≤ 10 ∧ S 18 2 = iN c ∧ ∀ o, o < c → (∃ v, 1 ≤ v ∧ v ≤ 9 ∧ S 2 o = iN v) ∧ (∃ v, 1 ≤ v ∧ v ≤ 99 ∧ S 3 o = iN v) ∧ (S 4 o = 0 ∨ S 4 o = 1) ∧ ∃ w, w ≤ 6 ∧ S 7 o = iN w ∧ ∀ i, i < w → (∃ p, p < c ∧ S 8 (6 * o + i) = iN p) ∧ ∃ l, 1 ≤ l ∧ l ≤ 9 ∧ S 9 (6 * o + i) = iN l
/-- what holds of one token -/
def T1 (c B : Nat) (S : SM) (t : Nat) : Prop := ∃ n p g l, n ≤ B ∧ p < c ∧ g ≤ 9 ∧ l ≤ 9 ∧ S 10 t = iN n ∧ S 11 t = iN p ∧ S 12 t = iN g ∧ S 14 t = iN l ∧ (g ≠ 0 → S 13 t = 0 ∧ l = 0) ∧ (g = 0 → S 4 p = 1) ∧ (l ≠ 0 → S 7 p ≠ 0)
def TI (c tc B : Nat) (S : SM) : Prop := tc ≤ 3 ∧ S 18 3 = iN tc ∧ (∃ n, n ≤ B ∧ S 18 4 = iN n) ∧ ∀ t, t < tc → T1 c B S t
/-- tokens that speak, or stand and have not had this minute yet -/
def TA (k : Nat) (S : SM) (t : Nat) : Prop := S 14 t ≠ 0 ∨ (k ≤ t ∧ S 12 t = 0)
def TJ (tc k : Nat) (S : SM) : Prop := ∀ t u, t < tc → u < tc → t ≠ u → TA k S t → TA k S u → S 11 t ≠ S 11 u
section AC
variable {c tc c' tc' B k : Nat} {S S' : SM} {m m' : Nat → Int32} {o t i : Nat}
theorem OI.fr (h : OI c S) (hS : ∀ j, j = 2 ∨ j = 3 ∨ j = 4 ∨ j = 7 ∨ j = 8 ∨ j = 9 → S' j = S j) (h18 : S' 18 2 = S 18 2) : OI c S' := by
  obtain ⟨h1, h2, h3⟩ := h
  refine ⟨h1, h18.trans h2, ?_⟩
  rw [hS 2 (by decide), hS 3 (by decide), hS 4 (by decide), hS 7 (by decide), hS 8 (by decide), hS 9 (by decide)]
  exact h3
theorem T1.fr (h : T1 c B S t) (h10 : S' 10 t = S 10 t) (h11 : S' 11 t = S 11 t) (h12 : S' 12 t = S 12 t) (h13 : S' 13 t = S 13 t) (h14 : S' 14 t = S 14 t) (h4 : S' 4 = S 4) (h7 : ∀ p, S 14 t ≠ 0 → S 11 t = iN p → S 7 p ≠ 0 → S' 7 p ≠ 0) : T1 c B S' t := by
  obtain ⟨n, p, g, l, a1, a2, a3, a4, a5, a6, a7, a8, a9, a10, a11⟩ := h
  refine ⟨n, p, g, l, a1, a2, a3, a4, h10.trans a5, h11.trans a6, h12.trans a7, h14.trans a8, ?_, ?_, fun z => ?_⟩
  · rw [h13]
    exact a9
  · rw [h4]
    exact a10
  · refine h7 p (fun q => z ?_) a6 (a11 z)
    have := a8.symm.trans q
    exact (iN_inj (b := 0) (by omega) (by decide)).mp this
theorem TI.upd (h : TI c tc B S) (h3 : S' 18 3 = S 18 3) (h4 : S' 18 4 = S 18 4) (hn : T1 c B S' t) (hu : ∀ u, u < tc → u ≠ t → T1 c B S' u) : TI c tc B S' := by
  refine ⟨h.1, h3.trans h.2.1, ?_, fun u hu2 => ?_⟩
  · rw [h4]
    exact h.2.2.1
  · by_cases q : u = t
    · rw [q]
      exact hn
    · exact hu u hu2 q
theorem R4.tokF (h : R4 c tc S m) (ht : t < tc) {f : Nat} (hf : f < 5) (hf2 : f ≠ 2) (v : Int32) : R4 c tc (sU S (10 + f) (upd (S (10 + f)) t v)) (upd m (pT t f) v) := by
  have h3 := h.2.1.1
  refine h.T (q_tokF h.2.1 ht hf hf2 v) (fun j hj => sU_ne (by omega)) (fun j h1 h2 => sU_ne (by omega)) (fun k h1 h2 => by rw [sU_ne (by omega)]) (fun k h1 h2 h3 => upd_ne (by unfold pT; omega))
theorem R4.tok2 (h : R4 c tc S m) (ht : t < tc) (v : Int32) : R4 c tc (sU S 12 (upd (S 12) t v)) (upd (upd m (pT t 2) v) (pT t 5) (if v = 0 then 1 else 0)) := by
  have h3 := h.2.1.1
  refine h.T (q_tok2 h.2.1 ht v) (fun j hj => sU_ne (by omega)) (fun j h1 h2 => sU_ne (by omega)) (fun k h1 h2 => by rw [sU_ne (by omega)]) (fun k h1 h2 h3 => by rw [upd_ne (by unfold pT; omega), upd_ne (by unfold pT; omega)])
theorem iN_0 {a : Nat} (h : a < 2147483648) : iN a = 0 ↔ a = 0 := iN_inj (b := 0) h (by decide)
theorem iN_pos {a : Nat} (h : a < 2147483648) : 0 < iN a ↔ 0 < a := iN_lt (a := 0) (by decide) h
theorem iN_1 {a : Nat} (h : 1 ≤ a) : iN a - 1 = iN (a - 1) := iN_sub (b := 1) h
theorem TI.pl (h : TI c tc B S) (ht : t < tc) : T1 c B S t := h.2.2.2 t ht
/-- what setting out makes of a token -/
theorem t_leave (hO : OI c S) {p : Nat} (ht : t < 3) (hp : p < c) {n : Nat} (hn : n ≤ B) (e10 : S 10 t = iN n) (e14 : S 14 t = 0) :
    T1 c B (s_X6_leave S (iN t) (iN p)) t ∧ s_X6_leave S (iN t) (iN p) 14 t = 0 ∧ (∀ j, (j < 11 ∨ 13 < j) → s_X6_leave S (iN t) (iN p) j = S j) ∧ ∀ j u, u ≠ t → s_X6_leave S (iN t) (iN p) j u = S j u := by
  have e := v_leave (S := S) ht hp hO.1 hO.2.1
  obtain ⟨⟨v, hv1, hv2, e2⟩, -⟩ := hO.2.2 p hp
  have c10 := hO.1
  rw [e]
  refine ⟨⟨n, (p + 1) % c, v, 0, hn, Nat.mod_lt _ (by omega), hv2, by decide, ?_, ?_, ?_, ?_, fun _ => ⟨?_, rfl⟩, fun z => absurd z (by omega), fun z => absurd rfl z⟩, ?_, fun j hj => ?_, fun j u hu => ?_⟩
  · rw [sU_ne (by decide), sU_ne (by decide), sU_ne (by decide)]
    exact e10
  · rw [sU_ne (by decide), sU_ne (by decide), sU_eq, upd_eq]
  · rw [sU_ne (by decide), sU_eq, upd_eq]
    exact e2
  · rw [sU_ne (by decide), sU_ne (by decide), sU_ne (by decide)]
    exact e14
  · rw [sU_eq, upd_eq]
  · rw [sU_ne (by decide), sU_ne (by decide), sU_ne (by decide)]
    exact e14
  · rw [sU_ne (by omega), sU_ne (by omega), sU_ne (by omega)]
  · simp only [sU_get]
    split
    · rename_i q
      rw [upd_ne hu, q]
    · split
      · rename_i q
        rw [upd_ne hu, q]
      · split
        · rename_i q
          rw [upd_ne hu, q]
        · rfl
/-- one step of a minute: the reference's row and the State stay the same, and so does what holds of it -/
def Step (c tc B k : Nat) (S' : SM) (S : SM) (r : Option (Nat → Int32)) : Prop := ∃ m', r = some m' ∧ R4 c tc S' m' ∧ OI c S' ∧ TI c tc B S' ∧ TJ tc (k + 1) S' ∧ S' 0 = S 0 ∧ ∀ j, j < 5 → S' 18 j = S 18 j
theorem TJ.step (h : TJ tc k S) (hk : k < tc) (h14 : ∀ u, u ≠ k → S' 14 u = S 14 u) (h12 : ∀ u, u ≠ k → S' 12 u = S 12 u) (h11 : ∀ u, u ≠ k → S' 11 u = S 11 u) (hn : S' 14 k ≠ 0 → TA k S k ∧ S' 11 k = S 11 k) : TJ tc (k + 1) S' := by
  have g : ∀ u, TA (k + 1) S' u → TA k S u ∧ S' 11 u = S 11 u := by
    intro u hu
    by_cases q : u = k
    · subst q
      rcases hu with z | z
      · exact hn z
      · exact absurd z.1 (by omega)
    · refine ⟨?_, h11 u q⟩
      rcases hu with z | z
      · exact Or.inl (by rw [← h14 u q]; exact z)
      · exact Or.inr ⟨by omega, by rw [← h12 u q]; exact z.2⟩
  intro t u ht hu htu h1 h2
  rw [(g t h1).2, (g u h2).2]
  exact h t u ht hu htu (g t h1).1 (g u h2).1
theorem a_drives (h : R4 c tc S m) (hO : OI c S) (hT : TI c tc B S) (hJ : TJ tc k S) (hk : k < tc) (hg0 : S 12 k ≠ 0) : Step c tc B k (s_X6_comeNearer S (iN k)) S (o_X10_drives m (iN k)) := by
  have k3 := h.2.1.lt hk
  obtain ⟨n, p, g, l, a1, a2, a3, a4, a5, a6, a7, a8, a9, a10, a11⟩ := hT.pl hk
  have g0 : g ≠ 0 := fun z => hg0 (by rw [a7, z]; rfl)
  obtain ⟨a13, l0⟩ := a9 g0
  subst l0
  have p10 := h.1.lt a2
  have e14 : S 14 k = 0 := a8
  have R1 := h.tok2 hk (iN (g - 1))
  have ev : s_X6_comeNearer S (iN k) = s_X6_comeNearer_L26 (sU S 12 (upd (S 12) k (iN (g - 1)))) (iN k) (iN (g - 1)) := by
    unfold s_X6_comeNearer
    rw [at_in (by decide) k3, a7, iN_1 (by omega), put_in (by decide) k3]
  by_cases q : g - 1 = 0
  · have em : o_X10_drives m (iN k) = (o_X10_isOpen (upd (upd m (pT k 2) 0) (pT k 5) 1) (iN p)).bind (fun r4 => if r4 = 0 then (o_X10_setsOut (upd (upd m (pT k 2) 0) (pT k 5) 1) (iN k)).bind (fun r5 => some r5) else some (upd (upd m (pT k 2) 0) (pT k 5) 1)) := by
      have es : upd (upd (upd m (pT k 2) 0) (pT k 5) 1) (pT k 3) 0 = upd (upd m (pT k 2) 0) (pT k 5) 1 := upd_self (by
        rw [upd_ne (by unfold pT; omega), upd_ne (by unfold pT; omega), h.2.1.f3 hk, a13])
      unfold o_X10_drives
      simp (disch := omega) only [lt1, tA1, tA2, tA3, tA5, gT', nT, h.2.1.f2 hk, h.2.1.f1 hk, a7, a6, upd_get, qTT, if_true, if_false, ↓reduceIte, Nat.reduceEqDiff, and_false, iN_1]
      rw [q, show iN 0 = 0 from rfl, es, if_neg (show ¬ (0 : Int32) < 0 by decide)]
    rw [q, show iN 0 = 0 from rfl, if_pos rfl] at R1
    rw [em, ev, q, show iN 0 = 0 from rfl]
    rw [q_isOpen R1.1 a2, Option.bind_some]
    have e4 : v_X2_isOpen (sU S 12 (upd (S 12) k 0)) (iN p) = v_X2_isOpen S (iN p) := rfl
    rw [e4, v_isOpen p10]
    unfold s_X6_comeNearer_L26
    rw [if_pos rfl, sU_ne (by decide), at_in (by decide) k3, a6, e4, v_isOpen p10]
    obtain ⟨⟨v2, hv1, hv2, e2⟩, -⟩ := hO.2.2 p a2
    by_cases q4 : S 4 p = 1
    · rw [if_pos q4, if_neg (show ¬ (1 : Int32) = 0 by decide), if_neg (show ¬ (1 : Int32) = 0 by decide)]
      refine ⟨_, rfl, R1, hO.fr (fun j hj => sU_ne (by omega)) rfl, ?_, ?_, rfl, fun j hj => rfl⟩
      · refine hT.upd (t := k) rfl rfl ⟨n, p, 0, 0, a1, a2, by decide, by decide, ?_, ?_, ?_, ?_, fun z => absurd rfl z, fun z => q4, fun z => absurd rfl z⟩ (fun u hu huk => (hT.pl hu).fr rfl rfl ?_ rfl rfl rfl (fun p z1 z2 z3 => z3))
        · exact a5
        · exact a6
        · rw [sU_eq, upd_eq]
          rfl
        · exact a8
        · rw [sU_eq, upd_ne huk]
      · refine hJ.step hk (fun u hu => rfl) (fun u hu => ?_) (fun u hu => rfl) (fun z => absurd e14 z)
        rw [sU_eq, upd_ne hu]
    · rw [if_neg q4, if_pos rfl, if_pos rfl]
      obtain ⟨m', em', R2⟩ := q_setsOut R1 hk (p := p) a2 a6 e14 (by
        rw [sU_ne (by decide), e2]
        exact fun z => by
          have := (iN_0 (by omega)).mp z
          omega)
      rw [em', Option.bind_some]
      have hO1 : OI c (sU S 12 (upd (S 12) k 0)) := hO.fr (fun j hj => sU_ne (by omega)) rfl
      obtain ⟨b1, b2, b3, b4⟩ := t_leave hO1 k3 a2 a1 (S := sU S 12 (upd (S 12) k 0)) a5 e14
      have b3' : ∀ j, (j < 11 ∨ 13 < j) → s_X6_leave (sU S 12 (upd (S 12) k 0)) (iN k) (iN p) j = S j := fun j hj => by rw [b3 j hj, sU_ne (by omega)]
      have b4' : ∀ j u, u ≠ k → s_X6_leave (sU S 12 (upd (S 12) k 0)) (iN k) (iN p) j u = S j u := fun j u hu => by
        rw [b4 j u hu, sU_get]
        split
        · rename_i z
          rw [upd_ne hu, z]
        · rfl
      refine ⟨m', rfl, R2, hO.fr (fun j hj => b3' j (by omega)) (by rw [b3' 18 (by decide)]), ?_, ?_, b3' 0 (by decide), fun j hj => by rw [b3' 18 (by decide)]⟩
      · exact hT.upd (t := k) (by rw [b3' 18 (by decide)]) (by rw [b3' 18 (by decide)]) b1 (fun u hu huk => (hT.pl hu).fr (b4' 10 u huk) (b4' 11 u huk) (b4' 12 u huk) (b4' 13 u huk) (b4' 14 u huk) (b3' 4 (by decide)) (fun p z1 z2 z3 => by rw [b3' 7 (by decide)]; exact z3))
      · exact hJ.step hk (b4' 14) (b4' 12) (b4' 11) (fun z => absurd b2 z)
  · have em : o_X10_drives m (iN k) = some (upd m (pT k 2) (iN (g - 1))) := by
      unfold o_X10_drives
      simp (disch := omega) only [lt1, tA2, gT', nT, h.2.1.f2 hk, a7, upd_eq, if_true, ↓reduceIte, iN_1]
      rw [if_pos ((iN_pos (by omega)).mpr (by omega))]
    have e5 : upd (upd m (pT k 2) (iN (g - 1))) (pT k 5) (if iN (g - 1) = 0 then 1 else 0) = upd m (pT k 2) (iN (g - 1)) := by
      refine upd_self ?_
      rw [upd_ne (by unfold pT; omega), h.2.1.f5 hk, if_neg hg0, if_neg (fun z => q ((iN_0 (by omega)).mp z))]
    rw [e5] at R1
    rw [em, ev]
    unfold s_X6_comeNearer_L26
    rw [if_neg (fun z => q ((iN_0 (by omega)).mp z))]
    refine ⟨_, rfl, R1, hO.fr (fun j hj => sU_ne (by omega)) rfl, ?_, ?_, rfl, fun j hj => rfl⟩
    · refine hT.upd (t := k) rfl rfl ⟨n, p, g - 1, 0, a1, a2, by omega, by decide, ?_, ?_, ?_, ?_, fun z => ⟨a13, rfl⟩, fun z => absurd z q, fun z => absurd rfl z⟩ (fun u hu huk => (hT.pl hu).fr rfl rfl ?_ rfl rfl rfl (fun p z1 z2 z3 => z3))
      · exact a5
      · exact a6
      · rw [sU_eq, upd_eq]
      · exact a8
      · rw [sU_eq, upd_ne huk]
    · refine hJ.step hk (fun u hu => rfl) (fun u hu => ?_) (fun u hu => rfl) (fun z => absurd e14 z)
      rw [sU_eq, upd_ne hu]
end AC
