-- PART 13f: a minute, whole
def RI (S : SM) : Prop := ∃ a b q, 1 ≤ a ∧ a ≤ 20 ∧ 1 ≤ b ∧ b ≤ 99 ∧ 1 ≤ q ∧ q ≤ 60 ∧ S 0 0 = iN a ∧ S 0 1 = iN b ∧ S 0 2 = iN q
def Iv (c tc B : Nat) (S : SM) (m : Nat → Int32) : Prop := R4 c tc S m ∧ OI c S ∧ TI c tc B S ∧ TD tc S ∧ RI S
section AC6
variable {c tc c' tc' B B' k : Nat} {S S' : SM} {m m' : Nat → Int32} {o t i : Nat}
theorem T1.mono (h : T1 c B S t) (hB : B ≤ B') : T1 c B' S t := by
  obtain ⟨n, p, g, l, a1, a2⟩ := h
  exact ⟨n, p, g, l, by omega, a2⟩
theorem TI.mono (h : TI c tc B S) (hB : B ≤ B') : TI c tc B' S := by
  obtain ⟨h1, h2, ⟨n, hn, e⟩, h4⟩ := h
  exact ⟨h1, h2, ⟨n, by omega, e⟩, fun t ht => (h4 t ht).mono hB⟩
theorem TI.fr (h : TI c tc B S) (hr : ∀ j, 10 ≤ j → j ≤ 14 → S' j = S j) (h4 : S' 4 = S 4) (h7 : S' 7 = S 7) (h3' : S' 18 3 = S 18 3) (h4' : S' 18 4 = S 18 4) : TI c tc B S' :=
  ⟨h.1, h3'.trans h.2.1, by rw [h4']; exact h.2.2.1, fun t ht => (h.pl ht).mv (by rw [hr 10 (by decide) (by decide)]) (by rw [hr 11 (by decide) (by decide)]) (by rw [hr 12 (by decide) (by decide)]) (by rw [hr 13 (by decide) (by decide)]) (by rw [hr 14 (by decide) (by decide)]) h4 h7⟩
theorem TD.fr (h : TD tc S) (h11 : S' 11 = S 11) (h12 : S' 12 = S 12) : TD tc S' := by
  unfold TD
  rw [h11, h12]
  exact h
theorem RI.fr (h : RI S) (h0 : S' 0 = S 0) : RI S' := by
  unfold RI
  rw [h0]
  exact h
theorem TD.j (h : TD tc S) (hT : TI c tc B S) : TJ tc 0 S := by
  have g : ∀ t, t < tc → TA 0 S t → S 12 t = 0 := by
    intro t ht ha
    obtain ⟨n, p, g, l, b1, b2, b3, b4, b5, b6, b7, b8, b9, -⟩ := hT.pl ht
    rcases ha with z | z
    · by_cases q : g = 0
      · rw [b7, q]
        rfl
      · exact absurd (by rw [b8, (b9 q).2]; rfl) z
    · exact z.2
  intro t u ht hu htu h1 h2
  rcases Nat.lt_or_gt_of_ne htu with q | q
  · exact h t u q hu (g t ht h1) (g u hu h2)
  · exact (h u t q ht (g u hu h2) (g t ht h1)).symm
theorem sU_comm (S : SM) {a b : Nat} (h : a ≠ b) (f g : Nat → Int32) : sU (sU S a f) b g = sU (sU S b g) a f := by
  funext j
  rw [sU_get, sU_get, sU_get, sU_get]
  by_cases q : j = b
  · rw [if_pos q, if_neg (by omega), if_pos q]
  · rw [if_neg q, if_neg q]
/-- a token more: what holds -/
theorem TI.add (h : TI c tc B S) (ht : tc < 3) {p : Nat} (hp : p < c) (hop : S 4 p = 1) : TI c (tc + 1) (B + 1) (s_X8_add S (iN p)) := by
  obtain ⟨a10, a11, a12, a13, a14, a3, a4, aj, aj2, ak⟩ := v_tokAdd (S := S) h.2.1 ht (iN p)
  obtain ⟨n, hn, en⟩ := h.2.2.1
  refine ⟨by omega, a3, ⟨n + 1, by omega, by rw [a4, en, iN_s]⟩, fun t ht2 => ?_⟩
  by_cases q : t = tc
  · subst q
    refine ⟨n + 1, p, 0, 0, by omega, hp, by decide, by decide, ?_, ?_, ?_, ?_, fun z => absurd rfl z, fun _ => ?_, fun z => absurd rfl z⟩
    · rw [a10, upd_eq, en, iN_s]
    · rw [a11, upd_eq]
    · rw [a12, upd_eq]
      rfl
    · rw [a14, upd_eq]
      rfl
    · rw [aj 4 (by decide)]
      exact hop
  · exact ((h.pl (show t < tc by omega)).mono (show B ≤ B + 1 by omega)).mv (by rw [a10, upd_ne q]) (by rw [a11, upd_ne q]) (by rw [a12, upd_ne q]) (by rw [a13, upd_ne q]) (by rw [a14, upd_ne q]) (aj 4 (by decide)) (aj 7 (by decide))
theorem sF_j (S : SM) (k : Nat) (v : Int32) {j : Nat} (h : j ≠ 18) : sF S k v j = S j := sU_ne h
theorem sF_k (S : SM) {k k' : Nat} (v : Int32) (h : k' ≠ k) : sF S k v 18 k' = S 18 k' := by
  unfold sF
  rw [sU_eq, upd_ne h]
theorem sF_e (S : SM) (k : Nat) (v : Int32) : sF S k v 18 k = v := by
  unfold sF
  rw [sU_eq, upd_eq]
theorem Iv.sf {v : Int32} (h : R4 c tc (sF S k v) m) (hI : OI c S) (hT : TI c tc B S) (hD : TD tc S) (hR : RI S) (h2 : (2 : Nat) ≠ k) (h3 : (3 : Nat) ≠ k) (h4 : (4 : Nat) ≠ k) : Iv c tc B (sF S k v) m :=
  ⟨h, hI.fr (fun j hj => sF_j S k v (by omega)) (sF_k S v h2), hT.fr (fun j a b => sF_j S k v (by omega)) (sF_j S k v (by decide)) (sF_j S k v (by decide)) (sF_k S v h3) (sF_k S v h4), hD.fr (sF_j S k v (by decide)) (sF_j S k v (by decide)), hR.fr (sF_j S k v (by decide))⟩
theorem Iv.mono (h : Iv c tc B S m) (hB : B ≤ B') : Iv c tc B' S m := ⟨h.1, h.2.1, h.2.2.1.mono hB, h.2.2.2⟩
theorem q_119 (h : Iv c tc B S m) (x y : Int32) : ∃ m' tc', o_X10_minutes_L78 m y = some m' ∧ Iv c tc' (B + 1) (s_X6_passMinute_L119 S x) m' ∧ s_X6_passMinute_L119 S x 0 = S 0 ∧ s_X6_passMinute_L119 S x 18 0 = S 18 0 := by
  obtain ⟨hR, hO, hT, hD, hI⟩ := h
  have t3 := hT.1
  have hI' := hI
  obtain ⟨a, b, q, -, -, hb1, hb2, -, -, -, eb, -⟩ := hI
  have e1 : m 1 = iN b := (hR.2.2.2.1 1 (by decide)).trans eb
  have e6 : m 6 = S 18 1 := hR.2.2.2.2.2.2
  unfold o_X10_minutes_L78 s_X6_passMinute_L119
  rw [nK5, hR.2.1.2.2.1, hT.2.1]
  by_cases q0 : tc = 0
  · subst q0
    rw [if_pos (show iN 0 = 0 from rfl), if_neg (show ¬ 0 < iN 0 by decide)]
    unfold o_X10_minutes_L97
    rw [if_pos (show gin 6 336 = true from gin_iN (k := 6) (by decide) (by decide)), nK6, e6]
    simp only [lt1]
    rw [upd_eq, nK1, upd_ne (show (1 : Nat) ≠ 6 by decide), e1]
    unfold s_X6_stayWithoutToken s_X6_stayWithoutToken_L10
    have R1 := q_sil hR (S 18 1 + 1)
    obtain ⟨Z, hZ⟩ : ∃ Z, sF S 1 (S 18 1 + 1) = Z := ⟨_, rfl⟩
    have IZ : Iv c 0 B Z (upd m 6 (S 18 1 + 1)) := by
      rw [← hZ]
      exact Iv.sf R1 hO hT hD hI' (by decide) (by decide) (by decide)
    have z1 : Z 18 1 = S 18 1 + 1 := by rw [← hZ, sF_e]
    have z0 : Z 0 = S 0 := by rw [← hZ, sF_j _ _ _ (by decide)]
    have z18 : Z 18 0 = S 18 0 := by rw [← hZ, sF_k _ _ (by decide)]
    rw [hZ, z1, z0, show at_ 3 (S 0) 1 = S 0 1 from at_in (i := 1) (by decide) (by decide), eb]
    by_cases q1 : S 18 1 + 1 < iN b
    · rw [if_pos q1, if_pos q1]
      exact ⟨_, 0, rfl, IZ.mono (by omega), z0, z18⟩
    · rw [if_neg q1, if_neg q1]
      obtain ⟨w1, w2⟩ := q_winner IZ.1.1
      unfold o_X10_elects
      rw [w1, Option.bind_some]
      rcases w2 with w2 | ⟨p, hp, w2, hop⟩
      · rw [w2, if_pos m2_neg, if_pos rfl]
        exact ⟨_, 0, by rw [Option.bind_some], IZ.mono (by omega), z0, z18⟩
      · rw [w2, if_neg (iN_neg (by have := IZ.1.1.1; omega)), if_neg (iN_m2 (by have := IZ.1.1.1; omega))]
        obtain ⟨m1, f1, R2, -⟩ := q_addToken IZ.1 (by decide) (iN p)
        obtain ⟨a10, a11, a12, a13, a14, a3, a4, aj, aj2, ak⟩ := v_tokAdd (S := Z) IZ.2.2.1.2.1 (by decide) (iN p)
        have T2 := IZ.2.2.1.add (by decide) hp hop
        rw [f1, Option.bind_some]
        obtain ⟨A, hA⟩ : ∃ A, s_X8_add Z (iN p) = A := ⟨_, rfl⟩
        rw [hA] at R2 T2 a10 a11 a12 a13 a14 a3 a4 aj aj2 ak
        have R3 := q_sil (q_raise R2 (k := 4) (by decide)) 0
        obtain ⟨m', f2, R5, -⟩ := q_tell4 R3 4 (iN p) (Z 18 4 + 1)
        have f2' : o_X10_tells (upd (upd m1 12 (m1 12 + 1)) 6 0) 4 (iN p) (Z 18 4 + 1) = some m' := f2
        simp only [lt1]
        rw [nK12, nK6, f2', Option.bind_some, Option.bind_some]
        have es : s_X6_stayWithoutToken_L45 (sF Z 1 0) (iN p) = s_X1_add (sF (sU A 1 (raise_ 9 (A 1) (iN 4))) 1 0) 4 (iN p) (Z 18 4 + 1) := by
          unfold s_X6_stayWithoutToken_L45 s_X6_stayWithoutToken_L53 s_X6_stayWithoutToken_L61
          rw [tokAdd_sil IZ.2.2.1.2.1 (by decide), hA, sF_j A 1 0 (show (1 : Nat) ≠ 18 by decide)]
          have e2 : sU (sF A 1 0) 1 (raise_ 9 (A 1) 4) = sF (sU A 1 (raise_ 9 (A 1) (iN 4))) 1 0 := by
            unfold sF
            rw [sU_ne (show (18 : Nat) ≠ 1 by decide)]
            exact sU_comm A (by decide) _ _
          rw [e2, sF_k _ _ (show (4 : Nat) ≠ 1 by decide), sU_ne (show (18 : Nat) ≠ 1 by decide), a4]
        rw [es]
        obtain ⟨W, hW⟩ : ∃ W, s_X1_add (sF (sU A 1 (raise_ 9 (A 1) (iN 4))) 1 0) 4 (iN p) (Z 18 4 + 1) = W := ⟨_, rfl⟩
        have wj : ∀ j, j ≤ 14 → j ≠ 1 → W j = A j := fun j a b => by rw [← hW, logAdd_j _ _ _ _ a, sF_j _ _ _ (by omega), sU_ne b]
        have wk : ∀ j, j ≤ 4 → j ≠ 1 → W 18 j = A 18 j := fun j a b => by rw [← hW, logAdd_k _ _ _ _ a, sF_k _ _ b, sU_ne (by decide)]
        rw [hW] at R5 ⊢
        refine ⟨m', 1, rfl, ⟨R5, ?_, ?_, ?_, ?_⟩, ?_, ?_⟩
        · exact IZ.2.1.fr (fun j hj => by rw [wj j (by omega) (by omega), aj j (by omega)]) (by rw [wk 2 (by decide) (by decide), ak 2 (by decide) (by decide)])
        · exact T2.fr (fun j a b => wj j (by omega) (by omega)) (wj 4 (by decide) (by decide)) (wj 7 (by decide) (by decide)) (wk 3 (by decide) (by decide)) (wk 4 (by decide) (by decide))
        · intro t u htu hu
          omega
        · exact hI'.fr (by rw [wj 0 (by decide) (by decide), aj 0 (by decide), z0])
        · rw [wj 0 (by decide) (by decide), aj 0 (by decide), z0]
        · rw [wk 0 (by decide) (by decide), ak 0 (by decide) (by decide), z18]
  · have q0' : ¬ iN tc = 0 := fun z => q0 ((iN_0 (by omega)).mp z)
    rw [if_neg q0', if_pos ((iN_pos (by omega)).mpr (by omega))]
    unfold o_X10_minutes_L97
    rw [if_pos (show gin 6 336 = true from gin_iN (k := 6) (by decide) (by decide)), nK6]
    simp only [lt1]
    rw [upd_eq, nK1, upd_ne (show (1 : Nat) ≠ 6 by decide), e1, if_pos ((iN_pos (by omega)).mpr (by omega))]
    exact ⟨_, tc, rfl, (Iv.sf (q_sil hR 0) hO hT hD hI' (by decide) (by decide) (by decide)).mono (by omega), sF_j _ _ _ (by decide), sF_k _ _ (by decide)⟩
theorem Iv.raise (h : Iv c tc B S m) {k : Nat} (hk : k < 9) : Iv c tc B (sU S 1 (raise_ 9 (S 1) (iN k))) (upd m (8 + k) (m (8 + k) + 1)) :=
  ⟨q_raise h.1 hk, h.2.1.fr (fun j hj => sU_ne (by omega)) rfl, h.2.2.1.fr (fun j a b => sU_ne (by omega)) rfl rfl rfl rfl, h.2.2.2.1.fr rfl rfl, h.2.2.2.2.fr rfl⟩
theorem q_min2 (h : Iv c tc B S m) (x : Int32) : ∃ m' tc', o_min2 m = some m' ∧ Iv c tc' (B + 1) (s_X6_passMinute_L99 S x) m' ∧ s_X6_passMinute_L99 S x 0 = S 0 ∧ s_X6_passMinute_L99 S x 18 0 = S 18 0 := by
  unfold o_min2 s_X6_passMinute_L99
  rw [q_speakers h.1.2.1, Option.bind_some]
  by_cases q : 1 < v_X8_howManySpeak S
  · rw [if_pos q, if_neg (fun z => (lt_2 _).mp z q)]
    exact q_119 (h.raise (k := 7) (by decide)) x (-2)
  · rw [if_neg q, if_pos ((lt_2 _).mpr q)]
    exact q_119 h x (-2)
theorem q_min20 (h : Iv c tc B S m) : ∃ m' tc', o_X10_minutes_L20 m = some m' ∧ Iv c tc' (B + 1) (s_X6_passMinute_L27 S) m' ∧ s_X6_passMinute_L27 S 0 = S 0 ∧ s_X6_passMinute_L27 S 18 0 = S 18 0 := by
  obtain ⟨hR, hO, hT, hD, hI⟩ := h
  have t3 := hT.1
  obtain ⟨S1, m1, e1, e2, R1, O1, T1', f0, f18⟩ := a_loop tc 0 S m 4000 (mu 0 + 1) (by omega) hR hO hT (hD.j hT) (by omega) (by rw [mu_0]; omega)
  obtain ⟨tc2, m2, hle, e3, R2, O2, T2, D2, g0, g18⟩ := a_tear 3 0 tc S1 m1 4000 (mu 0 + 1) 0 (by omega) (by omega) (by omega) R1 O1 T1' (fun u a b => absurd a (by omega)) (by omega) (by rw [mu_0]; omega)
  have I2 : Iv c tc2 B (s_X6_tearUpWhereTwoMeet S1) m2 := ⟨R2, O2, T2, D2, hI.fr (g0.trans f0)⟩
  obtain ⟨m3, tc3, e4, I3, k0, k18⟩ := q_min2 I2 (iN tc)
  have e1' : s_X6_passMinute_L27 S = s_X6_passMinute_L99 (s_X6_tearUpWhereTwoMeet S1) (iN tc) := e1
  have e2' : o_X10_minutes_L20 m = (o_X10_olderOne m1).bind (fun r2 => o_X10_minutes_L45 4000 m1 r2) := e2
  rw [e1', e2', e3, e4]
  exact ⟨m3, tc3, rfl, I3, k0.trans (g0.trans f0), k18.trans ((g18 0 (by decide) (by decide)).trans (f18 0 (by decide)))⟩
/-- A MINUTE: the reference's row and the State stay the same, and what holds of them -/
theorem q_minute (h : Iv c tc B S m) : ∃ m' tc', o_X10_minutes m = some m' ∧ Iv c tc' (B + 1) (s_X6_passMinute S) m' ∧ s_X6_passMinute S 0 = S 0 ∧ s_X6_passMinute S 18 0 = S 18 0 + 1 := by
  obtain ⟨hR, hO, hT, hD, hI⟩ := h
  have c10 := hO.1
  have e3 : m 3 = S 18 0 := hR.2.2.2.2.2.1
  have R1 := q_time hR (S 18 0 + 1)
  have I1 : Iv c tc B (sF S 0 (S 18 0 + 1)) (upd m 3 (S 18 0 + 1)) := Iv.sf R1 hO hT hD hI (by decide) (by decide) (by decide)
  have x0 : sF S 0 (S 18 0 + 1) 0 = S 0 := sF_j _ _ _ (by decide)
  have x18 : sF S 0 (S 18 0 + 1) 18 0 = S 18 0 + 1 := sF_e _ _ _
  unfold o_X10_minutes s_X6_passMinute
  simp only [lt1]
  rw [nK3, upd_eq, e3]
  obtain ⟨Z, hZ⟩ : ∃ Z, sF S 0 (S 18 0 + 1) = Z := ⟨_, rfl⟩
  rw [hZ] at I1 x0 x18 ⊢
  unfold s_X6_passMinute_L10
  rw [x18]
  by_cases q : jrem (S 18 0 + 1) 60 = 0
  · rw [if_pos q, if_pos q]
    obtain ⟨m1, f1, R2, fj⟩ := q_newDay c 0 Z _ 4000 (mu 0 + 1) (by omega) I1.1 (by omega) (by rw [mu_0]; omega)
    have f1' : o_X10_newDay (upd m 3 (S 18 0 + 1)) = some m1 := f1
    have R2' : R4 c tc (s_X2_beginDay Z) m1 := R2
    have fj' : ∀ j, j ≠ 5 → s_X2_beginDay Z j = Z j := fj
    have I2 : Iv c tc B (s_X2_beginDay Z) m1 := ⟨R2', I1.2.1.fr (fun j hj => fj' j (by omega)) (by rw [fj' 18 (by decide)]), I1.2.2.1.fr (fun j a b => fj' j (by omega)) (fj' 4 (by decide)) (fj' 7 (by decide)) (by rw [fj' 18 (by decide)]) (by rw [fj' 18 (by decide)]), I1.2.2.2.1.fr (fj' 11 (by decide)) (fj' 12 (by decide)), I1.2.2.2.2.fr (fj' 0 (by decide))⟩
    rw [f1', Option.bind_some]
    obtain ⟨m2, tc2, f2, I3, g0, g18⟩ := q_min20 I2
    exact ⟨m2, tc2, f2, I3, g0.trans ((fj' 0 (by decide)).trans x0), g18.trans (by rw [fj' 18 (by decide), x18])⟩
  · rw [if_neg q, if_neg q]
    obtain ⟨m2, tc2, f2, I3, g0, g18⟩ := q_min20 I1
    exact ⟨m2, tc2, f2, I3, g0.trans x0, g18.trans x18⟩
end AC6
