-- PART 65: the whole text, and what it makes
def bldN (M : NM) (a b q : Nat) (os ls : List (Nat × Nat × Nat)) (t : Option Nat) : NM := toaN (lasN (oasN (ruN (clN M) a b q) os) ls) t
def TVd (os : List (Nat × Nat × Nat)) (t : Option Nat) : Prop := ∀ x, t = some x → x < os.length ∧ ∃ o, os[x]? = some o ∧ o.2.2 = 1
def RVd (a b q : Nat) : Prop := (1 ≤ a ∧ a ≤ 20) ∧ (1 ≤ b ∧ b ≤ 99) ∧ (1 ≤ q ∧ q ≤ 60)
section PD
variable {a b q : Nat} {os ls : List (Nat × Nat × Nat)} {t : Option Nat} {M : NM} {E : SM}
theorem cl_1 (M : NM) {k : Nat} (h : k < 9) : clN M 1 k = 0 := if_pos ⟨rfl, h⟩
theorem cl_18 (M : NM) {k : Nat} (h : k ≤ 4) : clN M 18 k = 0 := (if_neg (fun z => by omega)).trans (if_pos ⟨rfl, h⟩)
theorem ru_j (M : NM) {j : Nat} (hj : j ≠ 0) (k : Nat) : ruN M a b q j k = M j k := by
  unfold ruN
  rw [nP_r hj, nP_r hj, nP_r hj]
theorem ru_0 (M : NM) : ruN M a b q 0 0 = a ∧ ruN M a b q 0 1 = b ∧ ruN M a b q 0 2 = q := by
  refine ⟨?_, ?_, ?_⟩ <;> rfl
theorem ob_j (M : NM) {j : Nat} (h : j = 1 ∨ 7 < j) (hj : j ≠ 18) (k : Nat) : oasN (ruN (clN M) a b q) os j k = clN M j k := by
  rw [oasN_j os _ j k (by omega) (by omega), ru_j _ (by omega)]
theorem ob_18 (M : NM) {k : Nat} (hk : k ≠ 2) : oasN (ruN (clN M) a b q) os 18 k = clN M 18 k := by
  rw [oasN_j os _ 18 k (by omega) (by omega), ru_j _ (by omega)]
theorem ob_c (M : NM) : oasN (ruN (clN M) a b q) os 18 2 = os.length := by
  rw [oasN_c, ru_j _ (by omega), cl_18 _ (by omega), Nat.zero_add]
theorem ob_0 (M : NM) {k : Nat} : oasN (ruN (clN M) a b q) os 0 k = ruN (clN M) a b q 0 k := oasN_j os _ 0 k (by omega) (by omega)
theorem ob_at (M : NM) {k : Nat} {o : Nat × Nat × Nat} (h : os[k]? = some o) : oasN (ruN (clN M) a b q) os 2 k = o.1 ∧ oasN (ruN (clN M) a b q) os 3 k = o.2.1 ∧ oasN (ruN (clN M) a b q) os 4 k = o.2.2 ∧ oasN (ruN (clN M) a b q) os 5 k = 0 ∧ oasN (ruN (clN M) a b q) os 6 k = 0 ∧ oasN (ruN (clN M) a b q) os 7 k = 0 := by
  have e := oasN_at os (ruN (clN M) a b q) k o h
  rw [ru_j _ (show (18 : Nat) ≠ 0 by decide), cl_18 _ (by decide), Nat.zero_add] at e
  exact e
theorem os_get {k : Nat} (h : k < os.length) : ∃ o, os[k]? = some o ∧ o ∈ os := ⟨os[k], List.getElem?_eq_getElem h, List.getElem_mem h⟩
theorem os_pair {R : (Nat × Nat × Nat) → (Nat × Nat × Nat) → Prop} (h : os.Pairwise R) {i j : Nat} {x y : Nat × Nat × Nat} (hij : i < j) (hx : os[i]? = some x) (hy : os[j]? = some y) : R x y := by
  obtain ⟨hi, ei⟩ := List.getElem?_eq_some_iff.mp hx
  obtain ⟨hj, ej⟩ := List.getElem?_eq_some_iff.mp hy
  have := List.pairwise_iff_getElem.mp h i j hi hj hij
  rw [ei, ej] at this
  exact this
theorem ob_inv (M : NM) (hR : RVd a b q) (hO : OVd os) (h2 : 2 ≤ os.length) (h10 : os.length ≤ 10) : Inv 0 (oasN (ruN (clN M) a b q) os) := by
  obtain ⟨r1, r2, r3⟩ := hR
  obtain ⟨o1, o2⟩ := hO
  have e2 := ob_c (a := a) (b := b) (q := q) (os := os) M
  have e3 : oasN (ruN (clN M) a b q) os 18 3 = 0 := (ob_18 M (by decide)).trans (cl_18 M (by decide))
  have e4 : oasN (ruN (clN M) a b q) os 18 4 = 0 := (ob_18 M (by decide)).trans (cl_18 M (by decide))
  have e1 : ∀ k, k < 9 → oasN (ruN (clN M) a b q) os 1 k = 0 := fun k hk => (ob_j M (by decide) (by decide) k).trans (cl_1 M hk)
  have ea : ∀ k, k < os.length → ∃ o, os[k]? = some o ∧ o ∈ os := fun k hk => os_get hk
  have z7 : ∀ k, k < os.length → oasN (ruN (clN M) a b q) os 7 k = 0 := fun k hk => by
    obtain ⟨o, ho, -⟩ := ea k hk
    exact (ob_at M ho).2.2.2.2.2
  have z6 : ∀ k, k < os.length → oasN (ruN (clN M) a b q) os 6 k = 0 := fun k hk => by
    obtain ⟨o, ho, -⟩ := ea k hk
    exact (ob_at M ho).2.2.2.2.1
  have ns : ∀ (f : Nat → Nat) n, (∀ k, k < n → f k = 0) → nsum f n = 0 := by
    intro f n
    induction n with
    | zero => intro _; rfl
    | succ n ih =>
      intro h
      rw [nsum, ih (fun k hk => h k (by omega)), h n (by omega)]
  refine ⟨⟨by omega, by omega, fun o ho => ?_, fun o p h1 hp => ?_⟩, ⟨by omega, by omega, fun t ht => by omega, fun t u _ hu => by omega⟩, fun t u _ hu => by omega, ⟨?_, ?_, fun o ho => ?_, ?_, ?_, ?_⟩, ⟨?_, ?_⟩, ?_⟩
  · rw [e2] at ho
    obtain ⟨x, hx, hm⟩ := ea o ho
    obtain ⟨x1, x2, x3, -, -, -⟩ := ob_at (a := a) (b := b) (q := q) M hx
    obtain ⟨y1, y2, y3, y4, y5⟩ := o1 x hm
    refine ⟨by omega, by omega, by omega, by omega, by omega, by rw [z7 o ho]; omega, fun i hi => ?_⟩
    rw [z7 o ho] at hi
    omega
  · rw [e2] at hp
    obtain ⟨x, hx, -⟩ := ea o (by omega)
    obtain ⟨y, hy, -⟩ := ea p hp
    rw [(ob_at M hx).2.1, (ob_at M hy).2.1]
    exact os_pair o2 h1 hx hy
  · exact Nat.le_of_eq ((ob_18 M (by decide)).trans (cl_18 M (by decide)))
  · exact Nat.le_of_eq ((ob_18 M (by decide)).trans (cl_18 M (by decide)))
  · rw [e2] at ho
    obtain ⟨x, hx, -⟩ := ea o ho
    exact Nat.le_of_eq (ob_at M hx).2.2.2.1
  · exact Nat.le_of_eq (e1 1 (by decide))
  · exact Nat.le_of_eq (e1 5 (by decide))
  · exact Nat.le_of_eq (e1 6 (by decide))
  · rw [e1 0 (by decide), e1 1 (by decide), e1 2 (by decide), e1 3 (by decide), e2, ns _ _ z7]
  · rw [e1 1 (by decide), e2, ns _ _ z6]
  · obtain ⟨q0, q1, q2⟩ := ru_0 (a := a) (b := b) (q := q) (clN M)
    unfold IR
    rw [ob_0, ob_0, ob_0, q0, q1, q2]
    omega
theorem lb_inv (M : NM) (hR : RVd a b q) (hO : OVd os) (h2 : 2 ≤ os.length) (h10 : os.length ≤ 10) (hV : LVd os.length (fun _ => 0) ls) : Inv 0 (lasN (oasN (ruN (clN M) a b q) os) ls) := by
  refine lasN_inv ls _ (fun _ => 0) (ob_inv M hR hO h2 h10) (fun j hj => ?_) (by rw [ob_c]; exact hV)
  rw [ob_c] at hj
  obtain ⟨o, ho, -⟩ := os_get hj
  exact (ob_at M ho).2.2.2.2.2
theorem stand_0 {M : NM} (h : M 18 3 = 0) (x : Nat) : stand M x = none := by
  unfold stand
  rw [h]
  rfl
theorem lb_c (M : NM) : lasN (oasN (ruN (clN M) a b q) os) ls 18 2 = os.length := (lasN_j ls _ 18 2 (by decide) (by decide) (by decide) (by decide)).trans (ob_c M)
theorem lb_3 (M : NM) : lasN (oasN (ruN (clN M) a b q) os) ls 18 3 = 0 := (lasN_j ls _ 18 3 (by decide) (by decide) (by decide) (by decide)).trans ((ob_18 M (by decide)).trans (cl_18 M (by decide)))
theorem lb_4 (M : NM) {k : Nat} {o : Nat × Nat × Nat} (h : os[k]? = some o) : lasN (oasN (ruN (clN M) a b q) os) ls 4 k = o.2.2 := (lasN_j ls _ 4 k (by decide) (by decide) (by decide) (by decide)).trans (ob_at M h).2.2.1
theorem bld_inv (M : NM) (hR : RVd a b q) (hO : OVd os) (h2 : 2 ≤ os.length) (h10 : os.length ≤ 10) (hV : LVd os.length (fun _ => 0) ls) (hT : TVd os t) : Inv 1 (bldN M a b q os ls t) := by
  have h := lb_inv M hR hO h2 h10 hV
  unfold bldN
  cases t with
  | none => exact h.mono (by decide)
  | some x =>
    obtain ⟨h1, o, h3, h4⟩ := hT x rfl
    have e := h.stray (o := x) (by rw [lb_3]; decide) (by rw [lb_c]; exact h1) (by rw [lb_4 M h3, h4])
    unfold sxN at e
    rw [stand_0 (lb_3 M)] at e
    exact e
theorem bld_c (M : NM) : bldN M a b q os ls t 18 2 = os.length := by
  unfold bldN
  cases t with
  | none => exact lb_c M
  | some x => exact lb_c M
/-- a setup text is read to its end, and makes just what it says -/
theorem pr_all {p : PS} (hT : TPE (rnd a b q os ls t) E) (hR : RVd a b q) (hO : OVd os) (h2 : 2 ≤ os.length) (h10 : os.length ≤ 10) (hV : LVd os.length (fun _ => 0) ls) (h60 : ls.length ≤ 60) (ht : TVd os t) (hL : LL p.2.2 M) : ∃ p2, p_X4_parse p E = (-2, p2) ∧ LL p2.2.2 (bldN M a b q os ls t) := by
  obtain ⟨r1, r2, r3⟩ := hR
  have ht99 : ∀ x, t = some x → x < 100 := fun x hx => by
    have := (ht x hx).1
    omega
  -- the first word
  have w0 : Sx (rnd a b q os ls t) (s_X3_begin p.1 E) 0 0 ([32] ++ (dcN a ++ ([32] ++ (stx 1 ++ ([32] ++ (dcN b ++ ([32] ++ (stx 2 ++ ([32] ++ (dcN q ++ (59 :: ofsR os (lesR ls (toR t))))))))))))) := by
    have er : rnd a b q os ls t = stx 0 ++ ([32] ++ (dcN a ++ ([32] ++ (stx 1 ++ ([32] ++ (dcN b ++ ([32] ++ (stx 2 ++ ([32] ++ (dcN q ++ (59 :: ofsR os (lesR ls (toR t))))))))))))) := rfl
    have hl : (rnd a b q os ls t).length = 5 + ([32] ++ (dcN a ++ ([32] ++ (stx 1 ++ ([32] ++ (dcN b ++ ([32] ++ (stx 2 ++ ([32] ++ (dcN q ++ (59 :: ofsR os (lesR ls (toR t))))))))))))).length := by
      rw [er, List.length_append]
      rfl
    have h5 : (stx 0).length = 5 := rfl
    have hg := fun i => getD_add (stx 0) ([32] ++ (dcN a ++ ([32] ++ (stx 1 ++ ([32] ++ (dcN b ++ ([32] ++ (stx 2 ++ ([32] ++ (dcN q ++ (59 :: ofsR os (lesR ls (toR t))))))))))))) i
    rw [← er] at hg
    obtain ⟨z1, z2⟩ := ad_word (c := upd p.1 1 0) (a := 0) (w := 0) hT (upd_eq _ _ _) (j := 0) (by decide) (fun y => absurd y (by decide)) (by decide) ⟨by omega, fun i hi => by
      rw [Nat.zero_add, er, getD_l hi]⟩ (by omega) (fun _ => by
      have e := hg 0
      rw [Nat.add_zero] at e
      rw [Nat.zero_add, e]
      exact s32.1)
    exact ⟨stx 0, er, by rw [Nat.zero_add] at z1; exact z1, z2, fun y => absurd y (by decide)⟩
  have n32 : ∀ R, nb dgt ([32] ++ R) := fun R => nb_32 s32.2.1 R
  have m32 : ∀ R, nb sml ([32] ++ R) := fun R => nb_32 s32.1 R
  obtain ⟨c1, e1, x1⟩ := pr_rule (q := (s_X3_begin p.1 E, p.2.1, s_X6_clear p.2.2)) (w := 0) hT (a := 0) (by decide) (x := a) r1.1 (Or.inl ⟨rfl, r1.2⟩) w0 (n32 _)
  have w1 := x1.word hT (Or.inr rfl) (w := 1) (by decide) (m32 _)
  have hL1 := hL.clear.put (j := 0) (by decide) (n := 3) (by decide) (k := 0) (by decide) a
  obtain ⟨c2, e2, x2⟩ := pr_rule (q := (s_X3_advance c1 E, iN a, sU (s_X6_clear p.2.2) 0 (put_ 3 (s_X6_clear p.2.2 0) (iN 0) (iN a)))) (w := 1) hT (a := 1) (by decide) (x := b) r2.1 (Or.inr (Or.inl ⟨rfl, r2.2⟩)) w1 (n32 _)
  have w2 := x2.word hT (Or.inr rfl) (w := 2) (by decide) (m32 _)
  have hL2 := hL1.put (j := 0) (by decide) (n := 3) (by decide) (k := 1) (by decide) b
  obtain ⟨c3, e3, x3⟩ := pr_rule (q := (s_X3_advance c2 E, iN b, sU (sU (s_X6_clear p.2.2) 0 (put_ 3 (s_X6_clear p.2.2 0) (iN 0) (iN a))) 0 (put_ 3 (sU (s_X6_clear p.2.2) 0 (put_ 3 (s_X6_clear p.2.2 0) (iN 0) (iN a)) 0) (iN 1) (iN b)))) (w := 2) hT (a := 2) (by decide) (x := q) r3.1 (Or.inr (Or.inr ⟨rfl, r3.2⟩)) w2 (nb_59 s32.2.2.2 _)
  have w3 := x3.semi hT
  have hL3 := hL2.put (j := 0) (by decide) (n := 3) (by decide) (k := 2) (by decide) q
  have t8 := tk_y (q := (s_X3_advance c3 E, iN q, sU (sU (sU (s_X6_clear p.2.2) 0 (put_ 3 (s_X6_clear p.2.2 0) (iN 0) (iN a))) 0 (put_ 3 (sU (s_X6_clear p.2.2) 0 (put_ 3 (s_X6_clear p.2.2 0) (iN 0) (iN a)) 0) (iN 1) (iN b))) 0 (put_ 3 (sU (sU (s_X6_clear p.2.2) 0 (put_ 3 (s_X6_clear p.2.2 0) (iN 0) (iN a))) 0 (put_ 3 (sU (s_X6_clear p.2.2) 0 (put_ 3 (s_X6_clear p.2.2 0) (iN 0) (iN a)) 0) (iN 1) (iN b)) 0) (iN 2) (iN q)))) (E := E) w3
  generalize hS3 : sU (sU (sU (s_X6_clear p.2.2) 0 (put_ 3 (s_X6_clear p.2.2 0) (iN 0) (iN a))) 0 (put_ 3 (sU (s_X6_clear p.2.2) 0 (put_ 3 (s_X6_clear p.2.2 0) (iN 0) (iN a)) 0) (iN 1) (iN b))) 0 (put_ 3 (sU (sU (s_X6_clear p.2.2) 0 (put_ 3 (s_X6_clear p.2.2 0) (iN 0) (iN a))) 0 (put_ 3 (sU (s_X6_clear p.2.2) 0 (put_ 3 (s_X6_clear p.2.2 0) (iN 0) (iN a)) 0) (iN 1) (iN b)) 0) (iN 2) (iN q)) = S3 at *
  have hc0 : ruN (clN M) a b q 18 2 = 0 := (ru_j _ (by decide) _).trans (cl_18 M (by decide))
  obtain ⟨q4, e4, x4, hL4⟩ := pr_offs hT (R := lesR ls (toR t)) (fun c hc => by
    obtain ⟨k, v, R2, y1, y2, y3, -⟩ := nx_let hT t ls ht99 hc
    exact ⟨k, v, R2, y1, y2, y3⟩) os 0 (s_X3_advance (s_X3_advance c3 E) E, iN q, S3) (ruN (clN M) a b q) (mu 0 + 1) ⟨_, rfl, w3⟩ hL3 hc0 (by omega) (by omega) hO (fun j hj => absurd hj (Nat.not_lt_zero j)) (by rw [mu_0]; omega)
  have hc4 : oasN (ruN (clN M) a b q) os 18 2 = os.length := ob_c M
  obtain ⟨q5, e5, x5, hL5⟩ := pr_lets hT t ht99 os.length h2 h10 ls 0 q4 (oasN (ruN (clN M) a b q) os) (fun _ => 0) (mu 0 + 1) x4 hL4 hc4 (fun j hj => by
    obtain ⟨o, ho, -⟩ := os_get hj
    exact (ob_at M ho).2.2.2.2.2) hV (by omega) (by rw [mu_0]; omega)
  obtain ⟨q6, e6, x6, hL6⟩ := pr_tok hT t x5 hL5 (by rw [lb_c]; exact h10) (lb_3 M) (fun x hx => by
    obtain ⟨y1, o, y2, y3⟩ := ht x hx
    exact ⟨by rw [lb_c]; exact y1, by rw [lb_4 M y2, y3]⟩)
  refine ⟨q6, ?_, hL6⟩
  have n1 : ¬ (1 : Int32) = 0 := by decide
  unfold p_X4_parse p_X4_parse_L7 p_X4_parse_L14
  have e1' : p_X4_parseRule (s_X3_begin p.1 E, p.2.1, s_X6_clear p.2.2) E 0 0 = _ := e1
  rw [e1']
  unfold p_X4_parse_L20
  rw [if_neg n1]
  have e2' : p_X4_parseRule (s_X3_advance c1 E, iN a, sU (s_X6_clear p.2.2) 0 (put_ 3 (s_X6_clear p.2.2 0) (iN 0) (iN a))) E 1 1 = _ := e2
  rw [e2']
  unfold p_X4_parse_L29
  rw [if_neg n1]
  have e3' : p_X4_parseRule (s_X3_advance c2 E, iN b, sU (sU (s_X6_clear p.2.2) 0 (put_ 3 (s_X6_clear p.2.2 0) (iN 0) (iN a))) 0 (put_ 3 (sU (s_X6_clear p.2.2) 0 (put_ 3 (s_X6_clear p.2.2 0) (iN 0) (iN a)) 0) (iN 1) (iN b))) E 2 2 = _ := e3
  rw [e3']
  unfold p_X4_parse_L38
  rw [if_neg n1]
  have t8' : p_X4_take (s_X3_advance c3 E, iN q, S3) E 8 = _ := t8
  rw [t8']
  unfold p_X4_parse_L47
  rw [if_neg n1]
  unfold p_X4_parseOffices
  have e4' : p_X4_parseOffices_L2 (mu 0 + 1) (s_X3_advance (s_X3_advance c3 E) E, iN q, S3) E 0 = (1, q4) := e4
  rw [e4']
  unfold p_X4_parse_L54
  rw [if_neg n1]
  unfold p_X4_parseLetters
  have hl4 : q4.2.2 18 2 - 1 = iN (os.length - 1) := by
    rw [hL4.c, hc4]
    exact iN_1 (by omega)
  have e5' : p_X4_parseLetters_L15 (mu 0 + 1) q4 E (iN (os.length - 1)) 0 = (1, q5) := e5
  rw [hl4, e5']
  unfold p_X4_parse_L61
  rw [if_neg n1, e6]
  unfold p_X4_parse_L68
  rw [if_neg n1, if_pos x6]
  unfold p_X4_parse_L88
  rw [if_neg n1]
end PD
