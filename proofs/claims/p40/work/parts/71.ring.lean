-- PART 71: the law's method ring
def cntA : (Nat → Nat) → List (Nat × Nat × Nat) → Nat → Nat
  | cnt, [] => cnt
  | cnt, x :: xs => cntA (fun i => if i = x.1 then cnt i + 1 else cnt i) xs
theorem LVd_app {c : Nat} : ∀ (l1 l2 : List (Nat × Nat × Nat)) (cnt : Nat → Nat), LVd c cnt l1 → LVd c (cntA cnt l1) l2 → LVd c cnt (l1 ++ l2) := by
  intro l1
  induction l1 with
  | nil => intro l2 cnt _ h; exact h
  | cons x xs ih =>
    intro l2 cnt h h2
    obtain ⟨a, b, d, e, f, g, h⟩ := h
    exact ⟨a, b, d, e, f, g, ih l2 _ h h2⟩
theorem cntA_app : ∀ (l1 l2 : List (Nat × Nat × Nat)) (cnt : Nat → Nat), cntA cnt (l1 ++ l2) = cntA (cntA cnt l1) l2 := by
  intro l1
  induction l1 with
  | nil => intro l2 cnt; rfl
  | cons x xs ih => intro l2 cnt; exact ih l2 _
theorem osW_app (l2 : List (Nat × Nat × Nat)) : ∀ l1, osW (l1 ++ l2) = osW l1 ++ osW l2 := by
  intro l1
  induction l1 with
  | nil => rfl
  | cons o os ih => rw [List.cons_append, osW, ih, osW, List.append_assoc]
theorem osW_1 (o : Nat × Nat × Nat) : osW [o] = ofW o := List.append_nil _
theorem lsW_1 (o : Nat × Nat × Nat) : lsW [o] = leW o := List.append_nil _
theorem dg_le (v : Nat) : dgN v ≤ 2 := by
  unfold dgN
  split <;> decide
theorem sl_le : slen.getD 7 0 ≤ 8 ∧ slen.getD 8 0 ≤ 8 ∧ slen.getD 9 0 ≤ 8 ∧ slen.getD 10 0 ≤ 8 ∧ slen.getD 12 0 ≤ 8 ∧ slen.getD 13 0 ≤ 8 ∧ slen.getD 14 0 ≤ 8 ∧ slen.getD 15 0 ≤ 8 := by decide +kernel
/-- a text that load() reads -/
def RT (T : List Nat) : Prop := ∃ a b q os ls t, T = rnd a b q os ls t ∧ RVd a b q ∧ OVd os ∧ 2 ≤ os.length ∧ os.length ≤ 10 ∧ LVd os.length (fun _ => 0) ls ∧ ls.length ≤ 60 ∧ TVd os t ∧ T.length ≤ 1100 ∧ ASC T
abbrev RGt : Type := {z : List Nat × Nat × (Nat × (Nat → Int32)) // RT z.1 ∧ ∀ i, i < z.1.length → z.2.2.2 i = iN (z.1.getD i 0)}
theorem asc_W {os : List (Nat × Nat × Nat)} : (∀ o, o ∈ os → o.1 < 100 ∧ o.2.1 < 100) → ASC (osW os) := by
  induction os with
  | nil => intro _ x hx; exact absurd hx List.not_mem_nil
  | cons o os ih =>
    intro h
    obtain ⟨h1, h2⟩ := h o List.mem_cons_self
    refine ASC.app ?_ (ih (fun p hp => h p (List.mem_cons_of_mem _ hp)))
    unfold ofW
    refine (asc_j 10 (by decide)).app ((asc_d h1).app ((asc_1 (by decide)).app ((asc_d h2).app ?_)))
    split
    · exact asc_1 (by decide)
    · exact (asc_j 11 (by decide)).app (asc_1 (by decide))
theorem asc_L {ls : List (Nat × Nat × Nat)} : (∀ o, o ∈ ls → o.1 < 100 ∧ o.2.1 < 100 ∧ o.2.2 < 100) → ASC (lsW ls) := by
  induction ls with
  | nil => intro _ x hx; exact absurd hx List.not_mem_nil
  | cons o os ih =>
    intro h
    obtain ⟨h1, h2, h3⟩ := h o List.mem_cons_self
    refine ASC.app ?_ (ih (fun p hp => h p (List.mem_cons_of_mem _ hp)))
    unfold leW
    exact (asc_j 12 (by decide)).app ((asc_d h1).app ((asc_1 (by decide)).app ((asc_d h2).app ((asc_1 (by decide)).app ((asc_d h3).app (asc_1 (by decide)))))))
theorem asc_T {t : Option Nat} (h : ∀ a, t = some a → a < 100) : ASC (toW t) := by
  cases t with
  | none => exact fun x hx => absurd hx List.not_mem_nil
  | some a => exact (asc_j 13 (by decide)).app ((asc_d (h a rfl)).app (asc_1 (by decide)))
theorem asc_R {a b q : Nat} (h : RVd a b q) : ASC (ruW a b q) := by
  obtain ⟨h1, h2, h3⟩ := h
  exact (asc_j 7 (by decide)).app ((asc_d (by omega)).app ((asc_j 8 (by decide)).app ((asc_d (by omega)).app ((asc_j 9 (by decide)).app ((asc_d (by omega)).app (asc_1 (by decide)))))))
theorem LVd_mem {c : Nat} : ∀ (ls : List (Nat × Nat × Nat)) (cnt : Nat → Nat), LVd c cnt ls → ∀ x, x ∈ ls → x.1 < c ∧ x.2.1 < c ∧ x.2.2 ≤ 9 := by
  intro ls
  induction ls with
  | nil => intro _ _ x hx; exact absurd hx List.not_mem_nil
  | cons y ys ih =>
    intro cnt h x hx
    obtain ⟨a, b, d, e, f, g, h⟩ := h
    rcases List.mem_cons.mp hx with rfl | hx
    · exact ⟨a, b, f⟩
    · exact ih _ h x hx
theorem RT.of {a b q : Nat} {os ls : List (Nat × Nat × Nat)} {t : Option Nat} {T : List Nat} (hT : T = ruW a b q ++ (osW os ++ (lsW ls ++ toW t))) (hR : RVd a b q) (hO : OVd os) (h2 : 2 ≤ os.length) (h10 : os.length ≤ 10) (hV : LVd os.length (fun _ => 0) ls) (h60 : ls.length ≤ 60) (ht : TVd os t) (hl : T.length ≤ 1100) : RT T := by
  refine ⟨a, b, q, os, ls, t, hT.trans rnd_w.symm, hR, hO, h2, h10, hV, h60, ht, hl, ?_⟩
  rw [hT]
  refine (asc_R hR).app ((asc_W (fun o ho => ?_)).app ((asc_L (fun o ho => ?_)).app (asc_T (fun x hx => ?_))))
  · have := hO.1 o ho
    omega
  · have := LVd_mem _ _ hV o ho
    omega
  · have := (ht x hx).1
    omega
theorem kd_L_ring : Cd yL_ring cL_ring 9 (some (.object "java/lang/String")) 2 := ⟨uc_L_ring, un_L, ⟨by decide, by decide, by decide⟩⟩
theorem c_L_ring (l : Launch) (K : gK) {w : Nat} (hw : w < 2147483648) (vv : Int32) : Cr l K yL_ring cL_ring 9 (some (.object "java/lang/String")) 12 160 350000 [.int (iN w), .int vv] [] (fun z : RGt => ((some (.ref z.1.2.1), stW K z.1.2.1 z.1.1 z.1.2.2) : gR)) := by
  obtain ⟨c, hc, c2, c7⟩ : ∃ c, 2 + w % 256 % 6 = c ∧ 2 ≤ c ∧ c ≤ 7 := ⟨_, rfl, by omega, by omega⟩
  obtain ⟨a, ha, a1, a20⟩ : ∃ a, 1 + w / 8 % 256 % 12 = a ∧ 1 ≤ a ∧ a ≤ 12 := ⟨_, rfl, by omega, by omega⟩
  obtain ⟨e, he, e1, e20⟩ : ∃ e, 1 + w / 32 % 16 = e ∧ 1 ≤ e ∧ e ≤ 16 := ⟨_, rfl, by omega, by omega⟩
  obtain ⟨m, hm, m15⟩ : ∃ m, w / 8192 % 16 = m ∧ m ≤ 15 := ⟨_, rfl, by omega⟩
  obtain ⟨s7, s8, s9, s10, s12, s13, s14, s15⟩ := sl_le
  obtain ⟨n7, n8, n9, n10, n11, n12, n13, n14, n15⟩ := stx_n
  have dga := dg_le
  refine Cr.of (own := RL) (by decide) rfl (Nat.le_of_ble_eq_true rfl) (fun Γ C Yc _ => ?_)
  have k399 : ∀ b T (u : SBt T), RT T → J l K Γ (Jz K Γ (fun z : RGt => ((some (.ref z.1.2.1), stW K z.1.2.1 z.1.1 z.1.2.2) : gR)) 160 350000) 154 345120 [(b, .inr (11, [.ref u.1.1, .int 0, .int 0, .int (iN T.length)])), cB K u.1.1 u.1.2.1 u.1.2.2] 399 9 [(3, .ref b)] [] := by
    intro b T u hT
    refine J_aload_n C 0 dL_ring_399 rfl ?_
    refine J_crV (as := []) (T := TJ4) (N := 4) C Yc 0 11 kj_J4_toString_0e30d ui_J4_toString_0e30d us_J4_toString_0e30d um_L_58 rfl rfl (cj_toS l K b u) dL_ring_400 rfl rfl ⟨(Nat.le_of_ble_eq_true rfl), (Nat.le_of_ble_eq_true rfl)⟩ (Nat.le_of_ble_eq_true rfl) (Nat.le_of_ble_eq_true rfl) (Nat.le_of_ble_eq_true rfl) (fun z => ?_)
    exact J_raret (Or.inl ⟨_, rfl⟩) C ⟨(T, z.1, z.2.1), hT, z.2.2⟩ dL_ring_403 (Nat.le_of_ble_eq_true rfl) (Nat.le_of_ble_eq_true rfl) rfl
  have k353 : ∀ b s5 T (u : SBt T) q (os ls : List (Nat × Nat × Nat)) (g : Nat → Int32), RVd a e q → OVd os → os.length = c → (∀ i o, os[i]? = some o → (g i = 0 ∧ o.2.2 = 1) ∨ (g i = 1 ∧ o.2.2 = 0)) → T = (ruW a e q) ++ (osW os ++ lsW ls) → T.length ≤ 341 → LVd c (fun _ => 0) ls → ls.length ≤ 15 → J l K Γ (Jz K Γ (fun z : RGt => ((some (.ref z.1.2.1), stW K z.1.2.1 z.1.1 z.1.2.2) : gR)) 160 350000) 151 338220 [cZ K s5 8 g, (b, .inr (11, [.ref u.1.1, .int 0, .int 0, .int (iN T.length)])), cB K u.1.1 u.1.2.1 u.1.2.2] 353 9 [(0, .int (iN w)), (1, .int vv), (2, .int (iN c)), (3, .ref b), (5, .ref s5)] [] := by
    intro b s5 T u q os ls g hR hO ho hg hT hl hV h15
    have hA : w / 131072 % 256 % c < c := Nat.mod_lt _ (by omega)
    refine J_iload_n C 0 dL_ring_353 rfl ?_
    refine J_bipush C (v := 17) dL_ring_354 rfl ?_
    refine J_ishr C dL_ring_356 rfl ?_
    refine J_eqi (b := (iN (w / 131072))) (sr_ hw 17 (by decide)) ?_
    refine J_sipush C (v := 255) dL_ring_357 rfl ?_
    refine J_iand C dL_ring_360 ?_
    refine J_eqi (b := (iN (w / 131072 % 256))) (m255_ _) ?_
    refine J_iload_n C 2 dL_ring_361 rfl ?_
    refine J_irem C dL_ring_362 (fun z => absurd ((iN_0 (by omega)).mp z) (by omega)) ?_
    refine J_eqi (b := (iN (w / 131072 % 256 % c))) (iN_rem (by omega) (by omega)) ?_
    generalize hp : w / 131072 % 256 % c = p at hA
    refine J_istore C (lv' := [(7, .int (iN p)), (0, .int (iN w)), (1, .int vv), (2, .int (iN c)), (3, .ref b), (5, .ref s5)]) dL_ring_363 (by decide) rfl ?_
    obtain ⟨o, hos, hom⟩ := os_get (os := os) (show p < os.length by omega)
    have none_ : RT T := RT.of (a := a) (b := e) (q := q) (os := os) (ls := ls) (t := none) (by rw [hT]; show _ = _ ++ (_ ++ (_ ++ [])); rw [List.append_nil]) hR hO (by omega) (by omega) (by rw [ho]; exact hV) (by omega) (fun x hx => by cases hx) (by omega)
    rcases hg p o hos with ⟨g0, op⟩ | ⟨g0, op⟩
    · refine J_aload C 5 dL_ring_365 rfl ?_
      refine J_iload C 0 dL_ring_367 rfl ?_
      refine J_zaN C 0 p rfl (by omega) (by decide) rfl dL_ring_369 ?_
      refine J_eqi (b := 0) g0 ?_
      refine J_if_ne_y C 399 rfl dL_ring_370 rfl ?_
      refine J_iload_n C 1 dL_ring_373 rfl ?_
      refine J_bipush C (v := 20) dL_ring_374 rfl ?_
      refine J_ishr C dL_ring_376 rfl ?_
      refine J_eqi (b := (iN (w / 1048576))) (sr_ hw 20 (by decide)) ?_
      refine J_iconst C (v := 3) dL_ring_377 rfl ?_
      refine J_iand C dL_ring_378 ?_
      refine J_eqi (b := (iN (w / 1048576 % 4))) (m3_ _) ?_
      by_cases h0 : w / 1048576 % 4 = 0
      · refine J_if_le_n C 399 (show ¬ 0 < iN (w / 1048576 % 4) by rw [h0]; decide) dL_ring_379 rfl ?_
        refine J_sub [4] (lv' := [(3, .ref b)]) rfl ?_
        refine J_widen (k := 154) (n := 345120) (by omega) (by omega) ?_
        exact J_drop (u := [cZ K s5 8 g]) (k399 b T u none_)
      · refine J_if_le_y C 399 ((iN_pos (by omega)).mpr (by omega)) dL_ring_379 rfl ?_
        refine J_aload_n C 4 dL_ring_382 rfl ?_
        refine J_ldcL C (ix := 56) (j := 13) (tx := "token ") (by decide) rfl dL_ring_383 ?_
        refine J_crV (as := [.ref (K.2 (100 + 13))]) (T := TJ4) (N := 4) C Yc 1 11 kj_J4_append_15ec4 ui_J4_append_15ec4 us_J4_append_15ec4 um_L_39 rfl rfl (Cr.right [cZ K s5 8 g] (cj_appS l K b u (j := 13) (by decide) (by (try simp only [List.length_append, List.length_cons, List.length_nil]); omega))) dL_ring_385 rfl rfl ⟨(Nat.le_of_ble_eq_true rfl), (Nat.le_of_ble_eq_true rfl)⟩ (Nat.le_of_ble_eq_true rfl) (Nat.le_of_ble_eq_true rfl) (Nat.le_of_ble_eq_true rfl) (fun z1 => ?_)
        refine J_iload C 0 dL_ring_388 rfl ?_
        have lz2 := dc_le p
        refine J_crV (as := [.int (iN p)]) (T := TJ4) (N := 4) C Yc 1 11 kj_J4_append_bf812 ui_J4_append_bf812 us_J4_append_bf812 um_L_34 rfl rfl (Cr.right [cZ K s5 8 g] (cj_appI l K b z1 (v := p) (by omega) (by have := dga p; (try simp only [List.length_append, List.length_cons, List.length_nil]); omega))) dL_ring_390 rfl rfl ⟨(Nat.le_of_ble_eq_true rfl), (Nat.le_of_ble_eq_true rfl)⟩ (Nat.le_of_ble_eq_true rfl) (Nat.le_of_ble_eq_true rfl) (Nat.le_of_ble_eq_true rfl) (fun z2 => ?_)
        refine J_bipush C (v := 59) dL_ring_393 rfl ?_
        refine J_crV (as := [.int 59]) (T := TJ4) (N := 4) C Yc 1 11 kj_J4_append_cf468 ui_J4_append_cf468 us_J4_append_cf468 um_L_44 rfl rfl (Cr.right [cZ K s5 8 g] (cj_appC l K b z2 (c := 59) (by decide) (by (try simp only [List.length_append, List.length_cons, List.length_nil]); omega))) dL_ring_395 rfl rfl ⟨(Nat.le_of_ble_eq_true rfl), (Nat.le_of_ble_eq_true rfl)⟩ (Nat.le_of_ble_eq_true rfl) (Nat.le_of_ble_eq_true rfl) (Nat.le_of_ble_eq_true rfl) (fun z3 => ?_)
        refine J_pop C dL_ring_398 rfl ?_
        refine J_sub [4] (lv' := [(3, .ref b)]) rfl ?_
        refine J_widen (k := 154) (n := 345120) (by omega) (by omega) ?_
        refine J_drop (u := [cZ K s5 8 g]) (k399 b (((T ++ stx 13) ++ dcN p) ++ [59]) z3 ?_)
        refine RT.of (a := a) (b := e) (q := q) (os := os) (ls := ls) (t := some p) ?_ hR hO (by omega) (by omega) (by rw [ho]; exact hV) (by omega) (fun x hx => ?_) ?_
        · rw [hT]
          unfold toW
          simp only [List.append_assoc]
        · cases hx
          exact ⟨by omega, o, hos, op⟩
        · have := dc_le p
          simp only [List.length_append, List.length_cons, List.length_nil]
          omega
    · refine J_aload C 5 dL_ring_365 rfl ?_
      refine J_iload C 0 dL_ring_367 rfl ?_
      refine J_zaN C 0 p rfl (by omega) (by decide) rfl dL_ring_369 ?_
      refine J_eqi (b := 1) g0 ?_
      refine J_if_ne_n C 399 (by decide) dL_ring_370 rfl ?_
      refine J_sub [4] (lv' := [(3, .ref b)]) rfl ?_
      refine J_widen (k := 154) (n := 345120) (by omega) (by omega) ?_
      exact J_drop (u := [cZ K s5 8 g]) (k399 b T u none_)
  have k222 : ∀ b s5 s6 q (os : List (Nat × Nat × Nat)) (g : Nat → Int32), RVd a e q → OVd os → os.length = c → (∀ i o, os[i]? = some o → (g i = 0 ∧ o.2.2 = 1) ∨ (g i = 1 ∧ o.2.2 = 0)) → ∀ d k T (u : SBt T) (ls : List (Nat × Nat × Nat)) (x : Int32) (gm : Nat → Int32), k + d = m → T = (ruW a e q) ++ (osW os ++ lsW ls) → T.length ≤ 146 + 13 * k → LVd c (fun _ => 0) ls → ls.length ≤ k → (∀ i, i < c → gm i = iN (cntA (fun _ => 0) ls i) ∧ cntA (fun _ => 0) ls i ≤ 6) → J l K Γ (Jz K Γ (fun z : RGt => ((some (.ref z.1.2.1), stW K z.1.2.1 z.1.1 z.1.2.2) : gR)) 160 350000) (46 + 7 * k) (96720 + 16100 * k) [cI K s6 8 gm, cZ K s5 8 g, (b, .inr (11, [.ref u.1.1, .int 0, .int 0, .int (iN T.length)])), cB K u.1.1 u.1.2.1 u.1.2.2] 222 9 [(0, .int (iN w)), (1, .int vv), (2, .int (iN c)), (3, .ref b), (4, .int x), (5, .ref s5), (6, .ref s6), (7, .int (iN k))] [] := by
    intro b s5 s6 q os g hR hO ho hg d
    induction d with
    | zero =>
      intro k T u ls x gm hk hT hl hV hn hcn
      refine J_iload C 7 dL_ring_222 rfl ?_
      refine J_iload_n C 0 dL_ring_224 rfl ?_
      refine J_bipush C (v := 13) dL_ring_225 rfl ?_
      refine J_ishr C dL_ring_227 rfl ?_
      refine J_eqi (b := (iN (w / 8192))) (sr_ hw 13 (by decide)) ?_
      refine J_bipush C (v := 15) dL_ring_228 rfl ?_
      refine J_iand C dL_ring_230 ?_
      refine J_eqi (b := (iN m)) (by rw [← hm]; exact m15_ _) ?_
      refine J_icmp_ge_n C 353 (iN_nlt' (by omega) (by omega)) dL_ring_231 rfl ?_
      refine J_sub [0, 1, 2, 3, 5] (lv' := [(0, .int (iN w)), (1, .int vv), (2, .int (iN c)), (3, .ref b), (5, .ref s5)]) rfl ?_
      refine J_widen (k := 151) (n := 338220) (by omega) (by omega) ?_
      exact J_drop (u := [cI K s6 8 gm]) (k353 b s5 T u q os ls g hR hO ho hg hT (by omega) hV (by omega))
    | succ d ih =>
      intro k T u ls x gm hk hT hl hV hn hcn
      refine J_iload C 7 dL_ring_222 rfl ?_
      refine J_iload_n C 0 dL_ring_224 rfl ?_
      refine J_bipush C (v := 13) dL_ring_225 rfl ?_
      refine J_ishr C dL_ring_227 rfl ?_
      refine J_eqi (b := (iN (w / 8192))) (sr_ hw 13 (by decide)) ?_
      refine J_bipush C (v := 15) dL_ring_228 rfl ?_
      refine J_iand C dL_ring_230 ?_
      refine J_eqi (b := (iN m)) (by rw [← hm]; exact m15_ _) ?_
      refine J_icmp_ge_y C 353 (iN_ylt' (by omega) (by omega)) dL_ring_231 rfl ?_
      refine J_iload C 4 dL_ring_234 rfl ?_
      refine J_ldc C (v := 1103515245) dL_ring_236 uk_L_47 ?_
      refine J_imul C dL_ring_238 ?_
      refine J_sipush C (v := 12345) dL_ring_239 rfl ?_
      refine J_iadd C dL_ring_242 ?_
      generalize hx2 : ((x * 1103515245) + 12345) = x2
      obtain ⟨f1, f1l, ef1⟩ := any_255 (x2 >>> (8 &&& 31))
      obtain ⟨f2, f2l, ef2⟩ := any_255 (x2 >>> (12 &&& 31))
      obtain ⟨f3, f3l, ef3⟩ := any_255 (x2 >>> (16 &&& 31))
      have hr : f1 % c < c := Nat.mod_lt _ (by omega)
      have hr2 : f2 % (c - 1) < c - 1 := Nat.mod_lt _ (by omega)
      refine J_istore C (lv' := [(4, .int x2), (0, .int (iN w)), (1, .int vv), (2, .int (iN c)), (3, .ref b), (5, .ref s5), (6, .ref s6), (7, .int (iN k))]) dL_ring_243 (by decide) rfl ?_
      refine J_iload C 0 dL_ring_245 rfl ?_
      refine J_bipush C (v := 8) dL_ring_247 rfl ?_
      refine J_ishr C dL_ring_249 rfl ?_
      refine J_sipush C (v := 255) dL_ring_250 rfl ?_
      refine J_iand C dL_ring_253 ?_
      refine J_eqi (b := (iN f1)) ef1 ?_
      refine J_iload_n C 3 dL_ring_254 rfl ?_
      refine J_irem C dL_ring_255 (fun z => absurd ((iN_0 (by omega)).mp z) (by omega)) ?_
      refine J_eqi (b := (iN (f1 % c))) (iN_rem (by omega) (by omega)) ?_
      generalize hrr : f1 % c = r at hr
      obtain ⟨hg1, hg6⟩ := hcn r hr
      refine J_istore C (lv' := [(8, .int (iN r)), (4, .int x2), (0, .int (iN w)), (1, .int vv), (2, .int (iN c)), (3, .ref b), (5, .ref s5), (6, .ref s6), (7, .int (iN k))]) dL_ring_256 (by decide) rfl ?_
      refine J_aload C 7 dL_ring_258 rfl ?_
      refine J_iload C 0 dL_ring_260 rfl ?_
      refine J_iaN C 0 r rfl (by omega) (by omega) rfl dL_ring_262 ?_
      refine J_eqi (b := (iN (cntA (fun _ => 0) ls r))) hg1 ?_
      refine J_bipush C (v := 6) dL_ring_263 rfl ?_
      by_cases h6 : cntA (fun _ => 0) ls r = 6
      · refine J_icmp_ne_y C 271 (show iN (cntA (fun _ => 0) ls r) = 6 by rw [h6]; rfl) dL_ring_265 rfl ?_
        refine J_goto C 347 dL_ring_268 rfl ?_
        refine J_iinc C 8 (w := (iN (k + 1))) (lv' := [(7, .int (iN (k + 1))), (8, .int (iN r)), (4, .int x2), (0, .int (iN w)), (1, .int vv), (2, .int (iN c)), (3, .ref b), (5, .ref s5), (6, .ref s6)]) dL_ring_347 rfl (iN_add _ _) (by decide) rfl ?_
        refine J_goto C 222 dL_ring_350 rfl ?_
        refine J_sub [3, 4, 5, 6, 2, 7, 8, 0] (lv' := [(0, .int (iN w)), (1, .int vv), (2, .int (iN c)), (3, .ref b), (4, .int x2), (5, .ref s5), (6, .ref s6), (7, .int (iN (k + 1)))]) rfl ?_
        exact J_widen (k := 46 + 7 * (k + 1)) (n := 96720 + 16100 * (k + 1)) (by omega) (by omega) (ih (k + 1) T u ls x2 gm (by omega) hT (by omega) hV (by omega) hcn)
      · refine J_icmp_ne_n C 271 (iN_ne' (b := 6) h6 (by omega) (by decide)) dL_ring_265 rfl ?_
        refine J_aload C 7 dL_ring_271 rfl ?_
        refine J_iload C 0 dL_ring_273 rfl ?_
        refine J_dup2 C dL_ring_275 rfl rfl ?_
        refine J_iaN C 0 r rfl (by omega) (by omega) rfl dL_ring_276 ?_
        refine J_eqi (b := (iN (cntA (fun _ => 0) ls r))) hg1 ?_
        refine J_iconst C (v := 1) dL_ring_277 rfl ?_
        refine J_iadd C dL_ring_278 ?_
        refine J_eqi (b := (iN (cntA (fun _ => 0) ls r + 1))) (iN_s _) ?_
        refine J_isN C 0 r rfl (by omega) (by omega) (ws2 := [cI K s6 8 (upd gm r (iN (cntA (fun _ => 0) ls r + 1))), cZ K s5 8 g, (b, .inr (11, [.ref u.1.1, .int 0, .int 0, .int (iN T.length)])), cB K u.1.1 u.1.2.1 u.1.2.2]) rfl rfl dL_ring_279 ?_
        refine J_aload_n C 5 dL_ring_280 rfl ?_
        refine J_ldcL C (ix := 54) (j := 12) (tx := "letter ") (by decide) rfl dL_ring_281 ?_
        refine J_crV (as := [.ref (K.2 (100 + 12))]) (T := TJ4) (N := 4) C Yc 2 11 kj_J4_append_15ec4 ui_J4_append_15ec4 us_J4_append_15ec4 um_L_39 rfl rfl (Cr.right [cI K s6 8 (upd gm r (iN (cntA (fun _ => 0) ls r + 1))), cZ K s5 8 g] (cj_appS l K b u (j := 12) (by decide) (by (try simp only [List.length_append, List.length_cons, List.length_nil]); omega))) dL_ring_283 rfl rfl ⟨(Nat.le_of_ble_eq_true rfl), (Nat.le_of_ble_eq_true rfl)⟩ (Nat.le_of_ble_eq_true rfl) (by omega) (by omega) (fun z1 => ?_)
        refine J_iload C 0 dL_ring_286 rfl ?_
        have lz2 := dc_le r
        refine J_crV (as := [.int (iN r)]) (T := TJ4) (N := 4) C Yc 2 11 kj_J4_append_bf812 ui_J4_append_bf812 us_J4_append_bf812 um_L_34 rfl rfl (Cr.right [cI K s6 8 (upd gm r (iN (cntA (fun _ => 0) ls r + 1))), cZ K s5 8 g] (cj_appI l K b z1 (v := r) (by omega) (by have := dga r; (try simp only [List.length_append, List.length_cons, List.length_nil]); omega))) dL_ring_288 rfl rfl ⟨(Nat.le_of_ble_eq_true rfl), (Nat.le_of_ble_eq_true rfl)⟩ (Nat.le_of_ble_eq_true rfl) (by omega) (by omega) (fun z2 => ?_)
        refine J_bipush C (v := 32) dL_ring_291 rfl ?_
        refine J_crV (as := [.int 32]) (T := TJ4) (N := 4) C Yc 2 11 kj_J4_append_cf468 ui_J4_append_cf468 us_J4_append_cf468 um_L_44 rfl rfl (Cr.right [cI K s6 8 (upd gm r (iN (cntA (fun _ => 0) ls r + 1))), cZ K s5 8 g] (cj_appC l K b z2 (c := 32) (by decide) (by (try simp only [List.length_append, List.length_cons, List.length_nil]); omega))) dL_ring_293 rfl rfl ⟨(Nat.le_of_ble_eq_true rfl), (Nat.le_of_ble_eq_true rfl)⟩ (Nat.le_of_ble_eq_true rfl) (by omega) (by omega) (fun z3 => ?_)
        have hto : (r + 1 + f2 % (c - 1)) % c < c := Nat.mod_lt _ (by omega)
        have hne : (r + 1 + f2 % (c - 1)) % c ≠ r := mod_ne hr (by omega)
        refine J_iload C 0 dL_ring_296 rfl ?_
        refine J_iconst C (v := 1) dL_ring_298 rfl ?_
        refine J_iadd C dL_ring_299 ?_
        refine J_eqi (b := (iN (r + 1))) (iN_s _) ?_
        refine J_iload C 1 dL_ring_300 rfl ?_
        refine J_bipush C (v := 12) dL_ring_302 rfl ?_
        refine J_ishr C dL_ring_304 rfl ?_
        refine J_sipush C (v := 255) dL_ring_305 rfl ?_
        refine J_iand C dL_ring_308 ?_
        refine J_eqi (b := (iN f2)) ef2 ?_
        refine J_iload_n C 4 dL_ring_309 rfl ?_
        refine J_iconst C (v := 1) dL_ring_310 rfl ?_
        refine J_isub C dL_ring_311 ?_
        refine J_eqi (b := (iN (c - 1))) (iN_1 (by omega)) ?_
        refine J_irem C dL_ring_312 (fun z => absurd ((iN_0 (by omega)).mp z) (by omega)) ?_
        refine J_eqi (b := (iN (f2 % (c - 1)))) (iN_rem (by omega) (by omega)) ?_
        refine J_iadd C dL_ring_313 ?_
        refine J_eqi (b := (iN (r + 1 + f2 % (c - 1)))) (iN_add _ _) ?_
        refine J_iload_n C 4 dL_ring_314 rfl ?_
        refine J_irem C dL_ring_315 (fun z => absurd ((iN_0 (by omega)).mp z) (by omega)) ?_
        refine J_eqi (b := (iN ((r + 1 + f2 % (c - 1)) % c))) (iN_rem (by omega) (by omega)) ?_
        generalize (r + 1 + f2 % (c - 1)) % c = p at hto hne
        have lz4 := dc_le p
        refine J_crV (as := [.int (iN p)]) (T := TJ4) (N := 4) C Yc 2 11 kj_J4_append_bf812 ui_J4_append_bf812 us_J4_append_bf812 um_L_34 rfl rfl (Cr.right [cI K s6 8 (upd gm r (iN (cntA (fun _ => 0) ls r + 1))), cZ K s5 8 g] (cj_appI l K b z3 (v := p) (by omega) (by have := dga p; (try simp only [List.length_append, List.length_cons, List.length_nil]); omega))) dL_ring_316 rfl rfl ⟨(Nat.le_of_ble_eq_true rfl), (Nat.le_of_ble_eq_true rfl)⟩ (Nat.le_of_ble_eq_true rfl) (by omega) (by omega) (fun z4 => ?_)
        refine J_bipush C (v := 32) dL_ring_319 rfl ?_
        refine J_crV (as := [.int 32]) (T := TJ4) (N := 4) C Yc 2 11 kj_J4_append_cf468 ui_J4_append_cf468 us_J4_append_cf468 um_L_44 rfl rfl (Cr.right [cI K s6 8 (upd gm r (iN (cntA (fun _ => 0) ls r + 1))), cZ K s5 8 g] (cj_appC l K b z4 (c := 32) (by decide) (by (try simp only [List.length_append, List.length_cons, List.length_nil]); omega))) dL_ring_321 rfl rfl ⟨(Nat.le_of_ble_eq_true rfl), (Nat.le_of_ble_eq_true rfl)⟩ (Nat.le_of_ble_eq_true rfl) (by omega) (by omega) (fun z5 => ?_)
        refine J_iconst C (v := 1) dL_ring_324 rfl ?_
        refine J_iload C 1 dL_ring_325 rfl ?_
        refine J_bipush C (v := 16) dL_ring_327 rfl ?_
        refine J_ishr C dL_ring_329 rfl ?_
        refine J_sipush C (v := 255) dL_ring_330 rfl ?_
        refine J_iand C dL_ring_333 ?_
        refine J_eqi (b := (iN f3)) ef3 ?_
        refine J_bipush C (v := 9) dL_ring_334 rfl ?_
        refine J_irem C dL_ring_336 (by decide) ?_
        refine J_eqi (b := (iN (f3 % 9))) (iN_rem (b := 9) (by omega) (by decide)) ?_
        refine J_iadd C dL_ring_337 ?_
        refine J_eqi (b := (iN (1 + f3 % 9))) (iN_add 1 _) ?_
        have lz6 := dc_le (1 + f3 % 9)
        refine J_crV (as := [.int (iN (1 + f3 % 9))]) (T := TJ4) (N := 4) C Yc 2 11 kj_J4_append_bf812 ui_J4_append_bf812 us_J4_append_bf812 um_L_34 rfl rfl (Cr.right [cI K s6 8 (upd gm r (iN (cntA (fun _ => 0) ls r + 1))), cZ K s5 8 g] (cj_appI l K b z5 (v := (1 + f3 % 9)) (by omega) (by have := dga (1 + f3 % 9); (try simp only [List.length_append, List.length_cons, List.length_nil]); omega))) dL_ring_338 rfl rfl ⟨(Nat.le_of_ble_eq_true rfl), (Nat.le_of_ble_eq_true rfl)⟩ (Nat.le_of_ble_eq_true rfl) (by omega) (by omega) (fun z6 => ?_)
        refine J_bipush C (v := 59) dL_ring_341 rfl ?_
        refine J_crV (as := [.int 59]) (T := TJ4) (N := 4) C Yc 2 11 kj_J4_append_cf468 ui_J4_append_cf468 us_J4_append_cf468 um_L_44 rfl rfl (Cr.right [cI K s6 8 (upd gm r (iN (cntA (fun _ => 0) ls r + 1))), cZ K s5 8 g] (cj_appC l K b z6 (c := 59) (by decide) (by (try simp only [List.length_append, List.length_cons, List.length_nil]); omega))) dL_ring_343 rfl rfl ⟨(Nat.le_of_ble_eq_true rfl), (Nat.le_of_ble_eq_true rfl)⟩ (Nat.le_of_ble_eq_true rfl) (by omega) (by omega) (fun z7 => ?_)
        refine J_pop C dL_ring_346 rfl ?_
        refine J_iinc C 8 (w := (iN (k + 1))) (lv' := [(7, .int (iN (k + 1))), (8, .int (iN r)), (4, .int x2), (0, .int (iN w)), (1, .int vv), (2, .int (iN c)), (3, .ref b), (5, .ref s5), (6, .ref s6)]) dL_ring_347 rfl (iN_add _ _) (by decide) rfl ?_
        refine J_goto C 222 dL_ring_350 rfl ?_
        refine J_sub [3, 4, 5, 6, 2, 7, 8, 0] (lv' := [(0, .int (iN w)), (1, .int vv), (2, .int (iN c)), (3, .ref b), (4, .int x2), (5, .ref s5), (6, .ref s6), (7, .int (iN (k + 1)))]) rfl ?_
        have d1 := dc_1 (show r < 10 by omega)
        have d2 := dc_1 (show p < 10 by omega)
        have d3 := dc_1 (show 1 + f3 % 9 < 10 by omega)
        refine J_widen (k := 46 + 7 * (k + 1)) (n := 96720 + 16100 * (k + 1)) (by omega) (by omega) (ih (k + 1) (((((((T ++ stx 12) ++ dcN r) ++ [32]) ++ dcN p) ++ [32]) ++ dcN (1 + f3 % 9)) ++ [59]) z7 (ls ++ [(r, p, 1 + f3 % 9)]) x2 (upd gm r (iN (cntA (fun _ => 0) ls r + 1))) (by omega) ?_ ?_ ?_ ?_ ?_)
        · rw [hT, lsW_app, lsW_1]
          unfold leW
          simp only [List.append_assoc]
        · simp only [List.length_append, List.length_cons, List.length_nil]
          omega
        · exact LVd_app ls _ _ hV ⟨hr, hto, hne, Nat.le_add_right 1 _, by show 1 + f3 % 9 ≤ 9; omega, by show cntA (fun _ => 0) ls r < 6; omega, trivial⟩
        · rw [List.length_append]
          show ls.length + 1 ≤ k + 1
          omega
        · intro i hi
          rw [cntA_app, upd_get]
          show _ = iN (if i = r then cntA (fun _ => 0) ls i + 1 else cntA (fun _ => 0) ls i) ∧ (if i = r then cntA (fun _ => 0) ls i + 1 else cntA (fun _ => 0) ls i) ≤ 6
          by_cases z : i = r
          · rw [if_pos z, if_pos z, z]
            exact ⟨rfl, by omega⟩
          · rw [if_neg z, if_neg z]
            exact hcn i hi
  have k100 : ∀ b s5 q, RVd a e q → ∀ d k T (u : SBt T) (os : List (Nat × Nat × Nat)) (x : Int32) (g : Nat → Int32), k + d = c → T = (ruW a e q) ++ osW os → T.length ≤ 27 + 17 * k → OVd os → os.length = k → (∀ o, o ∈ os → o.2.1 ≤ 10 * k) → (∀ i o, os[i]? = some o → (g i = 0 ∧ o.2.2 = 1) ∨ (g i = 1 ∧ o.2.2 = 0)) → J l K Γ (Jz K Γ (fun z : RGt => ((some (.ref z.1.2.1), stW K z.1.2.1 z.1.1 z.1.2.2) : gR)) 160 350000) (10 + 5 * k) (16212 + 11500 * k) [cZ K s5 8 g, (b, .inr (11, [.ref u.1.1, .int 0, .int 0, .int (iN T.length)])), cB K u.1.1 u.1.2.1 u.1.2.2] 100 9 [(0, .int (iN w)), (1, .int vv), (2, .int (iN c)), (3, .ref b), (4, .int x), (5, .ref s5), (6, .int (iN k))] [] := by
    intro b s5 q hR d
    induction d with
    | zero =>
      intro k T u os x g hk hT hl hO hn hb hg
      refine J_iload C 6 dL_ring_100 rfl ?_
      refine J_iload_n C 2 dL_ring_102 rfl ?_
      refine J_icmp_ge_n C 213 (iN_nlt' (by omega) (by omega)) dL_ring_103 rfl ?_
      refine J_widen (k := 45) (n := 96720 - 8) (by omega) (by omega) ?_
      refine J_bipush C (v := 8) dL_ring_213 rfl ?_
      refine J_newI C Yc 8 dL_ring_215 rfl (by decide) (Nat.le_of_ble_eq_true rfl) (Nat.le_of_ble_eq_true rfl) (fun s6 => ?_)
      refine J_astore C (lv' := [(6, .ref s6), (0, .int (iN w)), (1, .int vv), (2, .int (iN c)), (3, .ref b), (4, .int x), (5, .ref s5)]) dL_ring_217 (by decide) rfl ?_
      refine J_iconst C (v := 0) dL_ring_219 rfl ?_
      refine J_istore C (lv' := [(7, .int 0), (6, .ref s6), (0, .int (iN w)), (1, .int vv), (2, .int (iN c)), (3, .ref b), (4, .int x), (5, .ref s5)]) dL_ring_220 (by decide) rfl ?_
      refine J_sub [2, 3, 4, 5, 6, 7, 1, 0] (lv' := [(0, .int (iN w)), (1, .int vv), (2, .int (iN c)), (3, .ref b), (4, .int x), (5, .ref s5), (6, .ref s6), (7, .int 0)]) rfl ?_
      exact k222 b s5 s6 q os g hR hO (by omega) hg m 0 T u [] x (fun _ => 0) (by omega) (by rw [hT]; show _ = _ ++ (_ ++ []); rw [List.append_nil]) (by omega) trivial (by show 0 ≤ 0; omega) (fun i hi => ⟨rfl, Nat.zero_le _⟩)
    | succ d ih =>
      intro k T u os x g hk hT hl hO hn hb hg
      refine J_iload C 6 dL_ring_100 rfl ?_
      refine J_iload_n C 2 dL_ring_102 rfl ?_
      refine J_icmp_ge_y C 213 (iN_ylt' (by omega) (by omega)) dL_ring_103 rfl ?_
      refine J_iload C 4 dL_ring_106 rfl ?_
      refine J_ldc C (v := 1103515245) dL_ring_108 uk_L_47 ?_
      refine J_imul C dL_ring_110 ?_
      refine J_sipush C (v := 12345) dL_ring_111 rfl ?_
      refine J_iadd C dL_ring_114 ?_
      generalize hx2 : ((x * 1103515245) + 12345) = x2
      obtain ⟨f1, f1l, ef1⟩ := any_7 (x2 >>> (8 &&& 31))
      obtain ⟨f2, f2l, ef2⟩ := any_255 (x2 >>> (11 &&& 31))
      obtain ⟨f3, f3l, ef3⟩ := any_255 (x2 >>> (15 &&& 31))
      refine J_istore C (lv' := [(4, .int x2), (0, .int (iN w)), (1, .int vv), (2, .int (iN c)), (3, .ref b), (5, .ref s5), (6, .int (iN k))]) dL_ring_115 (by decide) rfl ?_
      refine J_aload C 5 dL_ring_117 rfl ?_
      refine J_iload C 6 dL_ring_119 rfl ?_
      refine J_iload C 0 dL_ring_121 rfl ?_
      refine J_bipush C (v := 8) dL_ring_123 rfl ?_
      refine J_ishr C dL_ring_125 rfl ?_
      refine J_bipush C (v := 7) dL_ring_126 rfl ?_
      refine J_iand C dL_ring_128 ?_
      refine J_eqi (b := (iN f1)) ef1 ?_
      have k137 : ∀ (sv : Int32) (ov : Nat), (sv = 0 ∧ ov = 1) ∨ (sv = 1 ∧ ov = 0) → J l K Γ (Jz K Γ (fun z : RGt => ((some (.ref z.1.2.1), stW K z.1.2.1 z.1.1 z.1.2.2) : gR)) 160 350000) (10 + 5 * k) (16212 + 11500 * k) [cZ K s5 8 g, (b, .inr (11, [.ref u.1.1, .int 0, .int 0, .int (iN T.length)])), cB K u.1.1 u.1.2.1 u.1.2.2] 137 9 [(4, .int x2), (0, .int (iN w)), (1, .int vv), (2, .int (iN c)), (3, .ref b), (5, .ref s5), (6, .int (iN k))] [.int sv, .int (iN k), .ref s5] := by
        intro sv ov hsv
        refine J_zsN C 0 k rfl (by omega) (by decide) (by rcases hsv with ⟨rfl, -⟩ | ⟨rfl, -⟩ <;> rfl) (ws2 := [cZ K s5 8 (upd g k sv), (b, .inr (11, [.ref u.1.1, .int 0, .int 0, .int (iN T.length)])), cB K u.1.1 u.1.2.1 u.1.2.2]) rfl rfl dL_ring_137 ?_
        refine J_aload_n C 4 dL_ring_138 rfl ?_
        refine J_ldcL C (ix := 48) (j := 10) (tx := "office ") (by decide) rfl dL_ring_139 ?_
        refine J_crV (as := [.ref (K.2 (100 + 10))]) (T := TJ4) (N := 4) C Yc 1 11 kj_J4_append_15ec4 ui_J4_append_15ec4 us_J4_append_15ec4 um_L_39 rfl rfl (Cr.right [cZ K s5 8 (upd g k sv)] (cj_appS l K b u (j := 10) (by decide) (by (try simp only [List.length_append, List.length_cons, List.length_nil]); omega))) dL_ring_141 rfl rfl ⟨(Nat.le_of_ble_eq_true rfl), (Nat.le_of_ble_eq_true rfl)⟩ (Nat.le_of_ble_eq_true rfl) (by omega) (by omega) (fun z1 => ?_)
        refine J_iconst C (v := 1) dL_ring_144 rfl ?_
        refine J_iload C 0 dL_ring_145 rfl ?_
        refine J_bipush C (v := 11) dL_ring_147 rfl ?_
        refine J_ishr C dL_ring_149 rfl ?_
        refine J_sipush C (v := 255) dL_ring_150 rfl ?_
        refine J_iand C dL_ring_153 ?_
        refine J_eqi (b := (iN f2)) ef2 ?_
        refine J_iconst C (v := 5) dL_ring_154 rfl ?_
        refine J_irem C dL_ring_155 (by decide) ?_
        refine J_eqi (b := (iN (f2 % 5))) (iN_rem (b := 5) (by omega) (by decide)) ?_
        refine J_iadd C dL_ring_156 ?_
        refine J_eqi (b := (iN (1 + f2 % 5))) (iN_add 1 _) ?_
        have lz2 := dc_le (1 + f2 % 5)
        refine J_crV (as := [.int (iN (1 + f2 % 5))]) (T := TJ4) (N := 4) C Yc 1 11 kj_J4_append_bf812 ui_J4_append_bf812 us_J4_append_bf812 um_L_34 rfl rfl (Cr.right [cZ K s5 8 (upd g k sv)] (cj_appI l K b z1 (v := (1 + f2 % 5)) (by omega) (by have := dga (1 + f2 % 5); (try simp only [List.length_append, List.length_cons, List.length_nil]); omega))) dL_ring_157 rfl rfl ⟨(Nat.le_of_ble_eq_true rfl), (Nat.le_of_ble_eq_true rfl)⟩ (Nat.le_of_ble_eq_true rfl) (by omega) (by omega) (fun z2 => ?_)
        refine J_bipush C (v := 32) dL_ring_160 rfl ?_
        refine J_crV (as := [.int 32]) (T := TJ4) (N := 4) C Yc 1 11 kj_J4_append_cf468 ui_J4_append_cf468 us_J4_append_cf468 um_L_44 rfl rfl (Cr.right [cZ K s5 8 (upd g k sv)] (cj_appC l K b z2 (c := 32) (by decide) (by (try simp only [List.length_append, List.length_cons, List.length_nil]); omega))) dL_ring_162 rfl rfl ⟨(Nat.le_of_ble_eq_true rfl), (Nat.le_of_ble_eq_true rfl)⟩ (Nat.le_of_ble_eq_true rfl) (by omega) (by omega) (fun z3 => ?_)
        refine J_bipush C (v := 10) dL_ring_165 rfl ?_
        refine J_iload C 6 dL_ring_167 rfl ?_
        refine J_imul C dL_ring_169 ?_
        refine J_eqi (b := (iN (10 * k))) (iN_mul 10 k) ?_
        refine J_iconst C (v := 1) dL_ring_170 rfl ?_
        refine J_iadd C dL_ring_171 ?_
        refine J_eqi (b := (iN (10 * k + 1))) (iN_s _) ?_
        refine J_iload C 0 dL_ring_172 rfl ?_
        refine J_bipush C (v := 15) dL_ring_174 rfl ?_
        refine J_ishr C dL_ring_176 rfl ?_
        refine J_sipush C (v := 255) dL_ring_177 rfl ?_
        refine J_iand C dL_ring_180 ?_
        refine J_eqi (b := (iN f3)) ef3 ?_
        refine J_bipush C (v := 9) dL_ring_181 rfl ?_
        refine J_irem C dL_ring_183 (by decide) ?_
        refine J_eqi (b := (iN (f3 % 9))) (iN_rem (b := 9) (by omega) (by decide)) ?_
        refine J_iadd C dL_ring_184 ?_
        refine J_eqi (b := (iN (10 * k + 1 + f3 % 9))) (iN_add _ _) ?_
        have lz4 := dc_le (10 * k + 1 + f3 % 9)
        refine J_crV (as := [.int (iN (10 * k + 1 + f3 % 9))]) (T := TJ4) (N := 4) C Yc 1 11 kj_J4_append_bf812 ui_J4_append_bf812 us_J4_append_bf812 um_L_34 rfl rfl (Cr.right [cZ K s5 8 (upd g k sv)] (cj_appI l K b z3 (v := (10 * k + 1 + f3 % 9)) (by omega) (by have := dga (10 * k + 1 + f3 % 9); (try simp only [List.length_append, List.length_cons, List.length_nil]); omega))) dL_ring_185 rfl rfl ⟨(Nat.le_of_ble_eq_true rfl), (Nat.le_of_ble_eq_true rfl)⟩ (Nat.le_of_ble_eq_true rfl) (by omega) (by omega) (fun z4 => ?_)
        refine J_aload C 5 dL_ring_188 rfl ?_
        refine J_iload C 6 dL_ring_190 rfl ?_
        refine J_zaN C 0 k rfl (by omega) (by decide) rfl dL_ring_192 ?_
        refine J_eqi (b := sv) (upd_eq _ _ _) ?_
        have d1 := dc_1 (show 1 + f2 % 5 < 10 by omega)
        have d2 := dc_le (10 * k + 1 + f3 % 9)
        rcases hsv with ⟨rfl, rfl⟩ | ⟨rfl, rfl⟩
        · refine J_if_eq_y C 201 rfl dL_ring_193 rfl ?_
          refine J_ldcL C (ix := 52) (j := 15) (tx := ";") (by decide) rfl dL_ring_201 ?_
          refine J_crV (as := [.ref (K.2 (100 + 15))]) (T := TJ4) (N := 4) C Yc 1 11 kj_J4_append_15ec4 ui_J4_append_15ec4 us_J4_append_15ec4 um_L_39 rfl rfl (Cr.right [cZ K s5 8 (upd g k 0)] (cj_appS l K b z4 (j := 15) (by decide) (by (try simp only [List.length_append, List.length_cons, List.length_nil]); omega))) dL_ring_203 rfl rfl ⟨(Nat.le_of_ble_eq_true rfl), (Nat.le_of_ble_eq_true rfl)⟩ (Nat.le_of_ble_eq_true rfl) (by omega) (by omega) (fun z5 => ?_)
          refine J_pop C dL_ring_206 rfl ?_
          refine J_iinc C 6 (w := (iN (k + 1))) (lv' := [(6, .int (iN (k + 1))), (4, .int x2), (0, .int (iN w)), (1, .int vv), (2, .int (iN c)), (3, .ref b), (5, .ref s5)]) dL_ring_207 rfl (iN_add _ _) (by decide) rfl ?_
          refine J_goto C 100 dL_ring_210 rfl ?_
          refine J_sub [2, 3, 4, 5, 1, 6, 0] (lv' := [(0, .int (iN w)), (1, .int vv), (2, .int (iN c)), (3, .ref b), (4, .int x2), (5, .ref s5), (6, .int (iN (k + 1)))]) rfl ?_
          refine J_widen (k := 10 + 5 * (k + 1)) (n := 16212 + 11500 * (k + 1)) (by omega) (by omega) (ih (k + 1) (((((T ++ stx 10) ++ dcN (1 + f2 % 5)) ++ [32]) ++ dcN (10 * k + 1 + f3 % 9)) ++ stx 15) z5 (os ++ [(1 + f2 % 5, 10 * k + 1 + f3 % 9, 1)]) x2 (upd g k 0) (by omega) ?_ ?_ ?_ ?_ ?_ ?_)
          · rw [hT, osW_app, osW_1]
            unfold ofW
            rw [if_pos rfl, stx_cat.2.2.2.2.2.2.2.2]
            simp only [List.append_assoc]
          · simp only [List.length_append, List.length_cons, List.length_nil]
            omega
          · refine ⟨fun o ho => ?_, ?_⟩
            · rcases List.mem_append.mp ho with ho | ho
              · exact hO.1 o ho
              · rw [List.mem_singleton.mp ho]
                exact ⟨Nat.le_add_right 1 _, by show 1 + f2 % 5 ≤ 9; omega, by show 1 ≤ 10 * k + 1 + f3 % 9; omega, by show 10 * k + 1 + f3 % 9 ≤ 99; omega, by show 1 ≤ 1; decide⟩
            · refine List.pairwise_append.mpr ⟨hO.2, List.pairwise_singleton _ _, fun o ho p hp => ?_⟩
              rw [List.mem_singleton.mp hp]
              have := hb o ho
              show o.2.1 ≠ 10 * k + 1 + f3 % 9
              omega
          · rw [List.length_append, hn]
            rfl
          · intro o ho
            rcases List.mem_append.mp ho with ho | ho
            · have := hb o ho
              omega
            · rw [List.mem_singleton.mp ho]
              show 10 * k + 1 + f3 % 9 ≤ 10 * (k + 1)
              omega
          · intro i o hi
            by_cases z : i = k
            · rw [z, List.getElem?_append_right (by omega), hn, Nat.sub_self] at hi
              cases hi
              rw [z, upd_eq]
              exact Or.inl ⟨rfl, rfl⟩
            · have hik : i < os.length := by
                have := (List.getElem?_eq_some_iff.mp hi).1
                rw [List.length_append] at this
                have : i < os.length + 1 := this
                omega
              rw [List.getElem?_append_left hik] at hi
              rw [upd_ne z]
              exact hg i o hi
        · refine J_if_eq_n C 201 (by decide) dL_ring_193 rfl ?_
          refine J_ldcL C (ix := 50) (j := 14) (tx := " shut;") (by decide) rfl dL_ring_196 ?_
          refine J_goto C 203 dL_ring_198 rfl ?_
          refine J_crV (as := [.ref (K.2 (100 + 14))]) (T := TJ4) (N := 4) C Yc 1 11 kj_J4_append_15ec4 ui_J4_append_15ec4 us_J4_append_15ec4 um_L_39 rfl rfl (Cr.right [cZ K s5 8 (upd g k 1)] (cj_appS l K b z4 (j := 14) (by decide) (by (try simp only [List.length_append, List.length_cons, List.length_nil]); omega))) dL_ring_203 rfl rfl ⟨(Nat.le_of_ble_eq_true rfl), (Nat.le_of_ble_eq_true rfl)⟩ (Nat.le_of_ble_eq_true rfl) (by omega) (by omega) (fun z5 => ?_)
          refine J_pop C dL_ring_206 rfl ?_
          refine J_iinc C 6 (w := (iN (k + 1))) (lv' := [(6, .int (iN (k + 1))), (4, .int x2), (0, .int (iN w)), (1, .int vv), (2, .int (iN c)), (3, .ref b), (5, .ref s5)]) dL_ring_207 rfl (iN_add _ _) (by decide) rfl ?_
          refine J_goto C 100 dL_ring_210 rfl ?_
          refine J_sub [2, 3, 4, 5, 1, 6, 0] (lv' := [(0, .int (iN w)), (1, .int vv), (2, .int (iN c)), (3, .ref b), (4, .int x2), (5, .ref s5), (6, .int (iN (k + 1)))]) rfl ?_
          refine J_widen (k := 10 + 5 * (k + 1)) (n := 16212 + 11500 * (k + 1)) (by omega) (by omega) (ih (k + 1) (((((T ++ stx 10) ++ dcN (1 + f2 % 5)) ++ [32]) ++ dcN (10 * k + 1 + f3 % 9)) ++ stx 14) z5 (os ++ [(1 + f2 % 5, 10 * k + 1 + f3 % 9, 0)]) x2 (upd g k 1) (by omega) ?_ ?_ ?_ ?_ ?_ ?_)
          · rw [hT, osW_app, osW_1]
            unfold ofW
            rw [if_neg (show ¬ (0 : Nat) = 1 by decide), stx_cat.2.2.2.2.2.2.2.1, stx_cat.2.2.2.2.1]
            simp only [List.append_assoc]
          · simp only [List.length_append, List.length_cons, List.length_nil]
            omega
          · refine ⟨fun o ho => ?_, ?_⟩
            · rcases List.mem_append.mp ho with ho | ho
              · exact hO.1 o ho
              · rw [List.mem_singleton.mp ho]
                exact ⟨Nat.le_add_right 1 _, by show 1 + f2 % 5 ≤ 9; omega, by show 1 ≤ 10 * k + 1 + f3 % 9; omega, by show 10 * k + 1 + f3 % 9 ≤ 99; omega, by show 0 ≤ 1; decide⟩
            · refine List.pairwise_append.mpr ⟨hO.2, List.pairwise_singleton _ _, fun o ho p hp => ?_⟩
              rw [List.mem_singleton.mp hp]
              have := hb o ho
              show o.2.1 ≠ 10 * k + 1 + f3 % 9
              omega
          · rw [List.length_append, hn]
            rfl
          · intro o ho
            rcases List.mem_append.mp ho with ho | ho
            · have := hb o ho
              omega
            · rw [List.mem_singleton.mp ho]
              show 10 * k + 1 + f3 % 9 ≤ 10 * (k + 1)
              omega
          · intro i o hi
            by_cases z : i = k
            · rw [z, List.getElem?_append_right (by omega), hn, Nat.sub_self] at hi
              cases hi
              rw [z, upd_eq]
              exact Or.inr ⟨rfl, rfl⟩
            · have hik : i < os.length := by
                have := (List.getElem?_eq_some_iff.mp hi).1
                rw [List.length_append] at this
                have : i < os.length + 1 := this
                omega
              rw [List.getElem?_append_left hik] at hi
              rw [upd_ne z]
              exact hg i o hi
      by_cases hf : f1 = 0
      · refine J_if_ne_y C 136 ((iN_0 (by omega)).mpr hf) dL_ring_129 rfl ?_
        refine J_iconst C (v := 1) dL_ring_132 rfl ?_
        refine J_goto C 137 dL_ring_133 rfl ?_
        exact k137 1 0 (Or.inr ⟨rfl, rfl⟩)
      · refine J_if_ne_n C 136 (fun z => hf ((iN_0 (by omega)).mp z)) dL_ring_129 rfl ?_
        refine J_iconst C (v := 0) dL_ring_136 rfl ?_
        exact k137 0 1 (Or.inl ⟨rfl, rfl⟩)
  refine J_leq (lv' := [(0, .int (iN w)), (1, .int vv)]) rfl ?_
  refine J_iconst C (v := 2) dL_ring_0 rfl ?_
  refine J_iload_n C 0 dL_ring_1 rfl ?_
  refine J_sipush C (v := 255) dL_ring_2 rfl ?_
  refine J_iand C dL_ring_5 ?_
  refine J_eqi (b := (iN (w % 256))) (m255_ _) ?_
  refine J_bipush C (v := 6) dL_ring_6 rfl ?_
  refine J_irem C dL_ring_8 (by decide) ?_
  refine J_eqi (b := (iN (w % 256 % 6))) (iN_rem (b := 6) (by omega) (by decide)) ?_
  refine J_iadd C dL_ring_9 ?_
  refine J_eqi (b := (iN c)) (by rw [← hc]; exact iN_add 2 _) ?_
  refine J_istore_n C (lv' := [(2, .int (iN c)), (0, .int (iN w)), (1, .int vv)]) dL_ring_10 (by decide) rfl ?_
  refine J_new C Yc 11 [.null, .int 0, .int 0, .int 0] tyJ4 dL_ring_11 inlJ4 tyJ4_ok ul_L_27 ua_J4 un_J4 rfl (fun j hj => by rcases (show j = 0 ∨ j = 1 ∨ j = 2 ∨ j = 3 by omega) with rfl | rfl | rfl | rfl <;> rfl) (Nat.le_of_ble_eq_true rfl) (Nat.le_of_ble_eq_true rfl) (fun b => ?_)
  refine J_dup C dL_ring_14 rfl ?_
  refine J_ldcL C (ix := 29) (j := 7) (tx := "speak ") (by decide) rfl dL_ring_15 ?_
  refine J_crI (as := [.ref (K.2 (100 + 7))]) C Yc kj_J4_init_a7421 rfl ui_J4_init_a7421 um_L_31 (cj_sbS l K b (j := 7) (by decide)) dL_ring_17 rfl rfl ⟨(Nat.le_of_ble_eq_true rfl), (Nat.le_of_ble_eq_true rfl)⟩ (Nat.le_of_ble_eq_true rfl) (Nat.le_of_ble_eq_true rfl) (Nat.le_of_ble_eq_true rfl) (fun u => ?_)
  refine J_iconst C (v := 1) dL_ring_20 rfl ?_
  refine J_iload_n C 1 dL_ring_21 rfl ?_
  refine J_iconst C (v := 3) dL_ring_22 rfl ?_
  refine J_ishr C dL_ring_23 rfl ?_
  refine J_eqi (b := (iN (w / 8))) (sr_ hw 3 (by decide)) ?_
  refine J_sipush C (v := 255) dL_ring_24 rfl ?_
  refine J_iand C dL_ring_27 ?_
  refine J_eqi (b := (iN (w / 8 % 256))) (m255_ _) ?_
  refine J_bipush C (v := 12) dL_ring_28 rfl ?_
  refine J_irem C dL_ring_30 (by decide) ?_
  refine J_eqi (b := (iN (w / 8 % 256 % 12))) (iN_rem (b := 12) (by omega) (by decide)) ?_
  refine J_iadd C dL_ring_31 ?_
  refine J_eqi (b := (iN a)) (by rw [← ha]; exact iN_add 1 _) ?_
  have lu1 := dc_le a
  refine J_crV (as := [.int (iN a)]) (T := TJ4) (N := 4) C Yc 0 11 kj_J4_append_bf812 ui_J4_append_bf812 us_J4_append_bf812 um_L_34 rfl rfl (Cr.right [] (cj_appI l K b u (v := a) (by omega) (by have := dga a; (try simp only [List.length_append, List.length_cons, List.length_nil]); omega))) dL_ring_32 rfl rfl ⟨(Nat.le_of_ble_eq_true rfl), (Nat.le_of_ble_eq_true rfl)⟩ (Nat.le_of_ble_eq_true rfl) (Nat.le_of_ble_eq_true rfl) (Nat.le_of_ble_eq_true rfl) (fun u1 => ?_)
  refine J_ldcL C (ix := 37) (j := 8) (tx := " quiet ") (by decide) rfl dL_ring_35 ?_
  refine J_crV (as := [.ref (K.2 (100 + 8))]) (T := TJ4) (N := 4) C Yc 0 11 kj_J4_append_15ec4 ui_J4_append_15ec4 us_J4_append_15ec4 um_L_39 rfl rfl (Cr.right [] (cj_appS l K b u1 (j := 8) (by decide) (by (try simp only [List.length_append, List.length_cons, List.length_nil]); omega))) dL_ring_37 rfl rfl ⟨(Nat.le_of_ble_eq_true rfl), (Nat.le_of_ble_eq_true rfl)⟩ (Nat.le_of_ble_eq_true rfl) (Nat.le_of_ble_eq_true rfl) (Nat.le_of_ble_eq_true rfl) (fun u2 => ?_)
  refine J_iconst C (v := 1) dL_ring_40 rfl ?_
  refine J_iload_n C 1 dL_ring_41 rfl ?_
  refine J_iconst C (v := 5) dL_ring_42 rfl ?_
  refine J_ishr C dL_ring_43 rfl ?_
  refine J_eqi (b := (iN (w / 32))) (sr_ hw 5 (by decide)) ?_
  refine J_bipush C (v := 15) dL_ring_44 rfl ?_
  refine J_iand C dL_ring_46 ?_
  refine J_eqi (b := (iN (w / 32 % 16))) (m15_ _) ?_
  refine J_iadd C dL_ring_47 ?_
  refine J_eqi (b := (iN e)) (by rw [← he]; exact iN_add 1 _) ?_
  have lu3 := dc_le e
  refine J_crV (as := [.int (iN e)]) (T := TJ4) (N := 4) C Yc 0 11 kj_J4_append_bf812 ui_J4_append_bf812 us_J4_append_bf812 um_L_34 rfl rfl (Cr.right [] (cj_appI l K b u2 (v := e) (by omega) (by have := dga e; (try simp only [List.length_append, List.length_cons, List.length_nil]); omega))) dL_ring_48 rfl rfl ⟨(Nat.le_of_ble_eq_true rfl), (Nat.le_of_ble_eq_true rfl)⟩ (Nat.le_of_ble_eq_true rfl) (Nat.le_of_ble_eq_true rfl) (Nat.le_of_ble_eq_true rfl) (fun u3 => ?_)
  refine J_ldcL C (ix := 42) (j := 9) (tx := " quota ") (by decide) rfl dL_ring_51 ?_
  refine J_crV (as := [.ref (K.2 (100 + 9))]) (T := TJ4) (N := 4) C Yc 0 11 kj_J4_append_15ec4 ui_J4_append_15ec4 us_J4_append_15ec4 um_L_39 rfl rfl (Cr.right [] (cj_appS l K b u3 (j := 9) (by decide) (by (try simp only [List.length_append, List.length_cons, List.length_nil]); omega))) dL_ring_53 rfl rfl ⟨(Nat.le_of_ble_eq_true rfl), (Nat.le_of_ble_eq_true rfl)⟩ (Nat.le_of_ble_eq_true rfl) (Nat.le_of_ble_eq_true rfl) (Nat.le_of_ble_eq_true rfl) (fun u4 => ?_)
  refine J_iload_n C 1 dL_ring_56 rfl ?_
  refine J_bipush C (v := 7) dL_ring_57 rfl ?_
  refine J_ishr C dL_ring_59 rfl ?_
  refine J_eqi (b := (iN (w / 128))) (sr_ hw 7 (by decide)) ?_
  refine J_iconst C (v := 1) dL_ring_60 rfl ?_
  refine J_iand C dL_ring_61 ?_
  refine J_eqi (b := (iN (w / 128 % 2))) (m1_ _) ?_
  have k79 : ∀ q, 1 ≤ q → q ≤ 60 → J l K Γ (Jz K Γ (fun z : RGt => ((some (.ref z.1.2.1), stW K z.1.2.1 z.1.1 z.1.2.2) : gR)) 160 350000) 7 11604 [(b, .inr (11, [.ref u4.1.1, .int 0, .int 0, .int (iN ((((stx 7 ++ dcN a) ++ stx 8) ++ dcN e) ++ stx 9).length)])), cB K u4.1.1 u4.1.2.1 u4.1.2.2] 79 9 [(2, .int (iN c)), (0, .int (iN w)), (1, .int vv)] [.int (iN q), .ref b] := by
    intro q q1 q60
    have lu5 := dc_le q
    refine J_crV (as := [.int (iN q)]) (T := TJ4) (N := 4) C Yc 0 11 kj_J4_append_bf812 ui_J4_append_bf812 us_J4_append_bf812 um_L_34 rfl rfl (Cr.right [] (cj_appI l K b u4 (v := q) (by omega) (by have := dga q; (try simp only [List.length_append, List.length_cons, List.length_nil]); omega))) dL_ring_79 rfl rfl ⟨(Nat.le_of_ble_eq_true rfl), (Nat.le_of_ble_eq_true rfl)⟩ (Nat.le_of_ble_eq_true rfl) (Nat.le_of_ble_eq_true rfl) (Nat.le_of_ble_eq_true rfl) (fun u5 => ?_)
    refine J_bipush C (v := 59) dL_ring_82 rfl ?_
    refine J_crV (as := [.int 59]) (T := TJ4) (N := 4) C Yc 0 11 kj_J4_append_cf468 ui_J4_append_cf468 us_J4_append_cf468 um_L_44 rfl rfl (Cr.right [] (cj_appC l K b u5 (c := 59) (by decide) (by (try simp only [List.length_append, List.length_cons, List.length_nil]); omega))) dL_ring_84 rfl rfl ⟨(Nat.le_of_ble_eq_true rfl), (Nat.le_of_ble_eq_true rfl)⟩ (Nat.le_of_ble_eq_true rfl) (Nat.le_of_ble_eq_true rfl) (Nat.le_of_ble_eq_true rfl) (fun u6 => ?_)
    refine J_astore_n C (lv' := [(3, .ref b), (2, .int (iN c)), (0, .int (iN w)), (1, .int vv)]) dL_ring_87 (by decide) rfl ?_
    refine J_iload_n C 3 dL_ring_88 rfl ?_
    refine J_istore C (lv' := [(4, .int vv), (3, .ref b), (2, .int (iN c)), (0, .int (iN w)), (1, .int vv)]) dL_ring_89 (by decide) rfl ?_
    refine J_bipush C (v := 8) dL_ring_91 rfl ?_
    refine J_newZ C Yc 8 dL_ring_93 rfl (by decide) (Nat.le_of_ble_eq_true rfl) (Nat.le_of_ble_eq_true rfl) (fun s5 => ?_)
    refine J_astore C (lv' := [(5, .ref s5), (4, .int vv), (3, .ref b), (2, .int (iN c)), (0, .int (iN w)), (1, .int vv)]) dL_ring_95 (by decide) rfl ?_
    refine J_iconst C (v := 0) dL_ring_97 rfl ?_
    refine J_istore C (lv' := [(6, .int 0), (5, .ref s5), (4, .int vv), (3, .ref b), (2, .int (iN c)), (0, .int (iN w)), (1, .int vv)]) dL_ring_98 (by decide) rfl ?_
    refine J_sub [5, 6, 4, 3, 2, 1, 0] (lv' := [(0, .int (iN w)), (1, .int vv), (2, .int (iN c)), (3, .ref b), (4, .int vv), (5, .ref s5), (6, .int 0)]) rfl ?_
    have d1 := dc_le a
    have d2 := dc_le e
    have d3 := dc_le q
    refine J_widen (k := 10) (n := 16212) (by omega) (by omega) ?_
    refine k100 b s5 q ⟨by omega, by omega, by omega⟩ c 0 ((((((stx 7 ++ dcN a) ++ stx 8) ++ dcN e) ++ stx 9) ++ dcN q) ++ [59]) u6 [] vv (fun _ => 0) (by omega) ?_ ?_ ⟨fun o ho => absurd ho List.not_mem_nil, List.Pairwise.nil⟩ rfl (fun o ho => absurd ho List.not_mem_nil) (fun i o hi => by simp at hi)
    · show _ = _ ++ []
      rw [List.append_nil]
      unfold ruW
      simp only [List.append_assoc]
    · simp only [List.length_append, List.length_cons, List.length_nil]
      omega
  by_cases h0 : w / 128 % 2 = 0
  · refine J_if_ne_y C 70 ((iN_0 (by omega)).mpr h0) dL_ring_62 rfl ?_
    refine J_bipush C (v := 60) dL_ring_65 rfl ?_
    refine J_goto C 79 dL_ring_67 rfl ?_
    exact k79 60 (by decide) (by decide)
  · refine J_if_ne_n C 70 (fun z => h0 ((iN_0 (by omega)).mp z)) dL_ring_62 rfl ?_
    refine J_iconst C (v := 3) dL_ring_70 rfl ?_
    refine J_iload_n C 1 dL_ring_71 rfl ?_
    refine J_bipush C (v := 8) dL_ring_72 rfl ?_
    refine J_ishr C dL_ring_74 rfl ?_
    refine J_eqi (b := (iN (w / 256))) (sr_ hw 8 (by decide)) ?_
    refine J_bipush C (v := 15) dL_ring_75 rfl ?_
    refine J_iand C dL_ring_77 ?_
    refine J_eqi (b := (iN (w / 256 % 16))) (m15_ _) ?_
    refine J_iadd C dL_ring_78 ?_
    refine J_eqi (b := (iN (3 + w / 256 % 16))) (iN_add 3 _) ?_
    exact k79 (3 + w / 256 % 16) (by omega) (by omega)
