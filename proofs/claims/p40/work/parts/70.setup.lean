-- PART 70: the law's method setup
theorem txN_len {M : NM} (hO : OI M) (h11 : ∀ t, t < M 18 3 → M 11 t < 10) : (txN M).length ≤ 985 := by
  have h10 := hO.2.1
  have a1 := ruW_len (a := M 0 0) (b := M 0 1) (q := M 0 2)
  have a2 := osW_len (osF M (M 18 2) 0) (fun x hx => by
    obtain ⟨j, -, j2, rfl⟩ := osF_mem _ _ _ hx
    have := (hO.2.2.1 j (by omega)).2.1
    show M 2 j < 10
    omega)
  have a3 := lsW_len (lsF M (M 18 2) 0) (fun x hx => by
    obtain ⟨p, j, -, p2, j2, rfl⟩ := lsF_mem _ _ _ hx
    obtain ⟨q1, q2, q3, q4⟩ := (hO.2.2.1 p (by omega)).2.2.2.2.2.2 j j2
    exact ⟨by show p < 10; omega, by show M 8 _ < 10; omega, by show M 9 _ < 10; omega⟩)
  have a4 := lsF_len (M := M) (n := M 18 2) (fun o ho => (hO.2.2.1 o ho).2.2.2.2.2.1) (M 18 2) 0 (by omega)
  have a5 := toW_len (t := tOf M) (fun x hx => by
    unfold tOf at hx
    rcases opt_ways (fsN M (M 18 3)) with e | ⟨t, e⟩
    · rw [e] at hx
      cases hx
    · rw [e] at hx
      cases hx
      exact h11 t (fsN_some _ e).1)
  rw [osF_len] at a2
  unfold txN
  simp only [List.length_append]
  omega
theorem v_sbyte {T : List Nat} {Y Z : RS} {i : Nat} (h : WR Y T Z) (hi : i < T.length) : v_X7_byteAt_p (Z 3) (iN i) = iN (T.getD i 0) := by
  obtain ⟨h1, h2, h3, h4, h5⟩ := h
  unfold v_X7_byteAt_p
  rw [if_neg (iN_neg (by omega)), h3, if_pos (iN_ylt' hi (by omega)), if_pos (show iN i < 1024 from iN_ylt' (b := 1024) (by omega) (by decide)), iN_nat (by omega), h5 i hi]
  exact by_i _ (h4.at_ hi)
theorem St.TS {B : Nat} {Y : RS} {M : NM} (h : St B Y M) (hB : B ≤ 1000000) : TS M := TS.inv h.2.1 (by omega)
theorem St.page {B : Nat} {Y Z : RS} {M : NM} (h : St B Y M) (hz : ∀ k, k ≠ 3 → Z k = Y k) : St B Z M := h.fr (hz 0 (by decide)) (hz 2 (by decide)) (hz 4 (by decide)) (fun k a _ => hz k (by omega))
theorem v_write' {B : Nat} {Y Z : RS} {M : NM} (h : St B Y M) (hB : B ≤ 1000000) (hz : ∀ k, k ≠ 3 → Z k = Y k) : WR Z (txN M) (s_X9_writeSetup Z) := by
  have h2 := h.page hz
  exact v_write h2.1 h2.2.1.1 (h2.TS hB) h2.2.1.2.2.2.2.2
theorem kd_L_setup : Cd yL_setup cL_setup 4 (some (.object "java/lang/String")) 1 := ⟨uc_L_setup, un_L, ⟨by decide, by decide, by decide⟩⟩
theorem c_L_setup (l : Launch) (K : gK) (A : Nat → Nat → Nat) {B : Nat} {Y : RS} {M : NM} (hS : St B Y M) (hB : B ≤ 1000000) : Cr l K yL_setup cL_setup 4 (some (.object "java/lang/String")) 12 1100 2400000 [.ref (A 4 0)] (ro_W K A Y) (fun z : {Z : RS // ∀ k, k ≠ 3 → Z k = Y k} × Nat × StT (txN M) => ((some (.ref z.2.1), stW K z.2.1 (txN M) z.2.2.1 ++ ro_W K A z.1.1) : gR)) := by
  have hl := txN_len hS.2.1.1 (fun t ht => by
    have := (hS.TS hB).2 t ht
    omega)
  refine Cr.of (own := RL) (by decide) rfl (Nat.le_of_ble_eq_true rfl) (fun Γ C Yc _ => ?_)
  generalize hT : txN M = T at *
  have hwr : ∀ Z : RS, (∀ k, k ≠ 3 → Z k = Y k) → WR Z T (s_X9_writeSetup Z) := fun Z hz => hT ▸ v_write' hS hB hz
  have k15 : ∀ b d i (Z : RS) (u : SBt (T.take i)), i + d = T.length → (∀ k, k ≠ 3 → Z k = Y k) → J l K Γ (Jz K Γ (fun z : {Z : RS // ∀ k, k ≠ 3 → Z k = Y k} × Nat × StT T => ((some (.ref z.2.1), stW K z.2.1 T z.2.2.1 ++ ro_W K A z.1.1) : gR)) 1100 2400000) (2 + i) (20 + 2300 * i) ([(b, .inr (11, [.ref u.1.1, .int 0, .int 0, .int (iN (T.take i).length)])), cB K u.1.1 u.1.2.1 u.1.2.2] ++ ro_W K A Z) 15 4 [(0, .ref (A 4 0)), (1, .ref b), (2, .int (iN T.length)), (3, .int (iN i))] [] := by
    intro b d
    induction d with
    | zero =>
      intro i Z u hi hz
      have hi : i = T.length := by omega
      refine J_iload_n C 3 dL_setup_15 rfl ?_
      refine J_iload_n C 2 dL_setup_16 rfl ?_
      refine J_icmp_ge_n C 37 (iN_nlt' (by omega) (by omega)) dL_setup_17 rfl ?_
      refine J_aload_n C 1 dL_setup_37 rfl ?_
      refine J_crV (as := []) (T := TJ4) (N := 4) C Yc 0 11 kj_J4_toString_0e30d ui_J4_toString_0e30d us_J4_toString_0e30d um_L_58 rfl rfl (Cr.left (ro_W K A Z) (cj_toS l K b u)) dL_setup_38 rfl rfl ⟨(Nat.le_of_ble_eq_true rfl), (Nat.le_of_ble_eq_true rfl)⟩ (Nat.le_of_ble_eq_true rfl) (by omega) (by omega) (fun z => ?_)
      have et : T.take i = T := List.take_of_length_le (by omega)
      obtain ⟨s, v⟩ := z
      revert v
      rw [et]
      intro v
      exact J_raret (Or.inl ⟨_, rfl⟩) C (⟨Z, hz⟩, s, v) dL_setup_41 (by omega) (by omega) rfl
    | succ d ih =>
      intro i Z u hi hz
      have hw := hwr Z hz
      have hc := hw.2.2.2.1.at_ (show i < T.length by omega)
      refine J_iload_n C 3 dL_setup_15 rfl ?_
      refine J_iload_n C 2 dL_setup_16 rfl ?_
      refine J_icmp_ge_y C 37 (iN_ylt' (by omega) (by omega)) dL_setup_17 rfl ?_
      refine J_aload_n C 1 dL_setup_20 rfl ?_
      refine J_aload_n C 0 dL_setup_21 rfl ?_
      refine J_iload_n C 3 dL_setup_22 rfl ?_
      refine x_setupByte C Yc (by omega) (by omega) [(b, .inr (11, [.ref u.1.1, .int 0, .int 0, .int (iN (T.take i).length)])), cB K u.1.1 u.1.2.1 u.1.2.2] (w := (iN (T.getD i 0))) (show p_X9_setupByte Z (iN i) = (iN (T.getD i 0), s_X9_writeSetup Z) by unfold p_X9_setupByte p_X9_setupByte_L10; rw [if_neg (iN_neg (by omega)), v_sbyte hw (by omega)]) dL_setup_23 (Nat.le_of_ble_eq_true rfl) (Nat.le_of_ble_eq_true rfl) ?_
      refine J_i2c C (v := (iN (T.getD i 0))) dL_setup_26 (by_c _ hc) ?_
      refine J_crV (as := [.int (iN (T.getD i 0))]) (T := TJ4) (N := 4) C Yc 0 11 kj_J4_append_cf468 ui_J4_append_cf468 us_J4_append_cf468 um_L_44 rfl rfl (Cr.left (ro_W K A (s_X9_writeSetup Z)) (cj_appC l K b u (c := T.getD i 0) hc (by rw [List.length_take]; omega))) dL_setup_27 rfl rfl ⟨(Nat.le_of_ble_eq_true rfl), (Nat.le_of_ble_eq_true rfl)⟩ (Nat.le_of_ble_eq_true rfl) (by omega) (by omega) (fun v => ?_)
      refine J_pop C dL_setup_30 rfl ?_
      refine J_iinc C 3 (w := (iN (i + 1))) (lv' := [(3, .int (iN (i + 1))), (0, .ref (A 4 0)), (1, .ref b), (2, .int (iN T.length))]) dL_setup_31 rfl (iN_add _ _) (by decide) rfl ?_
      refine J_goto C 15 dL_setup_34 rfl ?_
      refine J_sub [1, 2, 3, 0] (lv' := [(0, .ref (A 4 0)), (1, .ref b), (2, .int (iN T.length)), (3, .int (iN (i + 1)))]) rfl ?_
      have et : T.take i ++ [T.getD i 0] = T.take (i + 1) := by
        rw [List.getD_eq_getElem?_getD, List.getElem?_eq_getElem (show i < T.length by omega)]
        exact (List.take_succ_eq_append_getElem (show i < T.length by omega)).symm
      revert v
      rw [et]
      intro v
      exact J_widen (k := 2 + (i + 1)) (n := 20 + 2300 * (i + 1)) (by omega) (by omega) (ih (i + 1) (s_X9_writeSetup Z) v (by omega) (fun k hk => (hw.1 k hk).trans (hz k hk)))
  refine J_leq (lv' := [(0, .ref (A 4 0))]) rfl ?_
  refine J_new C Yc 11 [.null, .int 0, .int 0, .int 0] tyJ4 dL_setup_0 inlJ4 tyJ4_ok ul_L_27 ua_J4 un_J4 rfl (fun j hj => by rcases (show j = 0 ∨ j = 1 ∨ j = 2 ∨ j = 3 by omega) with rfl | rfl | rfl | rfl <;> rfl) (Nat.le_of_ble_eq_true rfl) (Nat.le_of_ble_eq_true rfl) (fun b => ?_)
  refine J_perm List.perm_append_comm ?_
  refine J_dup C dL_setup_3 rfl ?_
  refine J_crI (as := []) C Yc kj_J4_init_da8c8 rfl ui_J4_init_da8c8 um_L_62 (Cr.left (ro_W K A Y) (cj_sbI l K b)) dL_setup_4 rfl rfl ⟨(Nat.le_of_ble_eq_true rfl), (Nat.le_of_ble_eq_true rfl)⟩ (Nat.le_of_ble_eq_true rfl) (Nat.le_of_ble_eq_true rfl) (Nat.le_of_ble_eq_true rfl) (fun u => ?_)
  have hw := hwr Y (fun _ _ => rfl)
  refine J_astore_n C (lv' := [(1, .ref b), (0, .ref (A 4 0))]) dL_setup_7 (by decide) rfl ?_
  refine J_aload_n C 1 dL_setup_8 rfl ?_
  refine x_setupLength C Yc (Nat.le_of_ble_eq_true rfl) (Nat.le_of_ble_eq_true rfl) [(b, .inr (11, [.ref u.1.1, .int 0, .int 0, .int (iN ([] : List Nat).length)])), cB K u.1.1 u.1.2.1 u.1.2.2] (w := (iN T.length)) (show p_X9_setupLength Y = (iN T.length, s_X9_writeSetup Y) by unfold p_X9_setupLength p_X9_setupLength_L4; rw [hw.2.2.1]) dL_setup_9 (Nat.le_of_ble_eq_true rfl) (Nat.le_of_ble_eq_true rfl) ?_
  refine J_istore_n C (lv' := [(2, .int (iN T.length)), (1, .ref b), (0, .ref (A 4 0))]) dL_setup_12 (by decide) rfl ?_
  refine J_iconst C (v := 0) dL_setup_13 rfl ?_
  refine J_istore_n C (lv' := [(3, .int 0), (2, .int (iN T.length)), (1, .ref b), (0, .ref (A 4 0))]) dL_setup_14 (by decide) rfl ?_
  refine J_sub [3, 2, 1, 0] (lv' := [(0, .ref (A 4 0)), (1, .ref b), (2, .int (iN T.length)), (3, .int 0)]) rfl ?_
  exact k15 b T.length 0 (s_X9_writeSetup Y) u (by omega) hw.1
