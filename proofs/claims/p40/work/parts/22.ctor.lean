-- PART 22: the constructors
def aU (a : Nat) (u : Nat → Nat) : Nat → Nat := fun k => match k with
  | 0 => a
  | k + 1 => u k
abbrev zS : SM := fun _ _ => 0
def dg (qs : List Nat) : Nat → Nat := fun k => qs.getD k 0
def lg_I (K : gK) (a : Nat) (f : Nat → Nat) : va_W := [(a, .inr (1, [.ref (f 0), .ref (f 1), .ref (f 2), .int 0, .int 0])), (f 0, .inl (K.2 0, 40, .inl (fun _ => 0))), (f 1, .inl (K.2 0, 40, .inl (fun _ => 0))), (f 2, .inl (K.2 0, 40, .inl (fun _ => 0)))]
theorem kd_X1_init : Card yX1_init cX1_init 1 none 0 := ⟨uc_X1_init, un_X1, ⟨by decide, by decide, by decide⟩, by decide⟩
theorem c_X1_init (l : Launch) (K : gK) (a : Nat) : Ca l K yX1_init cX1_init 1 1 3 120 [.ref a] [(a, .inr (1, [.null, .null, .null, .int 0, .int 0]))] (lg_I K a) := by
  refine Ca.of (own := RX1) (by decide) rfl rfl (Nat.le_of_ble_eq_true rfl) (fun Γ C Y Z => ?_)
  refine J_aload_n C 0 dX1_init_0 rfl ?_
  refine J_obj C dX1_init_1 um_X1_3 (by decide) (Nat.le_of_ble_eq_true rfl) ?_
  refine J_aload_n C 0 dX1_init_4 rfl ?_
  refine J_bipush C dX1_init_5 (v := 40) rfl ?_
  refine J_newa C Y (ty := .int) 0 40 (40, .inl (fun _ => 0)) dX1_init_7 ur_int rfl rfl (fun _ => rfl) (by decide) rfl (by decide) (Nat.le_of_ble_eq_true rfl) (Nat.le_of_ble_eq_true rfl) (fun q7 => ?_)
  refine J_putF C Z 0 0 tyX1 (.array .int) ([(a, .inr (1, [.ref q7, .null, .null, .int 0, .int 0])), (q7, .inl (K.2 0, 40, .inl (fun _ => 0)))]) dX1_init_9 inlX1 uf_X1_9 tyX1_ok nmX1 rfl (by decide) rfl rfl rfl rfl rfl rfl rfl (Nat.le_of_ble_eq_true rfl) rfl ?_
  refine J_aload_n C 0 dX1_init_12 rfl ?_
  refine J_bipush C dX1_init_13 (v := 40) rfl ?_
  refine J_newa C Y (ty := .int) 0 40 (40, .inl (fun _ => 0)) dX1_init_15 ur_int rfl rfl (fun _ => rfl) (by decide) rfl (by decide) (Nat.le_of_ble_eq_true rfl) (Nat.le_of_ble_eq_true rfl) (fun q15 => ?_)
  refine J_putF C Z 0 1 tyX1 (.array .int) ([(a, .inr (1, [.ref q7, .ref q15, .null, .int 0, .int 0])), (q7, .inl (K.2 0, 40, .inl (fun _ => 0))), (q15, .inl (K.2 0, 40, .inl (fun _ => 0)))]) dX1_init_17 inlX1 uf_X1_15 tyX1_ok nmX1 rfl (by decide) rfl rfl rfl rfl rfl rfl rfl (Nat.le_of_ble_eq_true rfl) rfl ?_
  refine J_aload_n C 0 dX1_init_20 rfl ?_
  refine J_bipush C dX1_init_21 (v := 40) rfl ?_
  refine J_newa C Y (ty := .int) 0 40 (40, .inl (fun _ => 0)) dX1_init_23 ur_int rfl rfl (fun _ => rfl) (by decide) rfl (by decide) (Nat.le_of_ble_eq_true rfl) (Nat.le_of_ble_eq_true rfl) (fun q23 => ?_)
  refine J_putF C Z 0 2 tyX1 (.array .int) ([(a, .inr (1, [.ref q7, .ref q15, .ref q23, .int 0, .int 0])), (q7, .inl (K.2 0, 40, .inl (fun _ => 0))), (q15, .inl (K.2 0, 40, .inl (fun _ => 0))), (q23, .inl (K.2 0, 40, .inl (fun _ => 0)))]) dX1_init_25 inlX1 uf_X1_18 tyX1_ok nmX1 rfl (by decide) rfl rfl rfl rfl rfl rfl rfl (Nat.le_of_ble_eq_true rfl) rfl ?_
  exact J_vret C (dg [q7, q15, q23]) dX1_init_28 (Nat.le_of_ble_eq_true rfl) (Nat.le_of_ble_eq_true rfl) rfl
def of_I (K : gK) (a : Nat) (f : Nat → Nat) : va_W := [(a, .inr (2, [.ref (f 0), .ref (f 1), .ref (f 2), .ref (f 3), .ref (f 4), .ref (f 5), .ref (f 6), .ref (f 7), .int 0])), (f 0, .inl (K.2 0, 10, .inl (fun _ => 0))), (f 1, .inl (K.2 0, 10, .inl (fun _ => 0))), (f 2, .inl (K.2 0, 10, .inl (fun _ => 0))), (f 3, .inl (K.2 0, 10, .inl (fun _ => 0))), (f 4, .inl (K.2 0, 10, .inl (fun _ => 0))), (f 5, .inl (K.2 0, 10, .inl (fun _ => 0))), (f 6, .inl (K.2 0, 60, .inl (fun _ => 0))), (f 7, .inl (K.2 0, 60, .inl (fun _ => 0)))]
theorem kd_X2_init : Card yX2_init cX2_init 1 none 0 := ⟨uc_X2_init, un_X2, ⟨by decide, by decide, by decide⟩, by decide⟩
theorem c_X2_init (l : Launch) (K : gK) (a : Nat) : Ca l K yX2_init cX2_init 1 1 8 180 [.ref a] [(a, .inr (2, [.null, .null, .null, .null, .null, .null, .null, .null, .int 0]))] (of_I K a) := by
  refine Ca.of (own := RX2) (by decide) rfl rfl (Nat.le_of_ble_eq_true rfl) (fun Γ C Y Z => ?_)
  refine J_aload_n C 0 dX2_init_0 rfl ?_
  refine J_obj C dX2_init_1 um_X2_3 (by decide) (Nat.le_of_ble_eq_true rfl) ?_
  refine J_aload_n C 0 dX2_init_4 rfl ?_
  refine J_bipush C dX2_init_5 (v := 10) rfl ?_
  refine J_newa C Y (ty := .int) 0 10 (10, .inl (fun _ => 0)) dX2_init_7 ur_int rfl rfl (fun _ => rfl) (by decide) rfl (by decide) (Nat.le_of_ble_eq_true rfl) (Nat.le_of_ble_eq_true rfl) (fun q7 => ?_)
  refine J_putF C Z 0 0 tyX2 (.array .int) ([(a, .inr (2, [.ref q7, .null, .null, .null, .null, .null, .null, .null, .int 0])), (q7, .inl (K.2 0, 10, .inl (fun _ => 0)))]) dX2_init_9 inlX2 uf_X2_9 tyX2_ok nmX2 rfl (by decide) rfl rfl rfl rfl rfl rfl rfl (Nat.le_of_ble_eq_true rfl) rfl ?_
  refine J_aload_n C 0 dX2_init_12 rfl ?_
  refine J_bipush C dX2_init_13 (v := 10) rfl ?_
  refine J_newa C Y (ty := .int) 0 10 (10, .inl (fun _ => 0)) dX2_init_15 ur_int rfl rfl (fun _ => rfl) (by decide) rfl (by decide) (Nat.le_of_ble_eq_true rfl) (Nat.le_of_ble_eq_true rfl) (fun q15 => ?_)
  refine J_putF C Z 0 1 tyX2 (.array .int) ([(a, .inr (2, [.ref q7, .ref q15, .null, .null, .null, .null, .null, .null, .int 0])), (q7, .inl (K.2 0, 10, .inl (fun _ => 0))), (q15, .inl (K.2 0, 10, .inl (fun _ => 0)))]) dX2_init_17 inlX2 uf_X2_15 tyX2_ok nmX2 rfl (by decide) rfl rfl rfl rfl rfl rfl rfl (Nat.le_of_ble_eq_true rfl) rfl ?_
  refine J_aload_n C 0 dX2_init_20 rfl ?_
  refine J_bipush C dX2_init_21 (v := 10) rfl ?_
  refine J_newa C Y (ty := .int) 0 10 (10, .inl (fun _ => 0)) dX2_init_23 ur_int rfl rfl (fun _ => rfl) (by decide) rfl (by decide) (Nat.le_of_ble_eq_true rfl) (Nat.le_of_ble_eq_true rfl) (fun q23 => ?_)
  refine J_putF C Z 0 2 tyX2 (.array .int) ([(a, .inr (2, [.ref q7, .ref q15, .ref q23, .null, .null, .null, .null, .null, .int 0])), (q7, .inl (K.2 0, 10, .inl (fun _ => 0))), (q15, .inl (K.2 0, 10, .inl (fun _ => 0))), (q23, .inl (K.2 0, 10, .inl (fun _ => 0)))]) dX2_init_25 inlX2 uf_X2_18 tyX2_ok nmX2 rfl (by decide) rfl rfl rfl rfl rfl rfl rfl (Nat.le_of_ble_eq_true rfl) rfl ?_
  refine J_aload_n C 0 dX2_init_28 rfl ?_
  refine J_bipush C dX2_init_29 (v := 10) rfl ?_
  refine J_newa C Y (ty := .int) 0 10 (10, .inl (fun _ => 0)) dX2_init_31 ur_int rfl rfl (fun _ => rfl) (by decide) rfl (by decide) (Nat.le_of_ble_eq_true rfl) (Nat.le_of_ble_eq_true rfl) (fun q31 => ?_)
  refine J_putF C Z 0 3 tyX2 (.array .int) ([(a, .inr (2, [.ref q7, .ref q15, .ref q23, .ref q31, .null, .null, .null, .null, .int 0])), (q7, .inl (K.2 0, 10, .inl (fun _ => 0))), (q15, .inl (K.2 0, 10, .inl (fun _ => 0))), (q23, .inl (K.2 0, 10, .inl (fun _ => 0))), (q31, .inl (K.2 0, 10, .inl (fun _ => 0)))]) dX2_init_33 inlX2 uf_X2_21 tyX2_ok nmX2 rfl (by decide) rfl rfl rfl rfl rfl rfl rfl (Nat.le_of_ble_eq_true rfl) rfl ?_
  refine J_aload_n C 0 dX2_init_36 rfl ?_
  refine J_bipush C dX2_init_37 (v := 10) rfl ?_
  refine J_newa C Y (ty := .int) 0 10 (10, .inl (fun _ => 0)) dX2_init_39 ur_int rfl rfl (fun _ => rfl) (by decide) rfl (by decide) (Nat.le_of_ble_eq_true rfl) (Nat.le_of_ble_eq_true rfl) (fun q39 => ?_)
  refine J_putF C Z 0 4 tyX2 (.array .int) ([(a, .inr (2, [.ref q7, .ref q15, .ref q23, .ref q31, .ref q39, .null, .null, .null, .int 0])), (q7, .inl (K.2 0, 10, .inl (fun _ => 0))), (q15, .inl (K.2 0, 10, .inl (fun _ => 0))), (q23, .inl (K.2 0, 10, .inl (fun _ => 0))), (q31, .inl (K.2 0, 10, .inl (fun _ => 0))), (q39, .inl (K.2 0, 10, .inl (fun _ => 0)))]) dX2_init_41 inlX2 uf_X2_24 tyX2_ok nmX2 rfl (by decide) rfl rfl rfl rfl rfl rfl rfl (Nat.le_of_ble_eq_true rfl) rfl ?_
  refine J_aload_n C 0 dX2_init_44 rfl ?_
  refine J_bipush C dX2_init_45 (v := 10) rfl ?_
  refine J_newa C Y (ty := .int) 0 10 (10, .inl (fun _ => 0)) dX2_init_47 ur_int rfl rfl (fun _ => rfl) (by decide) rfl (by decide) (Nat.le_of_ble_eq_true rfl) (Nat.le_of_ble_eq_true rfl) (fun q47 => ?_)
  refine J_putF C Z 0 5 tyX2 (.array .int) ([(a, .inr (2, [.ref q7, .ref q15, .ref q23, .ref q31, .ref q39, .ref q47, .null, .null, .int 0])), (q7, .inl (K.2 0, 10, .inl (fun _ => 0))), (q15, .inl (K.2 0, 10, .inl (fun _ => 0))), (q23, .inl (K.2 0, 10, .inl (fun _ => 0))), (q31, .inl (K.2 0, 10, .inl (fun _ => 0))), (q39, .inl (K.2 0, 10, .inl (fun _ => 0))), (q47, .inl (K.2 0, 10, .inl (fun _ => 0)))]) dX2_init_49 inlX2 uf_X2_27 tyX2_ok nmX2 rfl (by decide) rfl rfl rfl rfl rfl rfl rfl (Nat.le_of_ble_eq_true rfl) rfl ?_
  refine J_aload_n C 0 dX2_init_52 rfl ?_
  refine J_bipush C dX2_init_53 (v := 60) rfl ?_
  refine J_newa C Y (ty := .int) 0 60 (60, .inl (fun _ => 0)) dX2_init_55 ur_int rfl rfl (fun _ => rfl) (by decide) rfl (by decide) (Nat.le_of_ble_eq_true rfl) (Nat.le_of_ble_eq_true rfl) (fun q55 => ?_)
  refine J_putF C Z 0 6 tyX2 (.array .int) ([(a, .inr (2, [.ref q7, .ref q15, .ref q23, .ref q31, .ref q39, .ref q47, .ref q55, .null, .int 0])), (q7, .inl (K.2 0, 10, .inl (fun _ => 0))), (q15, .inl (K.2 0, 10, .inl (fun _ => 0))), (q23, .inl (K.2 0, 10, .inl (fun _ => 0))), (q31, .inl (K.2 0, 10, .inl (fun _ => 0))), (q39, .inl (K.2 0, 10, .inl (fun _ => 0))), (q47, .inl (K.2 0, 10, .inl (fun _ => 0))), (q55, .inl (K.2 0, 60, .inl (fun _ => 0)))]) dX2_init_57 inlX2 uf_X2_30 tyX2_ok nmX2 rfl (by decide) rfl rfl rfl rfl rfl rfl rfl (Nat.le_of_ble_eq_true rfl) rfl ?_
  refine J_aload_n C 0 dX2_init_60 rfl ?_
  refine J_bipush C dX2_init_61 (v := 60) rfl ?_
  refine J_newa C Y (ty := .int) 0 60 (60, .inl (fun _ => 0)) dX2_init_63 ur_int rfl rfl (fun _ => rfl) (by decide) rfl (by decide) (Nat.le_of_ble_eq_true rfl) (Nat.le_of_ble_eq_true rfl) (fun q63 => ?_)
  refine J_putF C Z 0 7 tyX2 (.array .int) ([(a, .inr (2, [.ref q7, .ref q15, .ref q23, .ref q31, .ref q39, .ref q47, .ref q55, .ref q63, .int 0])), (q7, .inl (K.2 0, 10, .inl (fun _ => 0))), (q15, .inl (K.2 0, 10, .inl (fun _ => 0))), (q23, .inl (K.2 0, 10, .inl (fun _ => 0))), (q31, .inl (K.2 0, 10, .inl (fun _ => 0))), (q39, .inl (K.2 0, 10, .inl (fun _ => 0))), (q47, .inl (K.2 0, 10, .inl (fun _ => 0))), (q55, .inl (K.2 0, 60, .inl (fun _ => 0))), (q63, .inl (K.2 0, 60, .inl (fun _ => 0)))]) dX2_init_65 inlX2 uf_X2_33 tyX2_ok nmX2 rfl (by decide) rfl rfl rfl rfl rfl rfl rfl (Nat.le_of_ble_eq_true rfl) rfl ?_
  exact J_vret C (dg [q7, q15, q23, q31, q39, q47, q55, q63]) dX2_init_68 (Nat.le_of_ble_eq_true rfl) (Nat.le_of_ble_eq_true rfl) rfl
def to_I (K : gK) (a : Nat) (f : Nat → Nat) : va_W := [(a, .inr (8, [.ref (f 0), .ref (f 1), .ref (f 2), .ref (f 3), .ref (f 4), .int 0, .int 0])), (f 0, .inl (K.2 0, 3, .inl (fun _ => 0))), (f 1, .inl (K.2 0, 3, .inl (fun _ => 0))), (f 2, .inl (K.2 0, 3, .inl (fun _ => 0))), (f 3, .inl (K.2 0, 3, .inl (fun _ => 0))), (f 4, .inl (K.2 0, 3, .inl (fun _ => 0)))]
theorem kd_X8_init : Card yX8_init cX8_init 1 none 0 := ⟨uc_X8_init, un_X8, ⟨by decide, by decide, by decide⟩, by decide⟩
theorem c_X8_init (l : Launch) (K : gK) (a : Nat) : Ca l K yX8_init cX8_init 1 1 5 15 [.ref a] [(a, .inr (8, [.null, .null, .null, .null, .null, .int 0, .int 0]))] (to_I K a) := by
  refine Ca.of (own := RX8) (by decide) rfl rfl (Nat.le_of_ble_eq_true rfl) (fun Γ C Y Z => ?_)
  refine J_aload_n C 0 dX8_init_0 rfl ?_
  refine J_obj C dX8_init_1 um_X8_3 (by decide) (Nat.le_of_ble_eq_true rfl) ?_
  refine J_aload_n C 0 dX8_init_4 rfl ?_
  refine J_iconst C dX8_init_5 (v := 3) rfl ?_
  refine J_newa C Y (ty := .int) 0 3 (3, .inl (fun _ => 0)) dX8_init_6 ur_int rfl rfl (fun _ => rfl) (by decide) rfl (by decide) (Nat.le_of_ble_eq_true rfl) (Nat.le_of_ble_eq_true rfl) (fun q6 => ?_)
  refine J_putF C Z 0 0 tyX8 (.array .int) ([(a, .inr (8, [.ref q6, .null, .null, .null, .null, .int 0, .int 0])), (q6, .inl (K.2 0, 3, .inl (fun _ => 0)))]) dX8_init_8 inlX8 uf_X8_9 tyX8_ok nmX8 rfl (by decide) rfl rfl rfl rfl rfl rfl rfl (Nat.le_of_ble_eq_true rfl) rfl ?_
  refine J_aload_n C 0 dX8_init_11 rfl ?_
  refine J_iconst C dX8_init_12 (v := 3) rfl ?_
  refine J_newa C Y (ty := .int) 0 3 (3, .inl (fun _ => 0)) dX8_init_13 ur_int rfl rfl (fun _ => rfl) (by decide) rfl (by decide) (Nat.le_of_ble_eq_true rfl) (Nat.le_of_ble_eq_true rfl) (fun q13 => ?_)
  refine J_putF C Z 0 1 tyX8 (.array .int) ([(a, .inr (8, [.ref q6, .ref q13, .null, .null, .null, .int 0, .int 0])), (q6, .inl (K.2 0, 3, .inl (fun _ => 0))), (q13, .inl (K.2 0, 3, .inl (fun _ => 0)))]) dX8_init_15 inlX8 uf_X8_15 tyX8_ok nmX8 rfl (by decide) rfl rfl rfl rfl rfl rfl rfl (Nat.le_of_ble_eq_true rfl) rfl ?_
  refine J_aload_n C 0 dX8_init_18 rfl ?_
  refine J_iconst C dX8_init_19 (v := 3) rfl ?_
  refine J_newa C Y (ty := .int) 0 3 (3, .inl (fun _ => 0)) dX8_init_20 ur_int rfl rfl (fun _ => rfl) (by decide) rfl (by decide) (Nat.le_of_ble_eq_true rfl) (Nat.le_of_ble_eq_true rfl) (fun q20 => ?_)
  refine J_putF C Z 0 2 tyX8 (.array .int) ([(a, .inr (8, [.ref q6, .ref q13, .ref q20, .null, .null, .int 0, .int 0])), (q6, .inl (K.2 0, 3, .inl (fun _ => 0))), (q13, .inl (K.2 0, 3, .inl (fun _ => 0))), (q20, .inl (K.2 0, 3, .inl (fun _ => 0)))]) dX8_init_22 inlX8 uf_X8_18 tyX8_ok nmX8 rfl (by decide) rfl rfl rfl rfl rfl rfl rfl (Nat.le_of_ble_eq_true rfl) rfl ?_
  refine J_aload_n C 0 dX8_init_25 rfl ?_
  refine J_iconst C dX8_init_26 (v := 3) rfl ?_
  refine J_newa C Y (ty := .int) 0 3 (3, .inl (fun _ => 0)) dX8_init_27 ur_int rfl rfl (fun _ => rfl) (by decide) rfl (by decide) (Nat.le_of_ble_eq_true rfl) (Nat.le_of_ble_eq_true rfl) (fun q27 => ?_)
  refine J_putF C Z 0 3 tyX8 (.array .int) ([(a, .inr (8, [.ref q6, .ref q13, .ref q20, .ref q27, .null, .int 0, .int 0])), (q6, .inl (K.2 0, 3, .inl (fun _ => 0))), (q13, .inl (K.2 0, 3, .inl (fun _ => 0))), (q20, .inl (K.2 0, 3, .inl (fun _ => 0))), (q27, .inl (K.2 0, 3, .inl (fun _ => 0)))]) dX8_init_29 inlX8 uf_X8_21 tyX8_ok nmX8 rfl (by decide) rfl rfl rfl rfl rfl rfl rfl (Nat.le_of_ble_eq_true rfl) rfl ?_
  refine J_aload_n C 0 dX8_init_32 rfl ?_
  refine J_iconst C dX8_init_33 (v := 3) rfl ?_
  refine J_newa C Y (ty := .int) 0 3 (3, .inl (fun _ => 0)) dX8_init_34 ur_int rfl rfl (fun _ => rfl) (by decide) rfl (by decide) (Nat.le_of_ble_eq_true rfl) (Nat.le_of_ble_eq_true rfl) (fun q34 => ?_)
  refine J_putF C Z 0 4 tyX8 (.array .int) ([(a, .inr (8, [.ref q6, .ref q13, .ref q20, .ref q27, .ref q34, .int 0, .int 0])), (q6, .inl (K.2 0, 3, .inl (fun _ => 0))), (q13, .inl (K.2 0, 3, .inl (fun _ => 0))), (q20, .inl (K.2 0, 3, .inl (fun _ => 0))), (q27, .inl (K.2 0, 3, .inl (fun _ => 0))), (q34, .inl (K.2 0, 3, .inl (fun _ => 0)))]) dX8_init_36 inlX8 uf_X8_24 tyX8_ok nmX8 rfl (by decide) rfl rfl rfl rfl rfl rfl rfl (Nat.le_of_ble_eq_true rfl) rfl ?_
  exact J_vret C (dg [q6, q13, q20, q27, q34]) dX8_init_39 (Nat.le_of_ble_eq_true rfl) (Nat.le_of_ble_eq_true rfl) rfl
theorem kd_X6_init : Card yX6_init cX6_init 1 none 0 := ⟨uc_X6_init, un_X6, ⟨by decide, by decide, by decide⟩, by decide⟩
theorem c_X6_init (l : Launch) (K : gK) (a : Nat) : Ca l K yX6_init cX6_init 1 2 21 348 [.ref a] [(a, .inr (6, [.null, .null, .null, .null, .null, .int 0, .int 0]))] (fun u => st_W K (aU a u) zS) := by
  refine Ca.of (own := RX6) (by decide) rfl rfl (Nat.le_of_ble_eq_true rfl) (fun Γ C Y Z => ?_)
  refine J_aload_n C 0 dX6_init_0 rfl ?_
  refine J_obj C dX6_init_1 um_X6_3 (by decide) (Nat.le_of_ble_eq_true rfl) ?_
  refine J_aload_n C 0 dX6_init_4 rfl ?_
  refine J_iconst C dX6_init_5 (v := 3) rfl ?_
  refine J_newa C Y (ty := .int) 0 3 (3, .inl (fun _ => 0)) dX6_init_6 ur_int rfl rfl (fun _ => rfl) (by decide) rfl (by decide) (Nat.le_of_ble_eq_true rfl) (Nat.le_of_ble_eq_true rfl) (fun q6 => ?_)
  refine J_putF C Z 0 0 tyX6 (.array .int) ([(a, .inr (6, [.ref q6, .null, .null, .null, .null, .int 0, .int 0])), (q6, .inl (K.2 0, 3, .inl (fun _ => 0)))]) dX6_init_8 inlX6 uf_X6_9 tyX6_ok nmX6 rfl (by decide) rfl rfl rfl rfl rfl rfl rfl (Nat.le_of_ble_eq_true rfl) rfl ?_
  refine J_aload_n C 0 dX6_init_11 rfl ?_
  refine J_bipush C dX6_init_12 (v := 9) rfl ?_
  refine J_newa C Y (ty := .int) 0 9 (9, .inl (fun _ => 0)) dX6_init_14 ur_int rfl rfl (fun _ => rfl) (by decide) rfl (by decide) (Nat.le_of_ble_eq_true rfl) (Nat.le_of_ble_eq_true rfl) (fun q14 => ?_)
  refine J_putF C Z 0 1 tyX6 (.array .int) ([(a, .inr (6, [.ref q6, .ref q14, .null, .null, .null, .int 0, .int 0])), (q6, .inl (K.2 0, 3, .inl (fun _ => 0))), (q14, .inl (K.2 0, 9, .inl (fun _ => 0)))]) dX6_init_16 inlX6 uf_X6_15 tyX6_ok nmX6 rfl (by decide) rfl rfl rfl rfl rfl rfl rfl (Nat.le_of_ble_eq_true rfl) rfl ?_
  refine J_aload_n C 0 dX6_init_19 rfl ?_
  refine J_new C Y 2 [.null, .null, .null, .null, .null, .null, .null, .null, .int 0] tyX2 dX6_init_20 inlX2 tyX2_ok ul_X6_18 ua_X2 un_X2 rfl (fun j hj => by rcases (show j = 0 ∨ j = 1 ∨ j = 2 ∨ j = 3 ∨ j = 4 ∨ j = 5 ∨ j = 6 ∨ j = 7 ∨ j = 8 by omega) with rfl | rfl | rfl | rfl | rfl | rfl | rfl | rfl | rfl <;> rfl) (Nat.le_of_ble_eq_true rfl) (Nat.le_of_ble_eq_true rfl) (fun q20 => ?_)
  refine J_dup C dX6_init_23 rfl ?_
  refine J_callIN (host := RX9) C Y kd_X2_init rfl ui_X2_init nw_1 (Ca.right _ (c_X2_init l K q20)) dX6_init_24 rfl rfl (by decide) (Nat.le_of_ble_eq_true rfl) (Nat.le_of_ble_eq_true rfl) (Nat.le_of_ble_eq_true rfl) (fun f20 => ?_)
  refine J_putF C Z 0 2 tyX6 (.object "RingOffices$Offices") ([(a, .inr (6, [.ref q6, .ref q14, .ref q20, .null, .null, .int 0, .int 0])), (q6, .inl (K.2 0, 3, .inl (fun _ => 0))), (q14, .inl (K.2 0, 9, .inl (fun _ => 0)))] ++ of_I K q20 f20) dX6_init_27 inlX6 uf_X6_21 tyX6_ok nmX6 rfl (by decide) rfl rfl rfl rfl rfl rfl rfl (Nat.le_of_ble_eq_true rfl) rfl ?_
  refine J_aload_n C 0 dX6_init_30 rfl ?_
  refine J_new C Y 8 [.null, .null, .null, .null, .null, .int 0, .int 0] tyX8 dX6_init_31 inlX8 tyX8_ok ul_X6_25 ua_X8 un_X8 rfl (fun j hj => by rcases (show j = 0 ∨ j = 1 ∨ j = 2 ∨ j = 3 ∨ j = 4 ∨ j = 5 ∨ j = 6 by omega) with rfl | rfl | rfl | rfl | rfl | rfl | rfl <;> rfl) (Nat.le_of_ble_eq_true rfl) (Nat.le_of_ble_eq_true rfl) (fun q31 => ?_)
  refine J_dup C dX6_init_34 rfl ?_
  refine J_callIN (host := RX9) C Y kd_X8_init rfl ui_X8_init nw_2 (Ca.right _ (c_X8_init l K q31)) dX6_init_35 rfl rfl (by decide) (Nat.le_of_ble_eq_true rfl) (Nat.le_of_ble_eq_true rfl) (Nat.le_of_ble_eq_true rfl) (fun f31 => ?_)
  refine J_putF C Z 0 3 tyX6 (.object "RingOffices$Tokens") ([(a, .inr (6, [.ref q6, .ref q14, .ref q20, .ref q31, .null, .int 0, .int 0])), (q6, .inl (K.2 0, 3, .inl (fun _ => 0))), (q14, .inl (K.2 0, 9, .inl (fun _ => 0)))] ++ of_I K q20 f20 ++ to_I K q31 f31) dX6_init_38 inlX6 uf_X6_28 tyX6_ok nmX6 rfl (by decide) rfl rfl rfl rfl rfl rfl rfl (Nat.le_of_ble_eq_true rfl) rfl ?_
  refine J_aload_n C 0 dX6_init_41 rfl ?_
  refine J_new C Y 1 [.null, .null, .null, .int 0, .int 0] tyX1 dX6_init_42 inlX1 tyX1_ok ul_X6_32 ua_X1 un_X1 rfl (fun j hj => by rcases (show j = 0 ∨ j = 1 ∨ j = 2 ∨ j = 3 ∨ j = 4 by omega) with rfl | rfl | rfl | rfl | rfl <;> rfl) (Nat.le_of_ble_eq_true rfl) (Nat.le_of_ble_eq_true rfl) (fun q42 => ?_)
  refine J_dup C dX6_init_45 rfl ?_
  refine J_callIN (host := RX9) C Y kd_X1_init rfl ui_X1_init nw_3 (Ca.right _ (c_X1_init l K q42)) dX6_init_46 rfl rfl (by decide) (Nat.le_of_ble_eq_true rfl) (Nat.le_of_ble_eq_true rfl) (Nat.le_of_ble_eq_true rfl) (fun f42 => ?_)
  refine J_putF C Z 0 4 tyX6 (.object "RingOffices$Log") ([(a, .inr (6, [.ref q6, .ref q14, .ref q20, .ref q31, .ref q42, .int 0, .int 0])), (q6, .inl (K.2 0, 3, .inl (fun _ => 0))), (q14, .inl (K.2 0, 9, .inl (fun _ => 0)))] ++ of_I K q20 f20 ++ to_I K q31 f31 ++ lg_I K q42 f42) dX6_init_49 inlX6 uf_X6_35 tyX6_ok nmX6 rfl (by decide) rfl rfl rfl rfl rfl rfl rfl (Nat.le_of_ble_eq_true rfl) rfl ?_
  exact J_vret C (dg [q6, q14, q20, f20 0, f20 1, f20 2, f20 3, f20 4, f20 5, f20 6, f20 7, q31, f31 0, f31 1, f31 2, f31 3, f31 4, q42, f42 0, f42 1, f42 2]) dX6_init_52 (Nat.le_of_ble_eq_true rfl) (Nat.le_of_ble_eq_true rfl) rfl
theorem kd_X7_init : Card yX7_init cX7_init 2 none 1 := ⟨uc_X7_init, un_X7, ⟨by decide, by decide, by decide⟩, by decide⟩
theorem c_X7_init (l : Launch) (K : gK) (a : Nat) {n : Int32} (N : Nat) (hn : 0 < n) (hN : n.toNatClampNeg = N) (hb : N * 1 ≤ 536870912) : Ca l K yX7_init cX7_init 2 1 1 N [.ref a, .int n] [(a, .inr (7, [.null, .int 0]))] (fun u => tx_W K (aU a u) N zS) := by
  refine Ca.of (own := RX7) (by decide) rfl rfl (Nat.le_of_ble_eq_true rfl) (fun Γ C Y Z => ?_)
  refine J_aload_n C 0 dX7_init_0 rfl ?_
  refine J_obj C dX7_init_1 um_X7_3 (by decide) (Nat.le_of_ble_eq_true rfl) ?_
  refine J_aload_n C 0 dX7_init_4 rfl ?_
  refine J_iload_n C 1 dX7_init_5 rfl ?_
  refine J_if_le_y C 13 hn dX7_init_6 rfl ?_
  refine J_iload_n C 1 dX7_init_9 rfl ?_
  refine J_goto C 14 dX7_init_10 rfl ?_
  refine J_newa C Y (ty := .byte) 1 N (N, .inl (fun _ => 0)) dX7_init_14 ur_byte rfl rfl (fun _ => rfl) (fun h => absurd hn (Int32.not_lt.mpr (Int32.le_of_lt h))) hN hb (Nat.le_refl _) (by omega) (fun q14 => ?_)
  refine J_putF C Z 0 0 tyX7 (.array .byte) ([(a, .inr (7, [.ref q14, .int 0])), (q14, .inl (K.2 1, N, .inl (fun _ => 0)))]) dX7_init_16 inlX7 uf_X7_9 tyX7_ok nmX7 rfl (by decide) rfl rfl rfl rfl rfl rfl rfl (Nat.le_of_ble_eq_true rfl) rfl ?_
  exact J_vret C (dg [q14]) dX7_init_19 (Nat.le_refl _) (by omega) rfl
theorem kd_X3_init : Card yX3_init cX3_init 1 none 0 := ⟨uc_X3_init, un_X3, ⟨by decide, by decide, by decide⟩, by decide⟩
def sn_I (K : gK) (a : Nat) (f : Nat → Nat) : va_W := [(a, .inr (3, [.ref (f 0), .int 0, .int 0, .int 0, .int 0]))] ++ tx_W K f 1200 zS
theorem c_X3_init (l : Launch) (K : gK) (a : Nat) : Ca l K yX3_init cX3_init 1 2 2 1202 [.ref a] [(a, .inr (3, [.null, .int 0, .int 0, .int 0, .int 0]))] (sn_I K a) := by
  refine Ca.of (own := RX3) (by decide) rfl rfl (Nat.le_of_ble_eq_true rfl) (fun Γ C Y Z => ?_)
  refine J_aload_n C 0 dX3_init_0 rfl ?_
  refine J_obj C dX3_init_1 um_X3_3 (by decide) (Nat.le_of_ble_eq_true rfl) ?_
  refine J_aload_n C 0 dX3_init_4 rfl ?_
  refine J_new C Y 7 [.null, .int 0] tyX7 dX3_init_5 inlX7 tyX7_ok ul_X3_9 ua_X7 un_X7 rfl (fun j hj => by rcases (show j = 0 ∨ j = 1 by omega) with rfl | rfl <;> rfl) (Nat.le_of_ble_eq_true rfl) (Nat.le_of_ble_eq_true rfl) (fun q5 => ?_)
  refine J_dup C dX3_init_8 rfl ?_
  refine J_sipush C dX3_init_9 (v := 1200) rfl ?_
  refine J_callI (host := "") C Y kd_X7_init rfl ui_X7_init um_X3_11 (Ca.right _ (c_X7_init l K q5 (n := 1200) 1200 (by decide) rfl (by decide))) dX3_init_12 rfl rfl (by decide) (Nat.le_of_ble_eq_true rfl) (Nat.le_of_ble_eq_true rfl) (Nat.le_of_ble_eq_true rfl) (fun f5 => ?_)
  refine J_putF C Z 0 0 tyX3 (.object "RingOffices$Text") ([(a, .inr (3, [.ref q5, .int 0, .int 0, .int 0, .int 0]))] ++ tx_W K (aU q5 f5) 1200 zS) dX3_init_15 inlX3 uf_X3_14 tyX3_ok nmX3 rfl (by decide) rfl rfl rfl rfl rfl rfl rfl (Nat.le_of_ble_eq_true rfl) rfl ?_
  exact J_vret C (dg [q5, f5 0]) dX3_init_18 (Nat.le_of_ble_eq_true rfl) (Nat.le_of_ble_eq_true rfl) rfl
theorem kd_X4_init : Card yX4_init cX4_init 1 none 0 := ⟨uc_X4_init, un_X4, ⟨by decide, by decide, by decide⟩, by decide⟩
def pt_A (a : Nat) (u : Nat × (Nat → Nat)) : Nat → Nat := fun k => match k with
  | 0 => u.2 0
  | 1 => u.2 1
  | 2 => u.1
  | _ => a
theorem c_X4_init (l : Launch) (K : gK) (a : Nat) : Ca l K yX4_init cX4_init 1 3 25 1562 [.ref a] [(a, .inr (4, [.null, .null, .int 0]))] (fun u : (Nat × (Nat → Nat)) × (Nat → Nat) => pa_W K (pt_A a u.1) u.2 zS (fun _ => 0, 0, zS)) := by
  refine Ca.of (own := RX4) (by decide) rfl rfl (Nat.le_of_ble_eq_true rfl) (fun Γ C Y Z => ?_)
  refine J_aload_n C 0 dX4_init_0 rfl ?_
  refine J_obj C dX4_init_1 um_X4_3 (by decide) (Nat.le_of_ble_eq_true rfl) ?_
  refine J_aload_n C 0 dX4_init_4 rfl ?_
  refine J_new C Y 3 [.null, .int 0, .int 0, .int 0, .int 0] tyX3 dX4_init_5 inlX3 tyX3_ok ul_X4_9 ua_X3 un_X3 rfl (fun j hj => by rcases (show j = 0 ∨ j = 1 ∨ j = 2 ∨ j = 3 ∨ j = 4 by omega) with rfl | rfl | rfl | rfl | rfl <;> rfl) (Nat.le_of_ble_eq_true rfl) (Nat.le_of_ble_eq_true rfl) (fun q5 => ?_)
  refine J_dup C dX4_init_8 rfl ?_
  refine J_callIN (host := RX9) C Y kd_X3_init rfl ui_X3_init nw_7 (Ca.right _ (c_X3_init l K q5)) dX4_init_9 rfl rfl (by decide) (Nat.le_of_ble_eq_true rfl) (Nat.le_of_ble_eq_true rfl) (Nat.le_of_ble_eq_true rfl) (fun f5 => ?_)
  refine J_putF C Z 0 0 tyX4 (.object "RingOffices$Scanner") ([(a, .inr (4, [.ref q5, .null, .int 0]))] ++ sn_I K q5 f5) dX4_init_12 inlX4 uf_X4_12 tyX4_ok nmX4 rfl (by decide) rfl rfl rfl rfl rfl rfl rfl (Nat.le_of_ble_eq_true rfl) rfl ?_
  refine J_aload_n C 0 dX4_init_15 rfl ?_
  refine J_new C Y 6 [.null, .null, .null, .null, .null, .int 0, .int 0] tyX6 dX4_init_16 inlX6 tyX6_ok ul_X4_18 ua_X6 un_X6 rfl (fun j hj => by rcases (show j = 0 ∨ j = 1 ∨ j = 2 ∨ j = 3 ∨ j = 4 ∨ j = 5 ∨ j = 6 by omega) with rfl | rfl | rfl | rfl | rfl | rfl | rfl <;> rfl) (Nat.le_of_ble_eq_true rfl) (Nat.le_of_ble_eq_true rfl) (fun q16 => ?_)
  refine J_dup C dX4_init_19 rfl ?_
  refine J_callIN (host := RX9) C Y kd_X6_init rfl ui_X6_init nw_8 (Ca.right _ (c_X6_init l K q16)) dX4_init_20 rfl rfl (by decide) (Nat.le_of_ble_eq_true rfl) (Nat.le_of_ble_eq_true rfl) (Nat.le_of_ble_eq_true rfl) (fun f16 => ?_)
  refine J_putF C Z 0 1 tyX4 (.object "RingOffices$State") ([(a, .inr (4, [.ref q5, .ref q16, .int 0]))] ++ sn_I K q5 f5 ++ st_W K (aU q16 f16) zS) dX4_init_23 inlX4 uf_X4_21 tyX4_ok nmX4 rfl (by decide) rfl rfl rfl rfl rfl rfl rfl (Nat.le_of_ble_eq_true rfl) rfl ?_
  exact J_vret C ((q5, f5), aU q16 f16) dX4_init_26 (Nat.le_of_ble_eq_true rfl) (Nat.le_of_ble_eq_true rfl) rfl
theorem hd_perm (x y z : va_W) : ((x ++ y) ++ z).Perm ((x ++ z) ++ y) := by
  rw [List.append_assoc, List.append_assoc]
  exact List.Perm.append_left x List.perm_append_comm
theorem iN_vp {i n : Nat} (h : i < n) (hn : n < 100000) : vp_in (iN i) n := by
  rintro (q | q)
  · exact iN_neg (by omega) q
  · rw [show Int32.toNatClampNeg (iN i) = i from iN_nat (by omega)] at q
    omega
def hB (B : Nat → Nat → Nat) (i : Nat) : Nat → Option Nat := fun j => if j < i then some (B j 0) else none
theorem hB_step (B : Nat → Nat → Nat) (i q : Nat) (f : Nat → Nat) : va_up (hB B i) i (some q) = hB (fun j => if j = i then aU q f else B j) (i + 1) := by
  funext j
  unfold va_up hB
  by_cases h : j = i
  · subst h
    rw [if_pos rfl, if_pos (Nat.lt_succ_self _)]
    show some q = some ((if j = j then aU q f else B j) 0)
    rw [if_pos rfl]
    rfl
  · rw [if_neg h]
    by_cases h2 : j < i
    · rw [if_pos h2, if_pos (by omega)]
      show some (B j 0) = some ((if j = i then aU q f else B j) 0)
      rw [if_neg h]
    · rw [if_neg h2, if_neg (by omega)]
def hS (K : gK) (B : Nat → Nat → Nat) (i : Nat) : va_W := ((List.range i).map (fun j => st_W K (B j) zS)).flatten
theorem hS_step (K : gK) (B : Nat → Nat → Nat) (i q : Nat) (f : Nat → Nat) : hS K (fun j => if j = i then aU q f else B j) (i + 1) = hS K B i ++ st_W K (aU q f) zS := by
  unfold hS
  rw [List.range_succ, List.map_append, List.flatten_append]
  congr 1
  · congr 1
    apply List.map_congr_left
    intro j hj
    have := List.mem_range.mp hj
    show st_W K (if j = i then aU q f else B j) zS = st_W K (B j) zS
    rw [if_neg (by omega)]
  · simp
def hX0' (K : gK) (a r z : Nat) (g : Nat → Option Nat) : va_W := [(a, .inr (0, [.ref r, .int 0, .int 0])), (r, .inl (K.2 3, 8, .inr (.inr (.inr (.inr g)))))]
def hX0'' (B : Nat → Nat → Nat) (i q : Nat) : Nat → Option Nat := va_up (hB B i) i (some q)
def hX0 (K : gK) (a r z : Nat) (B : Nat → Nat → Nat) (i : Nat) : va_W := hX0' K a r z (hB B i) ++ hS K B i
theorem hd_stepX0 (K : gK) (a r z : Nat) (B : Nat → Nat → Nat) (i q : Nat) (f : Nat → Nat) : hX0 K a r z (fun j => if j = i then aU q f else B j) (i + 1) = hX0' K a r z (hX0'' B i q) ++ hS K B i ++ st_W K (aU q f) zS := by
  unfold hX0 hX0''
  rw [hS_step, ← hB_step, List.append_assoc]
def hX5' (K : gK) (a r z : Nat) (g : Nat → Option Nat) : va_W := [(a, .inr (5, [.ref r, .ref z])), (r, .inl (K.2 3, 2, .inr (.inr (.inr (.inr g))))), (z, .inl (K.2 2, 2, .inl (fun _ => 0)))]
def hX5'' (B : Nat → Nat → Nat) (i q : Nat) : Nat → Option Nat := va_up (hB B i) i (some q)
def hX5 (K : gK) (a r z : Nat) (B : Nat → Nat → Nat) (i : Nat) : va_W := hX5' K a r z (hB B i) ++ hS K B i
theorem hd_stepX5 (K : gK) (a r z : Nat) (B : Nat → Nat → Nat) (i q : Nat) (f : Nat → Nat) : hX5 K a r z (fun j => if j = i then aU q f else B j) (i + 1) = hX5' K a r z (hX5'' B i q) ++ hS K B i ++ st_W K (aU q f) zS := by
  unfold hX5 hX5''
  rw [hS_step, ← hB_step, List.append_assoc]
theorem kd_X0_init : Card yX0_init cX0_init 2 none 0 := ⟨uc_X0_init, un_X0, ⟨by decide, by decide, by decide⟩, by decide⟩
theorem kd_X5_init : Card yX5_init cX5_init 2 none 0 := ⟨uc_X5_init, un_X5, ⟨by decide, by decide, by decide⟩, by decide⟩
theorem g_X0_loop {l : Launch} {K : gK} {Γ : gT} {Q : State → Prop} {a r z : Nat} (C : Cx l K Γ RX0 cX0_init 2 none 3) (Y : Cy Γ 177 2848) (kf : ∀ B, J l K Γ Q 177 2848 (hX0 K a r z B 8) 40 2 [(1, .int 8), (0, .ref a)] []) : ∀ d i (B : Nat → Nat → Nat), i + d = 8 → J l K Γ Q (1 + i * 22) (8 + i * 355) (hX0 K a r z B i) 15 2 [(1, .int (iN i)), (0, .ref a)] [] := by
  intro d
  induction d with
  | zero =>
    intro i B e
    have ei : i = 8 := by omega
    subst ei
    refine J_iload_n C 0 dX0_init_15 rfl ?_
    refine J_bipush C dX0_init_16 (v := 8) rfl ?_
    refine J_icmp_ge_n C 40 (by decide) dX0_init_18 rfl ?_
    exact kf B
  | succ d ih =>
    intro i B e
    refine J_iload_n C 0 dX0_init_15 rfl ?_
    refine J_bipush C dX0_init_16 (v := 8) rfl ?_
    refine J_icmp_ge_y C 40 (show iN i < 8 from iN_ylt (b := 8) (by omega) (by decide)) dX0_init_18 rfl ?_
    refine J_aload_n C 1 dX0_init_21 rfl ?_
    refine J_get C 0 0 dX0_init_22 inlX0 uf_X0_11 rfl (by decide) rfl rfl rfl ?_
    refine J_iload_n C 0 dX0_init_25 rfl ?_
    refine J_new C Y 6 [.null, .null, .null, .null, .null, .int 0, .int 0] tyX6 dX0_init_26 inlX6 tyX6_ok ul_X0_9 ua_X6 un_X6 rfl (fun j hj => by rcases (show j = 0 ∨ j = 1 ∨ j = 2 ∨ j = 3 ∨ j = 4 ∨ j = 5 ∨ j = 6 by omega) with rfl | rfl | rfl | rfl | rfl | rfl | rfl <;> rfl) (by omega) (by omega) (fun q => ?_)
    refine J_dup C dX0_init_29 rfl ?_
    refine J_callIN (host := RX9) C Y kd_X6_init rfl ui_X6_init nw_4 (Ca.right _ (c_X6_init l K q)) dX0_init_30 rfl rfl (by decide) (Nat.le_of_ble_eq_true rfl) (by omega) (by omega) (fun f => ?_)
    refine J_perm (hd_perm _ _ _) ?_
    refine J_astq C 1 2 (hX0' K a r z (hX0'' B i q) ++ st_W K (aU q f) zS ++ ((List.range i).map (fun j => st_W K (B j) zS)).flatten) dX0_init_33 rfl rfl (by exact iN_vp (by omega) (by decide)) (by rw [show Int32.toNatClampNeg (iN i) = i from iN_nat (by omega)]; rfl) ?_
    refine J_perm (hd_perm _ _ _).symm ?_
    refine J_iinc C 0 dX0_init_34 rfl (w := iN (i + 1)) (iN_s i) (by decide) rfl ?_
    refine J_goto C 15 dX0_init_37 rfl ?_
    have h := ih (i + 1) (fun j => if j = i then aU q f else B j) (by omega)
    rw [hd_stepX0] at h
    have e1 : 1 + (i + 1) * 22 = 1 + i * 22 + 1 + 21 := by omega
    have e2 : 8 + (i + 1) * 355 = 8 + i * 355 + 7 + 348 := by omega
    rw [e1, e2] at h
    exact h
theorem g_X5_loop {l : Launch} {K : gK} {Γ : gT} {Q : State → Prop} {a r z : Nat} (C : Cx l K Γ RX5 cX5_init 2 none 3) (Y : Cy Γ 46 714) (kf : ∀ B, J l K Γ Q 46 714 (hX5 K a r z B 2) 45 2 [(1, .int 2), (0, .ref a)] []) : ∀ d i (B : Nat → Nat → Nat), i + d = 2 → J l K Γ Q (2 + i * 22) (4 + i * 355) (hX5 K a r z B i) 21 2 [(1, .int (iN i)), (0, .ref a)] [] := by
  intro d
  induction d with
  | zero =>
    intro i B e
    have ei : i = 2 := by omega
    subst ei
    refine J_iload_n C 0 dX5_init_21 rfl ?_
    refine J_iconst C dX5_init_22 (v := 2) rfl ?_
    refine J_icmp_ge_n C 45 (by decide) dX5_init_23 rfl ?_
    exact kf B
  | succ d ih =>
    intro i B e
    refine J_iload_n C 0 dX5_init_21 rfl ?_
    refine J_iconst C dX5_init_22 (v := 2) rfl ?_
    refine J_icmp_ge_y C 45 (show iN i < 2 from iN_ylt (b := 2) (by omega) (by decide)) dX5_init_23 rfl ?_
    refine J_aload_n C 1 dX5_init_26 rfl ?_
    refine J_get C 0 0 dX5_init_27 inlX5 uf_X5_11 rfl (by decide) rfl rfl rfl ?_
    refine J_iload_n C 0 dX5_init_30 rfl ?_
    refine J_new C Y 6 [.null, .null, .null, .null, .null, .int 0, .int 0] tyX6 dX5_init_31 inlX6 tyX6_ok ul_X5_9 ua_X6 un_X6 rfl (fun j hj => by rcases (show j = 0 ∨ j = 1 ∨ j = 2 ∨ j = 3 ∨ j = 4 ∨ j = 5 ∨ j = 6 by omega) with rfl | rfl | rfl | rfl | rfl | rfl | rfl <;> rfl) (by omega) (by omega) (fun q => ?_)
    refine J_dup C dX5_init_34 rfl ?_
    refine J_callIN (host := RX9) C Y kd_X6_init rfl ui_X6_init nw_5 (Ca.right _ (c_X6_init l K q)) dX5_init_35 rfl rfl (by decide) (Nat.le_of_ble_eq_true rfl) (by omega) (by omega) (fun f => ?_)
    refine J_perm (hd_perm _ _ _) ?_
    refine J_astq C 1 3 (hX5' K a r z (hX5'' B i q) ++ st_W K (aU q f) zS ++ ((List.range i).map (fun j => st_W K (B j) zS)).flatten) dX5_init_38 rfl rfl (by exact iN_vp (by omega) (by decide)) (by rw [show Int32.toNatClampNeg (iN i) = i from iN_nat (by omega)]; rfl) ?_
    refine J_perm (hd_perm _ _ _).symm ?_
    refine J_iinc C 0 dX5_init_39 rfl (w := iN (i + 1)) (iN_s i) (by decide) rfl ?_
    refine J_goto C 21 dX5_init_42 rfl ?_
    have h := ih (i + 1) (fun j => if j = i then aU q f else B j) (by omega)
    rw [hd_stepX5] at h
    have e1 : 2 + (i + 1) * 22 = 2 + i * 22 + 1 + 21 := by omega
    have e2 : 4 + (i + 1) * 355 = 4 + i * 355 + 7 + 348 := by omega
    rw [e1, e2] at h
    exact h
theorem arrV_cong {cA : ClassId} {n : Nat} {f g : Nat → Value} (h : ∀ i, i < n → f i = g i) : arrV cA n f = arrV cA n g := by
  unfold arrV
  congr 2
  funext j
  exact h j.val j.isLt
theorem J_ext1 {l : Launch} {K : gK} {Γ : gT} {Q : State → Prop} {cs ss pc nL r n : Nat} {lv : List (Nat × Value)} {st : List Value} {c : Nat × va_E} {cA : ClassId} {g g' : Nat → Option Nat} {v : va_W} (h : ∀ i, i < n → g i = g' i) (k : J l K Γ Q cs ss (c :: (r, .inl (cA, n, .inr (.inr (.inr (.inr g'))))) :: v) pc nL lv st) : J l K Γ Q cs ss (c :: (r, .inl (cA, n, .inr (.inr (.inr (.inr g))))) :: v) pc nL lv st := by
  obtain ⟨p, e, R, s, m, args, below, meth, cm, A⟩ := Γ
  intro H locs ls hP hD hS hl
  refine k H locs ls ?_ ?_ hS hl
  · intro i q hi
    match i, hi with
    | 0, hi => exact hP 0 q hi
    | 1, hi =>
      cases hi
      have h1 : H[r]? = some (vp_cell cA (n, .inr (.inr (.inr (.inr g))))) := hP 1 _ rfl
      show H[r]? = some (vp_cell cA (n, .inr (.inr (.inr (.inr g')))))
      rw [h1, vp_cell_q, vp_cell_q, arrV_cong (fun i hi => by rw [h i hi])]
    | i + 2, hi => exact hP (i + 2) q hi
  · rw [va_D_iff] at hD ⊢
    refine ⟨hD.1, fun q hq => ?_⟩
    rcases List.mem_cons.mp hq with rfl | hq
    · exact hD.2 _ List.mem_cons_self
    · rcases List.mem_cons.mp hq with rfl | hq
      · exact hD.2 (r, .inl (cA, n, .inr (.inr (.inr (.inr g))))) (List.mem_cons_of_mem _ List.mem_cons_self)
      · exact hD.2 q (List.mem_cons_of_mem _ (List.mem_cons_of_mem _ hq))
def hi_I (K : gK) (a r : Nat) (B : Nat → Nat → Nat) : va_W := hX0' K a r 0 (fun i => some (B i 0)) ++ hS K B 8
def sl_I (K : gK) (a r z : Nat) (B : Nat → Nat → Nat) : va_W := hX5' K a r z (fun i => some (B i 0)) ++ hS K B 2
theorem c_X0_init (l : Launch) (K : gK) (a : Nat) : Ca l K yX0_init cX0_init 2 3 177 2848 [.ref a] [(a, .inr (0, [.null, .int 0, .int 0]))] (fun u : Nat × (Nat → Nat → Nat) => hi_I K a u.1 u.2) := by
  refine Ca.of (own := RX0) (by decide) rfl rfl (Nat.le_of_ble_eq_true rfl) (fun Γ C Y Z => ?_)
  refine J_aload_n C 0 dX0_init_0 rfl ?_
  refine J_obj C dX0_init_1 um_X0_3 (by decide) (Nat.le_of_ble_eq_true rfl) ?_
  refine J_aload_n C 0 dX0_init_4 rfl ?_
  refine J_bipush C dX0_init_5 (v := 8) rfl ?_
  refine J_newq C Y 8 dX0_init_7 ul_X0_9 (by decide) rfl (by decide) (Nat.le_of_ble_eq_true rfl) (Nat.le_of_ble_eq_true rfl) (fun r => ?_)
  refine J_putF C Z 0 0 tyX0 (.array (.object "RingOffices$State")) (hX0 K a r 0 (fun _ _ => 0) 0) dX0_init_10 inlX0 uf_X0_11 tyX0_ok nmX0 rfl (by decide) rfl rfl rfl rfl rfl rfl rfl (Nat.le_of_ble_eq_true rfl) rfl ?_
  refine J_iconst C dX0_init_13 (v := 0) rfl ?_
  refine J_istore_n C dX0_init_14 (by decide) rfl ?_
  exact g_X0_loop C Y (fun B => J_ext1 (fun i hi => if_pos hi) (J_vret C (r, B) dX0_init_40 (Nat.le_refl _) (Nat.le_refl _) rfl)) 8 0 (fun _ _ => 0) rfl
theorem c_X5_init (l : Launch) (K : gK) (a : Nat) : Ca l K yX5_init cX5_init 2 3 46 714 [.ref a] [(a, .inr (5, [.null, .null]))] (fun u : (Nat × Nat) × (Nat → Nat → Nat) => sl_I K a u.1.1 u.1.2 u.2) := by
  refine Ca.of (own := RX5) (by decide) rfl rfl (Nat.le_of_ble_eq_true rfl) (fun Γ C Y Z => ?_)
  refine J_aload_n C 0 dX5_init_0 rfl ?_
  refine J_obj C dX5_init_1 um_X5_3 (by decide) (Nat.le_of_ble_eq_true rfl) ?_
  refine J_aload_n C 0 dX5_init_4 rfl ?_
  refine J_iconst C dX5_init_5 (v := 2) rfl ?_
  refine J_newq C Y 2 dX5_init_6 ul_X5_9 (by decide) rfl (by decide) (Nat.le_of_ble_eq_true rfl) (Nat.le_of_ble_eq_true rfl) (fun r => ?_)
  refine J_putF C Z 0 0 tyX5 (.array (.object "RingOffices$State")) ([(a, .inr (5, [.ref r, .null])), (r, .inl (K.2 3, 2, .inr (.inr (.inr (.inr (fun _ => none))))))]) dX5_init_9 inlX5 uf_X5_11 tyX5_ok nmX5 rfl (by decide) rfl rfl rfl rfl rfl rfl rfl (Nat.le_of_ble_eq_true rfl) rfl ?_
  refine J_aload_n C 0 dX5_init_12 rfl ?_
  refine J_iconst C dX5_init_13 (v := 2) rfl ?_
  refine J_newa C Y (ty := .boolean) 2 2 (2, .inl (fun _ => 0)) dX5_init_14 ur_boolean rfl rfl (fun _ => rfl) (by decide) rfl (by decide) (Nat.le_of_ble_eq_true rfl) (Nat.le_of_ble_eq_true rfl) (fun z => ?_)
  refine J_putF C Z 0 1 tyX5 (.array .boolean) (hX5 K a r z (fun _ _ => 0) 0) dX5_init_16 inlX5 uf_X5_17 tyX5_ok nmX5 rfl (by decide) rfl rfl rfl rfl rfl rfl rfl (Nat.le_of_ble_eq_true rfl) rfl ?_
  refine J_iconst C dX5_init_19 (v := 0) rfl ?_
  refine J_istore_n C dX5_init_20 (by decide) rfl ?_
  exact g_X5_loop C Y (fun B => J_ext1 (fun i hi => if_pos hi) (J_vret C ((r, z), B) dX5_init_45 (Nat.le_refl _) (Nat.le_refl _) rfl)) 2 0 (fun _ _ => 0) rfl
