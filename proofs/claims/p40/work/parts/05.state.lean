-- PART 05: the small functions without a world; Offices, Tokens, Log, State (by gen/mkstate.py)
theorem kd_X9_isWithin : Card yX9_isWithin cX9_isWithin 3 (some .boolean) 3 := ⟨uc_X9_isWithin, un_X9, ⟨by decide, by decide, by decide⟩, by decide⟩
def v_X9_isWithin (x0 : Int32) (x1 : Int32) (x2 : Int32) : Int32 := if x0 < x1 then 0 else if x2 < x0 then 0 else 1
theorem c_X9_isWithin (l : Launch) (K : gK) (ws : va_W) (x0 : Int32) (x1 : Int32) (x2 : Int32) : Ct l K yX9_isWithin cX9_isWithin 3 (some .boolean) 0 [.int x0, .int x1, .int x2] (ws) (some (.int (v_X9_isWithin x0 x1 x2)), ws) := by
  refine Ct.of (own := RX9) (fun z => (some (.int z), ws)) (x := v_X9_isWithin x0 x1 x2) (by decide) rfl (Nat.le_of_ble_eq_true rfl) (fun Γ C => ?_)
  unfold v_X9_isWithin
  refine G_iload_n C 0 dX9_isWithin_0 rfl ?_
  refine G_iload_n C 1 dX9_isWithin_1 rfl ?_
  refine G_icmp_lt C 14 dX9_isWithin_2 rfl (fun h1 => ?_) (fun h1 => ?_)
  · refine G_iconst C dX9_isWithin_14 (v := 0) rfl ?_
    exact G_zret C dX9_isWithin_15 rfl rfl
  · refine G_iload_n C 0 dX9_isWithin_5 rfl ?_
    refine G_iload_n C 2 dX9_isWithin_6 rfl ?_
    refine G_icmp_gt C 14 dX9_isWithin_7 rfl (fun h2 => ?_) (fun h2 => ?_)
    · refine G_iconst C dX9_isWithin_14 (v := 0) rfl ?_
      exact G_zret C dX9_isWithin_15 rfl rfl
    · refine G_iconst C dX9_isWithin_10 (v := 1) rfl ?_
      refine G_goto C 15 dX9_isWithin_11 rfl ?_
      exact G_zret C dX9_isWithin_15 rfl rfl
theorem bz_X9_isWithin (x0 : Int32) (x1 : Int32) (x2 : Int32) : narrow .boolean (.int (v_X9_isWithin x0 x1 x2)) = .int (v_X9_isWithin x0 x1 x2) := by
  unfold v_X9_isWithin
  repeat' split
  all_goals first | rfl | exact bz_X9_isWithin ..
theorem kd_X9_mostOfRule : Card yX9_mostOfRule cX9_mostOfRule 1 (some .int) 1 := ⟨uc_X9_mostOfRule, un_X9, ⟨by decide, by decide, by decide⟩, by decide⟩
def v_X9_mostOfRule (x0 : Int32) : Int32 := if x0 = 0 then 20 else if x0 = 1 then 99 else if x0 = 2 then 60 else 0
theorem c_X9_mostOfRule (l : Launch) (K : gK) (ws : va_W) (x0 : Int32) : Ct l K yX9_mostOfRule cX9_mostOfRule 1 (some .int) 0 [.int x0] (ws) (some (.int (v_X9_mostOfRule x0)), ws) := by
  refine Ct.of (own := RX9) (fun z => (some (.int z), ws)) (x := v_X9_mostOfRule x0) (by decide) rfl (Nat.le_of_ble_eq_true rfl) (fun Γ C => ?_)
  unfold v_X9_mostOfRule
  refine G_iload_n C 0 dX9_mostOfRule_0 rfl ?_
  refine G_ite (fun h1 => ?_) (fun h1 => ?_)
  · refine G_tswIn (v := 0) C 28 0 dX9_mostOfRule_1 h1 rfl (by decide) rfl rfl ?_
    refine G_bipush C dX9_mostOfRule_28 (v := 20) rfl ?_
    exact G_iret C dX9_mostOfRule_30 rfl
  · skip
    refine G_ite (fun h2 => ?_) (fun h2 => ?_)
    · refine G_tswIn (v := 1) C 31 1 dX9_mostOfRule_1 h2 rfl (by decide) rfl rfl ?_
      refine G_bipush C dX9_mostOfRule_31 (v := 99) rfl ?_
      exact G_iret C dX9_mostOfRule_33 rfl
    · skip
      refine G_ite (fun h3 => ?_) (fun h3 => ?_)
      · refine G_tswIn (v := 2) C 34 2 dX9_mostOfRule_1 h3 rfl (by decide) rfl rfl ?_
        refine G_bipush C dX9_mostOfRule_34 (v := 60) rfl ?_
        exact G_iret C dX9_mostOfRule_36 rfl
      · skip
        refine G_tswOut C 37 dX9_mostOfRule_1 (by have q0 := i32_ne h1 (n := 0) rfl; have q1 := i32_ne h2 (n := 1) rfl; have q2 := i32_ne h3 (n := 2) rfl; omega) rfl ?_
        refine G_iconst C dX9_mostOfRule_37 (v := 0) rfl ?_
        exact G_iret C dX9_mostOfRule_38 rfl
theorem kd_X9_isRule : Card yX9_isRule cX9_isRule 2 (some .boolean) 2 := ⟨uc_X9_isRule, un_X9, ⟨by decide, by decide, by decide⟩, by decide⟩
def v_X9_isRule (x0 : Int32) (x1 : Int32) : Int32 := v_X9_isWithin x1 1 (v_X9_mostOfRule x0)
theorem c_X9_isRule (l : Launch) (K : gK) (ws : va_W) (x0 : Int32) (x1 : Int32) : Ct l K yX9_isRule cX9_isRule 2 (some .boolean) 1 [.int x0, .int x1] (ws) (some (.int (v_X9_isRule x0 x1)), ws) := by
  refine Ct.of (own := RX9) (fun z => (some (.int z), ws)) (x := v_X9_isRule x0 x1) (by decide) rfl (Nat.le_of_ble_eq_true rfl) (fun Γ C => ?_)
  unfold v_X9_isRule
  refine G_iload_n C 1 dX9_isRule_0 rfl ?_
  refine G_iconst C dX9_isRule_1 (v := 1) rfl ?_
  refine G_iload_n C 0 dX9_isRule_2 rfl ?_
  refine G_callSi C kd_X9_mostOfRule ut_X9_mostOfRule um_X9_302 (c_X9_mostOfRule l K (ws) x0) dX9_isRule_3 rfl rfl (Nat.le_of_ble_eq_true rfl) (Nat.le_of_ble_eq_true rfl) ?_
  refine G_callSi C kd_X9_isWithin ut_X9_isWithin um_X9_102 (c_X9_isWithin l K (ws) x1 1 (v_X9_mostOfRule x0)) dX9_isRule_6 rfl rfl (Nat.le_of_ble_eq_true rfl) (Nat.le_of_ble_eq_true rfl) ?_
  exact G_zret C dX9_isRule_9 (bz_X9_isWithin ..) rfl
theorem bz_X9_isRule (x0 : Int32) (x1 : Int32) : narrow .boolean (.int (v_X9_isRule x0 x1)) = .int (v_X9_isRule x0 x1) := by
  unfold v_X9_isRule
  repeat' split
  all_goals first | rfl | exact bz_X9_isWithin ..
theorem kd_X9_isForesight : Card yX9_isForesight cX9_isForesight 2 (some .boolean) 2 := ⟨uc_X9_isForesight, un_X9, ⟨by decide, by decide, by decide⟩, by decide⟩
def v_X9_isForesight (x0 : Int32) (x1 : Int32) : Int32 := if (v_X9_isWithin x0 0 300) = 0 then 0 else if (v_X9_isWithin x1 0 5) = 0 then 0 else 1
theorem c_X9_isForesight (l : Launch) (K : gK) (ws : va_W) (x0 : Int32) (x1 : Int32) : Ct l K yX9_isForesight cX9_isForesight 2 (some .boolean) 1 [.int x0, .int x1] (ws) (some (.int (v_X9_isForesight x0 x1)), ws) := by
  refine Ct.of (own := RX9) (fun z => (some (.int z), ws)) (x := v_X9_isForesight x0 x1) (by decide) rfl (Nat.le_of_ble_eq_true rfl) (fun Γ C => ?_)
  unfold v_X9_isForesight
  refine G_iload_n C 0 dX9_isForesight_0 rfl ?_
  refine G_iconst C dX9_isForesight_1 (v := 0) rfl ?_
  refine G_sipush C dX9_isForesight_2 (v := 300) rfl ?_
  refine G_callSi C kd_X9_isWithin ut_X9_isWithin um_X9_102 (c_X9_isWithin l K (ws) x0 0 300) dX9_isForesight_5 rfl rfl (Nat.le_of_ble_eq_true rfl) (Nat.le_of_ble_eq_true rfl) ?_
  refine G_if_eq C 24 dX9_isForesight_8 rfl (fun h1 => ?_) (fun h1 => ?_)
  · refine G_iconst C dX9_isForesight_24 (v := 0) rfl ?_
    exact G_zret C dX9_isForesight_25 rfl rfl
  · refine G_iload_n C 1 dX9_isForesight_11 rfl ?_
    refine G_iconst C dX9_isForesight_12 (v := 0) rfl ?_
    refine G_iconst C dX9_isForesight_13 (v := 5) rfl ?_
    refine G_callSi C kd_X9_isWithin ut_X9_isWithin um_X9_102 (c_X9_isWithin l K (ws) x1 0 5) dX9_isForesight_14 rfl rfl (Nat.le_of_ble_eq_true rfl) (Nat.le_of_ble_eq_true rfl) ?_
    refine G_if_eq C 24 dX9_isForesight_17 rfl (fun h2 => ?_) (fun h2 => ?_)
    · refine G_iconst C dX9_isForesight_24 (v := 0) rfl ?_
      exact G_zret C dX9_isForesight_25 rfl rfl
    · refine G_iconst C dX9_isForesight_20 (v := 1) rfl ?_
      refine G_goto C 25 dX9_isForesight_21 rfl ?_
      exact G_zret C dX9_isForesight_25 rfl rfl
theorem bz_X9_isForesight (x0 : Int32) (x1 : Int32) : narrow .boolean (.int (v_X9_isForesight x0 x1)) = .int (v_X9_isForesight x0 x1) := by
  unfold v_X9_isForesight
  repeat' split
  all_goals first | rfl | exact bz_X9_isWithin ..
theorem kd_X9_countTold : Card yX9_countTold cX9_countTold 1 (some .int) 1 := ⟨uc_X9_countTold, un_X9, ⟨by decide, by decide, by decide⟩, by decide⟩
def v_X9_countTold (x0 : Int32) : Int32 := if x0 = 0 then 1 else if x0 = 1 then 2 else if x0 = 2 then 8 else if x0 = 3 then 4 else if x0 = 4 then 7 else 4
theorem c_X9_countTold (l : Launch) (K : gK) (ws : va_W) (x0 : Int32) : Ct l K yX9_countTold cX9_countTold 1 (some .int) 0 [.int x0] (ws) (some (.int (v_X9_countTold x0)), ws) := by
  refine Ct.of (own := RX9) (fun z => (some (.int z), ws)) (x := v_X9_countTold x0) (by decide) rfl (Nat.le_of_ble_eq_true rfl) (fun Γ C => ?_)
  unfold v_X9_countTold
  refine G_iload_n C 0 dX9_countTold_0 rfl ?_
  refine G_ite (fun h1 => ?_) (fun h1 => ?_)
  · refine G_tswIn (v := 0) C 36 0 dX9_countTold_1 h1 rfl (by decide) rfl rfl ?_
    refine G_iconst C dX9_countTold_36 (v := 1) rfl ?_
    exact G_iret C dX9_countTold_37 rfl
  · skip
    refine G_ite (fun h2 => ?_) (fun h2 => ?_)
    · refine G_tswIn (v := 1) C 38 1 dX9_countTold_1 h2 rfl (by decide) rfl rfl ?_
      refine G_iconst C dX9_countTold_38 (v := 2) rfl ?_
      exact G_iret C dX9_countTold_39 rfl
    · skip
      refine G_ite (fun h3 => ?_) (fun h3 => ?_)
      · refine G_tswIn (v := 2) C 40 2 dX9_countTold_1 h3 rfl (by decide) rfl rfl ?_
        refine G_bipush C dX9_countTold_40 (v := 8) rfl ?_
        exact G_iret C dX9_countTold_42 rfl
      · skip
        refine G_ite (fun h4 => ?_) (fun h4 => ?_)
        · refine G_tswIn (v := 3) C 46 3 dX9_countTold_1 h4 rfl (by decide) rfl rfl ?_
          refine G_iconst C dX9_countTold_46 (v := 4) rfl ?_
          exact G_iret C dX9_countTold_47 rfl
        · skip
          refine G_ite (fun h5 => ?_) (fun h5 => ?_)
          · refine G_tswIn (v := 4) C 43 4 dX9_countTold_1 h5 rfl (by decide) rfl rfl ?_
            refine G_bipush C dX9_countTold_43 (v := 7) rfl ?_
            exact G_iret C dX9_countTold_45 rfl
          · skip
            refine G_tswOut C 46 dX9_countTold_1 (by have q0 := i32_ne h1 (n := 0) rfl; have q1 := i32_ne h2 (n := 1) rfl; have q2 := i32_ne h3 (n := 2) rfl; have q3 := i32_ne h4 (n := 3) rfl; have q4 := i32_ne h5 (n := 4) rfl; omega) rfl ?_
            refine G_iconst C dX9_countTold_46 (v := 4) rfl ?_
            exact G_iret C dX9_countTold_47 rfl
/-! X1_add -/
theorem kd_X1_add : Card yX1_add cX1_add 5 none 3 := ⟨uc_X1_add, un_X1, ⟨by decide, by decide, by decide⟩, by decide⟩
def s_X1_add_L44 (S : SM) (x1 : Int32) (x2 : Int32) (x3 : Int32) (x4 : Int32) : SM := if (S 18 6) < 40 then sF S 6 ((S 18 6) + 1) else sF S 5 (jrem ((S 18 5) + 1) 40)
theorem g_X1_add_L44 {l : Launch} {K : gK} {Γ : gT} {a : Nat → Nat} (C : Cx l K Γ RX1 cX1_add 5 none 1) (S : SM) (x1 : Int32) (x2 : Int32) (x3 : Int32) (x4 : Int32) : G l K Γ (st_W K a S) 44 5 [(0, .ref (a 18)), (1, .int x1), (2, .int x2), (3, .int x3), (4, .int x4)] [] (fun z => (none, st_W K a z)) (s_X1_add_L44 S x1 x2 x3 x4) := by
  unfold s_X1_add_L44
  refine G_aload_n C 0 dX1_add_44 rfl ?_
  refine G_get C 18 4 dX1_add_45 inlX1 uf_X1_29 rfl (by decide) rfl rfl rfl ?_
  refine G_bipush C dX1_add_48 (v := 40) rfl ?_
  refine G_icmp_ge C 66 dX1_add_50 rfl (fun h1 => ?_) (fun h1 => ?_)
  · refine G_aload_n C 0 dX1_add_53 rfl ?_
    refine G_dup C dX1_add_54 rfl ?_
    refine G_get C 18 4 dX1_add_55 inlX1 uf_X1_29 rfl (by decide) rfl rfl rfl ?_
    refine G_iconst C dX1_add_58 (v := 1) rfl ?_
    refine G_iadd C dX1_add_59 ?_
    refine G_put (ws' := st_W K a (sF S 6 ((S 18 6) + 1))) C 18 4 tyX1 .int dX1_add_60 inlX1 uf_X1_29 tyX1_ok nmX1 rfl (by decide) rfl rfl rfl rfl rfl rfl (Nat.le_of_ble_eq_true rfl) rfl ?_
    refine G_goto C 79 dX1_add_63 rfl ?_
    exact G_vret C dX1_add_79 rfl
  · refine G_aload_n C 0 dX1_add_66 rfl ?_
    refine G_aload_n C 0 dX1_add_67 rfl ?_
    refine G_get C 18 3 dX1_add_68 inlX1 uf_X1_25 rfl (by decide) rfl rfl rfl ?_
    refine G_iconst C dX1_add_71 (v := 1) rfl ?_
    refine G_iadd C dX1_add_72 ?_
    refine G_bipush C dX1_add_73 (v := 40) rfl ?_
    refine G_irem C dX1_add_75 (by decide) ?_
    refine G_put (ws' := st_W K a (sF S 5 (jrem ((S 18 5) + 1) 40))) C 18 3 tyX1 .int dX1_add_76 inlX1 uf_X1_25 tyX1_ok nmX1 rfl (by decide) rfl rfl rfl rfl rfl rfl (Nat.le_of_ble_eq_true rfl) rfl ?_
    exact G_vret C dX1_add_79 rfl
def s_X1_add_L34 (S : SM) (x1 : Int32) (x2 : Int32) (x3 : Int32) (x4 : Int32) : SM := s_X1_add_L44 (sU S 17 (put_ 40 (S 17) x4 x3)) x1 x2 x3 x4
theorem g_X1_add_L34 {l : Launch} {K : gK} {Γ : gT} {a : Nat → Nat} (C : Cx l K Γ RX1 cX1_add 5 none 1) (S : SM) (x1 : Int32) (x2 : Int32) (x3 : Int32) (x4 : Int32) : G l K Γ (st_W K a S) 34 5 [(0, .ref (a 18)), (1, .int x1), (2, .int x2), (3, .int x3), (4, .int x4)] [] (fun z => (none, st_W K a z)) (s_X1_add_L34 S x1 x2 x3 x4) := by
  unfold s_X1_add_L34
  refine G_aload_n C 0 dX1_add_34 rfl ?_
  refine G_get C 18 2 dX1_add_35 inlX1 uf_X1_18 rfl (by decide) rfl rfl rfl ?_
  refine G_iload C 4 dX1_add_38 rfl ?_
  refine G_iload_n C 3 dX1_add_40 rfl ?_
  refine G_callSNv C kd_X9_put ut_X9_put nw_25 (Ct.to (r' := (none, st_W K a (sU S 17 (put_ 40 (S 17) x4 x3)))) (c_put l K (ws := st_W K a S) (q0 := 21) (n := 40) (g := S 17) (ad := (a 21)) (by decide) rfl x4 x3) rfl) dX1_add_41 rfl rfl (Nat.le_of_ble_eq_true rfl) (Nat.le_of_ble_eq_true rfl) ?_
  refine G_sub [0, 1, 2, 3, 4] rfl ?_
  exact g_X1_add_L44 C (sU S 17 (put_ 40 (S 17) x4 x3)) x1 x2 x3 x4
def s_X1_add_L24 (S : SM) (x1 : Int32) (x2 : Int32) (x3 : Int32) (x4 : Int32) : SM := s_X1_add_L34 (sU S 16 (put_ 40 (S 16) x4 x2)) x1 x2 x3 x4
theorem g_X1_add_L24 {l : Launch} {K : gK} {Γ : gT} {a : Nat → Nat} (C : Cx l K Γ RX1 cX1_add 5 none 1) (S : SM) (x1 : Int32) (x2 : Int32) (x3 : Int32) (x4 : Int32) : G l K Γ (st_W K a S) 24 5 [(0, .ref (a 18)), (1, .int x1), (2, .int x2), (3, .int x3), (4, .int x4)] [] (fun z => (none, st_W K a z)) (s_X1_add_L24 S x1 x2 x3 x4) := by
  unfold s_X1_add_L24
  refine G_aload_n C 0 dX1_add_24 rfl ?_
  refine G_get C 18 1 dX1_add_25 inlX1 uf_X1_15 rfl (by decide) rfl rfl rfl ?_
  refine G_iload C 4 dX1_add_28 rfl ?_
  refine G_iload_n C 2 dX1_add_30 rfl ?_
  refine G_callSNv C kd_X9_put ut_X9_put nw_25 (Ct.to (r' := (none, st_W K a (sU S 16 (put_ 40 (S 16) x4 x2)))) (c_put l K (ws := st_W K a S) (q0 := 20) (n := 40) (g := S 16) (ad := (a 20)) (by decide) rfl x4 x2) rfl) dX1_add_31 rfl rfl (Nat.le_of_ble_eq_true rfl) (Nat.le_of_ble_eq_true rfl) ?_
  refine G_sub [0, 1, 2, 3, 4] rfl ?_
  exact g_X1_add_L34 C (sU S 16 (put_ 40 (S 16) x4 x2)) x1 x2 x3 x4
def s_X1_add (S : SM) (x1 : Int32) (x2 : Int32) (x3 : Int32) : SM := s_X1_add_L24 (sU S 15 (put_ 40 (S 15) (jrem ((S 18 5) + (S 18 6)) 40) x1)) x1 x2 x3 (jrem ((S 18 5) + (S 18 6)) 40)
theorem c_X1_add (l : Launch) (K : gK) (a : Nat → Nat) (S : SM) (x1 : Int32) (x2 : Int32) (x3 : Int32) : Ct l K yX1_add cX1_add 5 none 1 [.ref (a 18), .int x1, .int x2, .int x3] (st_W K a S) (none, st_W K a (s_X1_add S x1 x2 x3)) := by
  refine Ct.of (own := RX1) (fun z => (none, st_W K a z)) (x := s_X1_add S x1 x2 x3) (by decide) rfl (Nat.le_of_ble_eq_true rfl) (fun Γ C => ?_)
  unfold s_X1_add
  refine G_aload_n C 0 dX1_add_0 rfl ?_
  refine G_get C 18 3 dX1_add_1 inlX1 uf_X1_25 rfl (by decide) rfl rfl rfl ?_
  refine G_aload_n C 0 dX1_add_4 rfl ?_
  refine G_get C 18 4 dX1_add_5 inlX1 uf_X1_29 rfl (by decide) rfl rfl rfl ?_
  refine G_iadd C dX1_add_8 ?_
  refine G_bipush C dX1_add_9 (v := 40) rfl ?_
  refine G_irem C dX1_add_11 (by decide) ?_
  refine G_istore (lv' := [(4, .int (jrem ((S 18 5) + (S 18 6)) 40)), (0, .ref (a 18)), (1, .int x1), (2, .int x2), (3, .int x3)]) C dX1_add_12 (by decide) rfl ?_
  refine G_aload_n C 1 dX1_add_14 rfl ?_
  refine G_get C 18 0 dX1_add_15 inlX1 uf_X1_9 rfl (by decide) rfl rfl rfl ?_
  refine G_iload C 0 dX1_add_18 rfl ?_
  refine G_iload_n C 2 dX1_add_20 rfl ?_
  refine G_callSNv C kd_X9_put ut_X9_put nw_25 (Ct.to (r' := (none, st_W K a (sU S 15 (put_ 40 (S 15) (jrem ((S 18 5) + (S 18 6)) 40) x1)))) (c_put l K (ws := st_W K a S) (q0 := 19) (n := 40) (g := S 15) (ad := (a 19)) (by decide) rfl (jrem ((S 18 5) + (S 18 6)) 40) x1) rfl) dX1_add_21 rfl rfl (Nat.le_of_ble_eq_true rfl) (Nat.le_of_ble_eq_true rfl) ?_
  refine G_sub [1, 2, 3, 4, 0] rfl ?_
  exact g_X1_add_L24 C (sU S 15 (put_ 40 (S 15) (jrem ((S 18 5) + (S 18 6)) 40) x1)) x1 x2 x3 (jrem ((S 18 5) + (S 18 6)) 40)
/-! X2_add -/
theorem kd_X2_add : Card yX2_add cX2_add 4 none 3 := ⟨uc_X2_add, un_X2, ⟨by decide, by decide, by decide⟩, by decide⟩
def s_X2_add_L82 (S : SM) (x1 : Int32) (x2 : Int32) (x3 : Int32) : SM := sF S 2 ((S 18 2) + 1)
theorem g_X2_add_L82 {l : Launch} {K : gK} {Γ : gT} {a : Nat → Nat} (C : Cx l K Γ RX2 cX2_add 4 none 1) (S : SM) (x1 : Int32) (x2 : Int32) (x3 : Int32) : G l K Γ (st_W K a S) 82 4 [(0, .ref (a 3)), (1, .int x1), (2, .int x2), (3, .int x3)] [] (fun z => (none, st_W K a z)) (s_X2_add_L82 S x1 x2 x3) := by
  unfold s_X2_add_L82
  refine G_aload_n C 0 dX2_add_82 rfl ?_
  refine G_dup C dX2_add_83 rfl ?_
  refine G_get C 3 8 dX2_add_84 inlX2 uf_X2_40 rfl (by decide) rfl rfl rfl ?_
  refine G_iconst C dX2_add_87 (v := 1) rfl ?_
  refine G_iadd C dX2_add_88 ?_
  refine G_put (ws' := st_W K a (sF S 2 ((S 18 2) + 1))) C 3 8 tyX2 .int dX2_add_89 inlX2 uf_X2_40 tyX2_ok nmX2 rfl (by decide) rfl rfl rfl rfl rfl rfl (Nat.le_of_ble_eq_true rfl) rfl ?_
  exact G_vret C dX2_add_92 rfl
def s_X2_add_L70 (S : SM) (x1 : Int32) (x2 : Int32) (x3 : Int32) : SM := s_X2_add_L82 (sU S 7 (put_ 10 (S 7) (S 18 2) 0)) x1 x2 x3
theorem g_X2_add_L70 {l : Launch} {K : gK} {Γ : gT} {a : Nat → Nat} (C : Cx l K Γ RX2 cX2_add 4 none 1) (S : SM) (x1 : Int32) (x2 : Int32) (x3 : Int32) : G l K Γ (st_W K a S) 70 4 [(0, .ref (a 3)), (1, .int x1), (2, .int x2), (3, .int x3)] [] (fun z => (none, st_W K a z)) (s_X2_add_L70 S x1 x2 x3) := by
  unfold s_X2_add_L70
  refine G_aload_n C 0 dX2_add_70 rfl ?_
  refine G_get C 3 5 dX2_add_71 inlX2 uf_X2_27 rfl (by decide) rfl rfl rfl ?_
  refine G_aload_n C 0 dX2_add_74 rfl ?_
  refine G_get C 3 8 dX2_add_75 inlX2 uf_X2_40 rfl (by decide) rfl rfl rfl ?_
  refine G_iconst C dX2_add_78 (v := 0) rfl ?_
  refine G_callSNv C kd_X9_put ut_X9_put nw_10 (Ct.to (r' := (none, st_W K a (sU S 7 (put_ 10 (S 7) (S 18 2) 0)))) (c_put l K (ws := st_W K a S) (q0 := 9) (n := 10) (g := S 7) (ad := (a 9)) (by decide) rfl (S 18 2) 0) rfl) dX2_add_79 rfl rfl (Nat.le_of_ble_eq_true rfl) (Nat.le_of_ble_eq_true rfl) ?_
  refine G_sub [0, 1, 2, 3] rfl ?_
  exact g_X2_add_L82 C (sU S 7 (put_ 10 (S 7) (S 18 2) 0)) x1 x2 x3
def s_X2_add_L58 (S : SM) (x1 : Int32) (x2 : Int32) (x3 : Int32) : SM := s_X2_add_L70 (sU S 6 (put_ 10 (S 6) (S 18 2) 0)) x1 x2 x3
theorem g_X2_add_L58 {l : Launch} {K : gK} {Γ : gT} {a : Nat → Nat} (C : Cx l K Γ RX2 cX2_add 4 none 1) (S : SM) (x1 : Int32) (x2 : Int32) (x3 : Int32) : G l K Γ (st_W K a S) 58 4 [(0, .ref (a 3)), (1, .int x1), (2, .int x2), (3, .int x3)] [] (fun z => (none, st_W K a z)) (s_X2_add_L58 S x1 x2 x3) := by
  unfold s_X2_add_L58
  refine G_aload_n C 0 dX2_add_58 rfl ?_
  refine G_get C 3 4 dX2_add_59 inlX2 uf_X2_24 rfl (by decide) rfl rfl rfl ?_
  refine G_aload_n C 0 dX2_add_62 rfl ?_
  refine G_get C 3 8 dX2_add_63 inlX2 uf_X2_40 rfl (by decide) rfl rfl rfl ?_
  refine G_iconst C dX2_add_66 (v := 0) rfl ?_
  refine G_callSNv C kd_X9_put ut_X9_put nw_10 (Ct.to (r' := (none, st_W K a (sU S 6 (put_ 10 (S 6) (S 18 2) 0)))) (c_put l K (ws := st_W K a S) (q0 := 8) (n := 10) (g := S 6) (ad := (a 8)) (by decide) rfl (S 18 2) 0) rfl) dX2_add_67 rfl rfl (Nat.le_of_ble_eq_true rfl) (Nat.le_of_ble_eq_true rfl) ?_
  refine G_sub [0, 1, 2, 3] rfl ?_
  exact g_X2_add_L70 C (sU S 6 (put_ 10 (S 6) (S 18 2) 0)) x1 x2 x3
def s_X2_add_L46 (S : SM) (x1 : Int32) (x2 : Int32) (x3 : Int32) : SM := s_X2_add_L58 (sU S 5 (put_ 10 (S 5) (S 18 2) 0)) x1 x2 x3
theorem g_X2_add_L46 {l : Launch} {K : gK} {Γ : gT} {a : Nat → Nat} (C : Cx l K Γ RX2 cX2_add 4 none 1) (S : SM) (x1 : Int32) (x2 : Int32) (x3 : Int32) : G l K Γ (st_W K a S) 46 4 [(0, .ref (a 3)), (1, .int x1), (2, .int x2), (3, .int x3)] [] (fun z => (none, st_W K a z)) (s_X2_add_L46 S x1 x2 x3) := by
  unfold s_X2_add_L46
  refine G_aload_n C 0 dX2_add_46 rfl ?_
  refine G_get C 3 3 dX2_add_47 inlX2 uf_X2_21 rfl (by decide) rfl rfl rfl ?_
  refine G_aload_n C 0 dX2_add_50 rfl ?_
  refine G_get C 3 8 dX2_add_51 inlX2 uf_X2_40 rfl (by decide) rfl rfl rfl ?_
  refine G_iconst C dX2_add_54 (v := 0) rfl ?_
  refine G_callSNv C kd_X9_put ut_X9_put nw_10 (Ct.to (r' := (none, st_W K a (sU S 5 (put_ 10 (S 5) (S 18 2) 0)))) (c_put l K (ws := st_W K a S) (q0 := 7) (n := 10) (g := S 5) (ad := (a 7)) (by decide) rfl (S 18 2) 0) rfl) dX2_add_55 rfl rfl (Nat.le_of_ble_eq_true rfl) (Nat.le_of_ble_eq_true rfl) ?_
  refine G_sub [0, 1, 2, 3] rfl ?_
  exact g_X2_add_L58 C (sU S 5 (put_ 10 (S 5) (S 18 2) 0)) x1 x2 x3
def s_X2_add_L34 (S : SM) (x1 : Int32) (x2 : Int32) (x3 : Int32) : SM := s_X2_add_L46 (sU S 4 (put_ 10 (S 4) (S 18 2) x3)) x1 x2 x3
theorem g_X2_add_L34 {l : Launch} {K : gK} {Γ : gT} {a : Nat → Nat} (C : Cx l K Γ RX2 cX2_add 4 none 1) (S : SM) (x1 : Int32) (x2 : Int32) (x3 : Int32) : G l K Γ (st_W K a S) 34 4 [(0, .ref (a 3)), (1, .int x1), (2, .int x2), (3, .int x3)] [] (fun z => (none, st_W K a z)) (s_X2_add_L34 S x1 x2 x3) := by
  unfold s_X2_add_L34
  refine G_aload_n C 0 dX2_add_34 rfl ?_
  refine G_get C 3 2 dX2_add_35 inlX2 uf_X2_18 rfl (by decide) rfl rfl rfl ?_
  refine G_aload_n C 0 dX2_add_38 rfl ?_
  refine G_get C 3 8 dX2_add_39 inlX2 uf_X2_40 rfl (by decide) rfl rfl rfl ?_
  refine G_iload_n C 3 dX2_add_42 rfl ?_
  refine G_callSNv C kd_X9_put ut_X9_put nw_10 (Ct.to (r' := (none, st_W K a (sU S 4 (put_ 10 (S 4) (S 18 2) x3)))) (c_put l K (ws := st_W K a S) (q0 := 6) (n := 10) (g := S 4) (ad := (a 6)) (by decide) rfl (S 18 2) x3) rfl) dX2_add_43 rfl rfl (Nat.le_of_ble_eq_true rfl) (Nat.le_of_ble_eq_true rfl) ?_
  refine G_sub [0, 1, 2, 3] rfl ?_
  exact g_X2_add_L46 C (sU S 4 (put_ 10 (S 4) (S 18 2) x3)) x1 x2 x3
def s_X2_add_L22 (S : SM) (x1 : Int32) (x2 : Int32) (x3 : Int32) : SM := s_X2_add_L34 (sU S 3 (put_ 10 (S 3) (S 18 2) x2)) x1 x2 x3
theorem g_X2_add_L22 {l : Launch} {K : gK} {Γ : gT} {a : Nat → Nat} (C : Cx l K Γ RX2 cX2_add 4 none 1) (S : SM) (x1 : Int32) (x2 : Int32) (x3 : Int32) : G l K Γ (st_W K a S) 22 4 [(0, .ref (a 3)), (1, .int x1), (2, .int x2), (3, .int x3)] [] (fun z => (none, st_W K a z)) (s_X2_add_L22 S x1 x2 x3) := by
  unfold s_X2_add_L22
  refine G_aload_n C 0 dX2_add_22 rfl ?_
  refine G_get C 3 1 dX2_add_23 inlX2 uf_X2_15 rfl (by decide) rfl rfl rfl ?_
  refine G_aload_n C 0 dX2_add_26 rfl ?_
  refine G_get C 3 8 dX2_add_27 inlX2 uf_X2_40 rfl (by decide) rfl rfl rfl ?_
  refine G_iload_n C 2 dX2_add_30 rfl ?_
  refine G_callSNv C kd_X9_put ut_X9_put nw_10 (Ct.to (r' := (none, st_W K a (sU S 3 (put_ 10 (S 3) (S 18 2) x2)))) (c_put l K (ws := st_W K a S) (q0 := 5) (n := 10) (g := S 3) (ad := (a 5)) (by decide) rfl (S 18 2) x2) rfl) dX2_add_31 rfl rfl (Nat.le_of_ble_eq_true rfl) (Nat.le_of_ble_eq_true rfl) ?_
  refine G_sub [0, 1, 2, 3] rfl ?_
  exact g_X2_add_L34 C (sU S 3 (put_ 10 (S 3) (S 18 2) x2)) x1 x2 x3
def s_X2_add (S : SM) (x1 : Int32) (x2 : Int32) (x3 : Int32) : SM := if (S 18 2) < 10 then s_X2_add_L22 (sU S 2 (put_ 10 (S 2) (S 18 2) x1)) x1 x2 x3 else S
theorem c_X2_add (l : Launch) (K : gK) (a : Nat → Nat) (S : SM) (x1 : Int32) (x2 : Int32) (x3 : Int32) : Ct l K yX2_add cX2_add 4 none 1 [.ref (a 3), .int x1, .int x2, .int x3] (st_W K a S) (none, st_W K a (s_X2_add S x1 x2 x3)) := by
  refine Ct.of (own := RX2) (fun z => (none, st_W K a z)) (x := s_X2_add S x1 x2 x3) (by decide) rfl (Nat.le_of_ble_eq_true rfl) (fun Γ C => ?_)
  unfold s_X2_add
  refine G_aload_n C 0 dX2_add_0 rfl ?_
  refine G_get C 3 8 dX2_add_1 inlX2 uf_X2_40 rfl (by decide) rfl rfl rfl ?_
  refine G_bipush C dX2_add_4 (v := 10) rfl ?_
  refine G_icmp_lt C 10 dX2_add_6 rfl (fun h1 => ?_) (fun h1 => ?_)
  · refine G_aload_n C 0 dX2_add_10 rfl ?_
    refine G_get C 3 0 dX2_add_11 inlX2 uf_X2_9 rfl (by decide) rfl rfl rfl ?_
    refine G_aload_n C 0 dX2_add_14 rfl ?_
    refine G_get C 3 8 dX2_add_15 inlX2 uf_X2_40 rfl (by decide) rfl rfl rfl ?_
    refine G_iload_n C 1 dX2_add_18 rfl ?_
    refine G_callSNv C kd_X9_put ut_X9_put nw_10 (Ct.to (r' := (none, st_W K a (sU S 2 (put_ 10 (S 2) (S 18 2) x1)))) (c_put l K (ws := st_W K a S) (q0 := 4) (n := 10) (g := S 2) (ad := (a 4)) (by decide) rfl (S 18 2) x1) rfl) dX2_add_19 rfl rfl (Nat.le_of_ble_eq_true rfl) (Nat.le_of_ble_eq_true rfl) ?_
    refine G_sub [0, 1, 2, 3] rfl ?_
    exact g_X2_add_L22 C (sU S 2 (put_ 10 (S 2) (S 18 2) x1)) x1 x2 x3
  · exact G_vret C dX2_add_9 rfl
/-! X2_has -/
theorem kd_X2_has : Card yX2_has cX2_has 2 (some .boolean) 1 := ⟨uc_X2_has, un_X2, ⟨by decide, by decide, by decide⟩, by decide⟩
def v_X2_has (S : SM) (x1 : Int32) : Int32 := if x1 < 0 then 0 else if x1 < (S 18 2) then 1 else 0
theorem c_X2_has (l : Launch) (K : gK) (a : Nat → Nat) (S : SM) (x1 : Int32) : Ct l K yX2_has cX2_has 2 (some .boolean) 0 [.ref (a 3), .int x1] (st_W K a S) (some (.int (v_X2_has S x1)), st_W K a S) := by
  refine Ct.of (own := RX2) (fun z => (some (.int z), st_W K a S)) (x := v_X2_has S x1) (by decide) rfl (Nat.le_of_ble_eq_true rfl) (fun Γ C => ?_)
  unfold v_X2_has
  refine G_iload_n C 1 dX2_has_0 rfl ?_
  refine G_if_lt C 16 dX2_has_1 rfl (fun h1 => ?_) (fun h1 => ?_)
  · refine G_iconst C dX2_has_16 (v := 0) rfl ?_
    exact G_zret C dX2_has_17 rfl rfl
  · refine G_iload_n C 1 dX2_has_4 rfl ?_
    refine G_aload_n C 0 dX2_has_5 rfl ?_
    refine G_get C 3 8 dX2_has_6 inlX2 uf_X2_40 rfl (by decide) rfl rfl rfl ?_
    refine G_icmp_ge C 16 dX2_has_9 rfl (fun h2 => ?_) (fun h2 => ?_)
    · refine G_iconst C dX2_has_12 (v := 1) rfl ?_
      refine G_goto C 17 dX2_has_13 rfl ?_
      exact G_zret C dX2_has_17 rfl rfl
    · refine G_iconst C dX2_has_16 (v := 0) rfl ?_
      exact G_zret C dX2_has_17 rfl rfl
theorem bz_X2_has (S : SM) (x1 : Int32) : narrow .boolean (.int (v_X2_has S x1)) = .int (v_X2_has S x1) := by
  unfold v_X2_has
  repeat' split
  all_goals first | rfl | exact bz_X9_isWithin ..
/-! X2_isOpen -/
theorem kd_X2_isOpen : Card yX2_isOpen cX2_isOpen 2 (some .boolean) 1 := ⟨uc_X2_isOpen, un_X2, ⟨by decide, by decide, by decide⟩, by decide⟩
def v_X2_isOpen (S : SM) (x1 : Int32) : Int32 := if (at_ 10 (S 4) x1) = 1 then 1 else 0
theorem c_X2_isOpen (l : Launch) (K : gK) (a : Nat → Nat) (S : SM) (x1 : Int32) : Ct l K yX2_isOpen cX2_isOpen 2 (some .boolean) 1 [.ref (a 3), .int x1] (st_W K a S) (some (.int (v_X2_isOpen S x1)), st_W K a S) := by
  refine Ct.of (own := RX2) (fun z => (some (.int z), st_W K a S)) (x := v_X2_isOpen S x1) (by decide) rfl (Nat.le_of_ble_eq_true rfl) (fun Γ C => ?_)
  unfold v_X2_isOpen
  refine G_aload_n C 0 dX2_isOpen_0 rfl ?_
  refine G_get C 3 2 dX2_isOpen_1 inlX2 uf_X2_18 rfl (by decide) rfl rfl rfl ?_
  refine G_iload_n C 1 dX2_isOpen_4 rfl ?_
  refine G_callSNi C kd_X9_at ut_X9_at nw_15 (c_at l K (ws := st_W K a S) (q0 := 6) (n := 10) (g := S 4) (ad := (a 6)) (by decide) rfl x1) dX2_isOpen_5 rfl rfl (Nat.le_of_ble_eq_true rfl) (Nat.le_of_ble_eq_true rfl) ?_
  refine G_iconst C dX2_isOpen_8 (v := 1) rfl ?_
  refine G_icmp_ne C 16 dX2_isOpen_9 rfl (fun h1 => ?_) (fun h1 => ?_)
  · refine G_iconst C dX2_isOpen_12 (v := 1) rfl ?_
    refine G_goto C 17 dX2_isOpen_13 rfl ?_
    exact G_zret C dX2_isOpen_17 rfl rfl
  · refine G_iconst C dX2_isOpen_16 (v := 0) rfl ?_
    exact G_zret C dX2_isOpen_17 rfl rfl
theorem bz_X2_isOpen (S : SM) (x1 : Int32) : narrow .boolean (.int (v_X2_isOpen S x1)) = .int (v_X2_isOpen S x1) := by
  unfold v_X2_isOpen
  repeat' split
  all_goals first | rfl | exact bz_X9_isWithin ..
/-! X2_behind -/
theorem kd_X2_behind : Card yX2_behind cX2_behind 2 (some .int) 1 := ⟨uc_X2_behind, un_X2, ⟨by decide, by decide, by decide⟩, by decide⟩
def v_X2_behind (S : SM) (x1 : Int32) : Int32 := if (x1 + 1) < (S 18 2) then x1 + 1 else 0
theorem c_X2_behind (l : Launch) (K : gK) (a : Nat → Nat) (S : SM) (x1 : Int32) : Ct l K yX2_behind cX2_behind 2 (some .int) 0 [.ref (a 3), .int x1] (st_W K a S) (some (.int (v_X2_behind S x1)), st_W K a S) := by
  refine Ct.of (own := RX2) (fun z => (some (.int z), st_W K a S)) (x := v_X2_behind S x1) (by decide) rfl (Nat.le_of_ble_eq_true rfl) (fun Γ C => ?_)
  unfold v_X2_behind
  refine G_iload_n C 1 dX2_behind_0 rfl ?_
  refine G_iconst C dX2_behind_1 (v := 1) rfl ?_
  refine G_iadd C dX2_behind_2 ?_
  refine G_aload_n C 0 dX2_behind_3 rfl ?_
  refine G_get C 3 8 dX2_behind_4 inlX2 uf_X2_40 rfl (by decide) rfl rfl rfl ?_
  refine G_icmp_ge C 16 dX2_behind_7 rfl (fun h1 => ?_) (fun h1 => ?_)
  · refine G_iload_n C 1 dX2_behind_10 rfl ?_
    refine G_iconst C dX2_behind_11 (v := 1) rfl ?_
    refine G_iadd C dX2_behind_12 ?_
    refine G_goto C 17 dX2_behind_13 rfl ?_
    exact G_iret C dX2_behind_17 rfl
  · refine G_iconst C dX2_behind_16 (v := 0) rfl ?_
    exact G_iret C dX2_behind_17 rfl
/-! X2_isNameTaken -/
theorem kd_X2_isNameTaken : Card yX2_isNameTaken cX2_isNameTaken 3 (some .boolean) 1 := ⟨uc_X2_isNameTaken, un_X2, ⟨by decide, by decide, by decide⟩, by decide⟩
def v_X2_isNameTaken_L2 : Nat → SM → Int32 → Int32 → Int32
  | 0, _, _, _ => 0
  | fuel + 1, S, x1, x2 => if x2 < (S 18 2) then if (at_ 10 (S 3) x2) = x1 then 1 else v_X2_isNameTaken_L2 fuel S x1 (x2 + 1) else 0
theorem g_X2_isNameTaken_L2 {l : Launch} {K : gK} {Γ : gT} {a : Nat → Nat} (C : Cx l K Γ RX2 cX2_isNameTaken 3 (some .boolean) 1) : ∀ (n : Nat) (S : SM) (x1 : Int32) (x2 : Int32), mu x2 < n → G l K Γ (st_W K a S) 2 3 [(0, .ref (a 3)), (1, .int x1), (2, .int x2)] [] (fun z => (some (.int z), st_W K a S)) (v_X2_isNameTaken_L2 n S x1 x2) := by
  intro n
  induction n with
  | zero =>
    intro S x1 x2 hm
    exact absurd hm (Nat.not_lt_zero _)
  | succ n ih =>
    intro S x1 x2 hm
    rw [v_X2_isNameTaken_L2]
    refine G_iload_n C 2 dX2_isNameTaken_2 rfl ?_
    refine G_aload_n C 0 dX2_isNameTaken_3 rfl ?_
    refine G_get C 3 8 dX2_isNameTaken_4 inlX2 uf_X2_40 rfl (by decide) rfl rfl rfl ?_
    refine G_icmp_ge C 30 dX2_isNameTaken_7 rfl (fun h1 => ?_) (fun h1 => ?_)
    · refine G_aload_n C 0 dX2_isNameTaken_10 rfl ?_
      refine G_get C 3 1 dX2_isNameTaken_11 inlX2 uf_X2_15 rfl (by decide) rfl rfl rfl ?_
      refine G_iload_n C 2 dX2_isNameTaken_14 rfl ?_
      refine G_callSNi C kd_X9_at ut_X9_at nw_15 (c_at l K (ws := st_W K a S) (q0 := 5) (n := 10) (g := S 3) (ad := (a 5)) (by decide) rfl x2) dX2_isNameTaken_15 rfl rfl (Nat.le_of_ble_eq_true rfl) (Nat.le_of_ble_eq_true rfl) ?_
      refine G_iload_n C 1 dX2_isNameTaken_18 rfl ?_
      refine G_icmp_ne C 24 dX2_isNameTaken_19 rfl (fun h2 => ?_) (fun h2 => ?_)
      · refine G_iconst C dX2_isNameTaken_22 (v := 1) rfl ?_
        exact G_zret C dX2_isNameTaken_23 rfl rfl
      · refine G_iinc (lv' := [(2, .int (x2 + 1)), (0, .ref (a 3)), (1, .int x1)]) C 2 dX2_isNameTaken_24 rfl rfl (by decide) rfl ?_
        refine G_goto C 2 dX2_isNameTaken_27 rfl ?_
        refine G_sub [1, 2, 0] rfl ?_
        exact ih S x1 (x2 + 1) (by have := mu_up h1; omega)
    · refine G_iconst C dX2_isNameTaken_30 (v := 0) rfl ?_
      exact G_zret C dX2_isNameTaken_31 rfl rfl
def v_X2_isNameTaken (S : SM) (x1 : Int32) : Int32 := v_X2_isNameTaken_L2 (mu 0 + 1) S x1 0
theorem c_X2_isNameTaken (l : Launch) (K : gK) (a : Nat → Nat) (S : SM) (x1 : Int32) : Ct l K yX2_isNameTaken cX2_isNameTaken 3 (some .boolean) 1 [.ref (a 3), .int x1] (st_W K a S) (some (.int (v_X2_isNameTaken S x1)), st_W K a S) := by
  refine Ct.of (own := RX2) (fun z => (some (.int z), st_W K a S)) (x := v_X2_isNameTaken S x1) (by decide) rfl (Nat.le_of_ble_eq_true rfl) (fun Γ C => ?_)
  unfold v_X2_isNameTaken
  refine G_iconst C dX2_isNameTaken_0 (v := 0) rfl ?_
  refine G_istore_n (lv' := [(2, .int 0), (0, .ref (a 3)), (1, .int x1)]) C dX2_isNameTaken_1 (by decide) rfl ?_
  refine G_sub [1, 2, 0] rfl ?_
  exact g_X2_isNameTaken_L2 C _ S x1 0 (Nat.lt_succ_self _)
/-! X2_openWithGreatestName -/
theorem kd_X2_openWithGreatestName : Card yX2_openWithGreatestName cX2_openWithGreatestName 3 (some .int) 0 := ⟨uc_X2_openWithGreatestName, un_X2, ⟨by decide, by decide, by decide⟩, by decide⟩
def v_X2_openWithGreatestName_L5 : Nat → SM → Int32 → Int32 → Int32
  | 0, _, _, _ => 0
  | fuel + 1, S, x1, x2 => if x2 < (S 18 2) then if (v_X2_isOpen S x2) = 0 then v_X2_openWithGreatestName_L5 fuel S x1 (x2 + 1) else if x1 = (-2) then v_X2_openWithGreatestName_L5 fuel S x2 (x2 + 1) else if (at_ 10 (S 3) x1) < (at_ 10 (S 3) x2) then v_X2_openWithGreatestName_L5 fuel S x2 (x2 + 1) else v_X2_openWithGreatestName_L5 fuel S x1 (x2 + 1) else x1
theorem g_X2_openWithGreatestName_L5 {l : Launch} {K : gK} {Γ : gT} {a : Nat → Nat} (C : Cx l K Γ RX2 cX2_openWithGreatestName 3 (some .int) 2) : ∀ (n : Nat) (S : SM) (x1 : Int32) (x2 : Int32), mu x2 < n → G l K Γ (st_W K a S) 5 3 [(0, .ref (a 3)), (1, .int x1), (2, .int x2)] [] (fun z => (some (.int z), st_W K a S)) (v_X2_openWithGreatestName_L5 n S x1 x2) := by
  intro n
  induction n with
  | zero =>
    intro S x1 x2 hm
    exact absurd hm (Nat.not_lt_zero _)
  | succ n ih =>
    intro S x1 x2 hm
    rw [v_X2_openWithGreatestName_L5]
    refine G_iload_n C 2 dX2_openWithGreatestName_5 rfl ?_
    refine G_aload_n C 0 dX2_openWithGreatestName_6 rfl ?_
    refine G_get C 3 8 dX2_openWithGreatestName_7 inlX2 uf_X2_40 rfl (by decide) rfl rfl rfl ?_
    refine G_icmp_ge C 54 dX2_openWithGreatestName_10 rfl (fun h1 => ?_) (fun h1 => ?_)
    · refine G_aload_n C 0 dX2_openWithGreatestName_13 rfl ?_
      refine G_iload_n C 2 dX2_openWithGreatestName_14 rfl ?_
      refine G_callVi C 3 2 kd_X2_isOpen ui_X2_isOpen us_X2_isOpen um_X2_52 rfl rfl (c_X2_isOpen l K a S x2) dX2_openWithGreatestName_15 rfl rfl (Nat.le_of_ble_eq_true rfl) (Nat.le_of_ble_eq_true rfl) ?_
      refine G_if_eq C 48 dX2_openWithGreatestName_18 rfl (fun h2 => ?_) (fun h2 => ?_)
      · refine G_iinc (lv' := [(2, .int (x2 + 1)), (0, .ref (a 3)), (1, .int x1)]) C 2 dX2_openWithGreatestName_48 rfl rfl (by decide) rfl ?_
        refine G_goto C 5 dX2_openWithGreatestName_51 rfl ?_
        refine G_sub [1, 2, 0] rfl ?_
        exact ih S x1 (x2 + 1) (by have := mu_up h1; omega)
      · refine G_iload_n C 1 dX2_openWithGreatestName_21 rfl ?_
        refine G_bipush C dX2_openWithGreatestName_22 (v := -2) rfl ?_
        refine G_icmp_eq C 46 dX2_openWithGreatestName_24 rfl (fun h3 => ?_) (fun h3 => ?_)
        · refine G_iload_n C 2 dX2_openWithGreatestName_46 rfl ?_
          refine G_istore_n (lv' := [(1, .int x2), (0, .ref (a 3)), (2, .int x2)]) C dX2_openWithGreatestName_47 (by decide) rfl ?_
          refine G_iinc (lv' := [(2, .int (x2 + 1)), (1, .int x2), (0, .ref (a 3))]) C 2 dX2_openWithGreatestName_48 rfl rfl (by decide) rfl ?_
          refine G_goto C 5 dX2_openWithGreatestName_51 rfl ?_
          refine G_sub [2, 1, 0] rfl ?_
          exact ih S x2 (x2 + 1) (by have := mu_up h1; omega)
        · refine G_aload_n C 0 dX2_openWithGreatestName_27 rfl ?_
          refine G_get C 3 1 dX2_openWithGreatestName_28 inlX2 uf_X2_15 rfl (by decide) rfl rfl rfl ?_
          refine G_iload_n C 2 dX2_openWithGreatestName_31 rfl ?_
          refine G_callSNi C kd_X9_at ut_X9_at nw_15 (c_at l K (ws := st_W K a S) (q0 := 5) (n := 10) (g := S 3) (ad := (a 5)) (by decide) rfl x2) dX2_openWithGreatestName_32 rfl rfl (Nat.le_of_ble_eq_true rfl) (Nat.le_of_ble_eq_true rfl) ?_
          refine G_aload_n C 0 dX2_openWithGreatestName_35 rfl ?_
          refine G_get C 3 1 dX2_openWithGreatestName_36 inlX2 uf_X2_15 rfl (by decide) rfl rfl rfl ?_
          refine G_iload_n C 1 dX2_openWithGreatestName_39 rfl ?_
          refine G_callSNi C kd_X9_at ut_X9_at nw_15 (c_at l K (ws := st_W K a S) (q0 := 5) (n := 10) (g := S 3) (ad := (a 5)) (by decide) rfl x1) dX2_openWithGreatestName_40 rfl rfl (Nat.le_of_ble_eq_true rfl) (Nat.le_of_ble_eq_true rfl) ?_
          refine G_icmp_le C 48 dX2_openWithGreatestName_43 rfl (fun h4 => ?_) (fun h4 => ?_)
          · refine G_iload_n C 2 dX2_openWithGreatestName_46 rfl ?_
            refine G_istore_n (lv' := [(1, .int x2), (0, .ref (a 3)), (2, .int x2)]) C dX2_openWithGreatestName_47 (by decide) rfl ?_
            refine G_iinc (lv' := [(2, .int (x2 + 1)), (1, .int x2), (0, .ref (a 3))]) C 2 dX2_openWithGreatestName_48 rfl rfl (by decide) rfl ?_
            refine G_goto C 5 dX2_openWithGreatestName_51 rfl ?_
            refine G_sub [2, 1, 0] rfl ?_
            exact ih S x2 (x2 + 1) (by have := mu_up h1; omega)
          · refine G_iinc (lv' := [(2, .int (x2 + 1)), (0, .ref (a 3)), (1, .int x1)]) C 2 dX2_openWithGreatestName_48 rfl rfl (by decide) rfl ?_
            refine G_goto C 5 dX2_openWithGreatestName_51 rfl ?_
            refine G_sub [1, 2, 0] rfl ?_
            exact ih S x1 (x2 + 1) (by have := mu_up h1; omega)
    · refine G_iload_n C 1 dX2_openWithGreatestName_54 rfl ?_
      exact G_iret C dX2_openWithGreatestName_55 rfl
def v_X2_openWithGreatestName (S : SM) : Int32 := v_X2_openWithGreatestName_L5 (mu 0 + 1) S (-2) 0
theorem c_X2_openWithGreatestName (l : Launch) (K : gK) (a : Nat → Nat) (S : SM) : Ct l K yX2_openWithGreatestName cX2_openWithGreatestName 3 (some .int) 2 [.ref (a 3)] (st_W K a S) (some (.int (v_X2_openWithGreatestName S)), st_W K a S) := by
  refine Ct.of (own := RX2) (fun z => (some (.int z), st_W K a S)) (x := v_X2_openWithGreatestName S) (by decide) rfl (Nat.le_of_ble_eq_true rfl) (fun Γ C => ?_)
  unfold v_X2_openWithGreatestName
  refine G_bipush C dX2_openWithGreatestName_0 (v := -2) rfl ?_
  refine G_istore_n (lv' := [(1, .int (-2)), (0, .ref (a 3))]) C dX2_openWithGreatestName_2 (by decide) rfl ?_
  refine G_iconst C dX2_openWithGreatestName_3 (v := 0) rfl ?_
  refine G_istore_n (lv' := [(2, .int 0), (1, .int (-2)), (0, .ref (a 3))]) C dX2_openWithGreatestName_4 (by decide) rfl ?_
  refine G_sub [2, 1, 0] rfl ?_
  exact g_X2_openWithGreatestName_L5 C _ S (-2) 0 (Nat.lt_succ_self _)
/-! X2_howManyOpen -/
theorem kd_X2_howManyOpen : Card yX2_howManyOpen cX2_howManyOpen 3 (some .int) 0 := ⟨uc_X2_howManyOpen, un_X2, ⟨by decide, by decide, by decide⟩, by decide⟩
def v_X2_howManyOpen_L4 : Nat → SM → Int32 → Int32 → Int32
  | 0, _, _, _ => 0
  | fuel + 1, S, x1, x2 => if x2 < (S 18 2) then v_X2_howManyOpen_L4 fuel S (x1 + (at_ 10 (S 4) x2)) (x2 + 1) else x1
theorem g_X2_howManyOpen_L4 {l : Launch} {K : gK} {Γ : gT} {a : Nat → Nat} (C : Cx l K Γ RX2 cX2_howManyOpen 3 (some .int) 1) : ∀ (n : Nat) (S : SM) (x1 : Int32) (x2 : Int32), mu x2 < n → G l K Γ (st_W K a S) 4 3 [(0, .ref (a 3)), (1, .int x1), (2, .int x2)] [] (fun z => (some (.int z), st_W K a S)) (v_X2_howManyOpen_L4 n S x1 x2) := by
  intro n
  induction n with
  | zero =>
    intro S x1 x2 hm
    exact absurd hm (Nat.not_lt_zero _)
  | succ n ih =>
    intro S x1 x2 hm
    rw [v_X2_howManyOpen_L4]
    refine G_iload_n C 2 dX2_howManyOpen_4 rfl ?_
    refine G_aload_n C 0 dX2_howManyOpen_5 rfl ?_
    refine G_get C 3 8 dX2_howManyOpen_6 inlX2 uf_X2_40 rfl (by decide) rfl rfl rfl ?_
    refine G_icmp_ge C 29 dX2_howManyOpen_9 rfl (fun h1 => ?_) (fun h1 => ?_)
    · refine G_iload_n C 1 dX2_howManyOpen_12 rfl ?_
      refine G_aload_n C 0 dX2_howManyOpen_13 rfl ?_
      refine G_get C 3 2 dX2_howManyOpen_14 inlX2 uf_X2_18 rfl (by decide) rfl rfl rfl ?_
      refine G_iload_n C 2 dX2_howManyOpen_17 rfl ?_
      refine G_callSNi C kd_X9_at ut_X9_at nw_15 (c_at l K (ws := st_W K a S) (q0 := 6) (n := 10) (g := S 4) (ad := (a 6)) (by decide) rfl x2) dX2_howManyOpen_18 rfl rfl (Nat.le_of_ble_eq_true rfl) (Nat.le_of_ble_eq_true rfl) ?_
      refine G_iadd C dX2_howManyOpen_21 ?_
      refine G_istore_n (lv' := [(1, .int (x1 + (at_ 10 (S 4) x2))), (0, .ref (a 3)), (2, .int x2)]) C dX2_howManyOpen_22 (by decide) rfl ?_
      refine G_iinc (lv' := [(2, .int (x2 + 1)), (1, .int (x1 + (at_ 10 (S 4) x2))), (0, .ref (a 3))]) C 2 dX2_howManyOpen_23 rfl rfl (by decide) rfl ?_
      refine G_goto C 4 dX2_howManyOpen_26 rfl ?_
      refine G_sub [2, 1, 0] rfl ?_
      exact ih S (x1 + (at_ 10 (S 4) x2)) (x2 + 1) (by have := mu_up h1; omega)
    · refine G_iload_n C 1 dX2_howManyOpen_29 rfl ?_
      exact G_iret C dX2_howManyOpen_30 rfl
def v_X2_howManyOpen (S : SM) : Int32 := v_X2_howManyOpen_L4 (mu 0 + 1) S 0 0
theorem c_X2_howManyOpen (l : Launch) (K : gK) (a : Nat → Nat) (S : SM) : Ct l K yX2_howManyOpen cX2_howManyOpen 3 (some .int) 1 [.ref (a 3)] (st_W K a S) (some (.int (v_X2_howManyOpen S)), st_W K a S) := by
  refine Ct.of (own := RX2) (fun z => (some (.int z), st_W K a S)) (x := v_X2_howManyOpen S) (by decide) rfl (Nat.le_of_ble_eq_true rfl) (fun Γ C => ?_)
  unfold v_X2_howManyOpen
  refine G_iconst C dX2_howManyOpen_0 (v := 0) rfl ?_
  refine G_istore_n (lv' := [(1, .int 0), (0, .ref (a 3))]) C dX2_howManyOpen_1 (by decide) rfl ?_
  refine G_iconst C dX2_howManyOpen_2 (v := 0) rfl ?_
  refine G_istore_n (lv' := [(2, .int 0), (1, .int 0), (0, .ref (a 3))]) C dX2_howManyOpen_3 (by decide) rfl ?_
  refine G_sub [2, 1, 0] rfl ?_
  exact g_X2_howManyOpen_L4 C _ S 0 0 (Nat.lt_succ_self _)
/-! X2_beginDay -/
theorem kd_X2_beginDay : Card yX2_beginDay cX2_beginDay 2 none 0 := ⟨uc_X2_beginDay, un_X2, ⟨by decide, by decide, by decide⟩, by decide⟩
def s_X2_beginDay_L2 : Nat → SM → Int32 → SM
  | 0, S, _ => S
  | fuel + 1, S, x1 => if x1 < (S 18 2) then s_X2_beginDay_L2 fuel (sU S 5 (put_ 10 (S 5) x1 0)) (x1 + 1) else S
theorem g_X2_beginDay_L2 {l : Launch} {K : gK} {Γ : gT} {a : Nat → Nat} (C : Cx l K Γ RX2 cX2_beginDay 2 none 1) : ∀ (n : Nat) (S : SM) (x1 : Int32), mu x1 < n → G l K Γ (st_W K a S) 2 2 [(0, .ref (a 3)), (1, .int x1)] [] (fun z => (none, st_W K a z)) (s_X2_beginDay_L2 n S x1) := by
  intro n
  induction n with
  | zero =>
    intro S x1 hm
    exact absurd hm (Nat.not_lt_zero _)
  | succ n ih =>
    intro S x1 hm
    rw [s_X2_beginDay_L2]
    refine G_iload_n C 1 dX2_beginDay_2 rfl ?_
    refine G_aload_n C 0 dX2_beginDay_3 rfl ?_
    refine G_get C 3 8 dX2_beginDay_4 inlX2 uf_X2_40 rfl (by decide) rfl rfl rfl ?_
    refine G_icmp_ge C 25 dX2_beginDay_7 rfl (fun h1 => ?_) (fun h1 => ?_)
    · refine G_aload_n C 0 dX2_beginDay_10 rfl ?_
      refine G_get C 3 3 dX2_beginDay_11 inlX2 uf_X2_21 rfl (by decide) rfl rfl rfl ?_
      refine G_iload_n C 1 dX2_beginDay_14 rfl ?_
      refine G_iconst C dX2_beginDay_15 (v := 0) rfl ?_
      refine G_callSNv C kd_X9_put ut_X9_put nw_10 (Ct.to (r' := (none, st_W K a (sU S 5 (put_ 10 (S 5) x1 0)))) (c_put l K (ws := st_W K a S) (q0 := 7) (n := 10) (g := S 5) (ad := (a 7)) (by decide) rfl x1 0) rfl) dX2_beginDay_16 rfl rfl (Nat.le_of_ble_eq_true rfl) (Nat.le_of_ble_eq_true rfl) ?_
      refine G_iinc (lv' := [(1, .int (x1 + 1)), (0, .ref (a 3))]) C 1 dX2_beginDay_19 rfl rfl (by decide) rfl ?_
      refine G_goto C 2 dX2_beginDay_22 rfl ?_
      refine G_sub [1, 0] rfl ?_
      exact ih (sU S 5 (put_ 10 (S 5) x1 0)) (x1 + 1) (by have := mu_up h1; omega)
    · exact G_vret C dX2_beginDay_25 rfl
def s_X2_beginDay (S : SM) : SM := s_X2_beginDay_L2 (mu 0 + 1) S 0
theorem c_X2_beginDay (l : Launch) (K : gK) (a : Nat → Nat) (S : SM) : Ct l K yX2_beginDay cX2_beginDay 2 none 1 [.ref (a 3)] (st_W K a S) (none, st_W K a (s_X2_beginDay S)) := by
  refine Ct.of (own := RX2) (fun z => (none, st_W K a z)) (x := s_X2_beginDay S) (by decide) rfl (Nat.le_of_ble_eq_true rfl) (fun Γ C => ?_)
  unfold s_X2_beginDay
  refine G_iconst C dX2_beginDay_0 (v := 0) rfl ?_
  refine G_istore_n (lv' := [(1, .int 0), (0, .ref (a 3))]) C dX2_beginDay_1 (by decide) rfl ?_
  refine G_sub [1, 0] rfl ?_
  exact g_X2_beginDay_L2 C _ S 0 (Nat.lt_succ_self _)
/-! X2_toOf -/
theorem kd_X2_toOf : Card yX2_toOf cX2_toOf 3 (some .int) 2 := ⟨uc_X2_toOf, un_X2, ⟨by decide, by decide, by decide⟩, by decide⟩
def v_X2_toOf (S : SM) (x1 : Int32) (x2 : Int32) : Int32 := at_ 60 (S 8) ((x1 * 6) + x2)
theorem c_X2_toOf (l : Launch) (K : gK) (a : Nat → Nat) (S : SM) (x1 : Int32) (x2 : Int32) : Ct l K yX2_toOf cX2_toOf 3 (some .int) 1 [.ref (a 3), .int x1, .int x2] (st_W K a S) (some (.int (v_X2_toOf S x1 x2)), st_W K a S) := by
  refine Ct.of (own := RX2) (fun z => (some (.int z), st_W K a S)) (x := v_X2_toOf S x1 x2) (by decide) rfl (Nat.le_of_ble_eq_true rfl) (fun Γ C => ?_)
  unfold v_X2_toOf
  refine G_aload_n C 0 dX2_toOf_0 rfl ?_
  refine G_get C 3 6 dX2_toOf_1 inlX2 uf_X2_30 rfl (by decide) rfl rfl rfl ?_
  refine G_iload_n C 1 dX2_toOf_4 rfl ?_
  refine G_bipush C dX2_toOf_5 (v := 6) rfl ?_
  refine G_imul C dX2_toOf_7 ?_
  refine G_iload_n C 2 dX2_toOf_8 rfl ?_
  refine G_iadd C dX2_toOf_9 ?_
  refine G_callSNi C kd_X9_at ut_X9_at nw_15 (c_at l K (ws := st_W K a S) (q0 := 10) (n := 60) (g := S 8) (ad := (a 10)) (by decide) rfl ((x1 * 6) + x2)) dX2_toOf_10 rfl rfl (Nat.le_of_ble_eq_true rfl) (Nat.le_of_ble_eq_true rfl) ?_
  exact G_iret C dX2_toOf_13 rfl
/-! X2_lengthOf -/
theorem kd_X2_lengthOf : Card yX2_lengthOf cX2_lengthOf 3 (some .int) 2 := ⟨uc_X2_lengthOf, un_X2, ⟨by decide, by decide, by decide⟩, by decide⟩
def v_X2_lengthOf (S : SM) (x1 : Int32) (x2 : Int32) : Int32 := at_ 60 (S 9) ((x1 * 6) + x2)
theorem c_X2_lengthOf (l : Launch) (K : gK) (a : Nat → Nat) (S : SM) (x1 : Int32) (x2 : Int32) : Ct l K yX2_lengthOf cX2_lengthOf 3 (some .int) 1 [.ref (a 3), .int x1, .int x2] (st_W K a S) (some (.int (v_X2_lengthOf S x1 x2)), st_W K a S) := by
  refine Ct.of (own := RX2) (fun z => (some (.int z), st_W K a S)) (x := v_X2_lengthOf S x1 x2) (by decide) rfl (Nat.le_of_ble_eq_true rfl) (fun Γ C => ?_)
  unfold v_X2_lengthOf
  refine G_aload_n C 0 dX2_lengthOf_0 rfl ?_
  refine G_get C 3 7 dX2_lengthOf_1 inlX2 uf_X2_33 rfl (by decide) rfl rfl rfl ?_
  refine G_iload_n C 1 dX2_lengthOf_4 rfl ?_
  refine G_bipush C dX2_lengthOf_5 (v := 6) rfl ?_
  refine G_imul C dX2_lengthOf_7 ?_
  refine G_iload_n C 2 dX2_lengthOf_8 rfl ?_
  refine G_iadd C dX2_lengthOf_9 ?_
  refine G_callSNi C kd_X9_at ut_X9_at nw_15 (c_at l K (ws := st_W K a S) (q0 := 11) (n := 60) (g := S 9) (ad := (a 11)) (by decide) rfl ((x1 * 6) + x2)) dX2_lengthOf_10 rfl rfl (Nat.le_of_ble_eq_true rfl) (Nat.le_of_ble_eq_true rfl) ?_
  exact G_iret C dX2_lengthOf_13 rfl
/-! X2_addLetter -/
theorem kd_X2_addLetter : Card yX2_addLetter cX2_addLetter 5 none 3 := ⟨uc_X2_addLetter, un_X2, ⟨by decide, by decide, by decide⟩, by decide⟩
def s_X2_addLetter_L48 (S : SM) (x1 : Int32) (x2 : Int32) (x3 : Int32) (x4 : Int32) : SM := sU S 7 (put_ 10 (S 7) x1 (x4 + 1))
theorem g_X2_addLetter_L48 {l : Launch} {K : gK} {Γ : gT} {a : Nat → Nat} (C : Cx l K Γ RX2 cX2_addLetter 5 none 1) (S : SM) (x1 : Int32) (x2 : Int32) (x3 : Int32) (x4 : Int32) : G l K Γ (st_W K a S) 48 5 [(0, .ref (a 3)), (1, .int x1), (2, .int x2), (3, .int x3), (4, .int x4)] [] (fun z => (none, st_W K a z)) (s_X2_addLetter_L48 S x1 x2 x3 x4) := by
  unfold s_X2_addLetter_L48
  refine G_aload_n C 0 dX2_addLetter_48 rfl ?_
  refine G_get C 3 5 dX2_addLetter_49 inlX2 uf_X2_27 rfl (by decide) rfl rfl rfl ?_
  refine G_iload_n C 1 dX2_addLetter_52 rfl ?_
  refine G_iload C 4 dX2_addLetter_53 rfl ?_
  refine G_iconst C dX2_addLetter_55 (v := 1) rfl ?_
  refine G_iadd C dX2_addLetter_56 ?_
  refine G_callSNv C kd_X9_put ut_X9_put nw_10 (Ct.to (r' := (none, st_W K a (sU S 7 (put_ 10 (S 7) x1 (x4 + 1))))) (c_put l K (ws := st_W K a S) (q0 := 9) (n := 10) (g := S 7) (ad := (a 9)) (by decide) rfl x1 (x4 + 1)) rfl) dX2_addLetter_57 rfl rfl (Nat.le_of_ble_eq_true rfl) (Nat.le_of_ble_eq_true rfl) ?_
  exact G_vret C dX2_addLetter_60 rfl
def s_X2_addLetter_L33 (S : SM) (x1 : Int32) (x2 : Int32) (x3 : Int32) (x4 : Int32) : SM := s_X2_addLetter_L48 (sU S 9 (put_ 60 (S 9) ((x1 * 6) + x4) x3)) x1 x2 x3 x4
theorem g_X2_addLetter_L33 {l : Launch} {K : gK} {Γ : gT} {a : Nat → Nat} (C : Cx l K Γ RX2 cX2_addLetter 5 none 1) (S : SM) (x1 : Int32) (x2 : Int32) (x3 : Int32) (x4 : Int32) : G l K Γ (st_W K a S) 33 5 [(0, .ref (a 3)), (1, .int x1), (2, .int x2), (3, .int x3), (4, .int x4)] [] (fun z => (none, st_W K a z)) (s_X2_addLetter_L33 S x1 x2 x3 x4) := by
  unfold s_X2_addLetter_L33
  refine G_aload_n C 0 dX2_addLetter_33 rfl ?_
  refine G_get C 3 7 dX2_addLetter_34 inlX2 uf_X2_33 rfl (by decide) rfl rfl rfl ?_
  refine G_iload_n C 1 dX2_addLetter_37 rfl ?_
  refine G_bipush C dX2_addLetter_38 (v := 6) rfl ?_
  refine G_imul C dX2_addLetter_40 ?_
  refine G_iload C 4 dX2_addLetter_41 rfl ?_
  refine G_iadd C dX2_addLetter_43 ?_
  refine G_iload_n C 3 dX2_addLetter_44 rfl ?_
  refine G_callSNv C kd_X9_put ut_X9_put nw_10 (Ct.to (r' := (none, st_W K a (sU S 9 (put_ 60 (S 9) ((x1 * 6) + x4) x3)))) (c_put l K (ws := st_W K a S) (q0 := 11) (n := 60) (g := S 9) (ad := (a 11)) (by decide) rfl ((x1 * 6) + x4) x3) rfl) dX2_addLetter_45 rfl rfl (Nat.le_of_ble_eq_true rfl) (Nat.le_of_ble_eq_true rfl) ?_
  refine G_sub [0, 1, 2, 3, 4] rfl ?_
  exact g_X2_addLetter_L48 C (sU S 9 (put_ 60 (S 9) ((x1 * 6) + x4) x3)) x1 x2 x3 x4
def s_X2_addLetter (S : SM) (x1 : Int32) (x2 : Int32) (x3 : Int32) : SM := if (at_ 10 (S 7) x1) < 6 then s_X2_addLetter_L33 (sU S 8 (put_ 60 (S 8) ((x1 * 6) + (at_ 10 (S 7) x1)) x2)) x1 x2 x3 (at_ 10 (S 7) x1) else S
theorem c_X2_addLetter (l : Launch) (K : gK) (a : Nat → Nat) (S : SM) (x1 : Int32) (x2 : Int32) (x3 : Int32) : Ct l K yX2_addLetter cX2_addLetter 5 none 1 [.ref (a 3), .int x1, .int x2, .int x3] (st_W K a S) (none, st_W K a (s_X2_addLetter S x1 x2 x3)) := by
  refine Ct.of (own := RX2) (fun z => (none, st_W K a z)) (x := s_X2_addLetter S x1 x2 x3) (by decide) rfl (Nat.le_of_ble_eq_true rfl) (fun Γ C => ?_)
  unfold s_X2_addLetter
  refine G_aload_n C 0 dX2_addLetter_0 rfl ?_
  refine G_get C 3 5 dX2_addLetter_1 inlX2 uf_X2_27 rfl (by decide) rfl rfl rfl ?_
  refine G_iload_n C 1 dX2_addLetter_4 rfl ?_
  refine G_callSNi C kd_X9_at ut_X9_at nw_15 (c_at l K (ws := st_W K a S) (q0 := 9) (n := 10) (g := S 7) (ad := (a 9)) (by decide) rfl x1) dX2_addLetter_5 rfl rfl (Nat.le_of_ble_eq_true rfl) (Nat.le_of_ble_eq_true rfl) ?_
  refine G_istore (lv' := [(4, .int (at_ 10 (S 7) x1)), (0, .ref (a 3)), (1, .int x1), (2, .int x2), (3, .int x3)]) C dX2_addLetter_8 (by decide) rfl ?_
  refine G_iload C 0 dX2_addLetter_10 rfl ?_
  refine G_bipush C dX2_addLetter_12 (v := 6) rfl ?_
  refine G_icmp_lt C 18 dX2_addLetter_14 rfl (fun h1 => ?_) (fun h1 => ?_)
  · refine G_aload_n C 1 dX2_addLetter_18 rfl ?_
    refine G_get C 3 6 dX2_addLetter_19 inlX2 uf_X2_30 rfl (by decide) rfl rfl rfl ?_
    refine G_iload_n C 2 dX2_addLetter_22 rfl ?_
    refine G_bipush C dX2_addLetter_23 (v := 6) rfl ?_
    refine G_imul C dX2_addLetter_25 ?_
    refine G_iload C 0 dX2_addLetter_26 rfl ?_
    refine G_iadd C dX2_addLetter_28 ?_
    refine G_iload_n C 3 dX2_addLetter_29 rfl ?_
    refine G_callSNv C kd_X9_put ut_X9_put nw_10 (Ct.to (r' := (none, st_W K a (sU S 8 (put_ 60 (S 8) ((x1 * 6) + (at_ 10 (S 7) x1)) x2)))) (c_put l K (ws := st_W K a S) (q0 := 10) (n := 60) (g := S 8) (ad := (a 10)) (by decide) rfl ((x1 * 6) + (at_ 10 (S 7) x1)) x2) rfl) dX2_addLetter_30 rfl rfl (Nat.le_of_ble_eq_true rfl) (Nat.le_of_ble_eq_true rfl) ?_
    refine G_sub [1, 2, 3, 4, 0] rfl ?_
    exact g_X2_addLetter_L33 C (sU S 8 (put_ 60 (S 8) ((x1 * 6) + (at_ 10 (S 7) x1)) x2)) x1 x2 x3 (at_ 10 (S 7) x1)
  · exact G_vret C dX2_addLetter_17 rfl
/-! X2_removeLetter -/
theorem kd_X2_removeLetter : Card yX2_removeLetter cX2_removeLetter 5 none 2 := ⟨uc_X2_removeLetter, un_X2, ⟨by decide, by decide, by decide⟩, by decide⟩
def s_X2_removeLetter_L43 (S : SM) (x1 : Int32) (x2 : Int32) (x3 : Int32) (x4 : Int32) : SM := sU S 7 (put_ 10 (S 7) x1 (x4 - 1))
theorem g_X2_removeLetter_L43 {l : Launch} {K : gK} {Γ : gT} {a : Nat → Nat} (C : Cx l K Γ RX2 cX2_removeLetter 5 none 2) (S : SM) (x1 : Int32) (x2 : Int32) (x3 : Int32) (x4 : Int32) : G l K Γ (st_W K a S) 43 5 [(0, .ref (a 3)), (1, .int x1), (2, .int x2), (3, .int x3), (4, .int x4)] [] (fun z => (none, st_W K a z)) (s_X2_removeLetter_L43 S x1 x2 x3 x4) := by
  unfold s_X2_removeLetter_L43
  refine G_aload_n C 0 dX2_removeLetter_43 rfl ?_
  refine G_get C 3 5 dX2_removeLetter_44 inlX2 uf_X2_27 rfl (by decide) rfl rfl rfl ?_
  refine G_iload_n C 1 dX2_removeLetter_47 rfl ?_
  refine G_iload C 4 dX2_removeLetter_48 rfl ?_
  refine G_iconst C dX2_removeLetter_50 (v := 1) rfl ?_
  refine G_isub C dX2_removeLetter_51 ?_
  refine G_callSNv C kd_X9_put ut_X9_put nw_10 (Ct.to (r' := (none, st_W K a (sU S 7 (put_ 10 (S 7) x1 (x4 - 1))))) (c_put l K (ws := st_W K a S) (q0 := 9) (n := 10) (g := S 7) (ad := (a 9)) (by decide) rfl x1 (x4 - 1)) rfl) dX2_removeLetter_52 rfl rfl (Nat.le_of_ble_eq_true rfl) (Nat.le_of_ble_eq_true rfl) ?_
  exact G_vret C dX2_removeLetter_55 rfl
def s_X2_removeLetter_L29 (S : SM) (x1 : Int32) (x2 : Int32) (x3 : Int32) (x4 : Int32) : SM := s_X2_removeLetter_L43 (sU S 9 (takeOut_ 60 (S 9) (x3 + x2) (x3 + x4))) x1 x2 x3 x4
theorem g_X2_removeLetter_L29 {l : Launch} {K : gK} {Γ : gT} {a : Nat → Nat} (C : Cx l K Γ RX2 cX2_removeLetter 5 none 2) (S : SM) (x1 : Int32) (x2 : Int32) (x3 : Int32) (x4 : Int32) : G l K Γ (st_W K a S) 29 5 [(0, .ref (a 3)), (1, .int x1), (2, .int x2), (3, .int x3), (4, .int x4)] [] (fun z => (none, st_W K a z)) (s_X2_removeLetter_L29 S x1 x2 x3 x4) := by
  unfold s_X2_removeLetter_L29
  refine G_aload_n C 0 dX2_removeLetter_29 rfl ?_
  refine G_get C 3 7 dX2_removeLetter_30 inlX2 uf_X2_33 rfl (by decide) rfl rfl rfl ?_
  refine G_iload_n C 3 dX2_removeLetter_33 rfl ?_
  refine G_iload_n C 2 dX2_removeLetter_34 rfl ?_
  refine G_iadd C dX2_removeLetter_35 ?_
  refine G_iload_n C 3 dX2_removeLetter_36 rfl ?_
  refine G_iload C 4 dX2_removeLetter_37 rfl ?_
  refine G_iadd C dX2_removeLetter_39 ?_
  refine G_callSNv C kd_X9_takeOut ut_X9_takeOut nw_26 (Ct.to (r' := (none, st_W K a (sU S 9 (takeOut_ 60 (S 9) (x3 + x2) (x3 + x4))))) (c_takeOut l K (ws := st_W K a S) (q0 := 11) (n := 60) (g := S 9) (ad := (a 11)) (by decide) rfl (x3 + x2) (x3 + x4)) rfl) dX2_removeLetter_40 rfl rfl (Nat.le_of_ble_eq_true rfl) (Nat.le_of_ble_eq_true rfl) ?_
  refine G_sub [0, 1, 2, 3, 4] rfl ?_
  exact g_X2_removeLetter_L43 C (sU S 9 (takeOut_ 60 (S 9) (x3 + x2) (x3 + x4))) x1 x2 x3 x4
def s_X2_removeLetter (S : SM) (x1 : Int32) (x2 : Int32) : SM := s_X2_removeLetter_L29 (sU S 8 (takeOut_ 60 (S 8) ((x1 * 6) + x2) ((x1 * 6) + (at_ 10 (S 7) x1)))) x1 x2 (x1 * 6) (at_ 10 (S 7) x1)
theorem c_X2_removeLetter (l : Launch) (K : gK) (a : Nat → Nat) (S : SM) (x1 : Int32) (x2 : Int32) : Ct l K yX2_removeLetter cX2_removeLetter 5 none 2 [.ref (a 3), .int x1, .int x2] (st_W K a S) (none, st_W K a (s_X2_removeLetter S x1 x2)) := by
  refine Ct.of (own := RX2) (fun z => (none, st_W K a z)) (x := s_X2_removeLetter S x1 x2) (by decide) rfl (Nat.le_of_ble_eq_true rfl) (fun Γ C => ?_)
  unfold s_X2_removeLetter
  refine G_iload_n C 1 dX2_removeLetter_0 rfl ?_
  refine G_bipush C dX2_removeLetter_1 (v := 6) rfl ?_
  refine G_imul C dX2_removeLetter_3 ?_
  refine G_istore_n (lv' := [(3, .int (x1 * 6)), (0, .ref (a 3)), (1, .int x1), (2, .int x2)]) C dX2_removeLetter_4 (by decide) rfl ?_
  refine G_aload_n C 1 dX2_removeLetter_5 rfl ?_
  refine G_get C 3 5 dX2_removeLetter_6 inlX2 uf_X2_27 rfl (by decide) rfl rfl rfl ?_
  refine G_iload_n C 2 dX2_removeLetter_9 rfl ?_
  refine G_callSNi C kd_X9_at ut_X9_at nw_15 (c_at l K (ws := st_W K a S) (q0 := 9) (n := 10) (g := S 7) (ad := (a 9)) (by decide) rfl x1) dX2_removeLetter_10 rfl rfl (Nat.le_of_ble_eq_true rfl) (Nat.le_of_ble_eq_true rfl) ?_
  refine G_istore (lv' := [(4, .int (at_ 10 (S 7) x1)), (3, .int (x1 * 6)), (0, .ref (a 3)), (1, .int x1), (2, .int x2)]) C dX2_removeLetter_13 (by decide) rfl ?_
  refine G_aload_n C 2 dX2_removeLetter_15 rfl ?_
  refine G_get C 3 6 dX2_removeLetter_16 inlX2 uf_X2_30 rfl (by decide) rfl rfl rfl ?_
  refine G_iload_n C 1 dX2_removeLetter_19 rfl ?_
  refine G_iload_n C 4 dX2_removeLetter_20 rfl ?_
  refine G_iadd C dX2_removeLetter_21 ?_
  refine G_iload_n C 1 dX2_removeLetter_22 rfl ?_
  refine G_iload C 0 dX2_removeLetter_23 rfl ?_
  refine G_iadd C dX2_removeLetter_25 ?_
  refine G_callSNv C kd_X9_takeOut ut_X9_takeOut nw_26 (Ct.to (r' := (none, st_W K a (sU S 8 (takeOut_ 60 (S 8) ((x1 * 6) + x2) ((x1 * 6) + (at_ 10 (S 7) x1)))))) (c_takeOut l K (ws := st_W K a S) (q0 := 10) (n := 60) (g := S 8) (ad := (a 10)) (by decide) rfl ((x1 * 6) + x2) ((x1 * 6) + (at_ 10 (S 7) x1))) rfl) dX2_removeLetter_26 rfl rfl (Nat.le_of_ble_eq_true rfl) (Nat.le_of_ble_eq_true rfl) ?_
  refine G_sub [2, 3, 4, 1, 0] rfl ?_
  exact g_X2_removeLetter_L29 C (sU S 8 (takeOut_ 60 (S 8) ((x1 * 6) + x2) ((x1 * 6) + (at_ 10 (S 7) x1)))) x1 x2 (x1 * 6) (at_ 10 (S 7) x1)
/-! X2_lengthInQueue -/
theorem kd_X2_lengthInQueue : Card yX2_lengthInQueue cX2_lengthInQueue 4 (some .int) 1 := ⟨uc_X2_lengthInQueue, un_X2, ⟨by decide, by decide, by decide⟩, by decide⟩
def v_X2_lengthInQueue_L4 : Nat → SM → Int32 → Int32 → Int32 → Int32
  | 0, _, _, _, _ => 0
  | fuel + 1, S, x1, x2, x3 => if x3 < (at_ 10 (S 7) x1) then v_X2_lengthInQueue_L4 fuel S x1 (x2 + (v_X2_lengthOf S x1 x3)) (x3 + 1) else x2
theorem g_X2_lengthInQueue_L4 {l : Launch} {K : gK} {Γ : gT} {a : Nat → Nat} (C : Cx l K Γ RX2 cX2_lengthInQueue 4 (some .int) 2) : ∀ (n : Nat) (S : SM) (x1 : Int32) (x2 : Int32) (x3 : Int32), mu x3 < n → G l K Γ (st_W K a S) 4 4 [(0, .ref (a 3)), (1, .int x1), (2, .int x2), (3, .int x3)] [] (fun z => (some (.int z), st_W K a S)) (v_X2_lengthInQueue_L4 n S x1 x2 x3) := by
  intro n
  induction n with
  | zero =>
    intro S x1 x2 x3 hm
    exact absurd hm (Nat.not_lt_zero _)
  | succ n ih =>
    intro S x1 x2 x3 hm
    rw [v_X2_lengthInQueue_L4]
    refine G_iload_n C 3 dX2_lengthInQueue_4 rfl ?_
    refine G_aload_n C 0 dX2_lengthInQueue_5 rfl ?_
    refine G_get C 3 5 dX2_lengthInQueue_6 inlX2 uf_X2_27 rfl (by decide) rfl rfl rfl ?_
    refine G_iload_n C 1 dX2_lengthInQueue_9 rfl ?_
    refine G_callSNi C kd_X9_at ut_X9_at nw_15 (c_at l K (ws := st_W K a S) (q0 := 9) (n := 10) (g := S 7) (ad := (a 9)) (by decide) rfl x1) dX2_lengthInQueue_10 rfl rfl (Nat.le_of_ble_eq_true rfl) (Nat.le_of_ble_eq_true rfl) ?_
    refine G_icmp_ge C 31 dX2_lengthInQueue_13 rfl (fun h1 => ?_) (fun h1 => ?_)
    · refine G_iload_n C 2 dX2_lengthInQueue_16 rfl ?_
      refine G_aload_n C 0 dX2_lengthInQueue_17 rfl ?_
      refine G_iload_n C 1 dX2_lengthInQueue_18 rfl ?_
      refine G_iload_n C 3 dX2_lengthInQueue_19 rfl ?_
      refine G_callVi C 3 2 kd_X2_lengthOf ui_X2_lengthOf us_X2_lengthOf um_X2_59 rfl rfl (c_X2_lengthOf l K a S x1 x3) dX2_lengthInQueue_20 rfl rfl (Nat.le_of_ble_eq_true rfl) (Nat.le_of_ble_eq_true rfl) ?_
      refine G_iadd C dX2_lengthInQueue_23 ?_
      refine G_istore_n (lv' := [(2, .int (x2 + (v_X2_lengthOf S x1 x3))), (0, .ref (a 3)), (1, .int x1), (3, .int x3)]) C dX2_lengthInQueue_24 (by decide) rfl ?_
      refine G_iinc (lv' := [(3, .int (x3 + 1)), (2, .int (x2 + (v_X2_lengthOf S x1 x3))), (0, .ref (a 3)), (1, .int x1)]) C 3 dX2_lengthInQueue_25 rfl rfl (by decide) rfl ?_
      refine G_goto C 4 dX2_lengthInQueue_28 rfl ?_
      refine G_sub [2, 3, 1, 0] rfl ?_
      exact ih S x1 (x2 + (v_X2_lengthOf S x1 x3)) (x3 + 1) (by have := mu_up h1; omega)
    · refine G_iload_n C 2 dX2_lengthInQueue_31 rfl ?_
      exact G_iret C dX2_lengthInQueue_32 rfl
def v_X2_lengthInQueue (S : SM) (x1 : Int32) : Int32 := v_X2_lengthInQueue_L4 (mu 0 + 1) S x1 0 0
theorem c_X2_lengthInQueue (l : Launch) (K : gK) (a : Nat → Nat) (S : SM) (x1 : Int32) : Ct l K yX2_lengthInQueue cX2_lengthInQueue 4 (some .int) 2 [.ref (a 3), .int x1] (st_W K a S) (some (.int (v_X2_lengthInQueue S x1)), st_W K a S) := by
  refine Ct.of (own := RX2) (fun z => (some (.int z), st_W K a S)) (x := v_X2_lengthInQueue S x1) (by decide) rfl (Nat.le_of_ble_eq_true rfl) (fun Γ C => ?_)
  unfold v_X2_lengthInQueue
  refine G_iconst C dX2_lengthInQueue_0 (v := 0) rfl ?_
  refine G_istore_n (lv' := [(2, .int 0), (0, .ref (a 3)), (1, .int x1)]) C dX2_lengthInQueue_1 (by decide) rfl ?_
  refine G_iconst C dX2_lengthInQueue_2 (v := 0) rfl ?_
  refine G_istore_n (lv' := [(3, .int 0), (2, .int 0), (0, .ref (a 3)), (1, .int x1)]) C dX2_lengthInQueue_3 (by decide) rfl ?_
  refine G_sub [2, 3, 1, 0] rfl ?_
  exact g_X2_lengthInQueue_L4 C _ S x1 0 0 (Nat.lt_succ_self _)
/-! X2_lengthInAll -/
theorem kd_X2_lengthInAll : Card yX2_lengthInAll cX2_lengthInAll 3 (some .int) 0 := ⟨uc_X2_lengthInAll, un_X2, ⟨by decide, by decide, by decide⟩, by decide⟩
def v_X2_lengthInAll_L4 : Nat → SM → Int32 → Int32 → Int32
  | 0, _, _, _ => 0
  | fuel + 1, S, x1, x2 => if x2 < (S 18 2) then v_X2_lengthInAll_L4 fuel S (x1 + (v_X2_lengthInQueue S x2)) (x2 + 1) else x1
theorem g_X2_lengthInAll_L4 {l : Launch} {K : gK} {Γ : gT} {a : Nat → Nat} (C : Cx l K Γ RX2 cX2_lengthInAll 3 (some .int) 3) : ∀ (n : Nat) (S : SM) (x1 : Int32) (x2 : Int32), mu x2 < n → G l K Γ (st_W K a S) 4 3 [(0, .ref (a 3)), (1, .int x1), (2, .int x2)] [] (fun z => (some (.int z), st_W K a S)) (v_X2_lengthInAll_L4 n S x1 x2) := by
  intro n
  induction n with
  | zero =>
    intro S x1 x2 hm
    exact absurd hm (Nat.not_lt_zero _)
  | succ n ih =>
    intro S x1 x2 hm
    rw [v_X2_lengthInAll_L4]
    refine G_iload_n C 2 dX2_lengthInAll_4 rfl ?_
    refine G_aload_n C 0 dX2_lengthInAll_5 rfl ?_
    refine G_get C 3 8 dX2_lengthInAll_6 inlX2 uf_X2_40 rfl (by decide) rfl rfl rfl ?_
    refine G_icmp_ge C 26 dX2_lengthInAll_9 rfl (fun h1 => ?_) (fun h1 => ?_)
    · refine G_iload_n C 1 dX2_lengthInAll_12 rfl ?_
      refine G_aload_n C 0 dX2_lengthInAll_13 rfl ?_
      refine G_iload_n C 2 dX2_lengthInAll_14 rfl ?_
      refine G_callVi C 3 2 kd_X2_lengthInQueue ui_X2_lengthInQueue us_X2_lengthInQueue um_X2_63 rfl rfl (c_X2_lengthInQueue l K a S x2) dX2_lengthInAll_15 rfl rfl (Nat.le_of_ble_eq_true rfl) (Nat.le_of_ble_eq_true rfl) ?_
      refine G_iadd C dX2_lengthInAll_18 ?_
      refine G_istore_n (lv' := [(1, .int (x1 + (v_X2_lengthInQueue S x2))), (0, .ref (a 3)), (2, .int x2)]) C dX2_lengthInAll_19 (by decide) rfl ?_
      refine G_iinc (lv' := [(2, .int (x2 + 1)), (1, .int (x1 + (v_X2_lengthInQueue S x2))), (0, .ref (a 3))]) C 2 dX2_lengthInAll_20 rfl rfl (by decide) rfl ?_
      refine G_goto C 4 dX2_lengthInAll_23 rfl ?_
      refine G_sub [2, 1, 0] rfl ?_
      exact ih S (x1 + (v_X2_lengthInQueue S x2)) (x2 + 1) (by have := mu_up h1; omega)
    · refine G_iload_n C 1 dX2_lengthInAll_26 rfl ?_
      exact G_iret C dX2_lengthInAll_27 rfl
def v_X2_lengthInAll (S : SM) : Int32 := v_X2_lengthInAll_L4 (mu 0 + 1) S 0 0
theorem c_X2_lengthInAll (l : Launch) (K : gK) (a : Nat → Nat) (S : SM) : Ct l K yX2_lengthInAll cX2_lengthInAll 3 (some .int) 3 [.ref (a 3)] (st_W K a S) (some (.int (v_X2_lengthInAll S)), st_W K a S) := by
  refine Ct.of (own := RX2) (fun z => (some (.int z), st_W K a S)) (x := v_X2_lengthInAll S) (by decide) rfl (Nat.le_of_ble_eq_true rfl) (fun Γ C => ?_)
  unfold v_X2_lengthInAll
  refine G_iconst C dX2_lengthInAll_0 (v := 0) rfl ?_
  refine G_istore_n (lv' := [(1, .int 0), (0, .ref (a 3))]) C dX2_lengthInAll_1 (by decide) rfl ?_
  refine G_iconst C dX2_lengthInAll_2 (v := 0) rfl ?_
  refine G_istore_n (lv' := [(2, .int 0), (1, .int 0), (0, .ref (a 3))]) C dX2_lengthInAll_3 (by decide) rfl ?_
  refine G_sub [2, 1, 0] rfl ?_
  exact g_X2_lengthInAll_L4 C _ S 0 0 (Nat.lt_succ_self _)
/-! X2_lettersInAll -/
theorem kd_X2_lettersInAll : Card yX2_lettersInAll cX2_lettersInAll 3 (some .int) 0 := ⟨uc_X2_lettersInAll, un_X2, ⟨by decide, by decide, by decide⟩, by decide⟩
def v_X2_lettersInAll_L4 : Nat → SM → Int32 → Int32 → Int32
  | 0, _, _, _ => 0
  | fuel + 1, S, x1, x2 => if x2 < (S 18 2) then v_X2_lettersInAll_L4 fuel S (x1 + (at_ 10 (S 7) x2)) (x2 + 1) else x1
theorem g_X2_lettersInAll_L4 {l : Launch} {K : gK} {Γ : gT} {a : Nat → Nat} (C : Cx l K Γ RX2 cX2_lettersInAll 3 (some .int) 1) : ∀ (n : Nat) (S : SM) (x1 : Int32) (x2 : Int32), mu x2 < n → G l K Γ (st_W K a S) 4 3 [(0, .ref (a 3)), (1, .int x1), (2, .int x2)] [] (fun z => (some (.int z), st_W K a S)) (v_X2_lettersInAll_L4 n S x1 x2) := by
  intro n
  induction n with
  | zero =>
    intro S x1 x2 hm
    exact absurd hm (Nat.not_lt_zero _)
  | succ n ih =>
    intro S x1 x2 hm
    rw [v_X2_lettersInAll_L4]
    refine G_iload_n C 2 dX2_lettersInAll_4 rfl ?_
    refine G_aload_n C 0 dX2_lettersInAll_5 rfl ?_
    refine G_get C 3 8 dX2_lettersInAll_6 inlX2 uf_X2_40 rfl (by decide) rfl rfl rfl ?_
    refine G_icmp_ge C 29 dX2_lettersInAll_9 rfl (fun h1 => ?_) (fun h1 => ?_)
    · refine G_iload_n C 1 dX2_lettersInAll_12 rfl ?_
      refine G_aload_n C 0 dX2_lettersInAll_13 rfl ?_
      refine G_get C 3 5 dX2_lettersInAll_14 inlX2 uf_X2_27 rfl (by decide) rfl rfl rfl ?_
      refine G_iload_n C 2 dX2_lettersInAll_17 rfl ?_
      refine G_callSNi C kd_X9_at ut_X9_at nw_15 (c_at l K (ws := st_W K a S) (q0 := 9) (n := 10) (g := S 7) (ad := (a 9)) (by decide) rfl x2) dX2_lettersInAll_18 rfl rfl (Nat.le_of_ble_eq_true rfl) (Nat.le_of_ble_eq_true rfl) ?_
      refine G_iadd C dX2_lettersInAll_21 ?_
      refine G_istore_n (lv' := [(1, .int (x1 + (at_ 10 (S 7) x2))), (0, .ref (a 3)), (2, .int x2)]) C dX2_lettersInAll_22 (by decide) rfl ?_
      refine G_iinc (lv' := [(2, .int (x2 + 1)), (1, .int (x1 + (at_ 10 (S 7) x2))), (0, .ref (a 3))]) C 2 dX2_lettersInAll_23 rfl rfl (by decide) rfl ?_
      refine G_goto C 4 dX2_lettersInAll_26 rfl ?_
      refine G_sub [2, 1, 0] rfl ?_
      exact ih S (x1 + (at_ 10 (S 7) x2)) (x2 + 1) (by have := mu_up h1; omega)
    · refine G_iload_n C 1 dX2_lettersInAll_29 rfl ?_
      exact G_iret C dX2_lettersInAll_30 rfl
def v_X2_lettersInAll (S : SM) : Int32 := v_X2_lettersInAll_L4 (mu 0 + 1) S 0 0
theorem c_X2_lettersInAll (l : Launch) (K : gK) (a : Nat → Nat) (S : SM) : Ct l K yX2_lettersInAll cX2_lettersInAll 3 (some .int) 1 [.ref (a 3)] (st_W K a S) (some (.int (v_X2_lettersInAll S)), st_W K a S) := by
  refine Ct.of (own := RX2) (fun z => (some (.int z), st_W K a S)) (x := v_X2_lettersInAll S) (by decide) rfl (Nat.le_of_ble_eq_true rfl) (fun Γ C => ?_)
  unfold v_X2_lettersInAll
  refine G_iconst C dX2_lettersInAll_0 (v := 0) rfl ?_
  refine G_istore_n (lv' := [(1, .int 0), (0, .ref (a 3))]) C dX2_lettersInAll_1 (by decide) rfl ?_
  refine G_iconst C dX2_lettersInAll_2 (v := 0) rfl ?_
  refine G_istore_n (lv' := [(2, .int 0), (1, .int 0), (0, .ref (a 3))]) C dX2_lettersInAll_3 (by decide) rfl ?_
  refine G_sub [2, 1, 0] rfl ?_
  exact g_X2_lettersInAll_L4 C _ S 0 0 (Nat.lt_succ_self _)
/-! X2_lettersTo -/
theorem kd_X2_lettersTo : Card yX2_lettersTo cX2_lettersTo 5 (some .int) 1 := ⟨uc_X2_lettersTo, un_X2, ⟨by decide, by decide, by decide⟩, by decide⟩
def v_X2_lettersTo_L15 (rc : Int32 → Int32 → Int32 → Int32) : Nat → SM → Int32 → Int32 → Int32 → Int32 → Int32
  | 0, _, _, _, _, _ => 0
  | fuel + 1, S, x1, x2, x3, x4 => if x4 < (at_ 10 (S 7) x3) then if (v_X2_toOf S x3 x4) = x1 then v_X2_lettersTo_L15 rc fuel S x1 (x2 + 1) x3 (x4 + 1) else v_X2_lettersTo_L15 rc fuel S x1 x2 x3 (x4 + 1) else rc x1 x2 (x3 + 1)
theorem g_X2_lettersTo_L15 {l : Launch} {K : gK} {Γ : gT} {a : Nat → Nat} (C : Cx l K Γ RX2 cX2_lettersTo 5 (some .int) 2) (rc : Int32 → Int32 → Int32 → Int32) : ∀ (n : Nat) (S : SM) (x1 : Int32) (x2 : Int32) (x3 : Int32) (x4 : Int32) (hrc : ∀ y2 : Int32, G l K Γ (st_W K a S) 4 5 [(0, .ref (a 3)), (1, .int x1), (2, .int y2), (3, .int (x3 + 1))] [] (fun z => (some (.int z), st_W K a S)) (rc x1 y2 (x3 + 1))), mu x4 < n → G l K Γ (st_W K a S) 15 5 [(0, .ref (a 3)), (1, .int x1), (2, .int x2), (3, .int x3), (4, .int x4)] [] (fun z => (some (.int z), st_W K a S)) (v_X2_lettersTo_L15 rc n S x1 x2 x3 x4) := by
  intro n
  induction n with
  | zero =>
    intro S x1 x2 x3 x4 hrc hm
    exact absurd hm (Nat.not_lt_zero _)
  | succ n ih =>
    intro S x1 x2 x3 x4 hrc hm
    rw [v_X2_lettersTo_L15]
    refine G_iload C 4 dX2_lettersTo_15 rfl ?_
    refine G_aload_n C 0 dX2_lettersTo_17 rfl ?_
    refine G_get C 3 5 dX2_lettersTo_18 inlX2 uf_X2_27 rfl (by decide) rfl rfl rfl ?_
    refine G_iload_n C 3 dX2_lettersTo_21 rfl ?_
    refine G_callSNi C kd_X9_at ut_X9_at nw_15 (c_at l K (ws := st_W K a S) (q0 := 9) (n := 10) (g := S 7) (ad := (a 9)) (by decide) rfl x3) dX2_lettersTo_22 rfl rfl (Nat.le_of_ble_eq_true rfl) (Nat.le_of_ble_eq_true rfl) ?_
    refine G_icmp_ge C 48 dX2_lettersTo_25 rfl (fun h2 => ?_) (fun h2 => ?_)
    · refine G_aload_n C 0 dX2_lettersTo_28 rfl ?_
      refine G_iload_n C 3 dX2_lettersTo_29 rfl ?_
      refine G_iload C 4 dX2_lettersTo_30 rfl ?_
      refine G_callVi C 3 2 kd_X2_toOf ui_X2_toOf us_X2_toOf um_X2_67 rfl rfl (c_X2_toOf l K a S x3 x4) dX2_lettersTo_32 rfl rfl (Nat.le_of_ble_eq_true rfl) (Nat.le_of_ble_eq_true rfl) ?_
      refine G_iload_n C 1 dX2_lettersTo_35 rfl ?_
      refine G_icmp_ne C 42 dX2_lettersTo_36 rfl (fun h3 => ?_) (fun h3 => ?_)
      · refine G_iinc (lv' := [(2, .int (x2 + 1)), (0, .ref (a 3)), (1, .int x1), (3, .int x3), (4, .int x4)]) C 2 dX2_lettersTo_39 rfl rfl (by decide) rfl ?_
        refine G_iinc (lv' := [(4, .int (x4 + 1)), (2, .int (x2 + 1)), (0, .ref (a 3)), (1, .int x1), (3, .int x3)]) C 4 dX2_lettersTo_42 rfl rfl (by decide) rfl ?_
        refine G_goto C 15 dX2_lettersTo_45 rfl ?_
        refine G_sub [2, 3, 1, 4, 0] rfl ?_
        exact ih S x1 (x2 + 1) x3 (x4 + 1) hrc (by have := mu_up h2; omega)
      · refine G_iinc (lv' := [(4, .int (x4 + 1)), (0, .ref (a 3)), (1, .int x1), (2, .int x2), (3, .int x3)]) C 4 dX2_lettersTo_42 rfl rfl (by decide) rfl ?_
        refine G_goto C 15 dX2_lettersTo_45 rfl ?_
        refine G_sub [1, 2, 3, 4, 0] rfl ?_
        exact ih S x1 x2 x3 (x4 + 1) hrc (by have := mu_up h2; omega)
    · refine G_iinc (lv' := [(3, .int (x3 + 1)), (0, .ref (a 3)), (1, .int x1), (2, .int x2), (4, .int x4)]) C 3 dX2_lettersTo_48 rfl rfl (by decide) rfl ?_
      refine G_goto C 4 dX2_lettersTo_51 rfl ?_
      refine G_sub [1, 2, 3, 0] rfl ?_
      exact hrc x2
def v_X2_lettersTo_L4 : Nat → SM → Int32 → Int32 → Int32 → Int32
  | 0, _, _, _, _ => 0
  | fuel + 1, S, x1, x2, x3 => if x3 < (S 18 2) then v_X2_lettersTo_L15 (fun y1 y2 y3 => v_X2_lettersTo_L4 fuel S y1 y2 y3) (mu 0 + 1) S x1 x2 x3 0 else x2
theorem g_X2_lettersTo_L4 {l : Launch} {K : gK} {Γ : gT} {a : Nat → Nat} (C : Cx l K Γ RX2 cX2_lettersTo 5 (some .int) 2) : ∀ (n : Nat) (S : SM) (x1 : Int32) (x2 : Int32) (x3 : Int32), mu x3 < n → G l K Γ (st_W K a S) 4 5 [(0, .ref (a 3)), (1, .int x1), (2, .int x2), (3, .int x3)] [] (fun z => (some (.int z), st_W K a S)) (v_X2_lettersTo_L4 n S x1 x2 x3) := by
  intro n
  induction n with
  | zero =>
    intro S x1 x2 x3 hm
    exact absurd hm (Nat.not_lt_zero _)
  | succ n ih =>
    intro S x1 x2 x3 hm
    rw [v_X2_lettersTo_L4]
    refine G_iload_n C 3 dX2_lettersTo_4 rfl ?_
    refine G_aload_n C 0 dX2_lettersTo_5 rfl ?_
    refine G_get C 3 8 dX2_lettersTo_6 inlX2 uf_X2_40 rfl (by decide) rfl rfl rfl ?_
    refine G_icmp_ge C 54 dX2_lettersTo_9 rfl (fun h1 => ?_) (fun h1 => ?_)
    · refine G_iconst C dX2_lettersTo_12 (v := 0) rfl ?_
      refine G_istore (lv' := [(4, .int 0), (0, .ref (a 3)), (1, .int x1), (2, .int x2), (3, .int x3)]) C dX2_lettersTo_13 (by decide) rfl ?_
      refine G_sub [1, 2, 3, 4, 0] rfl ?_
      exact g_X2_lettersTo_L15 C (fun y1 y2 y3 => v_X2_lettersTo_L4 n S y1 y2 y3) _ S x1 x2 x3 0 (fun y2 => ih S x1 y2 (x3 + 1) (by have := mu_up h1; omega)) (Nat.lt_succ_self _)
    · refine G_iload_n C 2 dX2_lettersTo_54 rfl ?_
      exact G_iret C dX2_lettersTo_55 rfl
def v_X2_lettersTo (S : SM) (x1 : Int32) : Int32 := v_X2_lettersTo_L4 (mu 0 + 1) S x1 0 0
theorem c_X2_lettersTo (l : Launch) (K : gK) (a : Nat → Nat) (S : SM) (x1 : Int32) : Ct l K yX2_lettersTo cX2_lettersTo 5 (some .int) 2 [.ref (a 3), .int x1] (st_W K a S) (some (.int (v_X2_lettersTo S x1)), st_W K a S) := by
  refine Ct.of (own := RX2) (fun z => (some (.int z), st_W K a S)) (x := v_X2_lettersTo S x1) (by decide) rfl (Nat.le_of_ble_eq_true rfl) (fun Γ C => ?_)
  unfold v_X2_lettersTo
  refine G_iconst C dX2_lettersTo_0 (v := 0) rfl ?_
  refine G_istore_n (lv' := [(2, .int 0), (0, .ref (a 3)), (1, .int x1)]) C dX2_lettersTo_1 (by decide) rfl ?_
  refine G_iconst C dX2_lettersTo_2 (v := 0) rfl ?_
  refine G_istore_n (lv' := [(3, .int 0), (2, .int 0), (0, .ref (a 3)), (1, .int x1)]) C dX2_lettersTo_3 (by decide) rfl ?_
  refine G_sub [2, 3, 1, 0] rfl ?_
  exact g_X2_lettersTo_L4 C _ S x1 0 0 (Nat.lt_succ_self _)
/-! X8_add -/
theorem kd_X8_add : Card yX8_add cX8_add 2 none 1 := ⟨uc_X8_add, un_X8, ⟨by decide, by decide, by decide⟩, by decide⟩
def s_X8_add_L82 (S : SM) (x1 : Int32) : SM := sF S 3 ((S 18 3) + 1)
theorem g_X8_add_L82 {l : Launch} {K : gK} {Γ : gT} {a : Nat → Nat} (C : Cx l K Γ RX8 cX8_add 2 none 1) (S : SM) (x1 : Int32) : G l K Γ (st_W K a S) 82 2 [(0, .ref (a 12)), (1, .int x1)] [] (fun z => (none, st_W K a z)) (s_X8_add_L82 S x1) := by
  unfold s_X8_add_L82
  refine G_aload_n C 0 dX8_add_82 rfl ?_
  refine G_dup C dX8_add_83 rfl ?_
  refine G_get C 12 5 dX8_add_84 inlX8 uf_X8_31 rfl (by decide) rfl rfl rfl ?_
  refine G_iconst C dX8_add_87 (v := 1) rfl ?_
  refine G_iadd C dX8_add_88 ?_
  refine G_put (ws' := st_W K a (sF S 3 ((S 18 3) + 1))) C 12 5 tyX8 .int dX8_add_89 inlX8 uf_X8_31 tyX8_ok nmX8 rfl (by decide) rfl rfl rfl rfl rfl rfl (Nat.le_of_ble_eq_true rfl) rfl ?_
  exact G_vret C dX8_add_92 rfl
def s_X8_add_L70 (S : SM) (x1 : Int32) : SM := s_X8_add_L82 (sU S 14 (put_ 3 (S 14) (S 18 3) 0)) x1
theorem g_X8_add_L70 {l : Launch} {K : gK} {Γ : gT} {a : Nat → Nat} (C : Cx l K Γ RX8 cX8_add 2 none 1) (S : SM) (x1 : Int32) : G l K Γ (st_W K a S) 70 2 [(0, .ref (a 12)), (1, .int x1)] [] (fun z => (none, st_W K a z)) (s_X8_add_L70 S x1) := by
  unfold s_X8_add_L70
  refine G_aload_n C 0 dX8_add_70 rfl ?_
  refine G_get C 12 4 dX8_add_71 inlX8 uf_X8_24 rfl (by decide) rfl rfl rfl ?_
  refine G_aload_n C 0 dX8_add_74 rfl ?_
  refine G_get C 12 5 dX8_add_75 inlX8 uf_X8_31 rfl (by decide) rfl rfl rfl ?_
  refine G_iconst C dX8_add_78 (v := 0) rfl ?_
  refine G_callSNv C kd_X9_put ut_X9_put nw_11 (Ct.to (r' := (none, st_W K a (sU S 14 (put_ 3 (S 14) (S 18 3) 0)))) (c_put l K (ws := st_W K a S) (q0 := 17) (n := 3) (g := S 14) (ad := (a 17)) (by decide) rfl (S 18 3) 0) rfl) dX8_add_79 rfl rfl (Nat.le_of_ble_eq_true rfl) (Nat.le_of_ble_eq_true rfl) ?_
  refine G_sub [0, 1] rfl ?_
  exact g_X8_add_L82 C (sU S 14 (put_ 3 (S 14) (S 18 3) 0)) x1
def s_X8_add_L58 (S : SM) (x1 : Int32) : SM := s_X8_add_L70 (sU S 13 (put_ 3 (S 13) (S 18 3) 0)) x1
theorem g_X8_add_L58 {l : Launch} {K : gK} {Γ : gT} {a : Nat → Nat} (C : Cx l K Γ RX8 cX8_add 2 none 1) (S : SM) (x1 : Int32) : G l K Γ (st_W K a S) 58 2 [(0, .ref (a 12)), (1, .int x1)] [] (fun z => (none, st_W K a z)) (s_X8_add_L58 S x1) := by
  unfold s_X8_add_L58
  refine G_aload_n C 0 dX8_add_58 rfl ?_
  refine G_get C 12 3 dX8_add_59 inlX8 uf_X8_21 rfl (by decide) rfl rfl rfl ?_
  refine G_aload_n C 0 dX8_add_62 rfl ?_
  refine G_get C 12 5 dX8_add_63 inlX8 uf_X8_31 rfl (by decide) rfl rfl rfl ?_
  refine G_iconst C dX8_add_66 (v := 0) rfl ?_
  refine G_callSNv C kd_X9_put ut_X9_put nw_11 (Ct.to (r' := (none, st_W K a (sU S 13 (put_ 3 (S 13) (S 18 3) 0)))) (c_put l K (ws := st_W K a S) (q0 := 16) (n := 3) (g := S 13) (ad := (a 16)) (by decide) rfl (S 18 3) 0) rfl) dX8_add_67 rfl rfl (Nat.le_of_ble_eq_true rfl) (Nat.le_of_ble_eq_true rfl) ?_
  refine G_sub [0, 1] rfl ?_
  exact g_X8_add_L70 C (sU S 13 (put_ 3 (S 13) (S 18 3) 0)) x1
def s_X8_add_L46 (S : SM) (x1 : Int32) : SM := s_X8_add_L58 (sU S 12 (put_ 3 (S 12) (S 18 3) 0)) x1
theorem g_X8_add_L46 {l : Launch} {K : gK} {Γ : gT} {a : Nat → Nat} (C : Cx l K Γ RX8 cX8_add 2 none 1) (S : SM) (x1 : Int32) : G l K Γ (st_W K a S) 46 2 [(0, .ref (a 12)), (1, .int x1)] [] (fun z => (none, st_W K a z)) (s_X8_add_L46 S x1) := by
  unfold s_X8_add_L46
  refine G_aload_n C 0 dX8_add_46 rfl ?_
  refine G_get C 12 2 dX8_add_47 inlX8 uf_X8_18 rfl (by decide) rfl rfl rfl ?_
  refine G_aload_n C 0 dX8_add_50 rfl ?_
  refine G_get C 12 5 dX8_add_51 inlX8 uf_X8_31 rfl (by decide) rfl rfl rfl ?_
  refine G_iconst C dX8_add_54 (v := 0) rfl ?_
  refine G_callSNv C kd_X9_put ut_X9_put nw_11 (Ct.to (r' := (none, st_W K a (sU S 12 (put_ 3 (S 12) (S 18 3) 0)))) (c_put l K (ws := st_W K a S) (q0 := 15) (n := 3) (g := S 12) (ad := (a 15)) (by decide) rfl (S 18 3) 0) rfl) dX8_add_55 rfl rfl (Nat.le_of_ble_eq_true rfl) (Nat.le_of_ble_eq_true rfl) ?_
  refine G_sub [0, 1] rfl ?_
  exact g_X8_add_L58 C (sU S 12 (put_ 3 (S 12) (S 18 3) 0)) x1
def s_X8_add_L34 (S : SM) (x1 : Int32) : SM := s_X8_add_L46 (sU S 11 (put_ 3 (S 11) (S 18 3) x1)) x1
theorem g_X8_add_L34 {l : Launch} {K : gK} {Γ : gT} {a : Nat → Nat} (C : Cx l K Γ RX8 cX8_add 2 none 1) (S : SM) (x1 : Int32) : G l K Γ (st_W K a S) 34 2 [(0, .ref (a 12)), (1, .int x1)] [] (fun z => (none, st_W K a z)) (s_X8_add_L34 S x1) := by
  unfold s_X8_add_L34
  refine G_aload_n C 0 dX8_add_34 rfl ?_
  refine G_get C 12 1 dX8_add_35 inlX8 uf_X8_15 rfl (by decide) rfl rfl rfl ?_
  refine G_aload_n C 0 dX8_add_38 rfl ?_
  refine G_get C 12 5 dX8_add_39 inlX8 uf_X8_31 rfl (by decide) rfl rfl rfl ?_
  refine G_iload_n C 1 dX8_add_42 rfl ?_
  refine G_callSNv C kd_X9_put ut_X9_put nw_11 (Ct.to (r' := (none, st_W K a (sU S 11 (put_ 3 (S 11) (S 18 3) x1)))) (c_put l K (ws := st_W K a S) (q0 := 14) (n := 3) (g := S 11) (ad := (a 14)) (by decide) rfl (S 18 3) x1) rfl) dX8_add_43 rfl rfl (Nat.le_of_ble_eq_true rfl) (Nat.le_of_ble_eq_true rfl) ?_
  refine G_sub [0, 1] rfl ?_
  exact g_X8_add_L46 C (sU S 11 (put_ 3 (S 11) (S 18 3) x1)) x1
def s_X8_add_L19 (S : SM) (x1 : Int32) : SM := s_X8_add_L34 (sU S 10 (put_ 3 (S 10) (S 18 3) (S 18 4))) x1
theorem g_X8_add_L19 {l : Launch} {K : gK} {Γ : gT} {a : Nat → Nat} (C : Cx l K Γ RX8 cX8_add 2 none 1) (S : SM) (x1 : Int32) : G l K Γ (st_W K a S) 19 2 [(0, .ref (a 12)), (1, .int x1)] [] (fun z => (none, st_W K a z)) (s_X8_add_L19 S x1) := by
  unfold s_X8_add_L19
  refine G_aload_n C 0 dX8_add_19 rfl ?_
  refine G_get C 12 0 dX8_add_20 inlX8 uf_X8_9 rfl (by decide) rfl rfl rfl ?_
  refine G_aload_n C 0 dX8_add_23 rfl ?_
  refine G_get C 12 5 dX8_add_24 inlX8 uf_X8_31 rfl (by decide) rfl rfl rfl ?_
  refine G_aload_n C 0 dX8_add_27 rfl ?_
  refine G_get C 12 6 dX8_add_28 inlX8 uf_X8_35 rfl (by decide) rfl rfl rfl ?_
  refine G_callSNv C kd_X9_put ut_X9_put nw_11 (Ct.to (r' := (none, st_W K a (sU S 10 (put_ 3 (S 10) (S 18 3) (S 18 4))))) (c_put l K (ws := st_W K a S) (q0 := 13) (n := 3) (g := S 10) (ad := (a 13)) (by decide) rfl (S 18 3) (S 18 4)) rfl) dX8_add_31 rfl rfl (Nat.le_of_ble_eq_true rfl) (Nat.le_of_ble_eq_true rfl) ?_
  refine G_sub [0, 1] rfl ?_
  exact g_X8_add_L34 C (sU S 10 (put_ 3 (S 10) (S 18 3) (S 18 4))) x1
def s_X8_add (S : SM) (x1 : Int32) : SM := if (S 18 3) < 3 then s_X8_add_L19 (sF S 4 ((S 18 4) + 1)) x1 else S
theorem c_X8_add (l : Launch) (K : gK) (a : Nat → Nat) (S : SM) (x1 : Int32) : Ct l K yX8_add cX8_add 2 none 1 [.ref (a 12), .int x1] (st_W K a S) (none, st_W K a (s_X8_add S x1)) := by
  refine Ct.of (own := RX8) (fun z => (none, st_W K a z)) (x := s_X8_add S x1) (by decide) rfl (Nat.le_of_ble_eq_true rfl) (fun Γ C => ?_)
  unfold s_X8_add
  refine G_aload_n C 0 dX8_add_0 rfl ?_
  refine G_get C 12 5 dX8_add_1 inlX8 uf_X8_31 rfl (by decide) rfl rfl rfl ?_
  refine G_iconst C dX8_add_4 (v := 3) rfl ?_
  refine G_icmp_lt C 9 dX8_add_5 rfl (fun h1 => ?_) (fun h1 => ?_)
  · refine G_aload_n C 0 dX8_add_9 rfl ?_
    refine G_dup C dX8_add_10 rfl ?_
    refine G_get C 12 6 dX8_add_11 inlX8 uf_X8_35 rfl (by decide) rfl rfl rfl ?_
    refine G_iconst C dX8_add_14 (v := 1) rfl ?_
    refine G_iadd C dX8_add_15 ?_
    refine G_put (ws' := st_W K a (sF S 4 ((S 18 4) + 1))) C 12 6 tyX8 .int dX8_add_16 inlX8 uf_X8_35 tyX8_ok nmX8 rfl (by decide) rfl rfl rfl rfl rfl rfl (Nat.le_of_ble_eq_true rfl) rfl ?_
    refine G_sub [0, 1] rfl ?_
    exact g_X8_add_L19 C (sF S 4 ((S 18 4) + 1)) x1
  · exact G_vret C dX8_add_8 rfl
/-! X6_beginAsNew -/
theorem kd_X6_beginAsNew : Card yX6_beginAsNew cX6_beginAsNew 1 none 0 := ⟨uc_X6_beginAsNew, un_X6, ⟨by decide, by decide, by decide⟩, by decide⟩
def s_X6_beginAsNew_L63 (S : SM) : SM := s_X8_add S 0
theorem g_X6_beginAsNew_L63 {l : Launch} {K : gK} {Γ : gT} {a : Nat → Nat} (C : Cx l K Γ RX6 cX6_beginAsNew 1 none 2) (S : SM) : G l K Γ (st_W K a S) 63 1 [(0, .ref (a 0))] [] (fun z => (none, st_W K a z)) (s_X6_beginAsNew_L63 S) := by
  unfold s_X6_beginAsNew_L63
  refine G_aload_n C 0 dX6_beginAsNew_63 rfl ?_
  refine G_get C 0 3 dX6_beginAsNew_64 inlX6 uf_X6_28 rfl (by decide) rfl rfl rfl ?_
  refine G_iconst C dX6_beginAsNew_67 (v := 0) rfl ?_
  refine G_callVv C 12 8 kd_X8_add ui_X8_add us_X8_add um_X6_68 rfl rfl (c_X8_add l K a S 0) dX6_beginAsNew_68 rfl rfl (Nat.le_of_ble_eq_true rfl) (Nat.le_of_ble_eq_true rfl) ?_
  exact G_vret C dX6_beginAsNew_71 rfl
def s_X6_beginAsNew_L52 (S : SM) : SM := s_X6_beginAsNew_L63 (s_X2_add S 1 20 1)
theorem g_X6_beginAsNew_L52 {l : Launch} {K : gK} {Γ : gT} {a : Nat → Nat} (C : Cx l K Γ RX6 cX6_beginAsNew 1 none 2) (S : SM) : G l K Γ (st_W K a S) 52 1 [(0, .ref (a 0))] [] (fun z => (none, st_W K a z)) (s_X6_beginAsNew_L52 S) := by
  unfold s_X6_beginAsNew_L52
  refine G_aload_n C 0 dX6_beginAsNew_52 rfl ?_
  refine G_get C 0 2 dX6_beginAsNew_53 inlX6 uf_X6_21 rfl (by decide) rfl rfl rfl ?_
  refine G_iconst C dX6_beginAsNew_56 (v := 1) rfl ?_
  refine G_bipush C dX6_beginAsNew_57 (v := 20) rfl ?_
  refine G_iconst C dX6_beginAsNew_59 (v := 1) rfl ?_
  refine G_callVv C 3 2 kd_X2_add ui_X2_add us_X2_add um_X6_64 rfl rfl (c_X2_add l K a S 1 20 1) dX6_beginAsNew_60 rfl rfl (Nat.le_of_ble_eq_true rfl) (Nat.le_of_ble_eq_true rfl) ?_
  refine G_sub [0] rfl ?_
  exact g_X6_beginAsNew_L63 C (s_X2_add S 1 20 1)
def s_X6_beginAsNew_L41 (S : SM) : SM := s_X6_beginAsNew_L52 (s_X2_add S 3 70 1)
theorem g_X6_beginAsNew_L41 {l : Launch} {K : gK} {Γ : gT} {a : Nat → Nat} (C : Cx l K Γ RX6 cX6_beginAsNew 1 none 2) (S : SM) : G l K Γ (st_W K a S) 41 1 [(0, .ref (a 0))] [] (fun z => (none, st_W K a z)) (s_X6_beginAsNew_L41 S) := by
  unfold s_X6_beginAsNew_L41
  refine G_aload_n C 0 dX6_beginAsNew_41 rfl ?_
  refine G_get C 0 2 dX6_beginAsNew_42 inlX6 uf_X6_21 rfl (by decide) rfl rfl rfl ?_
  refine G_iconst C dX6_beginAsNew_45 (v := 3) rfl ?_
  refine G_bipush C dX6_beginAsNew_46 (v := 70) rfl ?_
  refine G_iconst C dX6_beginAsNew_48 (v := 1) rfl ?_
  refine G_callVv C 3 2 kd_X2_add ui_X2_add us_X2_add um_X6_64 rfl rfl (c_X2_add l K a S 3 70 1) dX6_beginAsNew_49 rfl rfl (Nat.le_of_ble_eq_true rfl) (Nat.le_of_ble_eq_true rfl) ?_
  refine G_sub [0] rfl ?_
  exact g_X6_beginAsNew_L52 C (s_X2_add S 3 70 1)
def s_X6_beginAsNew_L30 (S : SM) : SM := s_X6_beginAsNew_L41 (s_X2_add S 2 40 1)
theorem g_X6_beginAsNew_L30 {l : Launch} {K : gK} {Γ : gT} {a : Nat → Nat} (C : Cx l K Γ RX6 cX6_beginAsNew 1 none 2) (S : SM) : G l K Γ (st_W K a S) 30 1 [(0, .ref (a 0))] [] (fun z => (none, st_W K a z)) (s_X6_beginAsNew_L30 S) := by
  unfold s_X6_beginAsNew_L30
  refine G_aload_n C 0 dX6_beginAsNew_30 rfl ?_
  refine G_get C 0 2 dX6_beginAsNew_31 inlX6 uf_X6_21 rfl (by decide) rfl rfl rfl ?_
  refine G_iconst C dX6_beginAsNew_34 (v := 2) rfl ?_
  refine G_bipush C dX6_beginAsNew_35 (v := 40) rfl ?_
  refine G_iconst C dX6_beginAsNew_37 (v := 1) rfl ?_
  refine G_callVv C 3 2 kd_X2_add ui_X2_add us_X2_add um_X6_64 rfl rfl (c_X2_add l K a S 2 40 1) dX6_beginAsNew_38 rfl rfl (Nat.le_of_ble_eq_true rfl) (Nat.le_of_ble_eq_true rfl) ?_
  refine G_sub [0] rfl ?_
  exact g_X6_beginAsNew_L41 C (s_X2_add S 2 40 1)
def s_X6_beginAsNew_L20 (S : SM) : SM := s_X6_beginAsNew_L30 (sU S 0 (put_ 3 (S 0) 2 30))
theorem g_X6_beginAsNew_L20 {l : Launch} {K : gK} {Γ : gT} {a : Nat → Nat} (C : Cx l K Γ RX6 cX6_beginAsNew 1 none 2) (S : SM) : G l K Γ (st_W K a S) 20 1 [(0, .ref (a 0))] [] (fun z => (none, st_W K a z)) (s_X6_beginAsNew_L20 S) := by
  unfold s_X6_beginAsNew_L20
  refine G_aload_n C 0 dX6_beginAsNew_20 rfl ?_
  refine G_get C 0 0 dX6_beginAsNew_21 inlX6 uf_X6_9 rfl (by decide) rfl rfl rfl ?_
  refine G_iconst C dX6_beginAsNew_24 (v := 2) rfl ?_
  refine G_bipush C dX6_beginAsNew_25 (v := 30) rfl ?_
  refine G_callSNv C kd_X9_put ut_X9_put nw_9 (Ct.to (r' := (none, st_W K a (sU S 0 (put_ 3 (S 0) 2 30)))) (c_put l K (ws := st_W K a S) (q0 := 1) (n := 3) (g := S 0) (ad := (a 1)) (by decide) rfl 2 30) rfl) dX6_beginAsNew_27 rfl rfl (Nat.le_of_ble_eq_true rfl) (Nat.le_of_ble_eq_true rfl) ?_
  refine G_sub [0] rfl ?_
  exact g_X6_beginAsNew_L30 C (sU S 0 (put_ 3 (S 0) 2 30))
def s_X6_beginAsNew_L10 (S : SM) : SM := s_X6_beginAsNew_L20 (sU S 0 (put_ 3 (S 0) 1 10))
theorem g_X6_beginAsNew_L10 {l : Launch} {K : gK} {Γ : gT} {a : Nat → Nat} (C : Cx l K Γ RX6 cX6_beginAsNew 1 none 2) (S : SM) : G l K Γ (st_W K a S) 10 1 [(0, .ref (a 0))] [] (fun z => (none, st_W K a z)) (s_X6_beginAsNew_L10 S) := by
  unfold s_X6_beginAsNew_L10
  refine G_aload_n C 0 dX6_beginAsNew_10 rfl ?_
  refine G_get C 0 0 dX6_beginAsNew_11 inlX6 uf_X6_9 rfl (by decide) rfl rfl rfl ?_
  refine G_iconst C dX6_beginAsNew_14 (v := 1) rfl ?_
  refine G_bipush C dX6_beginAsNew_15 (v := 10) rfl ?_
  refine G_callSNv C kd_X9_put ut_X9_put nw_9 (Ct.to (r' := (none, st_W K a (sU S 0 (put_ 3 (S 0) 1 10)))) (c_put l K (ws := st_W K a S) (q0 := 1) (n := 3) (g := S 0) (ad := (a 1)) (by decide) rfl 1 10) rfl) dX6_beginAsNew_17 rfl rfl (Nat.le_of_ble_eq_true rfl) (Nat.le_of_ble_eq_true rfl) ?_
  refine G_sub [0] rfl ?_
  exact g_X6_beginAsNew_L20 C (sU S 0 (put_ 3 (S 0) 1 10))
def s_X6_beginAsNew (S : SM) : SM := s_X6_beginAsNew_L10 (sU S 0 (put_ 3 (S 0) 0 6))
theorem c_X6_beginAsNew (l : Launch) (K : gK) (a : Nat → Nat) (S : SM) : Ct l K yX6_beginAsNew cX6_beginAsNew 1 none 2 [.ref (a 0)] (st_W K a S) (none, st_W K a (s_X6_beginAsNew S)) := by
  refine Ct.of (own := RX6) (fun z => (none, st_W K a z)) (x := s_X6_beginAsNew S) (by decide) rfl (Nat.le_of_ble_eq_true rfl) (fun Γ C => ?_)
  unfold s_X6_beginAsNew
  refine G_aload_n C 0 dX6_beginAsNew_0 rfl ?_
  refine G_get C 0 0 dX6_beginAsNew_1 inlX6 uf_X6_9 rfl (by decide) rfl rfl rfl ?_
  refine G_iconst C dX6_beginAsNew_4 (v := 0) rfl ?_
  refine G_bipush C dX6_beginAsNew_5 (v := 6) rfl ?_
  refine G_callSNv C kd_X9_put ut_X9_put nw_9 (Ct.to (r' := (none, st_W K a (sU S 0 (put_ 3 (S 0) 0 6)))) (c_put l K (ws := st_W K a S) (q0 := 1) (n := 3) (g := S 0) (ad := (a 1)) (by decide) rfl 0 6) rfl) dX6_beginAsNew_7 rfl rfl (Nat.le_of_ble_eq_true rfl) (Nat.le_of_ble_eq_true rfl) ?_
  refine G_sub [0] rfl ?_
  exact g_X6_beginAsNew_L10 C (sU S 0 (put_ 3 (S 0) 0 6))
/-! X6_clear -/
theorem kd_X6_clear : Card yX6_clear cX6_clear 2 none 0 := ⟨uc_X6_clear, un_X6, ⟨by decide, by decide, by decide⟩, by decide⟩
def s_X6_clear_L68 (S : SM) (x1 : Int32) : SM := sF S 1 0
theorem g_X6_clear_L68 {l : Launch} {K : gK} {Γ : gT} {a : Nat → Nat} (C : Cx l K Γ RX6 cX6_clear 2 none 1) (S : SM) (x1 : Int32) : G l K Γ (st_W K a S) 68 2 [(0, .ref (a 0)), (1, .int x1)] [] (fun z => (none, st_W K a z)) (s_X6_clear_L68 S x1) := by
  unfold s_X6_clear_L68
  refine G_aload_n C 0 dX6_clear_68 rfl ?_
  refine G_iconst C dX6_clear_69 (v := 0) rfl ?_
  refine G_put (ws' := st_W K a (sF S 1 0)) C 0 6 tyX6 .int dX6_clear_70 inlX6 uf_X6_57 tyX6_ok nmX6 rfl (by decide) rfl rfl rfl rfl rfl rfl (Nat.le_of_ble_eq_true rfl) rfl ?_
  exact G_vret C dX6_clear_73 rfl
def s_X6_clear_L63 (S : SM) (x1 : Int32) : SM := s_X6_clear_L68 (sF S 0 0) x1
theorem g_X6_clear_L63 {l : Launch} {K : gK} {Γ : gT} {a : Nat → Nat} (C : Cx l K Γ RX6 cX6_clear 2 none 1) (S : SM) (x1 : Int32) : G l K Γ (st_W K a S) 63 2 [(0, .ref (a 0)), (1, .int x1)] [] (fun z => (none, st_W K a z)) (s_X6_clear_L63 S x1) := by
  unfold s_X6_clear_L63
  refine G_aload_n C 0 dX6_clear_63 rfl ?_
  refine G_iconst C dX6_clear_64 (v := 0) rfl ?_
  refine G_put (ws' := st_W K a (sF S 0 0)) C 0 5 tyX6 .int dX6_clear_65 inlX6 uf_X6_53 tyX6_ok nmX6 rfl (by decide) rfl rfl rfl rfl rfl rfl (Nat.le_of_ble_eq_true rfl) rfl ?_
  refine G_sub [0, 1] rfl ?_
  exact g_X6_clear_L68 C (sF S 0 0) x1
def s_X6_clear_L55 (S : SM) (x1 : Int32) : SM := s_X6_clear_L63 (sF S 6 0) x1
theorem g_X6_clear_L55 {l : Launch} {K : gK} {Γ : gT} {a : Nat → Nat} (C : Cx l K Γ RX6 cX6_clear 2 none 1) (S : SM) (x1 : Int32) : G l K Γ (st_W K a S) 55 2 [(0, .ref (a 0)), (1, .int x1)] [] (fun z => (none, st_W K a z)) (s_X6_clear_L55 S x1) := by
  unfold s_X6_clear_L55
  refine G_aload_n C 0 dX6_clear_55 rfl ?_
  refine G_get C 0 4 dX6_clear_56 inlX6 uf_X6_35 rfl (by decide) rfl rfl rfl ?_
  refine G_iconst C dX6_clear_59 (v := 0) rfl ?_
  refine G_put (ws' := st_W K a (sF S 6 0)) C 18 4 tyX1 .int dX6_clear_60 inlX1 uf_X6_81 tyX1_ok nmX1 rfl (by decide) rfl rfl rfl rfl rfl rfl (Nat.le_of_ble_eq_true rfl) rfl ?_
  refine G_sub [0, 1] rfl ?_
  exact g_X6_clear_L63 C (sF S 6 0) x1
def s_X6_clear_L47 (S : SM) (x1 : Int32) : SM := s_X6_clear_L55 (sF S 5 0) x1
theorem g_X6_clear_L47 {l : Launch} {K : gK} {Γ : gT} {a : Nat → Nat} (C : Cx l K Γ RX6 cX6_clear 2 none 1) (S : SM) (x1 : Int32) : G l K Γ (st_W K a S) 47 2 [(0, .ref (a 0)), (1, .int x1)] [] (fun z => (none, st_W K a z)) (s_X6_clear_L47 S x1) := by
  unfold s_X6_clear_L47
  refine G_aload_n C 0 dX6_clear_47 rfl ?_
  refine G_get C 0 4 dX6_clear_48 inlX6 uf_X6_35 rfl (by decide) rfl rfl rfl ?_
  refine G_iconst C dX6_clear_51 (v := 0) rfl ?_
  refine G_put (ws' := st_W K a (sF S 5 0)) C 18 3 tyX1 .int dX6_clear_52 inlX1 uf_X6_78 tyX1_ok nmX1 rfl (by decide) rfl rfl rfl rfl rfl rfl (Nat.le_of_ble_eq_true rfl) rfl ?_
  refine G_sub [0, 1] rfl ?_
  exact g_X6_clear_L55 C (sF S 5 0) x1
def s_X6_clear_L39 (S : SM) (x1 : Int32) : SM := s_X6_clear_L47 (sF S 4 0) x1
theorem g_X6_clear_L39 {l : Launch} {K : gK} {Γ : gT} {a : Nat → Nat} (C : Cx l K Γ RX6 cX6_clear 2 none 1) (S : SM) (x1 : Int32) : G l K Γ (st_W K a S) 39 2 [(0, .ref (a 0)), (1, .int x1)] [] (fun z => (none, st_W K a z)) (s_X6_clear_L39 S x1) := by
  unfold s_X6_clear_L39
  refine G_aload_n C 0 dX6_clear_39 rfl ?_
  refine G_get C 0 3 dX6_clear_40 inlX6 uf_X6_28 rfl (by decide) rfl rfl rfl ?_
  refine G_iconst C dX6_clear_43 (v := 0) rfl ?_
  refine G_put (ws' := st_W K a (sF S 4 0)) C 12 6 tyX8 .int dX6_clear_44 inlX8 uf_X6_75 tyX8_ok nmX8 rfl (by decide) rfl rfl rfl rfl rfl rfl (Nat.le_of_ble_eq_true rfl) rfl ?_
  refine G_sub [0, 1] rfl ?_
  exact g_X6_clear_L47 C (sF S 4 0) x1
def s_X6_clear_L31 (S : SM) (x1 : Int32) : SM := s_X6_clear_L39 (sF S 3 0) x1
theorem g_X6_clear_L31 {l : Launch} {K : gK} {Γ : gT} {a : Nat → Nat} (C : Cx l K Γ RX6 cX6_clear 2 none 1) (S : SM) (x1 : Int32) : G l K Γ (st_W K a S) 31 2 [(0, .ref (a 0)), (1, .int x1)] [] (fun z => (none, st_W K a z)) (s_X6_clear_L31 S x1) := by
  unfold s_X6_clear_L31
  refine G_aload_n C 0 dX6_clear_31 rfl ?_
  refine G_get C 0 3 dX6_clear_32 inlX6 uf_X6_28 rfl (by decide) rfl rfl rfl ?_
  refine G_iconst C dX6_clear_35 (v := 0) rfl ?_
  refine G_put (ws' := st_W K a (sF S 3 0)) C 12 5 tyX8 .int dX6_clear_36 inlX8 uf_X6_74 tyX8_ok nmX8 rfl (by decide) rfl rfl rfl rfl rfl rfl (Nat.le_of_ble_eq_true rfl) rfl ?_
  refine G_sub [0, 1] rfl ?_
  exact g_X6_clear_L39 C (sF S 3 0) x1
def s_X6_clear_L2 : Nat → SM → Int32 → SM
  | 0, S, _ => S
  | fuel + 1, S, x1 => if x1 < 9 then s_X6_clear_L2 fuel (sU S 1 (put_ 9 (S 1) x1 0)) (x1 + 1) else s_X6_clear_L31 (sF S 2 0) x1
theorem g_X6_clear_L2 {l : Launch} {K : gK} {Γ : gT} {a : Nat → Nat} (C : Cx l K Γ RX6 cX6_clear 2 none 1) : ∀ (n : Nat) (S : SM) (x1 : Int32), mu x1 < n → G l K Γ (st_W K a S) 2 2 [(0, .ref (a 0)), (1, .int x1)] [] (fun z => (none, st_W K a z)) (s_X6_clear_L2 n S x1) := by
  intro n
  induction n with
  | zero =>
    intro S x1 hm
    exact absurd hm (Nat.not_lt_zero _)
  | succ n ih =>
    intro S x1 hm
    rw [s_X6_clear_L2]
    refine G_iload_n C 1 dX6_clear_2 rfl ?_
    refine G_bipush C dX6_clear_3 (v := 9) rfl ?_
    refine G_icmp_ge C 23 dX6_clear_5 rfl (fun h1 => ?_) (fun h1 => ?_)
    · refine G_aload_n C 0 dX6_clear_8 rfl ?_
      refine G_get C 0 1 dX6_clear_9 inlX6 uf_X6_15 rfl (by decide) rfl rfl rfl ?_
      refine G_iload_n C 1 dX6_clear_12 rfl ?_
      refine G_iconst C dX6_clear_13 (v := 0) rfl ?_
      refine G_callSNv C kd_X9_put ut_X9_put nw_9 (Ct.to (r' := (none, st_W K a (sU S 1 (put_ 9 (S 1) x1 0)))) (c_put l K (ws := st_W K a S) (q0 := 2) (n := 9) (g := S 1) (ad := (a 2)) (by decide) rfl x1 0) rfl) dX6_clear_14 rfl rfl (Nat.le_of_ble_eq_true rfl) (Nat.le_of_ble_eq_true rfl) ?_
      refine G_iinc (lv' := [(1, .int (x1 + 1)), (0, .ref (a 0))]) C 1 dX6_clear_17 rfl rfl (by decide) rfl ?_
      refine G_goto C 2 dX6_clear_20 rfl ?_
      refine G_sub [1, 0] rfl ?_
      exact ih (sU S 1 (put_ 9 (S 1) x1 0)) (x1 + 1) (by have := mu_up h1; omega)
    · refine G_aload_n C 0 dX6_clear_23 rfl ?_
      refine G_get C 0 2 dX6_clear_24 inlX6 uf_X6_21 rfl (by decide) rfl rfl rfl ?_
      refine G_iconst C dX6_clear_27 (v := 0) rfl ?_
      refine G_put (ws' := st_W K a (sF S 2 0)) C 3 8 tyX2 .int dX6_clear_28 inlX2 uf_X6_71 tyX2_ok nmX2 rfl (by decide) rfl rfl rfl rfl rfl rfl (Nat.le_of_ble_eq_true rfl) rfl ?_
      refine G_sub [0, 1] rfl ?_
      exact g_X6_clear_L31 C (sF S 2 0) x1
def s_X6_clear (S : SM) : SM := s_X6_clear_L2 (mu 0 + 1) S 0
theorem c_X6_clear (l : Launch) (K : gK) (a : Nat → Nat) (S : SM) : Ct l K yX6_clear cX6_clear 2 none 1 [.ref (a 0)] (st_W K a S) (none, st_W K a (s_X6_clear S)) := by
  refine Ct.of (own := RX6) (fun z => (none, st_W K a z)) (x := s_X6_clear S) (by decide) rfl (Nat.le_of_ble_eq_true rfl) (fun Γ C => ?_)
  unfold s_X6_clear
  refine G_iconst C dX6_clear_0 (v := 0) rfl ?_
  refine G_istore_n (lv' := [(1, .int 0), (0, .ref (a 0))]) C dX6_clear_1 (by decide) rfl ?_
  refine G_sub [1, 0] rfl ?_
  exact g_X6_clear_L2 C _ S 0 (Nat.lt_succ_self _)
/-! X8_isAt -/
theorem kd_X8_isAt : Card yX8_isAt cX8_isAt 3 (some .boolean) 2 := ⟨uc_X8_isAt, un_X8, ⟨by decide, by decide, by decide⟩, by decide⟩
def v_X8_isAt (S : SM) (x1 : Int32) (x2 : Int32) : Int32 := if (at_ 3 (S 12) x1) = 0 then if (at_ 3 (S 11) x1) = x2 then 1 else 0 else 0
theorem c_X8_isAt (l : Launch) (K : gK) (a : Nat → Nat) (S : SM) (x1 : Int32) (x2 : Int32) : Ct l K yX8_isAt cX8_isAt 3 (some .boolean) 1 [.ref (a 12), .int x1, .int x2] (st_W K a S) (some (.int (v_X8_isAt S x1 x2)), st_W K a S) := by
  refine Ct.of (own := RX8) (fun z => (some (.int z), st_W K a S)) (x := v_X8_isAt S x1 x2) (by decide) rfl (Nat.le_of_ble_eq_true rfl) (fun Γ C => ?_)
  unfold v_X8_isAt
  refine G_aload_n C 0 dX8_isAt_0 rfl ?_
  refine G_get C 12 2 dX8_isAt_1 inlX8 uf_X8_18 rfl (by decide) rfl rfl rfl ?_
  refine G_iload_n C 1 dX8_isAt_4 rfl ?_
  refine G_callSNi C kd_X9_at ut_X9_at nw_22 (c_at l K (ws := st_W K a S) (q0 := 15) (n := 3) (g := S 12) (ad := (a 15)) (by decide) rfl x1) dX8_isAt_5 rfl rfl (Nat.le_of_ble_eq_true rfl) (Nat.le_of_ble_eq_true rfl) ?_
  refine G_if_ne C 27 dX8_isAt_8 rfl (fun h1 => ?_) (fun h1 => ?_)
  · refine G_aload_n C 0 dX8_isAt_11 rfl ?_
    refine G_get C 12 1 dX8_isAt_12 inlX8 uf_X8_15 rfl (by decide) rfl rfl rfl ?_
    refine G_iload_n C 1 dX8_isAt_15 rfl ?_
    refine G_callSNi C kd_X9_at ut_X9_at nw_22 (c_at l K (ws := st_W K a S) (q0 := 14) (n := 3) (g := S 11) (ad := (a 14)) (by decide) rfl x1) dX8_isAt_16 rfl rfl (Nat.le_of_ble_eq_true rfl) (Nat.le_of_ble_eq_true rfl) ?_
    refine G_iload_n C 2 dX8_isAt_19 rfl ?_
    refine G_icmp_ne C 27 dX8_isAt_20 rfl (fun h2 => ?_) (fun h2 => ?_)
    · refine G_iconst C dX8_isAt_23 (v := 1) rfl ?_
      refine G_goto C 28 dX8_isAt_24 rfl ?_
      exact G_zret C dX8_isAt_28 rfl rfl
    · refine G_iconst C dX8_isAt_27 (v := 0) rfl ?_
      exact G_zret C dX8_isAt_28 rfl rfl
  · refine G_iconst C dX8_isAt_27 (v := 0) rfl ?_
    exact G_zret C dX8_isAt_28 rfl rfl
theorem bz_X8_isAt (S : SM) (x1 : Int32) (x2 : Int32) : narrow .boolean (.int (v_X8_isAt S x1 x2)) = .int (v_X8_isAt S x1 x2) := by
  unfold v_X8_isAt
  repeat' split
  all_goals first | rfl | exact bz_X9_isWithin ..
/-! X8_standingAt -/
theorem kd_X8_standingAt : Card yX8_standingAt cX8_standingAt 3 (some .int) 1 := ⟨uc_X8_standingAt, un_X8, ⟨by decide, by decide, by decide⟩, by decide⟩
def v_X8_standingAt_L2 : Nat → SM → Int32 → Int32 → Int32
  | 0, _, _, _ => 0
  | fuel + 1, S, x1, x2 => if x2 < (S 18 3) then if (v_X8_isAt S x2 x1) = 0 then v_X8_standingAt_L2 fuel S x1 (x2 + 1) else x2 else -2
theorem g_X8_standingAt_L2 {l : Launch} {K : gK} {Γ : gT} {a : Nat → Nat} (C : Cx l K Γ RX8 cX8_standingAt 3 (some .int) 2) : ∀ (n : Nat) (S : SM) (x1 : Int32) (x2 : Int32), mu x2 < n → G l K Γ (st_W K a S) 2 3 [(0, .ref (a 12)), (1, .int x1), (2, .int x2)] [] (fun z => (some (.int z), st_W K a S)) (v_X8_standingAt_L2 n S x1 x2) := by
  intro n
  induction n with
  | zero =>
    intro S x1 x2 hm
    exact absurd hm (Nat.not_lt_zero _)
  | succ n ih =>
    intro S x1 x2 hm
    rw [v_X8_standingAt_L2]
    refine G_iload_n C 2 dX8_standingAt_2 rfl ?_
    refine G_aload_n C 0 dX8_standingAt_3 rfl ?_
    refine G_get C 12 5 dX8_standingAt_4 inlX8 uf_X8_31 rfl (by decide) rfl rfl rfl ?_
    refine G_icmp_ge C 27 dX8_standingAt_7 rfl (fun h1 => ?_) (fun h1 => ?_)
    · refine G_aload_n C 0 dX8_standingAt_10 rfl ?_
      refine G_iload_n C 2 dX8_standingAt_11 rfl ?_
      refine G_iload_n C 1 dX8_standingAt_12 rfl ?_
      refine G_callVi C 12 8 kd_X8_isAt ui_X8_isAt us_X8_isAt um_X8_53 rfl rfl (c_X8_isAt l K a S x2 x1) dX8_standingAt_13 rfl rfl (Nat.le_of_ble_eq_true rfl) (Nat.le_of_ble_eq_true rfl) ?_
      refine G_if_eq C 21 dX8_standingAt_16 rfl (fun h2 => ?_) (fun h2 => ?_)
      · refine G_iinc (lv' := [(2, .int (x2 + 1)), (0, .ref (a 12)), (1, .int x1)]) C 2 dX8_standingAt_21 rfl rfl (by decide) rfl ?_
        refine G_goto C 2 dX8_standingAt_24 rfl ?_
        refine G_sub [1, 2, 0] rfl ?_
        exact ih S x1 (x2 + 1) (by have := mu_up h1; omega)
      · refine G_iload_n C 2 dX8_standingAt_19 rfl ?_
        exact G_iret C dX8_standingAt_20 rfl
    · refine G_bipush C dX8_standingAt_27 (v := -2) rfl ?_
      exact G_iret C dX8_standingAt_29 rfl
def v_X8_standingAt (S : SM) (x1 : Int32) : Int32 := v_X8_standingAt_L2 (mu 0 + 1) S x1 0
theorem c_X8_standingAt (l : Launch) (K : gK) (a : Nat → Nat) (S : SM) (x1 : Int32) : Ct l K yX8_standingAt cX8_standingAt 3 (some .int) 2 [.ref (a 12), .int x1] (st_W K a S) (some (.int (v_X8_standingAt S x1)), st_W K a S) := by
  refine Ct.of (own := RX8) (fun z => (some (.int z), st_W K a S)) (x := v_X8_standingAt S x1) (by decide) rfl (Nat.le_of_ble_eq_true rfl) (fun Γ C => ?_)
  unfold v_X8_standingAt
  refine G_iconst C dX8_standingAt_0 (v := 0) rfl ?_
  refine G_istore_n (lv' := [(2, .int 0), (0, .ref (a 12)), (1, .int x1)]) C dX8_standingAt_1 (by decide) rfl ?_
  refine G_sub [1, 2, 0] rfl ?_
  exact g_X8_standingAt_L2 C _ S x1 0 (Nat.lt_succ_self _)
/-! X8_has -/
theorem kd_X8_has : Card yX8_has cX8_has 2 (some .boolean) 1 := ⟨uc_X8_has, un_X8, ⟨by decide, by decide, by decide⟩, by decide⟩
def v_X8_has (S : SM) (x1 : Int32) : Int32 := if x1 < 0 then 0 else if x1 < (S 18 3) then 1 else 0
theorem c_X8_has (l : Launch) (K : gK) (a : Nat → Nat) (S : SM) (x1 : Int32) : Ct l K yX8_has cX8_has 2 (some .boolean) 0 [.ref (a 12), .int x1] (st_W K a S) (some (.int (v_X8_has S x1)), st_W K a S) := by
  refine Ct.of (own := RX8) (fun z => (some (.int z), st_W K a S)) (x := v_X8_has S x1) (by decide) rfl (Nat.le_of_ble_eq_true rfl) (fun Γ C => ?_)
  unfold v_X8_has
  refine G_iload_n C 1 dX8_has_0 rfl ?_
  refine G_if_lt C 16 dX8_has_1 rfl (fun h1 => ?_) (fun h1 => ?_)
  · refine G_iconst C dX8_has_16 (v := 0) rfl ?_
    exact G_zret C dX8_has_17 rfl rfl
  · refine G_iload_n C 1 dX8_has_4 rfl ?_
    refine G_aload_n C 0 dX8_has_5 rfl ?_
    refine G_get C 12 5 dX8_has_6 inlX8 uf_X8_31 rfl (by decide) rfl rfl rfl ?_
    refine G_icmp_ge C 16 dX8_has_9 rfl (fun h2 => ?_) (fun h2 => ?_)
    · refine G_iconst C dX8_has_12 (v := 1) rfl ?_
      refine G_goto C 17 dX8_has_13 rfl ?_
      exact G_zret C dX8_has_17 rfl rfl
    · refine G_iconst C dX8_has_16 (v := 0) rfl ?_
      exact G_zret C dX8_has_17 rfl rfl
theorem bz_X8_has (S : SM) (x1 : Int32) : narrow .boolean (.int (v_X8_has S x1)) = .int (v_X8_has S x1) := by
  unfold v_X8_has
  repeat' split
  all_goals first | rfl | exact bz_X9_isWithin ..
/-! X8_remove -/
theorem kd_X8_remove : Card yX8_remove cX8_remove 2 none 1 := ⟨uc_X8_remove, un_X8, ⟨by decide, by decide, by decide⟩, by decide⟩
def s_X8_remove_L69 (S : SM) (x1 : Int32) : SM := sF S 3 ((S 18 3) - 1)
theorem g_X8_remove_L69 {l : Launch} {K : gK} {Γ : gT} {a : Nat → Nat} (C : Cx l K Γ RX8 cX8_remove 2 none 2) (S : SM) (x1 : Int32) : G l K Γ (st_W K a S) 69 2 [(0, .ref (a 12)), (1, .int x1)] [] (fun z => (none, st_W K a z)) (s_X8_remove_L69 S x1) := by
  unfold s_X8_remove_L69
  refine G_aload_n C 0 dX8_remove_69 rfl ?_
  refine G_dup C dX8_remove_70 rfl ?_
  refine G_get C 12 5 dX8_remove_71 inlX8 uf_X8_31 rfl (by decide) rfl rfl rfl ?_
  refine G_iconst C dX8_remove_74 (v := 1) rfl ?_
  refine G_isub C dX8_remove_75 ?_
  refine G_put (ws' := st_W K a (sF S 3 ((S 18 3) - 1))) C 12 5 tyX8 .int dX8_remove_76 inlX8 uf_X8_31 tyX8_ok nmX8 rfl (by decide) rfl rfl rfl rfl rfl rfl (Nat.le_of_ble_eq_true rfl) rfl ?_
  exact G_vret C dX8_remove_79 rfl
def s_X8_remove_L57 (S : SM) (x1 : Int32) : SM := s_X8_remove_L69 (sU S 14 (takeOut_ 3 (S 14) x1 (S 18 3))) x1
theorem g_X8_remove_L57 {l : Launch} {K : gK} {Γ : gT} {a : Nat → Nat} (C : Cx l K Γ RX8 cX8_remove 2 none 2) (S : SM) (x1 : Int32) : G l K Γ (st_W K a S) 57 2 [(0, .ref (a 12)), (1, .int x1)] [] (fun z => (none, st_W K a z)) (s_X8_remove_L57 S x1) := by
  unfold s_X8_remove_L57
  refine G_aload_n C 0 dX8_remove_57 rfl ?_
  refine G_get C 12 4 dX8_remove_58 inlX8 uf_X8_24 rfl (by decide) rfl rfl rfl ?_
  refine G_iload_n C 1 dX8_remove_61 rfl ?_
  refine G_aload_n C 0 dX8_remove_62 rfl ?_
  refine G_get C 12 5 dX8_remove_63 inlX8 uf_X8_31 rfl (by decide) rfl rfl rfl ?_
  refine G_callSNv C kd_X9_takeOut ut_X9_takeOut nw_27 (Ct.to (r' := (none, st_W K a (sU S 14 (takeOut_ 3 (S 14) x1 (S 18 3))))) (c_takeOut l K (ws := st_W K a S) (q0 := 17) (n := 3) (g := S 14) (ad := (a 17)) (by decide) rfl x1 (S 18 3)) rfl) dX8_remove_66 rfl rfl (Nat.le_of_ble_eq_true rfl) (Nat.le_of_ble_eq_true rfl) ?_
  refine G_sub [0, 1] rfl ?_
  exact g_X8_remove_L69 C (sU S 14 (takeOut_ 3 (S 14) x1 (S 18 3))) x1
def s_X8_remove_L45 (S : SM) (x1 : Int32) : SM := s_X8_remove_L57 (sU S 13 (takeOut_ 3 (S 13) x1 (S 18 3))) x1
theorem g_X8_remove_L45 {l : Launch} {K : gK} {Γ : gT} {a : Nat → Nat} (C : Cx l K Γ RX8 cX8_remove 2 none 2) (S : SM) (x1 : Int32) : G l K Γ (st_W K a S) 45 2 [(0, .ref (a 12)), (1, .int x1)] [] (fun z => (none, st_W K a z)) (s_X8_remove_L45 S x1) := by
  unfold s_X8_remove_L45
  refine G_aload_n C 0 dX8_remove_45 rfl ?_
  refine G_get C 12 3 dX8_remove_46 inlX8 uf_X8_21 rfl (by decide) rfl rfl rfl ?_
  refine G_iload_n C 1 dX8_remove_49 rfl ?_
  refine G_aload_n C 0 dX8_remove_50 rfl ?_
  refine G_get C 12 5 dX8_remove_51 inlX8 uf_X8_31 rfl (by decide) rfl rfl rfl ?_
  refine G_callSNv C kd_X9_takeOut ut_X9_takeOut nw_27 (Ct.to (r' := (none, st_W K a (sU S 13 (takeOut_ 3 (S 13) x1 (S 18 3))))) (c_takeOut l K (ws := st_W K a S) (q0 := 16) (n := 3) (g := S 13) (ad := (a 16)) (by decide) rfl x1 (S 18 3)) rfl) dX8_remove_54 rfl rfl (Nat.le_of_ble_eq_true rfl) (Nat.le_of_ble_eq_true rfl) ?_
  refine G_sub [0, 1] rfl ?_
  exact g_X8_remove_L57 C (sU S 13 (takeOut_ 3 (S 13) x1 (S 18 3))) x1
def s_X8_remove_L33 (S : SM) (x1 : Int32) : SM := s_X8_remove_L45 (sU S 12 (takeOut_ 3 (S 12) x1 (S 18 3))) x1
theorem g_X8_remove_L33 {l : Launch} {K : gK} {Γ : gT} {a : Nat → Nat} (C : Cx l K Γ RX8 cX8_remove 2 none 2) (S : SM) (x1 : Int32) : G l K Γ (st_W K a S) 33 2 [(0, .ref (a 12)), (1, .int x1)] [] (fun z => (none, st_W K a z)) (s_X8_remove_L33 S x1) := by
  unfold s_X8_remove_L33
  refine G_aload_n C 0 dX8_remove_33 rfl ?_
  refine G_get C 12 2 dX8_remove_34 inlX8 uf_X8_18 rfl (by decide) rfl rfl rfl ?_
  refine G_iload_n C 1 dX8_remove_37 rfl ?_
  refine G_aload_n C 0 dX8_remove_38 rfl ?_
  refine G_get C 12 5 dX8_remove_39 inlX8 uf_X8_31 rfl (by decide) rfl rfl rfl ?_
  refine G_callSNv C kd_X9_takeOut ut_X9_takeOut nw_27 (Ct.to (r' := (none, st_W K a (sU S 12 (takeOut_ 3 (S 12) x1 (S 18 3))))) (c_takeOut l K (ws := st_W K a S) (q0 := 15) (n := 3) (g := S 12) (ad := (a 15)) (by decide) rfl x1 (S 18 3)) rfl) dX8_remove_42 rfl rfl (Nat.le_of_ble_eq_true rfl) (Nat.le_of_ble_eq_true rfl) ?_
  refine G_sub [0, 1] rfl ?_
  exact g_X8_remove_L45 C (sU S 12 (takeOut_ 3 (S 12) x1 (S 18 3))) x1
def s_X8_remove_L21 (S : SM) (x1 : Int32) : SM := s_X8_remove_L33 (sU S 11 (takeOut_ 3 (S 11) x1 (S 18 3))) x1
theorem g_X8_remove_L21 {l : Launch} {K : gK} {Γ : gT} {a : Nat → Nat} (C : Cx l K Γ RX8 cX8_remove 2 none 2) (S : SM) (x1 : Int32) : G l K Γ (st_W K a S) 21 2 [(0, .ref (a 12)), (1, .int x1)] [] (fun z => (none, st_W K a z)) (s_X8_remove_L21 S x1) := by
  unfold s_X8_remove_L21
  refine G_aload_n C 0 dX8_remove_21 rfl ?_
  refine G_get C 12 1 dX8_remove_22 inlX8 uf_X8_15 rfl (by decide) rfl rfl rfl ?_
  refine G_iload_n C 1 dX8_remove_25 rfl ?_
  refine G_aload_n C 0 dX8_remove_26 rfl ?_
  refine G_get C 12 5 dX8_remove_27 inlX8 uf_X8_31 rfl (by decide) rfl rfl rfl ?_
  refine G_callSNv C kd_X9_takeOut ut_X9_takeOut nw_27 (Ct.to (r' := (none, st_W K a (sU S 11 (takeOut_ 3 (S 11) x1 (S 18 3))))) (c_takeOut l K (ws := st_W K a S) (q0 := 14) (n := 3) (g := S 11) (ad := (a 14)) (by decide) rfl x1 (S 18 3)) rfl) dX8_remove_30 rfl rfl (Nat.le_of_ble_eq_true rfl) (Nat.le_of_ble_eq_true rfl) ?_
  refine G_sub [0, 1] rfl ?_
  exact g_X8_remove_L33 C (sU S 11 (takeOut_ 3 (S 11) x1 (S 18 3))) x1
def s_X8_remove (S : SM) (x1 : Int32) : SM := if (v_X8_has S x1) = 0 then S else s_X8_remove_L21 (sU S 10 (takeOut_ 3 (S 10) x1 (S 18 3))) x1
theorem c_X8_remove (l : Launch) (K : gK) (a : Nat → Nat) (S : SM) (x1 : Int32) : Ct l K yX8_remove cX8_remove 2 none 2 [.ref (a 12), .int x1] (st_W K a S) (none, st_W K a (s_X8_remove S x1)) := by
  refine Ct.of (own := RX8) (fun z => (none, st_W K a z)) (x := s_X8_remove S x1) (by decide) rfl (Nat.le_of_ble_eq_true rfl) (fun Γ C => ?_)
  unfold s_X8_remove
  refine G_aload_n C 0 dX8_remove_0 rfl ?_
  refine G_iload_n C 1 dX8_remove_1 rfl ?_
  refine G_callVi C 12 8 kd_X8_has ui_X8_has us_X8_has um_X8_42 rfl rfl (c_X8_has l K a S x1) dX8_remove_2 rfl rfl (Nat.le_of_ble_eq_true rfl) (Nat.le_of_ble_eq_true rfl) ?_
  refine G_if_ne C 9 dX8_remove_5 rfl (fun h1 => ?_) (fun h1 => ?_)
  · exact G_vret C dX8_remove_8 rfl
  · refine G_aload_n C 0 dX8_remove_9 rfl ?_
    refine G_get C 12 0 dX8_remove_10 inlX8 uf_X8_9 rfl (by decide) rfl rfl rfl ?_
    refine G_iload_n C 1 dX8_remove_13 rfl ?_
    refine G_aload_n C 0 dX8_remove_14 rfl ?_
    refine G_get C 12 5 dX8_remove_15 inlX8 uf_X8_31 rfl (by decide) rfl rfl rfl ?_
    refine G_callSNv C kd_X9_takeOut ut_X9_takeOut nw_27 (Ct.to (r' := (none, st_W K a (sU S 10 (takeOut_ 3 (S 10) x1 (S 18 3))))) (c_takeOut l K (ws := st_W K a S) (q0 := 13) (n := 3) (g := S 10) (ad := (a 13)) (by decide) rfl x1 (S 18 3)) rfl) dX8_remove_18 rfl rfl (Nat.le_of_ble_eq_true rfl) (Nat.le_of_ble_eq_true rfl) ?_
    refine G_sub [0, 1] rfl ?_
    exact g_X8_remove_L21 C (sU S 10 (takeOut_ 3 (S 10) x1 (S 18 3))) x1
/-! X6_loseToken -/
theorem kd_X6_loseToken : Card yX6_loseToken cX6_loseToken 2 none 1 := ⟨uc_X6_loseToken, un_X6, ⟨by decide, by decide, by decide⟩, by decide⟩
def s_X6_loseToken_L39 (S : SM) (x1 : Int32) : SM := s_X8_remove S x1
theorem g_X6_loseToken_L39 {l : Launch} {K : gK} {Γ : gT} {a : Nat → Nat} (C : Cx l K Γ RX6 cX6_loseToken 2 none 3) (S : SM) (x1 : Int32) : G l K Γ (st_W K a S) 39 2 [(0, .ref (a 0)), (1, .int x1)] [] (fun z => (none, st_W K a z)) (s_X6_loseToken_L39 S x1) := by
  unfold s_X6_loseToken_L39
  refine G_aload_n C 0 dX6_loseToken_39 rfl ?_
  refine G_get C 0 3 dX6_loseToken_40 inlX6 uf_X6_28 rfl (by decide) rfl rfl rfl ?_
  refine G_iload_n C 1 dX6_loseToken_43 rfl ?_
  refine G_callVv C 12 8 kd_X8_remove ui_X8_remove us_X8_remove um_X6_107 rfl rfl (c_X8_remove l K a S x1) dX6_loseToken_44 rfl rfl (Nat.le_of_ble_eq_true rfl) (Nat.le_of_ble_eq_true rfl) ?_
  exact G_vret C dX6_loseToken_47 rfl
def s_X6_loseToken_L30 (S : SM) (x1 : Int32) : SM := s_X6_loseToken_L39 (sU S 1 (raise_ 9 (S 1) 6)) x1
theorem g_X6_loseToken_L30 {l : Launch} {K : gK} {Γ : gT} {a : Nat → Nat} (C : Cx l K Γ RX6 cX6_loseToken 2 none 3) (S : SM) (x1 : Int32) : G l K Γ (st_W K a S) 30 2 [(0, .ref (a 0)), (1, .int x1)] [] (fun z => (none, st_W K a z)) (s_X6_loseToken_L30 S x1) := by
  unfold s_X6_loseToken_L30
  refine G_aload_n C 0 dX6_loseToken_30 rfl ?_
  refine G_get C 0 1 dX6_loseToken_31 inlX6 uf_X6_15 rfl (by decide) rfl rfl rfl ?_
  refine G_bipush C dX6_loseToken_34 (v := 6) rfl ?_
  refine G_callSNv C kd_X9_raise ut_X9_raise nw_24 (Ct.to (r' := (none, st_W K a (sU S 1 (raise_ 9 (S 1) 6)))) (c_raise l K (ws := st_W K a S) (q0 := 2) (n := 9) (g := S 1) (ad := (a 2)) (by decide) rfl 6) rfl) dX6_loseToken_36 rfl rfl (Nat.le_of_ble_eq_true rfl) (Nat.le_of_ble_eq_true rfl) ?_
  refine G_sub [0, 1] rfl ?_
  exact g_X6_loseToken_L39 C (sU S 1 (raise_ 9 (S 1) 6)) x1
def s_X6_loseToken (S : SM) (x1 : Int32) : SM := s_X6_loseToken_L30 (s_X1_add S 5 (at_ 3 (S 10) x1) (at_ 3 (S 11) x1)) x1
theorem c_X6_loseToken (l : Launch) (K : gK) (a : Nat → Nat) (S : SM) (x1 : Int32) : Ct l K yX6_loseToken cX6_loseToken 2 none 3 [.ref (a 0), .int x1] (st_W K a S) (none, st_W K a (s_X6_loseToken S x1)) := by
  refine Ct.of (own := RX6) (fun z => (none, st_W K a z)) (x := s_X6_loseToken S x1) (by decide) rfl (Nat.le_of_ble_eq_true rfl) (fun Γ C => ?_)
  unfold s_X6_loseToken
  refine G_aload_n C 0 dX6_loseToken_0 rfl ?_
  refine G_get C 0 4 dX6_loseToken_1 inlX6 uf_X6_35 rfl (by decide) rfl rfl rfl ?_
  refine G_iconst C dX6_loseToken_4 (v := 5) rfl ?_
  refine G_aload_n C 0 dX6_loseToken_5 rfl ?_
  refine G_get C 0 3 dX6_loseToken_6 inlX6 uf_X6_28 rfl (by decide) rfl rfl rfl ?_
  refine G_get C 12 0 dX6_loseToken_9 inlX8 uf_X6_93 rfl (by decide) rfl rfl rfl ?_
  refine G_iload_n C 1 dX6_loseToken_12 rfl ?_
  refine G_callSNi C kd_X9_at ut_X9_at nw_23 (c_at l K (ws := st_W K a S) (q0 := 13) (n := 3) (g := S 10) (ad := (a 13)) (by decide) rfl x1) dX6_loseToken_13 rfl rfl (Nat.le_of_ble_eq_true rfl) (Nat.le_of_ble_eq_true rfl) ?_
  refine G_aload_n C 0 dX6_loseToken_16 rfl ?_
  refine G_get C 0 3 dX6_loseToken_17 inlX6 uf_X6_28 rfl (by decide) rfl rfl rfl ?_
  refine G_get C 12 1 dX6_loseToken_20 inlX8 uf_X6_100 rfl (by decide) rfl rfl rfl ?_
  refine G_iload_n C 1 dX6_loseToken_23 rfl ?_
  refine G_callSNi C kd_X9_at ut_X9_at nw_23 (c_at l K (ws := st_W K a S) (q0 := 14) (n := 3) (g := S 11) (ad := (a 14)) (by decide) rfl x1) dX6_loseToken_24 rfl rfl (Nat.le_of_ble_eq_true rfl) (Nat.le_of_ble_eq_true rfl) ?_
  refine G_callVv C 18 1 kd_X1_add ui_X1_add us_X1_add um_X6_85 rfl rfl (c_X1_add l K a S 5 (at_ 3 (S 10) x1) (at_ 3 (S 11) x1)) dX6_loseToken_27 rfl rfl (Nat.le_of_ble_eq_true rfl) (Nat.le_of_ble_eq_true rfl) ?_
  refine G_sub [0, 1] rfl ?_
  exact g_X6_loseToken_L30 C (s_X1_add S 5 (at_ 3 (S 10) x1) (at_ 3 (S 11) x1)) x1
/-! X6_shutOrOpen -/
theorem kd_X6_shutOrOpen : Card yX6_shutOrOpen cX6_shutOrOpen 4 none 2 := ⟨uc_X6_shutOrOpen, un_X6, ⟨by decide, by decide, by decide⟩, by decide⟩
def s_X6_shutOrOpen_L23 (S : SM) (x1 : Int32) (x2 : Int32) : SM := if (v_X8_standingAt S x1) = (-2) then S else s_X6_loseToken S (v_X8_standingAt S x1)
theorem g_X6_shutOrOpen_L23 {l : Launch} {K : gK} {Γ : gT} {a : Nat → Nat} (C : Cx l K Γ RX6 cX6_shutOrOpen 4 none 4) (S : SM) (x1 : Int32) (x2 : Int32) : G l K Γ (st_W K a S) 23 4 [(0, .ref (a 0)), (1, .int x1), (2, .int x2)] [] (fun z => (none, st_W K a z)) (s_X6_shutOrOpen_L23 S x1 x2) := by
  unfold s_X6_shutOrOpen_L23
  refine G_aload_n C 0 dX6_shutOrOpen_23 rfl ?_
  refine G_get C 0 3 dX6_shutOrOpen_24 inlX6 uf_X6_28 rfl (by decide) rfl rfl rfl ?_
  refine G_iload_n C 1 dX6_shutOrOpen_27 rfl ?_
  refine G_callVi C 12 8 kd_X8_standingAt ui_X8_standingAt us_X8_standingAt um_X6_86 rfl rfl (c_X8_standingAt l K a S x1) dX6_shutOrOpen_28 rfl rfl (Nat.le_of_ble_eq_true rfl) (Nat.le_of_ble_eq_true rfl) ?_
  refine G_istore_n (lv' := [(3, .int (v_X8_standingAt S x1)), (0, .ref (a 0)), (1, .int x1), (2, .int x2)]) C dX6_shutOrOpen_31 (by decide) rfl ?_
  refine G_iload_n C 0 dX6_shutOrOpen_32 rfl ?_
  refine G_bipush C dX6_shutOrOpen_33 (v := -2) rfl ?_
  refine G_icmp_eq C 43 dX6_shutOrOpen_35 rfl (fun h1 => ?_) (fun h1 => ?_)
  · exact G_vret C dX6_shutOrOpen_43 rfl
  · refine G_aload_n C 1 dX6_shutOrOpen_38 rfl ?_
    refine G_iload_n C 0 dX6_shutOrOpen_39 rfl ?_
    refine G_callVv C 0 6 kd_X6_loseToken ui_X6_loseToken us_X6_loseToken um_X6_90 rfl rfl (c_X6_loseToken l K a S (v_X8_standingAt S x1)) dX6_shutOrOpen_40 rfl rfl (Nat.le_of_ble_eq_true rfl) (Nat.le_of_ble_eq_true rfl) ?_
    exact G_vret C dX6_shutOrOpen_43 rfl
def s_X6_shutOrOpen_L12 (S : SM) (x1 : Int32) (x2 : Int32) : SM := s_X6_shutOrOpen_L23 (s_X1_add S 7 x1 x2) x1 x2
theorem g_X6_shutOrOpen_L12 {l : Launch} {K : gK} {Γ : gT} {a : Nat → Nat} (C : Cx l K Γ RX6 cX6_shutOrOpen 4 none 4) (S : SM) (x1 : Int32) (x2 : Int32) : G l K Γ (st_W K a S) 12 4 [(0, .ref (a 0)), (1, .int x1), (2, .int x2)] [] (fun z => (none, st_W K a z)) (s_X6_shutOrOpen_L12 S x1 x2) := by
  unfold s_X6_shutOrOpen_L12
  refine G_aload_n C 0 dX6_shutOrOpen_12 rfl ?_
  refine G_get C 0 4 dX6_shutOrOpen_13 inlX6 uf_X6_35 rfl (by decide) rfl rfl rfl ?_
  refine G_bipush C dX6_shutOrOpen_16 (v := 7) rfl ?_
  refine G_iload_n C 1 dX6_shutOrOpen_18 rfl ?_
  refine G_iload_n C 2 dX6_shutOrOpen_19 rfl ?_
  refine G_callVv C 18 1 kd_X1_add ui_X1_add us_X1_add um_X6_85 rfl rfl (c_X1_add l K a S 7 x1 x2) dX6_shutOrOpen_20 rfl rfl (Nat.le_of_ble_eq_true rfl) (Nat.le_of_ble_eq_true rfl) ?_
  refine G_sub [0, 1, 2] rfl ?_
  exact g_X6_shutOrOpen_L23 C (s_X1_add S 7 x1 x2) x1 x2
def s_X6_shutOrOpen (S : SM) (x1 : Int32) (x2 : Int32) : SM := s_X6_shutOrOpen_L12 (sU S 4 (put_ 10 (S 4) x1 x2)) x1 x2
theorem c_X6_shutOrOpen (l : Launch) (K : gK) (a : Nat → Nat) (S : SM) (x1 : Int32) (x2 : Int32) : Ct l K yX6_shutOrOpen cX6_shutOrOpen 4 none 4 [.ref (a 0), .int x1, .int x2] (st_W K a S) (none, st_W K a (s_X6_shutOrOpen S x1 x2)) := by
  refine Ct.of (own := RX6) (fun z => (none, st_W K a z)) (x := s_X6_shutOrOpen S x1 x2) (by decide) rfl (Nat.le_of_ble_eq_true rfl) (fun Γ C => ?_)
  unfold s_X6_shutOrOpen
  refine G_aload_n C 0 dX6_shutOrOpen_0 rfl ?_
  refine G_get C 0 2 dX6_shutOrOpen_1 inlX6 uf_X6_21 rfl (by decide) rfl rfl rfl ?_
  refine G_get C 3 2 dX6_shutOrOpen_4 inlX2 uf_X6_82 rfl (by decide) rfl rfl rfl ?_
  refine G_iload_n C 1 dX6_shutOrOpen_7 rfl ?_
  refine G_iload_n C 2 dX6_shutOrOpen_8 rfl ?_
  refine G_callSNv C kd_X9_put ut_X9_put nw_9 (Ct.to (r' := (none, st_W K a (sU S 4 (put_ 10 (S 4) x1 x2)))) (c_put l K (ws := st_W K a S) (q0 := 6) (n := 10) (g := S 4) (ad := (a 6)) (by decide) rfl x1 x2) rfl) dX6_shutOrOpen_9 rfl rfl (Nat.le_of_ble_eq_true rfl) (Nat.le_of_ble_eq_true rfl) ?_
  refine G_sub [0, 1, 2] rfl ?_
  exact g_X6_shutOrOpen_L12 C (sU S 4 (put_ 10 (S 4) x1 x2)) x1 x2
/-! X8_isFollowedThere -/
theorem kd_X8_isFollowedThere : Card yX8_isFollowedThere cX8_isFollowedThere 3 (some .boolean) 1 := ⟨uc_X8_isFollowedThere, un_X8, ⟨by decide, by decide, by decide⟩, by decide⟩
def v_X8_isFollowedThere_L17 : Nat → SM → Int32 → Int32 → Int32
  | 0, _, _, _ => 0
  | fuel + 1, S, x1, x2 => if x2 < (S 18 3) then if (v_X8_isAt S x2 (at_ 3 (S 11) x1)) = 0 then v_X8_isFollowedThere_L17 fuel S x1 (x2 + 1) else 1 else 0
theorem g_X8_isFollowedThere_L17 {l : Launch} {K : gK} {Γ : gT} {a : Nat → Nat} (C : Cx l K Γ RX8 cX8_isFollowedThere 3 (some .boolean) 2) : ∀ (n : Nat) (S : SM) (x1 : Int32) (x2 : Int32), mu x2 < n → G l K Γ (st_W K a S) 17 3 [(0, .ref (a 12)), (1, .int x1), (2, .int x2)] [] (fun z => (some (.int z), st_W K a S)) (v_X8_isFollowedThere_L17 n S x1 x2) := by
  intro n
  induction n with
  | zero =>
    intro S x1 x2 hm
    exact absurd hm (Nat.not_lt_zero _)
  | succ n ih =>
    intro S x1 x2 hm
    rw [v_X8_isFollowedThere_L17]
    refine G_iload_n C 2 dX8_isFollowedThere_17 rfl ?_
    refine G_aload_n C 0 dX8_isFollowedThere_18 rfl ?_
    refine G_get C 12 5 dX8_isFollowedThere_19 inlX8 uf_X8_31 rfl (by decide) rfl rfl rfl ?_
    refine G_icmp_ge C 49 dX8_isFollowedThere_22 rfl (fun h2 => ?_) (fun h2 => ?_)
    · refine G_aload_n C 0 dX8_isFollowedThere_25 rfl ?_
      refine G_iload_n C 2 dX8_isFollowedThere_26 rfl ?_
      refine G_aload_n C 0 dX8_isFollowedThere_27 rfl ?_
      refine G_get C 12 1 dX8_isFollowedThere_28 inlX8 uf_X8_15 rfl (by decide) rfl rfl rfl ?_
      refine G_iload_n C 1 dX8_isFollowedThere_31 rfl ?_
      refine G_callSNi C kd_X9_at ut_X9_at nw_22 (c_at l K (ws := st_W K a S) (q0 := 14) (n := 3) (g := S 11) (ad := (a 14)) (by decide) rfl x1) dX8_isFollowedThere_32 rfl rfl (Nat.le_of_ble_eq_true rfl) (Nat.le_of_ble_eq_true rfl) ?_
      refine G_callVi C 12 8 kd_X8_isAt ui_X8_isAt us_X8_isAt um_X8_53 rfl rfl (c_X8_isAt l K a S x2 (at_ 3 (S 11) x1)) dX8_isFollowedThere_35 rfl rfl (Nat.le_of_ble_eq_true rfl) (Nat.le_of_ble_eq_true rfl) ?_
      refine G_if_eq C 43 dX8_isFollowedThere_38 rfl (fun h3 => ?_) (fun h3 => ?_)
      · refine G_iinc (lv' := [(2, .int (x2 + 1)), (0, .ref (a 12)), (1, .int x1)]) C 2 dX8_isFollowedThere_43 rfl rfl (by decide) rfl ?_
        refine G_goto C 17 dX8_isFollowedThere_46 rfl ?_
        refine G_sub [1, 2, 0] rfl ?_
        exact ih S x1 (x2 + 1) (by have := mu_up h2; omega)
      · refine G_iconst C dX8_isFollowedThere_41 (v := 1) rfl ?_
        exact G_zret C dX8_isFollowedThere_42 rfl rfl
    · refine G_iconst C dX8_isFollowedThere_49 (v := 0) rfl ?_
      exact G_zret C dX8_isFollowedThere_50 rfl rfl
def v_X8_isFollowedThere (S : SM) (x1 : Int32) : Int32 := if 0 < (at_ 3 (S 12) x1) then 0 else v_X8_isFollowedThere_L17 (mu (x1 + 1) + 1) S x1 (x1 + 1)
theorem c_X8_isFollowedThere (l : Launch) (K : gK) (a : Nat → Nat) (S : SM) (x1 : Int32) : Ct l K yX8_isFollowedThere cX8_isFollowedThere 3 (some .boolean) 2 [.ref (a 12), .int x1] (st_W K a S) (some (.int (v_X8_isFollowedThere S x1)), st_W K a S) := by
  refine Ct.of (own := RX8) (fun z => (some (.int z), st_W K a S)) (x := v_X8_isFollowedThere S x1) (by decide) rfl (Nat.le_of_ble_eq_true rfl) (fun Γ C => ?_)
  unfold v_X8_isFollowedThere
  refine G_aload_n C 0 dX8_isFollowedThere_0 rfl ?_
  refine G_get C 12 2 dX8_isFollowedThere_1 inlX8 uf_X8_18 rfl (by decide) rfl rfl rfl ?_
  refine G_iload_n C 1 dX8_isFollowedThere_4 rfl ?_
  refine G_callSNi C kd_X9_at ut_X9_at nw_22 (c_at l K (ws := st_W K a S) (q0 := 15) (n := 3) (g := S 12) (ad := (a 15)) (by decide) rfl x1) dX8_isFollowedThere_5 rfl rfl (Nat.le_of_ble_eq_true rfl) (Nat.le_of_ble_eq_true rfl) ?_
  refine G_if_le C 13 dX8_isFollowedThere_8 rfl (fun h1 => ?_) (fun h1 => ?_)
  · refine G_iconst C dX8_isFollowedThere_11 (v := 0) rfl ?_
    exact G_zret C dX8_isFollowedThere_12 rfl rfl
  · refine G_iload_n C 1 dX8_isFollowedThere_13 rfl ?_
    refine G_iconst C dX8_isFollowedThere_14 (v := 1) rfl ?_
    refine G_iadd C dX8_isFollowedThere_15 ?_
    refine G_istore_n (lv' := [(2, .int (x1 + 1)), (0, .ref (a 12)), (1, .int x1)]) C dX8_isFollowedThere_16 (by decide) rfl ?_
    refine G_sub [1, 2, 0] rfl ?_
    exact g_X8_isFollowedThere_L17 C _ S x1 (x1 + 1) (Nat.lt_succ_self _)
/-! X6_tearUpWhereTwoMeet -/
theorem kd_X6_tearUpWhereTwoMeet : Card yX6_tearUpWhereTwoMeet cX6_tearUpWhereTwoMeet 3 none 0 := ⟨uc_X6_tearUpWhereTwoMeet, un_X6, ⟨by decide, by decide, by decide⟩, by decide⟩
def s_X6_tearUpWhereTwoMeet_L4 : Nat → SM → Int32 → Int32 → SM
  | 0, S, _, _ => S
  | fuel + 1, S, x1, x2 => if x2 < 3 then if (v_X8_isFollowedThere S x1) = 0 then s_X6_tearUpWhereTwoMeet_L4 fuel S (x1 + 1) (x2 + 1) else s_X6_tearUpWhereTwoMeet_L4 fuel (s_X8_remove (sU (s_X1_add S 3 (at_ 3 (S 10) x1) (at_ 3 (S 11) x1)) 1 (raise_ 9 ((s_X1_add S 3 (at_ 3 (S 10) x1) (at_ 3 (S 11) x1)) 1) 5)) x1) x1 (x2 + 1) else S
theorem g_X6_tearUpWhereTwoMeet_L4 {l : Launch} {K : gK} {Γ : gT} {a : Nat → Nat} (C : Cx l K Γ RX6 cX6_tearUpWhereTwoMeet 3 none 3) : ∀ (n : Nat) (S : SM) (x1 : Int32) (x2 : Int32), mu x2 < n → G l K Γ (st_W K a S) 4 3 [(0, .ref (a 0)), (1, .int x1), (2, .int x2)] [] (fun z => (none, st_W K a z)) (s_X6_tearUpWhereTwoMeet_L4 n S x1 x2) := by
  intro n
  induction n with
  | zero =>
    intro S x1 x2 hm
    exact absurd hm (Nat.not_lt_zero _)
  | succ n ih =>
    intro S x1 x2 hm
    rw [s_X6_tearUpWhereTwoMeet_L4]
    refine G_iload_n C 2 dX6_tearUpWhereTwoMeet_4 rfl ?_
    refine G_iconst C dX6_tearUpWhereTwoMeet_5 (v := 3) rfl ?_
    refine G_icmp_ge C 78 dX6_tearUpWhereTwoMeet_6 rfl (fun h1 => ?_) (fun h1 => ?_)
    · refine G_aload_n C 0 dX6_tearUpWhereTwoMeet_9 rfl ?_
      refine G_get C 0 3 dX6_tearUpWhereTwoMeet_10 inlX6 uf_X6_28 rfl (by decide) rfl rfl rfl ?_
      refine G_iload_n C 1 dX6_tearUpWhereTwoMeet_13 rfl ?_
      refine G_callVi C 12 8 kd_X8_isFollowedThere ui_X8_isFollowedThere us_X8_isFollowedThere um_X6_110 rfl rfl (c_X8_isFollowedThere l K a S x1) dX6_tearUpWhereTwoMeet_14 rfl rfl (Nat.le_of_ble_eq_true rfl) (Nat.le_of_ble_eq_true rfl) ?_
      refine G_if_eq C 69 dX6_tearUpWhereTwoMeet_17 rfl (fun h2 => ?_) (fun h2 => ?_)
      · refine G_iinc (lv' := [(1, .int (x1 + 1)), (0, .ref (a 0)), (2, .int x2)]) C 1 dX6_tearUpWhereTwoMeet_69 rfl rfl (by decide) rfl ?_
        refine G_iinc (lv' := [(2, .int (x2 + 1)), (1, .int (x1 + 1)), (0, .ref (a 0))]) C 2 dX6_tearUpWhereTwoMeet_72 rfl rfl (by decide) rfl ?_
        refine G_goto C 4 dX6_tearUpWhereTwoMeet_75 rfl ?_
        refine G_sub [2, 1, 0] rfl ?_
        exact ih S (x1 + 1) (x2 + 1) (by have := mu_up h1; omega)
      · refine G_aload_n C 0 dX6_tearUpWhereTwoMeet_20 rfl ?_
        refine G_get C 0 4 dX6_tearUpWhereTwoMeet_21 inlX6 uf_X6_35 rfl (by decide) rfl rfl rfl ?_
        refine G_iconst C dX6_tearUpWhereTwoMeet_24 (v := 3) rfl ?_
        refine G_aload_n C 0 dX6_tearUpWhereTwoMeet_25 rfl ?_
        refine G_get C 0 3 dX6_tearUpWhereTwoMeet_26 inlX6 uf_X6_28 rfl (by decide) rfl rfl rfl ?_
        refine G_get C 12 0 dX6_tearUpWhereTwoMeet_29 inlX8 uf_X6_93 rfl (by decide) rfl rfl rfl ?_
        refine G_iload_n C 1 dX6_tearUpWhereTwoMeet_32 rfl ?_
        refine G_callSNi C kd_X9_at ut_X9_at nw_23 (c_at l K (ws := st_W K a S) (q0 := 13) (n := 3) (g := S 10) (ad := (a 13)) (by decide) rfl x1) dX6_tearUpWhereTwoMeet_33 rfl rfl (Nat.le_of_ble_eq_true rfl) (Nat.le_of_ble_eq_true rfl) ?_
        refine G_aload_n C 0 dX6_tearUpWhereTwoMeet_36 rfl ?_
        refine G_get C 0 3 dX6_tearUpWhereTwoMeet_37 inlX6 uf_X6_28 rfl (by decide) rfl rfl rfl ?_
        refine G_get C 12 1 dX6_tearUpWhereTwoMeet_40 inlX8 uf_X6_100 rfl (by decide) rfl rfl rfl ?_
        refine G_iload_n C 1 dX6_tearUpWhereTwoMeet_43 rfl ?_
        refine G_callSNi C kd_X9_at ut_X9_at nw_23 (c_at l K (ws := st_W K a S) (q0 := 14) (n := 3) (g := S 11) (ad := (a 14)) (by decide) rfl x1) dX6_tearUpWhereTwoMeet_44 rfl rfl (Nat.le_of_ble_eq_true rfl) (Nat.le_of_ble_eq_true rfl) ?_
        refine G_callVv C 18 1 kd_X1_add ui_X1_add us_X1_add um_X6_85 rfl rfl (c_X1_add l K a S 3 (at_ 3 (S 10) x1) (at_ 3 (S 11) x1)) dX6_tearUpWhereTwoMeet_47 rfl rfl (Nat.le_of_ble_eq_true rfl) (Nat.le_of_ble_eq_true rfl) ?_
        refine G_aload_n C 0 dX6_tearUpWhereTwoMeet_50 rfl ?_
        refine G_get C 0 1 dX6_tearUpWhereTwoMeet_51 inlX6 uf_X6_15 rfl (by decide) rfl rfl rfl ?_
        refine G_iconst C dX6_tearUpWhereTwoMeet_54 (v := 5) rfl ?_
        refine G_callSNv C kd_X9_raise ut_X9_raise nw_24 (Ct.to (r' := (none, st_W K a (sU (s_X1_add S 3 (at_ 3 (S 10) x1) (at_ 3 (S 11) x1)) 1 (raise_ 9 ((s_X1_add S 3 (at_ 3 (S 10) x1) (at_ 3 (S 11) x1)) 1) 5)))) (c_raise l K (ws := st_W K a (s_X1_add S 3 (at_ 3 (S 10) x1) (at_ 3 (S 11) x1))) (q0 := 2) (n := 9) (g := (s_X1_add S 3 (at_ 3 (S 10) x1) (at_ 3 (S 11) x1)) 1) (ad := (a 2)) (by decide) rfl 5) rfl) dX6_tearUpWhereTwoMeet_55 rfl rfl (Nat.le_of_ble_eq_true rfl) (Nat.le_of_ble_eq_true rfl) ?_
        refine G_aload_n C 0 dX6_tearUpWhereTwoMeet_58 rfl ?_
        refine G_get C 0 3 dX6_tearUpWhereTwoMeet_59 inlX6 uf_X6_28 rfl (by decide) rfl rfl rfl ?_
        refine G_iload_n C 1 dX6_tearUpWhereTwoMeet_62 rfl ?_
        refine G_callVv C 12 8 kd_X8_remove ui_X8_remove us_X8_remove um_X6_107 rfl rfl (c_X8_remove l K a (sU (s_X1_add S 3 (at_ 3 (S 10) x1) (at_ 3 (S 11) x1)) 1 (raise_ 9 ((s_X1_add S 3 (at_ 3 (S 10) x1) (at_ 3 (S 11) x1)) 1) 5)) x1) dX6_tearUpWhereTwoMeet_63 rfl rfl (Nat.le_of_ble_eq_true rfl) (Nat.le_of_ble_eq_true rfl) ?_
        refine G_goto C 72 dX6_tearUpWhereTwoMeet_66 rfl ?_
        refine G_iinc (lv' := [(2, .int (x2 + 1)), (0, .ref (a 0)), (1, .int x1)]) C 2 dX6_tearUpWhereTwoMeet_72 rfl rfl (by decide) rfl ?_
        refine G_goto C 4 dX6_tearUpWhereTwoMeet_75 rfl ?_
        refine G_sub [1, 2, 0] rfl ?_
        exact ih (s_X8_remove (sU (s_X1_add S 3 (at_ 3 (S 10) x1) (at_ 3 (S 11) x1)) 1 (raise_ 9 ((s_X1_add S 3 (at_ 3 (S 10) x1) (at_ 3 (S 11) x1)) 1) 5)) x1) x1 (x2 + 1) (by have := mu_up h1; omega)
    · exact G_vret C dX6_tearUpWhereTwoMeet_78 rfl
def s_X6_tearUpWhereTwoMeet (S : SM) : SM := s_X6_tearUpWhereTwoMeet_L4 (mu 0 + 1) S 0 0
theorem c_X6_tearUpWhereTwoMeet (l : Launch) (K : gK) (a : Nat → Nat) (S : SM) : Ct l K yX6_tearUpWhereTwoMeet cX6_tearUpWhereTwoMeet 3 none 3 [.ref (a 0)] (st_W K a S) (none, st_W K a (s_X6_tearUpWhereTwoMeet S)) := by
  refine Ct.of (own := RX6) (fun z => (none, st_W K a z)) (x := s_X6_tearUpWhereTwoMeet S) (by decide) rfl (Nat.le_of_ble_eq_true rfl) (fun Γ C => ?_)
  unfold s_X6_tearUpWhereTwoMeet
  refine G_iconst C dX6_tearUpWhereTwoMeet_0 (v := 0) rfl ?_
  refine G_istore_n (lv' := [(1, .int 0), (0, .ref (a 0))]) C dX6_tearUpWhereTwoMeet_1 (by decide) rfl ?_
  refine G_iconst C dX6_tearUpWhereTwoMeet_2 (v := 0) rfl ?_
  refine G_istore_n (lv' := [(2, .int 0), (1, .int 0), (0, .ref (a 0))]) C dX6_tearUpWhereTwoMeet_3 (by decide) rfl ?_
  refine G_sub [2, 1, 0] rfl ?_
  exact g_X6_tearUpWhereTwoMeet_L4 C _ S 0 0 (Nat.lt_succ_self _)
/-! X8_setOut -/
theorem kd_X8_setOut : Card yX8_setOut cX8_setOut 4 none 3 := ⟨uc_X8_setOut, un_X8, ⟨by decide, by decide, by decide⟩, by decide⟩
def s_X8_setOut_L18 (S : SM) (x1 : Int32) (x2 : Int32) (x3 : Int32) : SM := sU S 13 (put_ 3 (S 13) x1 0)
theorem g_X8_setOut_L18 {l : Launch} {K : gK} {Γ : gT} {a : Nat → Nat} (C : Cx l K Γ RX8 cX8_setOut 4 none 1) (S : SM) (x1 : Int32) (x2 : Int32) (x3 : Int32) : G l K Γ (st_W K a S) 18 4 [(0, .ref (a 12)), (1, .int x1), (2, .int x2), (3, .int x3)] [] (fun z => (none, st_W K a z)) (s_X8_setOut_L18 S x1 x2 x3) := by
  unfold s_X8_setOut_L18
  refine G_aload_n C 0 dX8_setOut_18 rfl ?_
  refine G_get C 12 3 dX8_setOut_19 inlX8 uf_X8_21 rfl (by decide) rfl rfl rfl ?_
  refine G_iload_n C 1 dX8_setOut_22 rfl ?_
  refine G_iconst C dX8_setOut_23 (v := 0) rfl ?_
  refine G_callSNv C kd_X9_put ut_X9_put nw_11 (Ct.to (r' := (none, st_W K a (sU S 13 (put_ 3 (S 13) x1 0)))) (c_put l K (ws := st_W K a S) (q0 := 16) (n := 3) (g := S 13) (ad := (a 16)) (by decide) rfl x1 0) rfl) dX8_setOut_24 rfl rfl (Nat.le_of_ble_eq_true rfl) (Nat.le_of_ble_eq_true rfl) ?_
  exact G_vret C dX8_setOut_27 rfl
def s_X8_setOut_L9 (S : SM) (x1 : Int32) (x2 : Int32) (x3 : Int32) : SM := s_X8_setOut_L18 (sU S 12 (put_ 3 (S 12) x1 x3)) x1 x2 x3
theorem g_X8_setOut_L9 {l : Launch} {K : gK} {Γ : gT} {a : Nat → Nat} (C : Cx l K Γ RX8 cX8_setOut 4 none 1) (S : SM) (x1 : Int32) (x2 : Int32) (x3 : Int32) : G l K Γ (st_W K a S) 9 4 [(0, .ref (a 12)), (1, .int x1), (2, .int x2), (3, .int x3)] [] (fun z => (none, st_W K a z)) (s_X8_setOut_L9 S x1 x2 x3) := by
  unfold s_X8_setOut_L9
  refine G_aload_n C 0 dX8_setOut_9 rfl ?_
  refine G_get C 12 2 dX8_setOut_10 inlX8 uf_X8_18 rfl (by decide) rfl rfl rfl ?_
  refine G_iload_n C 1 dX8_setOut_13 rfl ?_
  refine G_iload_n C 3 dX8_setOut_14 rfl ?_
  refine G_callSNv C kd_X9_put ut_X9_put nw_11 (Ct.to (r' := (none, st_W K a (sU S 12 (put_ 3 (S 12) x1 x3)))) (c_put l K (ws := st_W K a S) (q0 := 15) (n := 3) (g := S 12) (ad := (a 15)) (by decide) rfl x1 x3) rfl) dX8_setOut_15 rfl rfl (Nat.le_of_ble_eq_true rfl) (Nat.le_of_ble_eq_true rfl) ?_
  refine G_sub [0, 1, 2, 3] rfl ?_
  exact g_X8_setOut_L18 C (sU S 12 (put_ 3 (S 12) x1 x3)) x1 x2 x3
def s_X8_setOut (S : SM) (x1 : Int32) (x2 : Int32) (x3 : Int32) : SM := s_X8_setOut_L9 (sU S 11 (put_ 3 (S 11) x1 x2)) x1 x2 x3
theorem c_X8_setOut (l : Launch) (K : gK) (a : Nat → Nat) (S : SM) (x1 : Int32) (x2 : Int32) (x3 : Int32) : Ct l K yX8_setOut cX8_setOut 4 none 1 [.ref (a 12), .int x1, .int x2, .int x3] (st_W K a S) (none, st_W K a (s_X8_setOut S x1 x2 x3)) := by
  refine Ct.of (own := RX8) (fun z => (none, st_W K a z)) (x := s_X8_setOut S x1 x2 x3) (by decide) rfl (Nat.le_of_ble_eq_true rfl) (fun Γ C => ?_)
  unfold s_X8_setOut
  refine G_aload_n C 0 dX8_setOut_0 rfl ?_
  refine G_get C 12 1 dX8_setOut_1 inlX8 uf_X8_15 rfl (by decide) rfl rfl rfl ?_
  refine G_iload_n C 1 dX8_setOut_4 rfl ?_
  refine G_iload_n C 2 dX8_setOut_5 rfl ?_
  refine G_callSNv C kd_X9_put ut_X9_put nw_11 (Ct.to (r' := (none, st_W K a (sU S 11 (put_ 3 (S 11) x1 x2)))) (c_put l K (ws := st_W K a S) (q0 := 14) (n := 3) (g := S 11) (ad := (a 14)) (by decide) rfl x1 x2) rfl) dX8_setOut_6 rfl rfl (Nat.le_of_ble_eq_true rfl) (Nat.le_of_ble_eq_true rfl) ?_
  refine G_sub [0, 1, 2, 3] rfl ?_
  exact g_X8_setOut_L9 C (sU S 11 (put_ 3 (S 11) x1 x2)) x1 x2 x3
/-! X6_leave -/
theorem kd_X6_leave : Card yX6_leave cX6_leave 3 none 2 := ⟨uc_X6_leave, un_X6, ⟨by decide, by decide, by decide⟩, by decide⟩
def s_X6_leave (S : SM) (x1 : Int32) (x2 : Int32) : SM := s_X8_setOut S x1 (v_X2_behind S x2) (at_ 10 (S 2) x2)
theorem c_X6_leave (l : Launch) (K : gK) (a : Nat → Nat) (S : SM) (x1 : Int32) (x2 : Int32) : Ct l K yX6_leave cX6_leave 3 none 2 [.ref (a 0), .int x1, .int x2] (st_W K a S) (none, st_W K a (s_X6_leave S x1 x2)) := by
  refine Ct.of (own := RX6) (fun z => (none, st_W K a z)) (x := s_X6_leave S x1 x2) (by decide) rfl (Nat.le_of_ble_eq_true rfl) (fun Γ C => ?_)
  unfold s_X6_leave
  refine G_aload_n C 0 dX6_leave_0 rfl ?_
  refine G_get C 0 3 dX6_leave_1 inlX6 uf_X6_28 rfl (by decide) rfl rfl rfl ?_
  refine G_iload_n C 1 dX6_leave_4 rfl ?_
  refine G_aload_n C 0 dX6_leave_5 rfl ?_
  refine G_get C 0 2 dX6_leave_6 inlX6 uf_X6_21 rfl (by decide) rfl rfl rfl ?_
  refine G_iload_n C 2 dX6_leave_9 rfl ?_
  refine G_callVi C 3 2 kd_X2_behind ui_X2_behind us_X2_behind um_X6_149 rfl rfl (c_X2_behind l K a S x2) dX6_leave_10 rfl rfl (Nat.le_of_ble_eq_true rfl) (Nat.le_of_ble_eq_true rfl) ?_
  refine G_aload_n C 0 dX6_leave_13 rfl ?_
  refine G_get C 0 2 dX6_leave_14 inlX6 uf_X6_21 rfl (by decide) rfl rfl rfl ?_
  refine G_get C 3 0 dX6_leave_17 inlX2 uf_X6_152 rfl (by decide) rfl rfl rfl ?_
  refine G_iload_n C 2 dX6_leave_20 rfl ?_
  refine G_callSNi C kd_X9_at ut_X9_at nw_23 (c_at l K (ws := st_W K a S) (q0 := 4) (n := 10) (g := S 2) (ad := (a 4)) (by decide) rfl x2) dX6_leave_21 rfl rfl (Nat.le_of_ble_eq_true rfl) (Nat.le_of_ble_eq_true rfl) ?_
  refine G_callVv C 12 8 kd_X8_setOut ui_X8_setOut us_X8_setOut um_X6_155 rfl rfl (c_X8_setOut l K a S x1 (v_X2_behind S x2) (at_ 10 (S 2) x2)) dX6_leave_24 rfl rfl (Nat.le_of_ble_eq_true rfl) (Nat.le_of_ble_eq_true rfl) ?_
  exact G_vret C dX6_leave_27 rfl
/-! X6_comeNearer -/
theorem kd_X6_comeNearer : Card yX6_comeNearer cX6_comeNearer 4 none 1 := ⟨uc_X6_comeNearer, un_X6, ⟨by decide, by decide, by decide⟩, by decide⟩
def s_X6_comeNearer_L26 (S : SM) (x1 : Int32) (x2 : Int32) : SM := if x2 = 0 then if (v_X2_isOpen S (at_ 3 (S 11) x1)) = 0 then s_X6_leave S x1 (at_ 3 (S 11) x1) else S else S
theorem g_X6_comeNearer_L26 {l : Launch} {K : gK} {Γ : gT} {a : Nat → Nat} (C : Cx l K Γ RX6 cX6_comeNearer 4 none 3) (S : SM) (x1 : Int32) (x2 : Int32) : G l K Γ (st_W K a S) 26 4 [(0, .ref (a 0)), (1, .int x1), (2, .int x2)] [] (fun z => (none, st_W K a z)) (s_X6_comeNearer_L26 S x1 x2) := by
  unfold s_X6_comeNearer_L26
  refine G_aload_n C 0 dX6_comeNearer_26 rfl ?_
  refine G_get C 0 3 dX6_comeNearer_27 inlX6 uf_X6_28 rfl (by decide) rfl rfl rfl ?_
  refine G_get C 12 1 dX6_comeNearer_30 inlX8 uf_X6_100 rfl (by decide) rfl rfl rfl ?_
  refine G_iload_n C 1 dX6_comeNearer_33 rfl ?_
  refine G_callSNi C kd_X9_at ut_X9_at nw_23 (c_at l K (ws := st_W K a S) (q0 := 14) (n := 3) (g := S 11) (ad := (a 14)) (by decide) rfl x1) dX6_comeNearer_34 rfl rfl (Nat.le_of_ble_eq_true rfl) (Nat.le_of_ble_eq_true rfl) ?_
  refine G_istore_n (lv' := [(3, .int (at_ 3 (S 11) x1)), (0, .ref (a 0)), (1, .int x1), (2, .int x2)]) C dX6_comeNearer_37 (by decide) rfl ?_
  refine G_iload_n C 3 dX6_comeNearer_38 rfl ?_
  refine G_if_ne C 59 dX6_comeNearer_39 rfl (fun h1 => ?_) (fun h1 => ?_)
  · refine G_aload_n C 1 dX6_comeNearer_42 rfl ?_
    refine G_get C 0 2 dX6_comeNearer_43 inlX6 uf_X6_21 rfl (by decide) rfl rfl rfl ?_
    refine G_iload_n C 0 dX6_comeNearer_46 rfl ?_
    refine G_callVi C 3 2 kd_X2_isOpen ui_X2_isOpen us_X2_isOpen um_X6_142 rfl rfl (c_X2_isOpen l K a S (at_ 3 (S 11) x1)) dX6_comeNearer_47 rfl rfl (Nat.le_of_ble_eq_true rfl) (Nat.le_of_ble_eq_true rfl) ?_
    refine G_if_ne C 59 dX6_comeNearer_50 rfl (fun h2 => ?_) (fun h2 => ?_)
    · refine G_aload_n C 1 dX6_comeNearer_53 rfl ?_
      refine G_iload_n C 2 dX6_comeNearer_54 rfl ?_
      refine G_iload_n C 0 dX6_comeNearer_55 rfl ?_
      refine G_callVv C 0 6 kd_X6_leave ui_X6_leave us_X6_leave um_X6_145 rfl rfl (c_X6_leave l K a S x1 (at_ 3 (S 11) x1)) dX6_comeNearer_56 rfl rfl (Nat.le_of_ble_eq_true rfl) (Nat.le_of_ble_eq_true rfl) ?_
      exact G_vret C dX6_comeNearer_59 rfl
    · exact G_vret C dX6_comeNearer_59 rfl
  · exact G_vret C dX6_comeNearer_59 rfl
def s_X6_comeNearer (S : SM) (x1 : Int32) : SM := s_X6_comeNearer_L26 (sU S 12 (put_ 3 (S 12) x1 ((at_ 3 (S 12) x1) - 1))) x1 ((at_ 3 (S 12) x1) - 1)
theorem c_X6_comeNearer (l : Launch) (K : gK) (a : Nat → Nat) (S : SM) (x1 : Int32) : Ct l K yX6_comeNearer cX6_comeNearer 4 none 3 [.ref (a 0), .int x1] (st_W K a S) (none, st_W K a (s_X6_comeNearer S x1)) := by
  refine Ct.of (own := RX6) (fun z => (none, st_W K a z)) (x := s_X6_comeNearer S x1) (by decide) rfl (Nat.le_of_ble_eq_true rfl) (fun Γ C => ?_)
  unfold s_X6_comeNearer
  refine G_aload_n C 0 dX6_comeNearer_0 rfl ?_
  refine G_get C 0 3 dX6_comeNearer_1 inlX6 uf_X6_28 rfl (by decide) rfl rfl rfl ?_
  refine G_get C 12 2 dX6_comeNearer_4 inlX8 uf_X6_117 rfl (by decide) rfl rfl rfl ?_
  refine G_iload_n C 1 dX6_comeNearer_7 rfl ?_
  refine G_callSNi C kd_X9_at ut_X9_at nw_23 (c_at l K (ws := st_W K a S) (q0 := 15) (n := 3) (g := S 12) (ad := (a 15)) (by decide) rfl x1) dX6_comeNearer_8 rfl rfl (Nat.le_of_ble_eq_true rfl) (Nat.le_of_ble_eq_true rfl) ?_
  refine G_iconst C dX6_comeNearer_11 (v := 1) rfl ?_
  refine G_isub C dX6_comeNearer_12 ?_
  refine G_istore_n (lv' := [(2, .int ((at_ 3 (S 12) x1) - 1)), (0, .ref (a 0)), (1, .int x1)]) C dX6_comeNearer_13 (by decide) rfl ?_
  refine G_aload_n C 1 dX6_comeNearer_14 rfl ?_
  refine G_get C 0 3 dX6_comeNearer_15 inlX6 uf_X6_28 rfl (by decide) rfl rfl rfl ?_
  refine G_get C 12 2 dX6_comeNearer_18 inlX8 uf_X6_117 rfl (by decide) rfl rfl rfl ?_
  refine G_iload_n C 2 dX6_comeNearer_21 rfl ?_
  refine G_iload_n C 0 dX6_comeNearer_22 rfl ?_
  refine G_callSNv C kd_X9_put ut_X9_put nw_9 (Ct.to (r' := (none, st_W K a (sU S 12 (put_ 3 (S 12) x1 ((at_ 3 (S 12) x1) - 1))))) (c_put l K (ws := st_W K a S) (q0 := 15) (n := 3) (g := S 12) (ad := (a 15)) (by decide) rfl x1 ((at_ 3 (S 12) x1) - 1)) rfl) dX6_comeNearer_23 rfl rfl (Nat.le_of_ble_eq_true rfl) (Nat.le_of_ble_eq_true rfl) ?_
  refine G_sub [1, 2, 0] rfl ?_
  exact g_X6_comeNearer_L26 C (sU S 12 (put_ 3 (S 12) x1 ((at_ 3 (S 12) x1) - 1))) x1 ((at_ 3 (S 12) x1) - 1)
/-! X6_endLetter -/
theorem kd_X6_endLetter : Card yX6_endLetter cX6_endLetter 4 none 1 := ⟨uc_X6_endLetter, un_X6, ⟨by decide, by decide, by decide⟩, by decide⟩
def s_X6_endLetter_L91 (S : SM) (x1 : Int32) (x2 : Int32) (x3 : Int32) : SM := s_X2_removeLetter S x1 0
theorem g_X6_endLetter_L91 {l : Launch} {K : gK} {Γ : gT} {a : Nat → Nat} (C : Cx l K Γ RX6 cX6_endLetter 4 none 3) (S : SM) (x1 : Int32) (x2 : Int32) (x3 : Int32) : G l K Γ (st_W K a S) 91 4 [(0, .ref (a 0)), (1, .int x1), (2, .int x2), (3, .int x3)] [] (fun z => (none, st_W K a z)) (s_X6_endLetter_L91 S x1 x2 x3) := by
  unfold s_X6_endLetter_L91
  refine G_aload_n C 0 dX6_endLetter_91 rfl ?_
  refine G_get C 0 2 dX6_endLetter_92 inlX6 uf_X6_21 rfl (by decide) rfl rfl rfl ?_
  refine G_iload_n C 1 dX6_endLetter_95 rfl ?_
  refine G_iconst C dX6_endLetter_96 (v := 0) rfl ?_
  refine G_callVv C 3 2 kd_X2_removeLetter ui_X2_removeLetter us_X2_removeLetter um_X6_177 rfl rfl (c_X2_removeLetter l K a S x1 0) dX6_endLetter_97 rfl rfl (Nat.le_of_ble_eq_true rfl) (Nat.le_of_ble_eq_true rfl) ?_
  exact G_vret C dX6_endLetter_100 rfl
def s_X6_endLetter_L76 (S : SM) (x1 : Int32) (x2 : Int32) (x3 : Int32) : SM := s_X6_endLetter_L91 (s_X1_add S 2 ((100 * x1) + x2) x3) x1 x2 x3
theorem g_X6_endLetter_L76 {l : Launch} {K : gK} {Γ : gT} {a : Nat → Nat} (C : Cx l K Γ RX6 cX6_endLetter 4 none 3) (S : SM) (x1 : Int32) (x2 : Int32) (x3 : Int32) : G l K Γ (st_W K a S) 76 4 [(0, .ref (a 0)), (1, .int x1), (2, .int x2), (3, .int x3)] [] (fun z => (none, st_W K a z)) (s_X6_endLetter_L76 S x1 x2 x3) := by
  unfold s_X6_endLetter_L76
  refine G_aload_n C 0 dX6_endLetter_76 rfl ?_
  refine G_get C 0 4 dX6_endLetter_77 inlX6 uf_X6_35 rfl (by decide) rfl rfl rfl ?_
  refine G_iconst C dX6_endLetter_80 (v := 2) rfl ?_
  refine G_bipush C dX6_endLetter_81 (v := 100) rfl ?_
  refine G_iload_n C 1 dX6_endLetter_83 rfl ?_
  refine G_imul C dX6_endLetter_84 ?_
  refine G_iload_n C 2 dX6_endLetter_85 rfl ?_
  refine G_iadd C dX6_endLetter_86 ?_
  refine G_iload_n C 3 dX6_endLetter_87 rfl ?_
  refine G_callVv C 18 1 kd_X1_add ui_X1_add us_X1_add um_X6_85 rfl rfl (c_X1_add l K a S 2 ((100 * x1) + x2) x3) dX6_endLetter_88 rfl rfl (Nat.le_of_ble_eq_true rfl) (Nat.le_of_ble_eq_true rfl) ?_
  refine G_sub [0, 1, 2, 3] rfl ?_
  exact g_X6_endLetter_L91 C (s_X1_add S 2 ((100 * x1) + x2) x3) x1 x2 x3
def s_X6_endLetter_L65 (S : SM) (x1 : Int32) (x2 : Int32) (x3 : Int32) : SM := s_X6_endLetter_L91 S x1 x2 x3
theorem g_X6_endLetter_L65 {l : Launch} {K : gK} {Γ : gT} {a : Nat → Nat} (C : Cx l K Γ RX6 cX6_endLetter 4 none 3) (S : SM) (x1 : Int32) (x2 : Int32) (x3 : Int32) : G l K Γ (st_W K a S) 65 4 [(0, .ref (a 0)), (1, .int x1), (2, .int x2), (3, .int x3)] [] (fun z => (none, st_W K a z)) (s_X6_endLetter_L65 S x1 x2 x3) := by
  unfold s_X6_endLetter_L65
  refine G_goto C 91 dX6_endLetter_65 rfl ?_
  refine G_sub [0, 1, 2, 3] rfl ?_
  exact g_X6_endLetter_L91 C S x1 x2 x3
def s_X6_endLetter_L50 (S : SM) (x1 : Int32) (x2 : Int32) (x3 : Int32) : SM := s_X6_endLetter_L65 (s_X1_add S 1 ((100 * x1) + x2) x3) x1 x2 x3
theorem g_X6_endLetter_L50 {l : Launch} {K : gK} {Γ : gT} {a : Nat → Nat} (C : Cx l K Γ RX6 cX6_endLetter 4 none 3) (S : SM) (x1 : Int32) (x2 : Int32) (x3 : Int32) : G l K Γ (st_W K a S) 50 4 [(0, .ref (a 0)), (1, .int x1), (2, .int x2), (3, .int x3)] [] (fun z => (none, st_W K a z)) (s_X6_endLetter_L50 S x1 x2 x3) := by
  unfold s_X6_endLetter_L50
  refine G_aload_n C 0 dX6_endLetter_50 rfl ?_
  refine G_get C 0 4 dX6_endLetter_51 inlX6 uf_X6_35 rfl (by decide) rfl rfl rfl ?_
  refine G_iconst C dX6_endLetter_54 (v := 1) rfl ?_
  refine G_bipush C dX6_endLetter_55 (v := 100) rfl ?_
  refine G_iload_n C 1 dX6_endLetter_57 rfl ?_
  refine G_imul C dX6_endLetter_58 ?_
  refine G_iload_n C 2 dX6_endLetter_59 rfl ?_
  refine G_iadd C dX6_endLetter_60 ?_
  refine G_iload_n C 3 dX6_endLetter_61 rfl ?_
  refine G_callVv C 18 1 kd_X1_add ui_X1_add us_X1_add um_X6_85 rfl rfl (c_X1_add l K a S 1 ((100 * x1) + x2) x3) dX6_endLetter_62 rfl rfl (Nat.le_of_ble_eq_true rfl) (Nat.le_of_ble_eq_true rfl) ?_
  refine G_sub [0, 1, 2, 3] rfl ?_
  exact g_X6_endLetter_L65 C (s_X1_add S 1 ((100 * x1) + x2) x3) x1 x2 x3
def s_X6_endLetter_L39 (S : SM) (x1 : Int32) (x2 : Int32) (x3 : Int32) : SM := s_X6_endLetter_L50 (sU S 6 (raise_ 10 (S 6) x2)) x1 x2 x3
theorem g_X6_endLetter_L39 {l : Launch} {K : gK} {Γ : gT} {a : Nat → Nat} (C : Cx l K Γ RX6 cX6_endLetter 4 none 3) (S : SM) (x1 : Int32) (x2 : Int32) (x3 : Int32) : G l K Γ (st_W K a S) 39 4 [(0, .ref (a 0)), (1, .int x1), (2, .int x2), (3, .int x3)] [] (fun z => (none, st_W K a z)) (s_X6_endLetter_L39 S x1 x2 x3) := by
  unfold s_X6_endLetter_L39
  refine G_aload_n C 0 dX6_endLetter_39 rfl ?_
  refine G_get C 0 2 dX6_endLetter_40 inlX6 uf_X6_21 rfl (by decide) rfl rfl rfl ?_
  refine G_get C 3 4 dX6_endLetter_43 inlX2 uf_X6_174 rfl (by decide) rfl rfl rfl ?_
  refine G_iload_n C 2 dX6_endLetter_46 rfl ?_
  refine G_callSNv C kd_X9_raise ut_X9_raise nw_24 (Ct.to (r' := (none, st_W K a (sU S 6 (raise_ 10 (S 6) x2)))) (c_raise l K (ws := st_W K a S) (q0 := 8) (n := 10) (g := S 6) (ad := (a 8)) (by decide) rfl x2) rfl) dX6_endLetter_47 rfl rfl (Nat.le_of_ble_eq_true rfl) (Nat.le_of_ble_eq_true rfl) ?_
  refine G_sub [0, 1, 2, 3] rfl ?_
  exact g_X6_endLetter_L50 C (sU S 6 (raise_ 10 (S 6) x2)) x1 x2 x3
def s_X6_endLetter (S : SM) (x1 : Int32) : SM := if (v_X2_isOpen S (v_X2_toOf S x1 0)) = 0 then s_X6_endLetter_L76 (sU S 1 (raise_ 9 (S 1) 2)) x1 (v_X2_toOf S x1 0) (v_X2_lengthOf S x1 0) else s_X6_endLetter_L39 (sU S 1 (raise_ 9 (S 1) 1)) x1 (v_X2_toOf S x1 0) (v_X2_lengthOf S x1 0)
theorem c_X6_endLetter (l : Launch) (K : gK) (a : Nat → Nat) (S : SM) (x1 : Int32) : Ct l K yX6_endLetter cX6_endLetter 4 none 3 [.ref (a 0), .int x1] (st_W K a S) (none, st_W K a (s_X6_endLetter S x1)) := by
  refine Ct.of (own := RX6) (fun z => (none, st_W K a z)) (x := s_X6_endLetter S x1) (by decide) rfl (Nat.le_of_ble_eq_true rfl) (fun Γ C => ?_)
  unfold s_X6_endLetter
  refine G_aload_n C 0 dX6_endLetter_0 rfl ?_
  refine G_get C 0 2 dX6_endLetter_1 inlX6 uf_X6_21 rfl (by decide) rfl rfl rfl ?_
  refine G_iload_n C 1 dX6_endLetter_4 rfl ?_
  refine G_iconst C dX6_endLetter_5 (v := 0) rfl ?_
  refine G_callVi C 3 2 kd_X2_toOf ui_X2_toOf us_X2_toOf um_X6_167 rfl rfl (c_X2_toOf l K a S x1 0) dX6_endLetter_6 rfl rfl (Nat.le_of_ble_eq_true rfl) (Nat.le_of_ble_eq_true rfl) ?_
  refine G_istore_n (lv' := [(2, .int (v_X2_toOf S x1 0)), (0, .ref (a 0)), (1, .int x1)]) C dX6_endLetter_9 (by decide) rfl ?_
  refine G_aload_n C 1 dX6_endLetter_10 rfl ?_
  refine G_get C 0 2 dX6_endLetter_11 inlX6 uf_X6_21 rfl (by decide) rfl rfl rfl ?_
  refine G_iload_n C 2 dX6_endLetter_14 rfl ?_
  refine G_iconst C dX6_endLetter_15 (v := 0) rfl ?_
  refine G_callVi C 3 2 kd_X2_lengthOf ui_X2_lengthOf us_X2_lengthOf um_X6_171 rfl rfl (c_X2_lengthOf l K a S x1 0) dX6_endLetter_16 rfl rfl (Nat.le_of_ble_eq_true rfl) (Nat.le_of_ble_eq_true rfl) ?_
  refine G_istore_n (lv' := [(3, .int (v_X2_lengthOf S x1 0)), (2, .int (v_X2_toOf S x1 0)), (0, .ref (a 0)), (1, .int x1)]) C dX6_endLetter_19 (by decide) rfl ?_
  refine G_aload_n C 2 dX6_endLetter_20 rfl ?_
  refine G_get C 0 2 dX6_endLetter_21 inlX6 uf_X6_21 rfl (by decide) rfl rfl rfl ?_
  refine G_iload_n C 1 dX6_endLetter_24 rfl ?_
  refine G_callVi C 3 2 kd_X2_isOpen ui_X2_isOpen us_X2_isOpen um_X6_142 rfl rfl (c_X2_isOpen l K a S (v_X2_toOf S x1 0)) dX6_endLetter_25 rfl rfl (Nat.le_of_ble_eq_true rfl) (Nat.le_of_ble_eq_true rfl) ?_
  refine G_if_eq C 68 dX6_endLetter_28 rfl (fun h1 => ?_) (fun h1 => ?_)
  · refine G_aload_n C 2 dX6_endLetter_68 rfl ?_
    refine G_get C 0 1 dX6_endLetter_69 inlX6 uf_X6_15 rfl (by decide) rfl rfl rfl ?_
    refine G_iconst C dX6_endLetter_72 (v := 2) rfl ?_
    refine G_callSNv C kd_X9_raise ut_X9_raise nw_24 (Ct.to (r' := (none, st_W K a (sU S 1 (raise_ 9 (S 1) 2)))) (c_raise l K (ws := st_W K a S) (q0 := 2) (n := 9) (g := S 1) (ad := (a 2)) (by decide) rfl 2) rfl) dX6_endLetter_73 rfl rfl (Nat.le_of_ble_eq_true rfl) (Nat.le_of_ble_eq_true rfl) ?_
    refine G_sub [2, 3, 1, 0] rfl ?_
    exact g_X6_endLetter_L76 C (sU S 1 (raise_ 9 (S 1) 2)) x1 (v_X2_toOf S x1 0) (v_X2_lengthOf S x1 0)
  · refine G_aload_n C 2 dX6_endLetter_31 rfl ?_
    refine G_get C 0 1 dX6_endLetter_32 inlX6 uf_X6_15 rfl (by decide) rfl rfl rfl ?_
    refine G_iconst C dX6_endLetter_35 (v := 1) rfl ?_
    refine G_callSNv C kd_X9_raise ut_X9_raise nw_24 (Ct.to (r' := (none, st_W K a (sU S 1 (raise_ 9 (S 1) 1)))) (c_raise l K (ws := st_W K a S) (q0 := 2) (n := 9) (g := S 1) (ad := (a 2)) (by decide) rfl 1) rfl) dX6_endLetter_36 rfl rfl (Nat.le_of_ble_eq_true rfl) (Nat.le_of_ble_eq_true rfl) ?_
    refine G_sub [2, 3, 1, 0] rfl ?_
    exact g_X6_endLetter_L39 C (sU S 1 (raise_ 9 (S 1) 1)) x1 (v_X2_toOf S x1 0) (v_X2_lengthOf S x1 0)
/-! X6_readOn -/
theorem kd_X6_readOn : Card yX6_readOn cX6_readOn 4 none 1 := ⟨uc_X6_readOn, un_X6, ⟨by decide, by decide, by decide⟩, by decide⟩
def s_X6_readOn_L69 (S : SM) (x1 : Int32) (x2 : Int32) (x3 : Int32) : SM := if x3 = 0 then s_X6_endLetter S x2 else S
theorem g_X6_readOn_L69 {l : Launch} {K : gK} {Γ : gT} {a : Nat → Nat} (C : Cx l K Γ RX6 cX6_readOn 4 none 4) (S : SM) (x1 : Int32) (x2 : Int32) (x3 : Int32) : G l K Γ (st_W K a S) 69 4 [(0, .ref (a 0)), (1, .int x1), (2, .int x2), (3, .int x3)] [] (fun z => (none, st_W K a z)) (s_X6_readOn_L69 S x1 x2 x3) := by
  unfold s_X6_readOn_L69
  refine G_iload_n C 3 dX6_readOn_69 rfl ?_
  refine G_if_ne C 78 dX6_readOn_70 rfl (fun h1 => ?_) (fun h1 => ?_)
  · refine G_aload_n C 0 dX6_readOn_73 rfl ?_
    refine G_iload_n C 2 dX6_readOn_74 rfl ?_
    refine G_callVv C 0 6 kd_X6_endLetter ui_X6_endLetter us_X6_endLetter um_X6_164 rfl rfl (c_X6_endLetter l K a S x2) dX6_readOn_75 rfl rfl (Nat.le_of_ble_eq_true rfl) (Nat.le_of_ble_eq_true rfl) ?_
    exact G_vret C dX6_readOn_78 rfl
  · exact G_vret C dX6_readOn_78 rfl
def s_X6_readOn_L60 (S : SM) (x1 : Int32) (x2 : Int32) (x3 : Int32) : SM := s_X6_readOn_L69 (sU S 1 (raise_ 9 (S 1) 8)) x1 x2 x3
theorem g_X6_readOn_L60 {l : Launch} {K : gK} {Γ : gT} {a : Nat → Nat} (C : Cx l K Γ RX6 cX6_readOn 4 none 4) (S : SM) (x1 : Int32) (x2 : Int32) (x3 : Int32) : G l K Γ (st_W K a S) 60 4 [(0, .ref (a 0)), (1, .int x1), (2, .int x2), (3, .int x3)] [] (fun z => (none, st_W K a z)) (s_X6_readOn_L60 S x1 x2 x3) := by
  unfold s_X6_readOn_L60
  refine G_aload_n C 0 dX6_readOn_60 rfl ?_
  refine G_get C 0 1 dX6_readOn_61 inlX6 uf_X6_15 rfl (by decide) rfl rfl rfl ?_
  refine G_bipush C dX6_readOn_64 (v := 8) rfl ?_
  refine G_callSNv C kd_X9_raise ut_X9_raise nw_24 (Ct.to (r' := (none, st_W K a (sU S 1 (raise_ 9 (S 1) 8)))) (c_raise l K (ws := st_W K a S) (q0 := 2) (n := 9) (g := S 1) (ad := (a 2)) (by decide) rfl 8) rfl) dX6_readOn_66 rfl rfl (Nat.le_of_ble_eq_true rfl) (Nat.le_of_ble_eq_true rfl) ?_
  refine G_sub [0, 1, 2, 3] rfl ?_
  exact g_X6_readOn_L69 C (sU S 1 (raise_ 9 (S 1) 8)) x1 x2 x3
def s_X6_readOn_L49 (S : SM) (x1 : Int32) (x2 : Int32) (x3 : Int32) : SM := s_X6_readOn_L60 (sU S 5 (raise_ 10 (S 5) x2)) x1 x2 x3
theorem g_X6_readOn_L49 {l : Launch} {K : gK} {Γ : gT} {a : Nat → Nat} (C : Cx l K Γ RX6 cX6_readOn 4 none 4) (S : SM) (x1 : Int32) (x2 : Int32) (x3 : Int32) : G l K Γ (st_W K a S) 49 4 [(0, .ref (a 0)), (1, .int x1), (2, .int x2), (3, .int x3)] [] (fun z => (none, st_W K a z)) (s_X6_readOn_L49 S x1 x2 x3) := by
  unfold s_X6_readOn_L49
  refine G_aload_n C 0 dX6_readOn_49 rfl ?_
  refine G_get C 0 2 dX6_readOn_50 inlX6 uf_X6_21 rfl (by decide) rfl rfl rfl ?_
  refine G_get C 3 3 dX6_readOn_53 inlX2 uf_X6_161 rfl (by decide) rfl rfl rfl ?_
  refine G_iload_n C 2 dX6_readOn_56 rfl ?_
  refine G_callSNv C kd_X9_raise ut_X9_raise nw_24 (Ct.to (r' := (none, st_W K a (sU S 5 (raise_ 10 (S 5) x2)))) (c_raise l K (ws := st_W K a S) (q0 := 7) (n := 10) (g := S 5) (ad := (a 7)) (by decide) rfl x2) rfl) dX6_readOn_57 rfl rfl (Nat.le_of_ble_eq_true rfl) (Nat.le_of_ble_eq_true rfl) ?_
  refine G_sub [0, 1, 2, 3] rfl ?_
  exact g_X6_readOn_L60 C (sU S 5 (raise_ 10 (S 5) x2)) x1 x2 x3
def s_X6_readOn_L38 (S : SM) (x1 : Int32) (x2 : Int32) (x3 : Int32) : SM := s_X6_readOn_L49 (sU S 13 (raise_ 3 (S 13) x1)) x1 x2 x3
theorem g_X6_readOn_L38 {l : Launch} {K : gK} {Γ : gT} {a : Nat → Nat} (C : Cx l K Γ RX6 cX6_readOn 4 none 4) (S : SM) (x1 : Int32) (x2 : Int32) (x3 : Int32) : G l K Γ (st_W K a S) 38 4 [(0, .ref (a 0)), (1, .int x1), (2, .int x2), (3, .int x3)] [] (fun z => (none, st_W K a z)) (s_X6_readOn_L38 S x1 x2 x3) := by
  unfold s_X6_readOn_L38
  refine G_aload_n C 0 dX6_readOn_38 rfl ?_
  refine G_get C 0 3 dX6_readOn_39 inlX6 uf_X6_28 rfl (by decide) rfl rfl rfl ?_
  refine G_get C 12 3 dX6_readOn_42 inlX8 uf_X6_158 rfl (by decide) rfl rfl rfl ?_
  refine G_iload_n C 1 dX6_readOn_45 rfl ?_
  refine G_callSNv C kd_X9_raise ut_X9_raise nw_24 (Ct.to (r' := (none, st_W K a (sU S 13 (raise_ 3 (S 13) x1)))) (c_raise l K (ws := st_W K a S) (q0 := 16) (n := 3) (g := S 13) (ad := (a 16)) (by decide) rfl x1) rfl) dX6_readOn_46 rfl rfl (Nat.le_of_ble_eq_true rfl) (Nat.le_of_ble_eq_true rfl) ?_
  refine G_sub [0, 1, 2, 3] rfl ?_
  exact g_X6_readOn_L49 C (sU S 13 (raise_ 3 (S 13) x1)) x1 x2 x3
def s_X6_readOn (S : SM) (x1 : Int32) : SM := s_X6_readOn_L38 (sU S 14 (put_ 3 (S 14) x1 ((at_ 3 (S 14) x1) - 1))) x1 (at_ 3 (S 11) x1) ((at_ 3 (S 14) x1) - 1)
theorem c_X6_readOn (l : Launch) (K : gK) (a : Nat → Nat) (S : SM) (x1 : Int32) : Ct l K yX6_readOn cX6_readOn 4 none 4 [.ref (a 0), .int x1] (st_W K a S) (none, st_W K a (s_X6_readOn S x1)) := by
  refine Ct.of (own := RX6) (fun z => (none, st_W K a z)) (x := s_X6_readOn S x1) (by decide) rfl (Nat.le_of_ble_eq_true rfl) (fun Γ C => ?_)
  unfold s_X6_readOn
  refine G_aload_n C 0 dX6_readOn_0 rfl ?_
  refine G_get C 0 3 dX6_readOn_1 inlX6 uf_X6_28 rfl (by decide) rfl rfl rfl ?_
  refine G_get C 12 1 dX6_readOn_4 inlX8 uf_X6_100 rfl (by decide) rfl rfl rfl ?_
  refine G_iload_n C 1 dX6_readOn_7 rfl ?_
  refine G_callSNi C kd_X9_at ut_X9_at nw_23 (c_at l K (ws := st_W K a S) (q0 := 14) (n := 3) (g := S 11) (ad := (a 14)) (by decide) rfl x1) dX6_readOn_8 rfl rfl (Nat.le_of_ble_eq_true rfl) (Nat.le_of_ble_eq_true rfl) ?_
  refine G_istore_n (lv' := [(2, .int (at_ 3 (S 11) x1)), (0, .ref (a 0)), (1, .int x1)]) C dX6_readOn_11 (by decide) rfl ?_
  refine G_aload_n C 1 dX6_readOn_12 rfl ?_
  refine G_get C 0 3 dX6_readOn_13 inlX6 uf_X6_28 rfl (by decide) rfl rfl rfl ?_
  refine G_get C 12 4 dX6_readOn_16 inlX8 uf_X6_123 rfl (by decide) rfl rfl rfl ?_
  refine G_iload_n C 2 dX6_readOn_19 rfl ?_
  refine G_callSNi C kd_X9_at ut_X9_at nw_23 (c_at l K (ws := st_W K a S) (q0 := 17) (n := 3) (g := S 14) (ad := (a 17)) (by decide) rfl x1) dX6_readOn_20 rfl rfl (Nat.le_of_ble_eq_true rfl) (Nat.le_of_ble_eq_true rfl) ?_
  refine G_iconst C dX6_readOn_23 (v := 1) rfl ?_
  refine G_isub C dX6_readOn_24 ?_
  refine G_istore_n (lv' := [(3, .int ((at_ 3 (S 14) x1) - 1)), (2, .int (at_ 3 (S 11) x1)), (0, .ref (a 0)), (1, .int x1)]) C dX6_readOn_25 (by decide) rfl ?_
  refine G_aload_n C 2 dX6_readOn_26 rfl ?_
  refine G_get C 0 3 dX6_readOn_27 inlX6 uf_X6_28 rfl (by decide) rfl rfl rfl ?_
  refine G_get C 12 4 dX6_readOn_30 inlX8 uf_X6_123 rfl (by decide) rfl rfl rfl ?_
  refine G_iload_n C 3 dX6_readOn_33 rfl ?_
  refine G_iload_n C 0 dX6_readOn_34 rfl ?_
  refine G_callSNv C kd_X9_put ut_X9_put nw_9 (Ct.to (r' := (none, st_W K a (sU S 14 (put_ 3 (S 14) x1 ((at_ 3 (S 14) x1) - 1))))) (c_put l K (ws := st_W K a S) (q0 := 17) (n := 3) (g := S 14) (ad := (a 17)) (by decide) rfl x1 ((at_ 3 (S 14) x1) - 1)) rfl) dX6_readOn_35 rfl rfl (Nat.le_of_ble_eq_true rfl) (Nat.le_of_ble_eq_true rfl) ?_
  refine G_sub [2, 3, 1, 0] rfl ?_
  exact g_X6_readOn_L38 C (sU S 14 (put_ 3 (S 14) x1 ((at_ 3 (S 14) x1) - 1))) x1 (at_ 3 (S 11) x1) ((at_ 3 (S 14) x1) - 1)
/-! X6_fitsInTurn -/
theorem kd_X6_fitsInTurn : Card yX6_fitsInTurn cX6_fitsInTurn 3 (some .boolean) 2 := ⟨uc_X6_fitsInTurn, un_X6, ⟨by decide, by decide, by decide⟩, by decide⟩
def v_X6_fitsInTurn (S : SM) (x1 : Int32) (x2 : Int32) : Int32 := if ((at_ 3 (S 0) 0) - (at_ 3 (S 13) x2)) < (v_X2_lengthOf S x1 0) then 0 else 1
theorem c_X6_fitsInTurn (l : Launch) (K : gK) (a : Nat → Nat) (S : SM) (x1 : Int32) (x2 : Int32) : Ct l K yX6_fitsInTurn cX6_fitsInTurn 3 (some .boolean) 2 [.ref (a 0), .int x1, .int x2] (st_W K a S) (some (.int (v_X6_fitsInTurn S x1 x2)), st_W K a S) := by
  refine Ct.of (own := RX6) (fun z => (some (.int z), st_W K a S)) (x := v_X6_fitsInTurn S x1 x2) (by decide) rfl (Nat.le_of_ble_eq_true rfl) (fun Γ C => ?_)
  unfold v_X6_fitsInTurn
  refine G_aload_n C 0 dX6_fitsInTurn_0 rfl ?_
  refine G_get C 0 2 dX6_fitsInTurn_1 inlX6 uf_X6_21 rfl (by decide) rfl rfl rfl ?_
  refine G_iload_n C 1 dX6_fitsInTurn_4 rfl ?_
  refine G_iconst C dX6_fitsInTurn_5 (v := 0) rfl ?_
  refine G_callVi C 3 2 kd_X2_lengthOf ui_X2_lengthOf us_X2_lengthOf um_X6_171 rfl rfl (c_X2_lengthOf l K a S x1 0) dX6_fitsInTurn_6 rfl rfl (Nat.le_of_ble_eq_true rfl) (Nat.le_of_ble_eq_true rfl) ?_
  refine G_aload_n C 0 dX6_fitsInTurn_9 rfl ?_
  refine G_get C 0 0 dX6_fitsInTurn_10 inlX6 uf_X6_9 rfl (by decide) rfl rfl rfl ?_
  refine G_iconst C dX6_fitsInTurn_13 (v := 0) rfl ?_
  refine G_callSNi C kd_X9_at ut_X9_at nw_23 (c_at l K (ws := st_W K a S) (q0 := 1) (n := 3) (g := S 0) (ad := (a 1)) (by decide) rfl 0) dX6_fitsInTurn_14 rfl rfl (Nat.le_of_ble_eq_true rfl) (Nat.le_of_ble_eq_true rfl) ?_
  refine G_aload_n C 0 dX6_fitsInTurn_17 rfl ?_
  refine G_get C 0 3 dX6_fitsInTurn_18 inlX6 uf_X6_28 rfl (by decide) rfl rfl rfl ?_
  refine G_get C 12 3 dX6_fitsInTurn_21 inlX8 uf_X6_158 rfl (by decide) rfl rfl rfl ?_
  refine G_iload_n C 2 dX6_fitsInTurn_24 rfl ?_
  refine G_callSNi C kd_X9_at ut_X9_at nw_23 (c_at l K (ws := st_W K a S) (q0 := 16) (n := 3) (g := S 13) (ad := (a 16)) (by decide) rfl x2) dX6_fitsInTurn_25 rfl rfl (Nat.le_of_ble_eq_true rfl) (Nat.le_of_ble_eq_true rfl) ?_
  refine G_isub C dX6_fitsInTurn_28 ?_
  refine G_icmp_gt C 36 dX6_fitsInTurn_29 rfl (fun h1 => ?_) (fun h1 => ?_)
  · refine G_iconst C dX6_fitsInTurn_36 (v := 0) rfl ?_
    exact G_zret C dX6_fitsInTurn_37 rfl rfl
  · refine G_iconst C dX6_fitsInTurn_32 (v := 1) rfl ?_
    refine G_goto C 37 dX6_fitsInTurn_33 rfl ?_
    exact G_zret C dX6_fitsInTurn_37 rfl rfl
theorem bz_X6_fitsInTurn (S : SM) (x1 : Int32) (x2 : Int32) : narrow .boolean (.int (v_X6_fitsInTurn S x1 x2)) = .int (v_X6_fitsInTurn S x1 x2) := by
  unfold v_X6_fitsInTurn
  repeat' split
  all_goals first | rfl | exact bz_X9_isWithin ..
/-! X6_fitsInDay -/
theorem kd_X6_fitsInDay : Card yX6_fitsInDay cX6_fitsInDay 2 (some .boolean) 1 := ⟨uc_X6_fitsInDay, un_X6, ⟨by decide, by decide, by decide⟩, by decide⟩
def v_X6_fitsInDay (S : SM) (x1 : Int32) : Int32 := if ((at_ 3 (S 0) 2) - (at_ 10 (S 5) x1)) < (v_X2_lengthOf S x1 0) then 0 else 1
theorem c_X6_fitsInDay (l : Launch) (K : gK) (a : Nat → Nat) (S : SM) (x1 : Int32) : Ct l K yX6_fitsInDay cX6_fitsInDay 2 (some .boolean) 2 [.ref (a 0), .int x1] (st_W K a S) (some (.int (v_X6_fitsInDay S x1)), st_W K a S) := by
  refine Ct.of (own := RX6) (fun z => (some (.int z), st_W K a S)) (x := v_X6_fitsInDay S x1) (by decide) rfl (Nat.le_of_ble_eq_true rfl) (fun Γ C => ?_)
  unfold v_X6_fitsInDay
  refine G_aload_n C 0 dX6_fitsInDay_0 rfl ?_
  refine G_get C 0 2 dX6_fitsInDay_1 inlX6 uf_X6_21 rfl (by decide) rfl rfl rfl ?_
  refine G_iload_n C 1 dX6_fitsInDay_4 rfl ?_
  refine G_iconst C dX6_fitsInDay_5 (v := 0) rfl ?_
  refine G_callVi C 3 2 kd_X2_lengthOf ui_X2_lengthOf us_X2_lengthOf um_X6_171 rfl rfl (c_X2_lengthOf l K a S x1 0) dX6_fitsInDay_6 rfl rfl (Nat.le_of_ble_eq_true rfl) (Nat.le_of_ble_eq_true rfl) ?_
  refine G_aload_n C 0 dX6_fitsInDay_9 rfl ?_
  refine G_get C 0 0 dX6_fitsInDay_10 inlX6 uf_X6_9 rfl (by decide) rfl rfl rfl ?_
  refine G_iconst C dX6_fitsInDay_13 (v := 2) rfl ?_
  refine G_callSNi C kd_X9_at ut_X9_at nw_23 (c_at l K (ws := st_W K a S) (q0 := 1) (n := 3) (g := S 0) (ad := (a 1)) (by decide) rfl 2) dX6_fitsInDay_14 rfl rfl (Nat.le_of_ble_eq_true rfl) (Nat.le_of_ble_eq_true rfl) ?_
  refine G_aload_n C 0 dX6_fitsInDay_17 rfl ?_
  refine G_get C 0 2 dX6_fitsInDay_18 inlX6 uf_X6_21 rfl (by decide) rfl rfl rfl ?_
  refine G_get C 3 3 dX6_fitsInDay_21 inlX2 uf_X6_161 rfl (by decide) rfl rfl rfl ?_
  refine G_iload_n C 1 dX6_fitsInDay_24 rfl ?_
  refine G_callSNi C kd_X9_at ut_X9_at nw_23 (c_at l K (ws := st_W K a S) (q0 := 7) (n := 10) (g := S 5) (ad := (a 7)) (by decide) rfl x1) dX6_fitsInDay_25 rfl rfl (Nat.le_of_ble_eq_true rfl) (Nat.le_of_ble_eq_true rfl) ?_
  refine G_isub C dX6_fitsInDay_28 ?_
  refine G_icmp_gt C 36 dX6_fitsInDay_29 rfl (fun h1 => ?_) (fun h1 => ?_)
  · refine G_iconst C dX6_fitsInDay_36 (v := 0) rfl ?_
    exact G_zret C dX6_fitsInDay_37 rfl rfl
  · refine G_iconst C dX6_fitsInDay_32 (v := 1) rfl ?_
    refine G_goto C 37 dX6_fitsInDay_33 rfl ?_
    exact G_zret C dX6_fitsInDay_37 rfl rfl
theorem bz_X6_fitsInDay (S : SM) (x1 : Int32) : narrow .boolean (.int (v_X6_fitsInDay S x1)) = .int (v_X6_fitsInDay S x1) := by
  unfold v_X6_fitsInDay
  repeat' split
  all_goals first | rfl | exact bz_X9_isWithin ..
/-! X6_beginOrSetOut -/
theorem kd_X6_beginOrSetOut : Card yX6_beginOrSetOut cX6_beginOrSetOut 4 none 1 := ⟨uc_X6_beginOrSetOut, un_X6, ⟨by decide, by decide, by decide⟩, by decide⟩
def s_X6_beginOrSetOut_L87 (S : SM) (x1 : Int32) (x2 : Int32) (x3 : Int32) : SM := s_X6_leave S x1 x2
theorem g_X6_beginOrSetOut_L87 {l : Launch} {K : gK} {Γ : gT} {a : Nat → Nat} (C : Cx l K Γ RX6 cX6_beginOrSetOut 4 none 3) (S : SM) (x1 : Int32) (x2 : Int32) (x3 : Int32) : G l K Γ (st_W K a S) 87 4 [(0, .ref (a 0)), (1, .int x1), (2, .int x2), (3, .int x3)] [] (fun z => (none, st_W K a z)) (s_X6_beginOrSetOut_L87 S x1 x2 x3) := by
  unfold s_X6_beginOrSetOut_L87
  refine G_aload_n C 0 dX6_beginOrSetOut_87 rfl ?_
  refine G_iload_n C 1 dX6_beginOrSetOut_88 rfl ?_
  refine G_iload_n C 2 dX6_beginOrSetOut_89 rfl ?_
  refine G_callVv C 0 6 kd_X6_leave ui_X6_leave us_X6_leave um_X6_145 rfl rfl (c_X6_leave l K a S x1 x2) dX6_beginOrSetOut_90 rfl rfl (Nat.le_of_ble_eq_true rfl) (Nat.le_of_ble_eq_true rfl) ?_
  exact G_vret C dX6_beginOrSetOut_93 rfl
def s_X6_beginOrSetOut_L42 (S : SM) (x1 : Int32) (x2 : Int32) (t0 : Int32) : SM := if t0 = 0 then s_X6_beginOrSetOut_L87 S x1 x2 t0 else if (v_X6_fitsInTurn S x2 x1) = 0 then s_X6_beginOrSetOut_L87 S x1 x2 t0 else if (v_X6_fitsInDay S x2) = 0 then s_X6_beginOrSetOut_L87 S x1 x2 t0 else sU S 14 (put_ 3 (S 14) x1 (v_X2_lengthOf S x2 0))
theorem g_X6_beginOrSetOut_L42 {l : Launch} {K : gK} {Γ : gT} {a : Nat → Nat} (C : Cx l K Γ RX6 cX6_beginOrSetOut 4 none 3) (S : SM) (x1 : Int32) (x2 : Int32) (t0 : Int32) : G l K Γ (st_W K a S) 42 4 [(0, .ref (a 0)), (1, .int x1), (2, .int x2)] [.int t0] (fun z => (none, st_W K a z)) (s_X6_beginOrSetOut_L42 S x1 x2 t0) := by
  unfold s_X6_beginOrSetOut_L42
  refine G_istore_n (lv' := [(3, .int t0), (0, .ref (a 0)), (1, .int x1), (2, .int x2)]) C dX6_beginOrSetOut_42 (by decide) rfl ?_
  refine G_iload_n C 0 dX6_beginOrSetOut_43 rfl ?_
  refine G_if_eq C 87 dX6_beginOrSetOut_44 rfl (fun h3 => ?_) (fun h3 => ?_)
  · refine G_sub [1, 2, 3, 0] rfl ?_
    exact g_X6_beginOrSetOut_L87 C S x1 x2 t0
  · refine G_aload_n C 1 dX6_beginOrSetOut_47 rfl ?_
    refine G_iload_n C 3 dX6_beginOrSetOut_48 rfl ?_
    refine G_iload_n C 2 dX6_beginOrSetOut_49 rfl ?_
    refine G_callVi C 0 6 kd_X6_fitsInTurn ui_X6_fitsInTurn us_X6_fitsInTurn um_X6_183 rfl rfl (c_X6_fitsInTurn l K a S x2 x1) dX6_beginOrSetOut_50 rfl rfl (Nat.le_of_ble_eq_true rfl) (Nat.le_of_ble_eq_true rfl) ?_
    refine G_if_eq C 87 dX6_beginOrSetOut_53 rfl (fun h4 => ?_) (fun h4 => ?_)
    · refine G_sub [1, 2, 3, 0] rfl ?_
      exact g_X6_beginOrSetOut_L87 C S x1 x2 t0
    · refine G_aload_n C 1 dX6_beginOrSetOut_56 rfl ?_
      refine G_iload_n C 3 dX6_beginOrSetOut_57 rfl ?_
      refine G_callVi C 0 6 kd_X6_fitsInDay ui_X6_fitsInDay us_X6_fitsInDay um_X6_187 rfl rfl (c_X6_fitsInDay l K a S x2) dX6_beginOrSetOut_58 rfl rfl (Nat.le_of_ble_eq_true rfl) (Nat.le_of_ble_eq_true rfl) ?_
      refine G_if_eq C 87 dX6_beginOrSetOut_61 rfl (fun h5 => ?_) (fun h5 => ?_)
      · refine G_sub [1, 2, 3, 0] rfl ?_
        exact g_X6_beginOrSetOut_L87 C S x1 x2 t0
      · refine G_aload_n C 1 dX6_beginOrSetOut_64 rfl ?_
        refine G_get C 0 3 dX6_beginOrSetOut_65 inlX6 uf_X6_28 rfl (by decide) rfl rfl rfl ?_
        refine G_get C 12 4 dX6_beginOrSetOut_68 inlX8 uf_X6_123 rfl (by decide) rfl rfl rfl ?_
        refine G_iload_n C 2 dX6_beginOrSetOut_71 rfl ?_
        refine G_aload_n C 1 dX6_beginOrSetOut_72 rfl ?_
        refine G_get C 0 2 dX6_beginOrSetOut_73 inlX6 uf_X6_21 rfl (by decide) rfl rfl rfl ?_
        refine G_iload_n C 3 dX6_beginOrSetOut_76 rfl ?_
        refine G_iconst C dX6_beginOrSetOut_77 (v := 0) rfl ?_
        refine G_callVi C 3 2 kd_X2_lengthOf ui_X2_lengthOf us_X2_lengthOf um_X6_171 rfl rfl (c_X2_lengthOf l K a S x2 0) dX6_beginOrSetOut_78 rfl rfl (Nat.le_of_ble_eq_true rfl) (Nat.le_of_ble_eq_true rfl) ?_
        refine G_callSNv C kd_X9_put ut_X9_put nw_9 (Ct.to (r' := (none, st_W K a (sU S 14 (put_ 3 (S 14) x1 (v_X2_lengthOf S x2 0))))) (c_put l K (ws := st_W K a S) (q0 := 17) (n := 3) (g := S 14) (ad := (a 17)) (by decide) rfl x1 (v_X2_lengthOf S x2 0)) rfl) dX6_beginOrSetOut_81 rfl rfl (Nat.le_of_ble_eq_true rfl) (Nat.le_of_ble_eq_true rfl) ?_
        refine G_goto C 93 dX6_beginOrSetOut_84 rfl ?_
        exact G_vret C dX6_beginOrSetOut_93 rfl
def s_X6_beginOrSetOut_L41 (S : SM) (x1 : Int32) (x2 : Int32) : SM := s_X6_beginOrSetOut_L42 S x1 x2 0
theorem g_X6_beginOrSetOut_L41 {l : Launch} {K : gK} {Γ : gT} {a : Nat → Nat} (C : Cx l K Γ RX6 cX6_beginOrSetOut 4 none 3) (S : SM) (x1 : Int32) (x2 : Int32) : G l K Γ (st_W K a S) 41 4 [(0, .ref (a 0)), (1, .int x1), (2, .int x2)] [] (fun z => (none, st_W K a z)) (s_X6_beginOrSetOut_L41 S x1 x2) := by
  unfold s_X6_beginOrSetOut_L41
  refine G_iconst C dX6_beginOrSetOut_41 (v := 0) rfl ?_
  refine G_sub [0, 1, 2] rfl ?_
  exact g_X6_beginOrSetOut_L42 C S x1 x2 0
def s_X6_beginOrSetOut (S : SM) (x1 : Int32) : SM := if (v_X2_isOpen S (at_ 3 (S 11) x1)) = 0 then s_X6_beginOrSetOut_L41 S x1 (at_ 3 (S 11) x1) else if 0 < (at_ 10 (S 7) (at_ 3 (S 11) x1)) then s_X6_beginOrSetOut_L42 S x1 (at_ 3 (S 11) x1) 1 else s_X6_beginOrSetOut_L41 S x1 (at_ 3 (S 11) x1)
theorem c_X6_beginOrSetOut (l : Launch) (K : gK) (a : Nat → Nat) (S : SM) (x1 : Int32) : Ct l K yX6_beginOrSetOut cX6_beginOrSetOut 4 none 3 [.ref (a 0), .int x1] (st_W K a S) (none, st_W K a (s_X6_beginOrSetOut S x1)) := by
  refine Ct.of (own := RX6) (fun z => (none, st_W K a z)) (x := s_X6_beginOrSetOut S x1) (by decide) rfl (Nat.le_of_ble_eq_true rfl) (fun Γ C => ?_)
  unfold s_X6_beginOrSetOut
  refine G_aload_n C 0 dX6_beginOrSetOut_0 rfl ?_
  refine G_get C 0 3 dX6_beginOrSetOut_1 inlX6 uf_X6_28 rfl (by decide) rfl rfl rfl ?_
  refine G_get C 12 1 dX6_beginOrSetOut_4 inlX8 uf_X6_100 rfl (by decide) rfl rfl rfl ?_
  refine G_iload_n C 1 dX6_beginOrSetOut_7 rfl ?_
  refine G_callSNi C kd_X9_at ut_X9_at nw_23 (c_at l K (ws := st_W K a S) (q0 := 14) (n := 3) (g := S 11) (ad := (a 14)) (by decide) rfl x1) dX6_beginOrSetOut_8 rfl rfl (Nat.le_of_ble_eq_true rfl) (Nat.le_of_ble_eq_true rfl) ?_
  refine G_istore_n (lv' := [(2, .int (at_ 3 (S 11) x1)), (0, .ref (a 0)), (1, .int x1)]) C dX6_beginOrSetOut_11 (by decide) rfl ?_
  refine G_aload_n C 1 dX6_beginOrSetOut_12 rfl ?_
  refine G_get C 0 2 dX6_beginOrSetOut_13 inlX6 uf_X6_21 rfl (by decide) rfl rfl rfl ?_
  refine G_iload_n C 0 dX6_beginOrSetOut_16 rfl ?_
  refine G_callVi C 3 2 kd_X2_isOpen ui_X2_isOpen us_X2_isOpen um_X6_142 rfl rfl (c_X2_isOpen l K a S (at_ 3 (S 11) x1)) dX6_beginOrSetOut_17 rfl rfl (Nat.le_of_ble_eq_true rfl) (Nat.le_of_ble_eq_true rfl) ?_
  refine G_if_eq C 41 dX6_beginOrSetOut_20 rfl (fun h1 => ?_) (fun h1 => ?_)
  · refine G_sub [1, 2, 0] rfl ?_
    exact g_X6_beginOrSetOut_L41 C S x1 (at_ 3 (S 11) x1)
  · refine G_aload_n C 1 dX6_beginOrSetOut_23 rfl ?_
    refine G_get C 0 2 dX6_beginOrSetOut_24 inlX6 uf_X6_21 rfl (by decide) rfl rfl rfl ?_
    refine G_get C 3 5 dX6_beginOrSetOut_27 inlX2 uf_X6_180 rfl (by decide) rfl rfl rfl ?_
    refine G_iload_n C 0 dX6_beginOrSetOut_30 rfl ?_
    refine G_callSNi C kd_X9_at ut_X9_at nw_23 (c_at l K (ws := st_W K a S) (q0 := 9) (n := 10) (g := S 7) (ad := (a 9)) (by decide) rfl (at_ 3 (S 11) x1)) dX6_beginOrSetOut_31 rfl rfl (Nat.le_of_ble_eq_true rfl) (Nat.le_of_ble_eq_true rfl) ?_
    refine G_if_le C 41 dX6_beginOrSetOut_34 rfl (fun h2 => ?_) (fun h2 => ?_)
    · refine G_iconst C dX6_beginOrSetOut_37 (v := 1) rfl ?_
      refine G_goto C 42 dX6_beginOrSetOut_38 rfl ?_
      refine G_sub [1, 2, 0] rfl ?_
      exact g_X6_beginOrSetOut_L42 C S x1 (at_ 3 (S 11) x1) 1
    · refine G_sub [1, 2, 0] rfl ?_
      exact g_X6_beginOrSetOut_L41 C S x1 (at_ 3 (S 11) x1)
/-! X8_howManySpeak -/
theorem kd_X8_howManySpeak : Card yX8_howManySpeak cX8_howManySpeak 3 (some .int) 0 := ⟨uc_X8_howManySpeak, un_X8, ⟨by decide, by decide, by decide⟩, by decide⟩
def v_X8_howManySpeak_L4 : Nat → SM → Int32 → Int32 → Int32
  | 0, _, _, _ => 0
  | fuel + 1, S, x1, x2 => if x2 < (S 18 3) then if 0 < (at_ 3 (S 14) x2) then v_X8_howManySpeak_L4 fuel S (x1 + 1) (x2 + 1) else v_X8_howManySpeak_L4 fuel S x1 (x2 + 1) else x1
theorem g_X8_howManySpeak_L4 {l : Launch} {K : gK} {Γ : gT} {a : Nat → Nat} (C : Cx l K Γ RX8 cX8_howManySpeak 3 (some .int) 1) : ∀ (n : Nat) (S : SM) (x1 : Int32) (x2 : Int32), mu x2 < n → G l K Γ (st_W K a S) 4 3 [(0, .ref (a 12)), (1, .int x1), (2, .int x2)] [] (fun z => (some (.int z), st_W K a S)) (v_X8_howManySpeak_L4 n S x1 x2) := by
  intro n
  induction n with
  | zero =>
    intro S x1 x2 hm
    exact absurd hm (Nat.not_lt_zero _)
  | succ n ih =>
    intro S x1 x2 hm
    rw [v_X8_howManySpeak_L4]
    refine G_iload_n C 2 dX8_howManySpeak_4 rfl ?_
    refine G_aload_n C 0 dX8_howManySpeak_5 rfl ?_
    refine G_get C 12 5 dX8_howManySpeak_6 inlX8 uf_X8_31 rfl (by decide) rfl rfl rfl ?_
    refine G_icmp_ge C 32 dX8_howManySpeak_9 rfl (fun h1 => ?_) (fun h1 => ?_)
    · refine G_aload_n C 0 dX8_howManySpeak_12 rfl ?_
      refine G_get C 12 4 dX8_howManySpeak_13 inlX8 uf_X8_24 rfl (by decide) rfl rfl rfl ?_
      refine G_iload_n C 2 dX8_howManySpeak_16 rfl ?_
      refine G_callSNi C kd_X9_at ut_X9_at nw_22 (c_at l K (ws := st_W K a S) (q0 := 17) (n := 3) (g := S 14) (ad := (a 17)) (by decide) rfl x2) dX8_howManySpeak_17 rfl rfl (Nat.le_of_ble_eq_true rfl) (Nat.le_of_ble_eq_true rfl) ?_
      refine G_if_le C 26 dX8_howManySpeak_20 rfl (fun h2 => ?_) (fun h2 => ?_)
      · refine G_iinc (lv' := [(1, .int (x1 + 1)), (0, .ref (a 12)), (2, .int x2)]) C 1 dX8_howManySpeak_23 rfl rfl (by decide) rfl ?_
        refine G_iinc (lv' := [(2, .int (x2 + 1)), (1, .int (x1 + 1)), (0, .ref (a 12))]) C 2 dX8_howManySpeak_26 rfl rfl (by decide) rfl ?_
        refine G_goto C 4 dX8_howManySpeak_29 rfl ?_
        refine G_sub [2, 1, 0] rfl ?_
        exact ih S (x1 + 1) (x2 + 1) (by have := mu_up h1; omega)
      · refine G_iinc (lv' := [(2, .int (x2 + 1)), (0, .ref (a 12)), (1, .int x1)]) C 2 dX8_howManySpeak_26 rfl rfl (by decide) rfl ?_
        refine G_goto C 4 dX8_howManySpeak_29 rfl ?_
        refine G_sub [1, 2, 0] rfl ?_
        exact ih S x1 (x2 + 1) (by have := mu_up h1; omega)
    · refine G_iload_n C 1 dX8_howManySpeak_32 rfl ?_
      exact G_iret C dX8_howManySpeak_33 rfl
def v_X8_howManySpeak (S : SM) : Int32 := v_X8_howManySpeak_L4 (mu 0 + 1) S 0 0
theorem c_X8_howManySpeak (l : Launch) (K : gK) (a : Nat → Nat) (S : SM) : Ct l K yX8_howManySpeak cX8_howManySpeak 3 (some .int) 1 [.ref (a 12)] (st_W K a S) (some (.int (v_X8_howManySpeak S)), st_W K a S) := by
  refine Ct.of (own := RX8) (fun z => (some (.int z), st_W K a S)) (x := v_X8_howManySpeak S) (by decide) rfl (Nat.le_of_ble_eq_true rfl) (fun Γ C => ?_)
  unfold v_X8_howManySpeak
  refine G_iconst C dX8_howManySpeak_0 (v := 0) rfl ?_
  refine G_istore_n (lv' := [(1, .int 0), (0, .ref (a 12))]) C dX8_howManySpeak_1 (by decide) rfl ?_
  refine G_iconst C dX8_howManySpeak_2 (v := 0) rfl ?_
  refine G_istore_n (lv' := [(2, .int 0), (1, .int 0), (0, .ref (a 12))]) C dX8_howManySpeak_3 (by decide) rfl ?_
  refine G_sub [2, 1, 0] rfl ?_
  exact g_X8_howManySpeak_L4 C _ S 0 0 (Nat.lt_succ_self _)
/-! X6_stayWithoutToken -/
theorem kd_X6_stayWithoutToken : Card yX6_stayWithoutToken cX6_stayWithoutToken 2 none 0 := ⟨uc_X6_stayWithoutToken, un_X6, ⟨by decide, by decide, by decide⟩, by decide⟩
def s_X6_stayWithoutToken_L61 (S : SM) (x1 : Int32) : SM := s_X1_add S 4 x1 (S 18 4)
theorem g_X6_stayWithoutToken_L61 {l : Launch} {K : gK} {Γ : gT} {a : Nat → Nat} (C : Cx l K Γ RX6 cX6_stayWithoutToken 2 none 3) (S : SM) (x1 : Int32) : G l K Γ (st_W K a S) 61 2 [(0, .ref (a 0)), (1, .int x1)] [] (fun z => (none, st_W K a z)) (s_X6_stayWithoutToken_L61 S x1) := by
  unfold s_X6_stayWithoutToken_L61
  refine G_aload_n C 0 dX6_stayWithoutToken_61 rfl ?_
  refine G_get C 0 4 dX6_stayWithoutToken_62 inlX6 uf_X6_35 rfl (by decide) rfl rfl rfl ?_
  refine G_iconst C dX6_stayWithoutToken_65 (v := 4) rfl ?_
  refine G_iload_n C 1 dX6_stayWithoutToken_66 rfl ?_
  refine G_aload_n C 0 dX6_stayWithoutToken_67 rfl ?_
  refine G_get C 0 3 dX6_stayWithoutToken_68 inlX6 uf_X6_28 rfl (by decide) rfl rfl rfl ?_
  refine G_get C 12 6 dX6_stayWithoutToken_71 inlX8 uf_X6_75 rfl (by decide) rfl rfl rfl ?_
  refine G_callVv C 18 1 kd_X1_add ui_X1_add us_X1_add um_X6_85 rfl rfl (c_X1_add l K a S 4 x1 (S 18 4)) dX6_stayWithoutToken_74 rfl rfl (Nat.le_of_ble_eq_true rfl) (Nat.le_of_ble_eq_true rfl) ?_
  exact G_vret C dX6_stayWithoutToken_77 rfl
def s_X6_stayWithoutToken_L53 (S : SM) (x1 : Int32) : SM := s_X6_stayWithoutToken_L61 (sU S 1 (raise_ 9 (S 1) 4)) x1
theorem g_X6_stayWithoutToken_L53 {l : Launch} {K : gK} {Γ : gT} {a : Nat → Nat} (C : Cx l K Γ RX6 cX6_stayWithoutToken 2 none 3) (S : SM) (x1 : Int32) : G l K Γ (st_W K a S) 53 2 [(0, .ref (a 0)), (1, .int x1)] [] (fun z => (none, st_W K a z)) (s_X6_stayWithoutToken_L53 S x1) := by
  unfold s_X6_stayWithoutToken_L53
  refine G_aload_n C 0 dX6_stayWithoutToken_53 rfl ?_
  refine G_get C 0 1 dX6_stayWithoutToken_54 inlX6 uf_X6_15 rfl (by decide) rfl rfl rfl ?_
  refine G_iconst C dX6_stayWithoutToken_57 (v := 4) rfl ?_
  refine G_callSNv C kd_X9_raise ut_X9_raise nw_24 (Ct.to (r' := (none, st_W K a (sU S 1 (raise_ 9 (S 1) 4)))) (c_raise l K (ws := st_W K a S) (q0 := 2) (n := 9) (g := S 1) (ad := (a 2)) (by decide) rfl 4) rfl) dX6_stayWithoutToken_58 rfl rfl (Nat.le_of_ble_eq_true rfl) (Nat.le_of_ble_eq_true rfl) ?_
  refine G_sub [0, 1] rfl ?_
  exact g_X6_stayWithoutToken_L61 C (sU S 1 (raise_ 9 (S 1) 4)) x1
def s_X6_stayWithoutToken_L45 (S : SM) (x1 : Int32) : SM := s_X6_stayWithoutToken_L53 (s_X8_add S x1) x1
theorem g_X6_stayWithoutToken_L45 {l : Launch} {K : gK} {Γ : gT} {a : Nat → Nat} (C : Cx l K Γ RX6 cX6_stayWithoutToken 2 none 3) (S : SM) (x1 : Int32) : G l K Γ (st_W K a S) 45 2 [(0, .ref (a 0)), (1, .int x1)] [] (fun z => (none, st_W K a z)) (s_X6_stayWithoutToken_L45 S x1) := by
  unfold s_X6_stayWithoutToken_L45
  refine G_aload_n C 0 dX6_stayWithoutToken_45 rfl ?_
  refine G_get C 0 3 dX6_stayWithoutToken_46 inlX6 uf_X6_28 rfl (by decide) rfl rfl rfl ?_
  refine G_iload_n C 1 dX6_stayWithoutToken_49 rfl ?_
  refine G_callVv C 12 8 kd_X8_add ui_X8_add us_X8_add um_X6_68 rfl rfl (c_X8_add l K a S x1) dX6_stayWithoutToken_50 rfl rfl (Nat.le_of_ble_eq_true rfl) (Nat.le_of_ble_eq_true rfl) ?_
  refine G_sub [0, 1] rfl ?_
  exact g_X6_stayWithoutToken_L53 C (s_X8_add S x1) x1
def s_X6_stayWithoutToken_L10 (S : SM) : SM := if (S 18 1) < (at_ 3 (S 0) 1) then S else if (v_X2_openWithGreatestName S) = (-2) then S else s_X6_stayWithoutToken_L45 (sF S 1 0) (v_X2_openWithGreatestName S)
theorem g_X6_stayWithoutToken_L10 {l : Launch} {K : gK} {Γ : gT} {a : Nat → Nat} (C : Cx l K Γ RX6 cX6_stayWithoutToken 2 none 3) (S : SM) : G l K Γ (st_W K a S) 10 2 [(0, .ref (a 0))] [] (fun z => (none, st_W K a z)) (s_X6_stayWithoutToken_L10 S) := by
  unfold s_X6_stayWithoutToken_L10
  refine G_aload_n C 0 dX6_stayWithoutToken_10 rfl ?_
  refine G_get C 0 2 dX6_stayWithoutToken_11 inlX6 uf_X6_21 rfl (by decide) rfl rfl rfl ?_
  refine G_callVi C 3 2 kd_X2_openWithGreatestName ui_X2_openWithGreatestName us_X2_openWithGreatestName um_X6_190 rfl rfl (c_X2_openWithGreatestName l K a S) dX6_stayWithoutToken_14 rfl rfl (Nat.le_of_ble_eq_true rfl) (Nat.le_of_ble_eq_true rfl) ?_
  refine G_istore_n (lv' := [(1, .int (v_X2_openWithGreatestName S)), (0, .ref (a 0))]) C dX6_stayWithoutToken_17 (by decide) rfl ?_
  refine G_aload_n C 1 dX6_stayWithoutToken_18 rfl ?_
  refine G_get C 0 6 dX6_stayWithoutToken_19 inlX6 uf_X6_57 rfl (by decide) rfl rfl rfl ?_
  refine G_aload_n C 1 dX6_stayWithoutToken_22 rfl ?_
  refine G_get C 0 0 dX6_stayWithoutToken_23 inlX6 uf_X6_9 rfl (by decide) rfl rfl rfl ?_
  refine G_iconst C dX6_stayWithoutToken_26 (v := 1) rfl ?_
  refine G_callSNi C kd_X9_at ut_X9_at nw_23 (c_at l K (ws := st_W K a S) (q0 := 1) (n := 3) (g := S 0) (ad := (a 1)) (by decide) rfl 1) dX6_stayWithoutToken_27 rfl rfl (Nat.le_of_ble_eq_true rfl) (Nat.le_of_ble_eq_true rfl) ?_
  refine G_icmp_lt C 39 dX6_stayWithoutToken_30 rfl (fun h1 => ?_) (fun h1 => ?_)
  · exact G_vret C dX6_stayWithoutToken_39 rfl
  · refine G_iload_n C 0 dX6_stayWithoutToken_33 rfl ?_
    refine G_bipush C dX6_stayWithoutToken_34 (v := -2) rfl ?_
    refine G_icmp_ne C 40 dX6_stayWithoutToken_36 rfl (fun h2 => ?_) (fun h2 => ?_)
    · exact G_vret C dX6_stayWithoutToken_39 rfl
    · refine G_aload_n C 1 dX6_stayWithoutToken_40 rfl ?_
      refine G_iconst C dX6_stayWithoutToken_41 (v := 0) rfl ?_
      refine G_put (ws' := st_W K a (sF S 1 0)) C 0 6 tyX6 .int dX6_stayWithoutToken_42 inlX6 uf_X6_57 tyX6_ok nmX6 rfl (by decide) rfl rfl rfl rfl rfl rfl (Nat.le_of_ble_eq_true rfl) rfl ?_
      refine G_sub [1, 0] rfl ?_
      exact g_X6_stayWithoutToken_L45 C (sF S 1 0) (v_X2_openWithGreatestName S)
def s_X6_stayWithoutToken (S : SM) : SM := s_X6_stayWithoutToken_L10 (sF S 1 ((S 18 1) + 1))
theorem c_X6_stayWithoutToken (l : Launch) (K : gK) (a : Nat → Nat) (S : SM) : Ct l K yX6_stayWithoutToken cX6_stayWithoutToken 2 none 3 [.ref (a 0)] (st_W K a S) (none, st_W K a (s_X6_stayWithoutToken S)) := by
  refine Ct.of (own := RX6) (fun z => (none, st_W K a z)) (x := s_X6_stayWithoutToken S) (by decide) rfl (Nat.le_of_ble_eq_true rfl) (fun Γ C => ?_)
  unfold s_X6_stayWithoutToken
  refine G_aload_n C 0 dX6_stayWithoutToken_0 rfl ?_
  refine G_dup C dX6_stayWithoutToken_1 rfl ?_
  refine G_get C 0 6 dX6_stayWithoutToken_2 inlX6 uf_X6_57 rfl (by decide) rfl rfl rfl ?_
  refine G_iconst C dX6_stayWithoutToken_5 (v := 1) rfl ?_
  refine G_iadd C dX6_stayWithoutToken_6 ?_
  refine G_put (ws' := st_W K a (sF S 1 ((S 18 1) + 1))) C 0 6 tyX6 .int dX6_stayWithoutToken_7 inlX6 uf_X6_57 tyX6_ok nmX6 rfl (by decide) rfl rfl rfl rfl rfl rfl (Nat.le_of_ble_eq_true rfl) rfl ?_
  refine G_sub [0] rfl ?_
  exact g_X6_stayWithoutToken_L10 C (sF S 1 ((S 18 1) + 1))
/-! X6_passMinute -/
theorem kd_X6_passMinute : Card yX6_passMinute cX6_passMinute 2 none 0 := ⟨uc_X6_passMinute, un_X6, ⟨by decide, by decide, by decide⟩, by decide⟩
def s_X6_passMinute_L119 (S : SM) (x1 : Int32) : SM := if 0 < (S 18 3) then sF S 1 0 else s_X6_stayWithoutToken S
theorem g_X6_passMinute_L119 {l : Launch} {K : gK} {Γ : gT} {a : Nat → Nat} (C : Cx l K Γ RX6 cX6_passMinute 2 none 5) (S : SM) (x1 : Int32) : G l K Γ (st_W K a S) 119 2 [(0, .ref (a 0)), (1, .int x1)] [] (fun z => (none, st_W K a z)) (s_X6_passMinute_L119 S x1) := by
  unfold s_X6_passMinute_L119
  refine G_aload_n C 0 dX6_passMinute_119 rfl ?_
  refine G_get C 0 3 dX6_passMinute_120 inlX6 uf_X6_28 rfl (by decide) rfl rfl rfl ?_
  refine G_get C 12 5 dX6_passMinute_123 inlX8 uf_X6_74 rfl (by decide) rfl rfl rfl ?_
  refine G_if_le C 137 dX6_passMinute_126 rfl (fun h6 => ?_) (fun h6 => ?_)
  · refine G_aload_n C 0 dX6_passMinute_129 rfl ?_
    refine G_iconst C dX6_passMinute_130 (v := 0) rfl ?_
    refine G_put (ws' := st_W K a (sF S 1 0)) C 0 6 tyX6 .int dX6_passMinute_131 inlX6 uf_X6_57 tyX6_ok nmX6 rfl (by decide) rfl rfl rfl rfl rfl rfl (Nat.le_of_ble_eq_true rfl) rfl ?_
    refine G_goto C 141 dX6_passMinute_134 rfl ?_
    exact G_vret C dX6_passMinute_141 rfl
  · refine G_aload_n C 0 dX6_passMinute_137 rfl ?_
    refine G_callVv C 0 6 kd_X6_stayWithoutToken ui_X6_stayWithoutToken us_X6_stayWithoutToken um_X6_139 rfl rfl (c_X6_stayWithoutToken l K a S) dX6_passMinute_138 rfl rfl (Nat.le_of_ble_eq_true rfl) (Nat.le_of_ble_eq_true rfl) ?_
    exact G_vret C dX6_passMinute_141 rfl
def s_X6_passMinute_L99 (S : SM) (x1 : Int32) : SM := if (v_X8_howManySpeak S) < 2 then s_X6_passMinute_L119 S x1 else s_X6_passMinute_L119 (sU S 1 (raise_ 9 (S 1) 7)) x1
theorem g_X6_passMinute_L99 {l : Launch} {K : gK} {Γ : gT} {a : Nat → Nat} (C : Cx l K Γ RX6 cX6_passMinute 2 none 5) (S : SM) (x1 : Int32) : G l K Γ (st_W K a S) 99 2 [(0, .ref (a 0)), (1, .int x1)] [] (fun z => (none, st_W K a z)) (s_X6_passMinute_L99 S x1) := by
  unfold s_X6_passMinute_L99
  refine G_aload_n C 0 dX6_passMinute_99 rfl ?_
  refine G_get C 0 3 dX6_passMinute_100 inlX6 uf_X6_28 rfl (by decide) rfl rfl rfl ?_
  refine G_callVi C 12 8 kd_X8_howManySpeak ui_X8_howManySpeak us_X8_howManySpeak um_X6_135 rfl rfl (c_X8_howManySpeak l K a S) dX6_passMinute_103 rfl rfl (Nat.le_of_ble_eq_true rfl) (Nat.le_of_ble_eq_true rfl) ?_
  refine G_iconst C dX6_passMinute_106 (v := 2) rfl ?_
  refine G_icmp_lt C 119 dX6_passMinute_107 rfl (fun h5 => ?_) (fun h5 => ?_)
  · refine G_sub [0, 1] rfl ?_
    exact g_X6_passMinute_L119 C S x1
  · refine G_aload_n C 0 dX6_passMinute_110 rfl ?_
    refine G_get C 0 1 dX6_passMinute_111 inlX6 uf_X6_15 rfl (by decide) rfl rfl rfl ?_
    refine G_bipush C dX6_passMinute_114 (v := 7) rfl ?_
    refine G_callSNv C kd_X9_raise ut_X9_raise nw_24 (Ct.to (r' := (none, st_W K a (sU S 1 (raise_ 9 (S 1) 7)))) (c_raise l K (ws := st_W K a S) (q0 := 2) (n := 9) (g := S 1) (ad := (a 2)) (by decide) rfl 7) rfl) dX6_passMinute_116 rfl rfl (Nat.le_of_ble_eq_true rfl) (Nat.le_of_ble_eq_true rfl) ?_
    refine G_sub [0, 1] rfl ?_
    exact g_X6_passMinute_L119 C (sU S 1 (raise_ 9 (S 1) 7)) x1
def s_X6_passMinute_L29 : Nat → SM → Int32 → SM
  | 0, S, _ => S
  | fuel + 1, S, x1 => if x1 < (S 18 3) then if 0 < (at_ 3 (S 12) x1) then s_X6_passMinute_L29 fuel (s_X6_comeNearer S x1) (x1 + 1) else if 0 < (at_ 3 (S 14) x1) then s_X6_passMinute_L29 fuel (s_X6_readOn S x1) (x1 + 1) else s_X6_passMinute_L29 fuel (s_X6_beginOrSetOut S x1) (x1 + 1) else s_X6_passMinute_L99 (s_X6_tearUpWhereTwoMeet S) x1
theorem g_X6_passMinute_L29 {l : Launch} {K : gK} {Γ : gT} {a : Nat → Nat} (C : Cx l K Γ RX6 cX6_passMinute 2 none 5) : ∀ (n : Nat) (S : SM) (x1 : Int32), mu x1 < n → G l K Γ (st_W K a S) 29 2 [(0, .ref (a 0)), (1, .int x1)] [] (fun z => (none, st_W K a z)) (s_X6_passMinute_L29 n S x1) := by
  intro n
  induction n with
  | zero =>
    intro S x1 hm
    exact absurd hm (Nat.not_lt_zero _)
  | succ n ih =>
    intro S x1 hm
    rw [s_X6_passMinute_L29]
    refine G_iload_n C 1 dX6_passMinute_29 rfl ?_
    refine G_aload_n C 0 dX6_passMinute_30 rfl ?_
    refine G_get C 0 3 dX6_passMinute_31 inlX6 uf_X6_28 rfl (by decide) rfl rfl rfl ?_
    refine G_get C 12 5 dX6_passMinute_34 inlX8 uf_X6_74 rfl (by decide) rfl rfl rfl ?_
    refine G_icmp_ge C 95 dX6_passMinute_37 rfl (fun h2 => ?_) (fun h2 => ?_)
    · refine G_aload_n C 0 dX6_passMinute_40 rfl ?_
      refine G_get C 0 3 dX6_passMinute_41 inlX6 uf_X6_28 rfl (by decide) rfl rfl rfl ?_
      refine G_get C 12 2 dX6_passMinute_44 inlX8 uf_X6_117 rfl (by decide) rfl rfl rfl ?_
      refine G_iload_n C 1 dX6_passMinute_47 rfl ?_
      refine G_callSNi C kd_X9_at ut_X9_at nw_23 (c_at l K (ws := st_W K a S) (q0 := 15) (n := 3) (g := S 12) (ad := (a 15)) (by decide) rfl x1) dX6_passMinute_48 rfl rfl (Nat.le_of_ble_eq_true rfl) (Nat.le_of_ble_eq_true rfl) ?_
      refine G_if_le C 62 dX6_passMinute_51 rfl (fun h3 => ?_) (fun h3 => ?_)
      · refine G_aload_n C 0 dX6_passMinute_54 rfl ?_
        refine G_iload_n C 1 dX6_passMinute_55 rfl ?_
        refine G_callVv C 0 6 kd_X6_comeNearer ui_X6_comeNearer us_X6_comeNearer um_X6_120 rfl rfl (c_X6_comeNearer l K a S x1) dX6_passMinute_56 rfl rfl (Nat.le_of_ble_eq_true rfl) (Nat.le_of_ble_eq_true rfl) ?_
        refine G_goto C 89 dX6_passMinute_59 rfl ?_
        refine G_iinc (lv' := [(1, .int (x1 + 1)), (0, .ref (a 0))]) C 1 dX6_passMinute_89 rfl rfl (by decide) rfl ?_
        refine G_goto C 29 dX6_passMinute_92 rfl ?_
        refine G_sub [1, 0] rfl ?_
        exact ih (s_X6_comeNearer S x1) (x1 + 1) (by have := mu_up h2; omega)
      · refine G_aload_n C 0 dX6_passMinute_62 rfl ?_
        refine G_get C 0 3 dX6_passMinute_63 inlX6 uf_X6_28 rfl (by decide) rfl rfl rfl ?_
        refine G_get C 12 4 dX6_passMinute_66 inlX8 uf_X6_123 rfl (by decide) rfl rfl rfl ?_
        refine G_iload_n C 1 dX6_passMinute_69 rfl ?_
        refine G_callSNi C kd_X9_at ut_X9_at nw_23 (c_at l K (ws := st_W K a S) (q0 := 17) (n := 3) (g := S 14) (ad := (a 17)) (by decide) rfl x1) dX6_passMinute_70 rfl rfl (Nat.le_of_ble_eq_true rfl) (Nat.le_of_ble_eq_true rfl) ?_
        refine G_if_le C 84 dX6_passMinute_73 rfl (fun h4 => ?_) (fun h4 => ?_)
        · refine G_aload_n C 0 dX6_passMinute_76 rfl ?_
          refine G_iload_n C 1 dX6_passMinute_77 rfl ?_
          refine G_callVv C 0 6 kd_X6_readOn ui_X6_readOn us_X6_readOn um_X6_126 rfl rfl (c_X6_readOn l K a S x1) dX6_passMinute_78 rfl rfl (Nat.le_of_ble_eq_true rfl) (Nat.le_of_ble_eq_true rfl) ?_
          refine G_goto C 89 dX6_passMinute_81 rfl ?_
          refine G_iinc (lv' := [(1, .int (x1 + 1)), (0, .ref (a 0))]) C 1 dX6_passMinute_89 rfl rfl (by decide) rfl ?_
          refine G_goto C 29 dX6_passMinute_92 rfl ?_
          refine G_sub [1, 0] rfl ?_
          exact ih (s_X6_readOn S x1) (x1 + 1) (by have := mu_up h2; omega)
        · refine G_aload_n C 0 dX6_passMinute_84 rfl ?_
          refine G_iload_n C 1 dX6_passMinute_85 rfl ?_
          refine G_callVv C 0 6 kd_X6_beginOrSetOut ui_X6_beginOrSetOut us_X6_beginOrSetOut um_X6_129 rfl rfl (c_X6_beginOrSetOut l K a S x1) dX6_passMinute_86 rfl rfl (Nat.le_of_ble_eq_true rfl) (Nat.le_of_ble_eq_true rfl) ?_
          refine G_iinc (lv' := [(1, .int (x1 + 1)), (0, .ref (a 0))]) C 1 dX6_passMinute_89 rfl rfl (by decide) rfl ?_
          refine G_goto C 29 dX6_passMinute_92 rfl ?_
          refine G_sub [1, 0] rfl ?_
          exact ih (s_X6_beginOrSetOut S x1) (x1 + 1) (by have := mu_up h2; omega)
    · refine G_aload_n C 0 dX6_passMinute_95 rfl ?_
      refine G_callVv C 0 6 kd_X6_tearUpWhereTwoMeet ui_X6_tearUpWhereTwoMeet us_X6_tearUpWhereTwoMeet um_X6_132 rfl rfl (c_X6_tearUpWhereTwoMeet l K a S) dX6_passMinute_96 rfl rfl (Nat.le_of_ble_eq_true rfl) (Nat.le_of_ble_eq_true rfl) ?_
      refine G_sub [0, 1] rfl ?_
      exact g_X6_passMinute_L99 C (s_X6_tearUpWhereTwoMeet S) x1
def s_X6_passMinute_L27 (S : SM) : SM := s_X6_passMinute_L29 (mu 0 + 1) S 0
theorem g_X6_passMinute_L27 {l : Launch} {K : gK} {Γ : gT} {a : Nat → Nat} (C : Cx l K Γ RX6 cX6_passMinute 2 none 5) (S : SM) : G l K Γ (st_W K a S) 27 2 [(0, .ref (a 0))] [] (fun z => (none, st_W K a z)) (s_X6_passMinute_L27 S) := by
  unfold s_X6_passMinute_L27
  refine G_iconst C dX6_passMinute_27 (v := 0) rfl ?_
  refine G_istore_n (lv' := [(1, .int 0), (0, .ref (a 0))]) C dX6_passMinute_28 (by decide) rfl ?_
  refine G_sub [1, 0] rfl ?_
  exact g_X6_passMinute_L29 C _ S 0 (Nat.lt_succ_self _)
def s_X6_passMinute_L10 (S : SM) : SM := if (jrem (S 18 0) 60) = 0 then s_X6_passMinute_L27 (s_X2_beginDay S) else s_X6_passMinute_L27 S
theorem g_X6_passMinute_L10 {l : Launch} {K : gK} {Γ : gT} {a : Nat → Nat} (C : Cx l K Γ RX6 cX6_passMinute 2 none 5) (S : SM) : G l K Γ (st_W K a S) 10 2 [(0, .ref (a 0))] [] (fun z => (none, st_W K a z)) (s_X6_passMinute_L10 S) := by
  unfold s_X6_passMinute_L10
  refine G_aload_n C 0 dX6_passMinute_10 rfl ?_
  refine G_get C 0 5 dX6_passMinute_11 inlX6 uf_X6_53 rfl (by decide) rfl rfl rfl ?_
  refine G_bipush C dX6_passMinute_14 (v := 60) rfl ?_
  refine G_irem C dX6_passMinute_16 (by decide) ?_
  refine G_if_ne C 27 dX6_passMinute_17 rfl (fun h1 => ?_) (fun h1 => ?_)
  · refine G_aload_n C 0 dX6_passMinute_20 rfl ?_
    refine G_get C 0 2 dX6_passMinute_21 inlX6 uf_X6_21 rfl (by decide) rfl rfl rfl ?_
    refine G_callVv C 3 2 kd_X2_beginDay ui_X2_beginDay us_X2_beginDay um_X6_114 rfl rfl (c_X2_beginDay l K a S) dX6_passMinute_24 rfl rfl (Nat.le_of_ble_eq_true rfl) (Nat.le_of_ble_eq_true rfl) ?_
    refine G_sub [0] rfl ?_
    exact g_X6_passMinute_L27 C (s_X2_beginDay S)
  · refine G_sub [0] rfl ?_
    exact g_X6_passMinute_L27 C S
def s_X6_passMinute (S : SM) : SM := s_X6_passMinute_L10 (sF S 0 ((S 18 0) + 1))
theorem c_X6_passMinute (l : Launch) (K : gK) (a : Nat → Nat) (S : SM) : Ct l K yX6_passMinute cX6_passMinute 2 none 5 [.ref (a 0)] (st_W K a S) (none, st_W K a (s_X6_passMinute S)) := by
  refine Ct.of (own := RX6) (fun z => (none, st_W K a z)) (x := s_X6_passMinute S) (by decide) rfl (Nat.le_of_ble_eq_true rfl) (fun Γ C => ?_)
  unfold s_X6_passMinute
  refine G_aload_n C 0 dX6_passMinute_0 rfl ?_
  refine G_dup C dX6_passMinute_1 rfl ?_
  refine G_get C 0 5 dX6_passMinute_2 inlX6 uf_X6_53 rfl (by decide) rfl rfl rfl ?_
  refine G_iconst C dX6_passMinute_5 (v := 1) rfl ?_
  refine G_iadd C dX6_passMinute_6 ?_
  refine G_put (ws' := st_W K a (sF S 0 ((S 18 0) + 1))) C 0 5 tyX6 .int dX6_passMinute_7 inlX6 uf_X6_53 tyX6_ok nmX6 rfl (by decide) rfl rfl rfl rfl rfl rfl (Nat.le_of_ble_eq_true rfl) rfl ?_
  refine G_sub [0] rfl ?_
  exact g_X6_passMinute_L10 C (sF S 0 ((S 18 0) + 1))
/-! X8_firstStanding -/
theorem kd_X8_firstStanding : Card yX8_firstStanding cX8_firstStanding 2 (some .int) 0 := ⟨uc_X8_firstStanding, un_X8, ⟨by decide, by decide, by decide⟩, by decide⟩
def v_X8_firstStanding_L2 : Nat → SM → Int32 → Int32
  | 0, _, _ => 0
  | fuel + 1, S, x1 => if x1 < (S 18 3) then if (at_ 3 (S 12) x1) = 0 then x1 else v_X8_firstStanding_L2 fuel S (x1 + 1) else -2
theorem g_X8_firstStanding_L2 {l : Launch} {K : gK} {Γ : gT} {a : Nat → Nat} (C : Cx l K Γ RX8 cX8_firstStanding 2 (some .int) 1) : ∀ (n : Nat) (S : SM) (x1 : Int32), mu x1 < n → G l K Γ (st_W K a S) 2 2 [(0, .ref (a 12)), (1, .int x1)] [] (fun z => (some (.int z), st_W K a S)) (v_X8_firstStanding_L2 n S x1) := by
  intro n
  induction n with
  | zero =>
    intro S x1 hm
    exact absurd hm (Nat.not_lt_zero _)
  | succ n ih =>
    intro S x1 hm
    rw [v_X8_firstStanding_L2]
    refine G_iload_n C 1 dX8_firstStanding_2 rfl ?_
    refine G_aload_n C 0 dX8_firstStanding_3 rfl ?_
    refine G_get C 12 5 dX8_firstStanding_4 inlX8 uf_X8_31 rfl (by decide) rfl rfl rfl ?_
    refine G_icmp_ge C 29 dX8_firstStanding_7 rfl (fun h1 => ?_) (fun h1 => ?_)
    · refine G_aload_n C 0 dX8_firstStanding_10 rfl ?_
      refine G_get C 12 2 dX8_firstStanding_11 inlX8 uf_X8_18 rfl (by decide) rfl rfl rfl ?_
      refine G_iload_n C 1 dX8_firstStanding_14 rfl ?_
      refine G_callSNi C kd_X9_at ut_X9_at nw_22 (c_at l K (ws := st_W K a S) (q0 := 15) (n := 3) (g := S 12) (ad := (a 15)) (by decide) rfl x1) dX8_firstStanding_15 rfl rfl (Nat.le_of_ble_eq_true rfl) (Nat.le_of_ble_eq_true rfl) ?_
      refine G_if_ne C 23 dX8_firstStanding_18 rfl (fun h2 => ?_) (fun h2 => ?_)
      · refine G_iload_n C 1 dX8_firstStanding_21 rfl ?_
        exact G_iret C dX8_firstStanding_22 rfl
      · refine G_iinc (lv' := [(1, .int (x1 + 1)), (0, .ref (a 12))]) C 1 dX8_firstStanding_23 rfl rfl (by decide) rfl ?_
        refine G_goto C 2 dX8_firstStanding_26 rfl ?_
        refine G_sub [1, 0] rfl ?_
        exact ih S (x1 + 1) (by have := mu_up h1; omega)
    · refine G_bipush C dX8_firstStanding_29 (v := -2) rfl ?_
      exact G_iret C dX8_firstStanding_31 rfl
def v_X8_firstStanding (S : SM) : Int32 := v_X8_firstStanding_L2 (mu 0 + 1) S 0
theorem c_X8_firstStanding (l : Launch) (K : gK) (a : Nat → Nat) (S : SM) : Ct l K yX8_firstStanding cX8_firstStanding 2 (some .int) 1 [.ref (a 12)] (st_W K a S) (some (.int (v_X8_firstStanding S)), st_W K a S) := by
  refine Ct.of (own := RX8) (fun z => (some (.int z), st_W K a S)) (x := v_X8_firstStanding S) (by decide) rfl (Nat.le_of_ble_eq_true rfl) (fun Γ C => ?_)
  unfold v_X8_firstStanding
  refine G_iconst C dX8_firstStanding_0 (v := 0) rfl ?_
  refine G_istore_n (lv' := [(1, .int 0), (0, .ref (a 12))]) C dX8_firstStanding_1 (by decide) rfl ?_
  refine G_sub [1, 0] rfl ?_
  exact g_X8_firstStanding_L2 C _ S 0 (Nat.lt_succ_self _)
/-! X8_leftAt -/
theorem kd_X8_leftAt : Card yX8_leftAt cX8_leftAt 2 (some .int) 1 := ⟨uc_X8_leftAt, un_X8, ⟨by decide, by decide, by decide⟩, by decide⟩
def v_X8_leftAt (S : SM) (x1 : Int32) : Int32 := at_ 3 (S 14) (v_X8_standingAt S x1)
theorem c_X8_leftAt (l : Launch) (K : gK) (a : Nat → Nat) (S : SM) (x1 : Int32) : Ct l K yX8_leftAt cX8_leftAt 2 (some .int) 3 [.ref (a 12), .int x1] (st_W K a S) (some (.int (v_X8_leftAt S x1)), st_W K a S) := by
  refine Ct.of (own := RX8) (fun z => (some (.int z), st_W K a S)) (x := v_X8_leftAt S x1) (by decide) rfl (Nat.le_of_ble_eq_true rfl) (fun Γ C => ?_)
  unfold v_X8_leftAt
  refine G_aload_n C 0 dX8_leftAt_0 rfl ?_
  refine G_get C 12 4 dX8_leftAt_1 inlX8 uf_X8_24 rfl (by decide) rfl rfl rfl ?_
  refine G_aload_n C 0 dX8_leftAt_4 rfl ?_
  refine G_iload_n C 1 dX8_leftAt_5 rfl ?_
  refine G_callVi C 12 8 kd_X8_standingAt ui_X8_standingAt us_X8_standingAt um_X8_57 rfl rfl (c_X8_standingAt l K a S x1) dX8_leftAt_6 rfl rfl (Nat.le_of_ble_eq_true rfl) (Nat.le_of_ble_eq_true rfl) ?_
  refine G_callSNi C kd_X9_at ut_X9_at nw_22 (c_at l K (ws := st_W K a S) (q0 := 17) (n := 3) (g := S 14) (ad := (a 17)) (by decide) rfl (v_X8_standingAt S x1)) dX8_leftAt_9 rfl rfl (Nat.le_of_ble_eq_true rfl) (Nat.le_of_ble_eq_true rfl) ?_
  exact G_iret C dX8_leftAt_12 rfl
/-! X1_copyFrom -/
theorem kd_X1_copyFrom : Card yX1_copyFrom cX1_copyFrom 2 none 1 := ⟨uc_X1_copyFrom, un_X1, ⟨by decide, by decide, by decide⟩, by decide⟩
def s_X1_copyFrom_L41 (S : SM) (T : SM) : SM := sF S 6 (T 18 6)
theorem g_X1_copyFrom_L41 {l : Launch} {K : gK} {Γ : gT} {a b : Nat → Nat} (C : Cx l K Γ RX1 cX1_copyFrom 2 none 2) (S : SM) (T : SM) : G l K Γ (st_W K a S ++ st_W K b T) 41 2 [(0, .ref (a 18)), (1, .ref (b 18))] [] (fun z => (none, st_W K a z ++ st_W K b T)) (s_X1_copyFrom_L41 S T) := by
  unfold s_X1_copyFrom_L41
  refine G_aload_n C 0 dX1_copyFrom_41 rfl ?_
  refine G_aload_n C 1 dX1_copyFrom_42 rfl ?_
  refine G_get C 40 4 dX1_copyFrom_43 inlX1 uf_X1_29 rfl (by decide) rfl rfl rfl ?_
  refine G_put (ws' := st_W K a (sF S 6 (T 18 6)) ++ st_W K b T) C 18 4 tyX1 .int dX1_copyFrom_46 inlX1 uf_X1_29 tyX1_ok nmX1 rfl (by decide) rfl rfl rfl rfl rfl rfl (Nat.le_of_ble_eq_true rfl) rfl ?_
  exact G_vret C dX1_copyFrom_49 rfl
def s_X1_copyFrom_L33 (S : SM) (T : SM) : SM := s_X1_copyFrom_L41 (sF S 5 (T 18 5)) T
theorem g_X1_copyFrom_L33 {l : Launch} {K : gK} {Γ : gT} {a b : Nat → Nat} (C : Cx l K Γ RX1 cX1_copyFrom 2 none 2) (S : SM) (T : SM) : G l K Γ (st_W K a S ++ st_W K b T) 33 2 [(0, .ref (a 18)), (1, .ref (b 18))] [] (fun z => (none, st_W K a z ++ st_W K b T)) (s_X1_copyFrom_L33 S T) := by
  unfold s_X1_copyFrom_L33
  refine G_aload_n C 0 dX1_copyFrom_33 rfl ?_
  refine G_aload_n C 1 dX1_copyFrom_34 rfl ?_
  refine G_get C 40 3 dX1_copyFrom_35 inlX1 uf_X1_25 rfl (by decide) rfl rfl rfl ?_
  refine G_put (ws' := st_W K a (sF S 5 (T 18 5)) ++ st_W K b T) C 18 3 tyX1 .int dX1_copyFrom_38 inlX1 uf_X1_25 tyX1_ok nmX1 rfl (by decide) rfl rfl rfl rfl rfl rfl (Nat.le_of_ble_eq_true rfl) rfl ?_
  refine G_sub [0, 1] rfl ?_
  exact g_X1_copyFrom_L41 C (sF S 5 (T 18 5)) T
def s_X1_copyFrom_L22 (S : SM) (T : SM) : SM := s_X1_copyFrom_L33 (sU S 17 (T 17)) T
theorem g_X1_copyFrom_L22 {l : Launch} {K : gK} {Γ : gT} {a b : Nat → Nat} (C : Cx l K Γ RX1 cX1_copyFrom 2 none 2) (S : SM) (T : SM) : G l K Γ (st_W K a S ++ st_W K b T) 22 2 [(0, .ref (a 18)), (1, .ref (b 18))] [] (fun z => (none, st_W K a z ++ st_W K b T)) (s_X1_copyFrom_L22 S T) := by
  unfold s_X1_copyFrom_L22
  refine G_aload_n C 1 dX1_copyFrom_22 rfl ?_
  refine G_get C 40 2 dX1_copyFrom_23 inlX1 uf_X1_18 rfl (by decide) rfl rfl rfl ?_
  refine G_aload_n C 0 dX1_copyFrom_26 rfl ?_
  refine G_get C 18 2 dX1_copyFrom_27 inlX1 uf_X1_18 rfl (by decide) rfl rfl rfl ?_
  refine G_callSNv C kd_X9_copyRow ut_X9_copyRow nw_21 (Ct.to (r' := (none, st_W K a (sU S 17 (T 17)) ++ st_W K b T)) (c_copyRow l K (ws := st_W K a S ++ st_W K b T) (q0 := 43) (q1 := 21) (n := 40) (f := T 17) (g := S 17) (by decide) rfl rfl) rfl) dX1_copyFrom_30 rfl rfl (Nat.le_of_ble_eq_true rfl) (Nat.le_of_ble_eq_true rfl) ?_
  refine G_sub [0, 1] rfl ?_
  exact g_X1_copyFrom_L33 C (sU S 17 (T 17)) T
def s_X1_copyFrom_L11 (S : SM) (T : SM) : SM := s_X1_copyFrom_L22 (sU S 16 (T 16)) T
theorem g_X1_copyFrom_L11 {l : Launch} {K : gK} {Γ : gT} {a b : Nat → Nat} (C : Cx l K Γ RX1 cX1_copyFrom 2 none 2) (S : SM) (T : SM) : G l K Γ (st_W K a S ++ st_W K b T) 11 2 [(0, .ref (a 18)), (1, .ref (b 18))] [] (fun z => (none, st_W K a z ++ st_W K b T)) (s_X1_copyFrom_L11 S T) := by
  unfold s_X1_copyFrom_L11
  refine G_aload_n C 1 dX1_copyFrom_11 rfl ?_
  refine G_get C 40 1 dX1_copyFrom_12 inlX1 uf_X1_15 rfl (by decide) rfl rfl rfl ?_
  refine G_aload_n C 0 dX1_copyFrom_15 rfl ?_
  refine G_get C 18 1 dX1_copyFrom_16 inlX1 uf_X1_15 rfl (by decide) rfl rfl rfl ?_
  refine G_callSNv C kd_X9_copyRow ut_X9_copyRow nw_21 (Ct.to (r' := (none, st_W K a (sU S 16 (T 16)) ++ st_W K b T)) (c_copyRow l K (ws := st_W K a S ++ st_W K b T) (q0 := 42) (q1 := 20) (n := 40) (f := T 16) (g := S 16) (by decide) rfl rfl) rfl) dX1_copyFrom_19 rfl rfl (Nat.le_of_ble_eq_true rfl) (Nat.le_of_ble_eq_true rfl) ?_
  refine G_sub [0, 1] rfl ?_
  exact g_X1_copyFrom_L22 C (sU S 16 (T 16)) T
def s_X1_copyFrom (S : SM) (T : SM) : SM := s_X1_copyFrom_L11 (sU S 15 (T 15)) T
theorem c_X1_copyFrom (l : Launch) (K : gK) (a b : Nat → Nat) (S : SM) (T : SM) : Ct l K yX1_copyFrom cX1_copyFrom 2 none 2 [.ref (a 18), .ref (b 18)] (st_W K a S ++ st_W K b T) (none, st_W K a (s_X1_copyFrom S T) ++ st_W K b T) := by
  refine Ct.of (own := RX1) (fun z => (none, st_W K a z ++ st_W K b T)) (x := s_X1_copyFrom S T) (by decide) rfl (Nat.le_of_ble_eq_true rfl) (fun Γ C => ?_)
  unfold s_X1_copyFrom
  refine G_aload_n C 1 dX1_copyFrom_0 rfl ?_
  refine G_get C 40 0 dX1_copyFrom_1 inlX1 uf_X1_9 rfl (by decide) rfl rfl rfl ?_
  refine G_aload_n C 0 dX1_copyFrom_4 rfl ?_
  refine G_get C 18 0 dX1_copyFrom_5 inlX1 uf_X1_9 rfl (by decide) rfl rfl rfl ?_
  refine G_callSNv C kd_X9_copyRow ut_X9_copyRow nw_21 (Ct.to (r' := (none, st_W K a (sU S 15 (T 15)) ++ st_W K b T)) (c_copyRow l K (ws := st_W K a S ++ st_W K b T) (q0 := 41) (q1 := 19) (n := 40) (f := T 15) (g := S 15) (by decide) rfl rfl) rfl) dX1_copyFrom_8 rfl rfl (Nat.le_of_ble_eq_true rfl) (Nat.le_of_ble_eq_true rfl) ?_
  refine G_sub [0, 1] rfl ?_
  exact g_X1_copyFrom_L11 C (sU S 15 (T 15)) T
/-! X2_copyFrom -/
theorem kd_X2_copyFrom : Card yX2_copyFrom cX2_copyFrom 2 none 1 := ⟨uc_X2_copyFrom, un_X2, ⟨by decide, by decide, by decide⟩, by decide⟩
def s_X2_copyFrom_L88 (S : SM) (T : SM) : SM := sF S 2 (T 18 2)
theorem g_X2_copyFrom_L88 {l : Launch} {K : gK} {Γ : gT} {a b : Nat → Nat} (C : Cx l K Γ RX2 cX2_copyFrom 2 none 2) (S : SM) (T : SM) : G l K Γ (st_W K a S ++ st_W K b T) 88 2 [(0, .ref (a 3)), (1, .ref (b 3))] [] (fun z => (none, st_W K a z ++ st_W K b T)) (s_X2_copyFrom_L88 S T) := by
  unfold s_X2_copyFrom_L88
  refine G_aload_n C 0 dX2_copyFrom_88 rfl ?_
  refine G_aload_n C 1 dX2_copyFrom_89 rfl ?_
  refine G_get C 25 8 dX2_copyFrom_90 inlX2 uf_X2_40 rfl (by decide) rfl rfl rfl ?_
  refine G_put (ws' := st_W K a (sF S 2 (T 18 2)) ++ st_W K b T) C 3 8 tyX2 .int dX2_copyFrom_93 inlX2 uf_X2_40 tyX2_ok nmX2 rfl (by decide) rfl rfl rfl rfl rfl rfl (Nat.le_of_ble_eq_true rfl) rfl ?_
  exact G_vret C dX2_copyFrom_96 rfl
def s_X2_copyFrom_L77 (S : SM) (T : SM) : SM := s_X2_copyFrom_L88 (sU S 9 (T 9)) T
theorem g_X2_copyFrom_L77 {l : Launch} {K : gK} {Γ : gT} {a b : Nat → Nat} (C : Cx l K Γ RX2 cX2_copyFrom 2 none 2) (S : SM) (T : SM) : G l K Γ (st_W K a S ++ st_W K b T) 77 2 [(0, .ref (a 3)), (1, .ref (b 3))] [] (fun z => (none, st_W K a z ++ st_W K b T)) (s_X2_copyFrom_L77 S T) := by
  unfold s_X2_copyFrom_L77
  refine G_aload_n C 1 dX2_copyFrom_77 rfl ?_
  refine G_get C 25 7 dX2_copyFrom_78 inlX2 uf_X2_33 rfl (by decide) rfl rfl rfl ?_
  refine G_aload_n C 0 dX2_copyFrom_81 rfl ?_
  refine G_get C 3 7 dX2_copyFrom_82 inlX2 uf_X2_33 rfl (by decide) rfl rfl rfl ?_
  refine G_callSNv C kd_X9_copyRow ut_X9_copyRow nw_19 (Ct.to (r' := (none, st_W K a (sU S 9 (T 9)) ++ st_W K b T)) (c_copyRow l K (ws := st_W K a S ++ st_W K b T) (q0 := 33) (q1 := 11) (n := 60) (f := T 9) (g := S 9) (by decide) rfl rfl) rfl) dX2_copyFrom_85 rfl rfl (Nat.le_of_ble_eq_true rfl) (Nat.le_of_ble_eq_true rfl) ?_
  refine G_sub [0, 1] rfl ?_
  exact g_X2_copyFrom_L88 C (sU S 9 (T 9)) T
def s_X2_copyFrom_L66 (S : SM) (T : SM) : SM := s_X2_copyFrom_L77 (sU S 8 (T 8)) T
theorem g_X2_copyFrom_L66 {l : Launch} {K : gK} {Γ : gT} {a b : Nat → Nat} (C : Cx l K Γ RX2 cX2_copyFrom 2 none 2) (S : SM) (T : SM) : G l K Γ (st_W K a S ++ st_W K b T) 66 2 [(0, .ref (a 3)), (1, .ref (b 3))] [] (fun z => (none, st_W K a z ++ st_W K b T)) (s_X2_copyFrom_L66 S T) := by
  unfold s_X2_copyFrom_L66
  refine G_aload_n C 1 dX2_copyFrom_66 rfl ?_
  refine G_get C 25 6 dX2_copyFrom_67 inlX2 uf_X2_30 rfl (by decide) rfl rfl rfl ?_
  refine G_aload_n C 0 dX2_copyFrom_70 rfl ?_
  refine G_get C 3 6 dX2_copyFrom_71 inlX2 uf_X2_30 rfl (by decide) rfl rfl rfl ?_
  refine G_callSNv C kd_X9_copyRow ut_X9_copyRow nw_19 (Ct.to (r' := (none, st_W K a (sU S 8 (T 8)) ++ st_W K b T)) (c_copyRow l K (ws := st_W K a S ++ st_W K b T) (q0 := 32) (q1 := 10) (n := 60) (f := T 8) (g := S 8) (by decide) rfl rfl) rfl) dX2_copyFrom_74 rfl rfl (Nat.le_of_ble_eq_true rfl) (Nat.le_of_ble_eq_true rfl) ?_
  refine G_sub [0, 1] rfl ?_
  exact g_X2_copyFrom_L77 C (sU S 8 (T 8)) T
def s_X2_copyFrom_L55 (S : SM) (T : SM) : SM := s_X2_copyFrom_L66 (sU S 7 (T 7)) T
theorem g_X2_copyFrom_L55 {l : Launch} {K : gK} {Γ : gT} {a b : Nat → Nat} (C : Cx l K Γ RX2 cX2_copyFrom 2 none 2) (S : SM) (T : SM) : G l K Γ (st_W K a S ++ st_W K b T) 55 2 [(0, .ref (a 3)), (1, .ref (b 3))] [] (fun z => (none, st_W K a z ++ st_W K b T)) (s_X2_copyFrom_L55 S T) := by
  unfold s_X2_copyFrom_L55
  refine G_aload_n C 1 dX2_copyFrom_55 rfl ?_
  refine G_get C 25 5 dX2_copyFrom_56 inlX2 uf_X2_27 rfl (by decide) rfl rfl rfl ?_
  refine G_aload_n C 0 dX2_copyFrom_59 rfl ?_
  refine G_get C 3 5 dX2_copyFrom_60 inlX2 uf_X2_27 rfl (by decide) rfl rfl rfl ?_
  refine G_callSNv C kd_X9_copyRow ut_X9_copyRow nw_19 (Ct.to (r' := (none, st_W K a (sU S 7 (T 7)) ++ st_W K b T)) (c_copyRow l K (ws := st_W K a S ++ st_W K b T) (q0 := 31) (q1 := 9) (n := 10) (f := T 7) (g := S 7) (by decide) rfl rfl) rfl) dX2_copyFrom_63 rfl rfl (Nat.le_of_ble_eq_true rfl) (Nat.le_of_ble_eq_true rfl) ?_
  refine G_sub [0, 1] rfl ?_
  exact g_X2_copyFrom_L66 C (sU S 7 (T 7)) T
def s_X2_copyFrom_L44 (S : SM) (T : SM) : SM := s_X2_copyFrom_L55 (sU S 6 (T 6)) T
theorem g_X2_copyFrom_L44 {l : Launch} {K : gK} {Γ : gT} {a b : Nat → Nat} (C : Cx l K Γ RX2 cX2_copyFrom 2 none 2) (S : SM) (T : SM) : G l K Γ (st_W K a S ++ st_W K b T) 44 2 [(0, .ref (a 3)), (1, .ref (b 3))] [] (fun z => (none, st_W K a z ++ st_W K b T)) (s_X2_copyFrom_L44 S T) := by
  unfold s_X2_copyFrom_L44
  refine G_aload_n C 1 dX2_copyFrom_44 rfl ?_
  refine G_get C 25 4 dX2_copyFrom_45 inlX2 uf_X2_24 rfl (by decide) rfl rfl rfl ?_
  refine G_aload_n C 0 dX2_copyFrom_48 rfl ?_
  refine G_get C 3 4 dX2_copyFrom_49 inlX2 uf_X2_24 rfl (by decide) rfl rfl rfl ?_
  refine G_callSNv C kd_X9_copyRow ut_X9_copyRow nw_19 (Ct.to (r' := (none, st_W K a (sU S 6 (T 6)) ++ st_W K b T)) (c_copyRow l K (ws := st_W K a S ++ st_W K b T) (q0 := 30) (q1 := 8) (n := 10) (f := T 6) (g := S 6) (by decide) rfl rfl) rfl) dX2_copyFrom_52 rfl rfl (Nat.le_of_ble_eq_true rfl) (Nat.le_of_ble_eq_true rfl) ?_
  refine G_sub [0, 1] rfl ?_
  exact g_X2_copyFrom_L55 C (sU S 6 (T 6)) T
def s_X2_copyFrom_L33 (S : SM) (T : SM) : SM := s_X2_copyFrom_L44 (sU S 5 (T 5)) T
theorem g_X2_copyFrom_L33 {l : Launch} {K : gK} {Γ : gT} {a b : Nat → Nat} (C : Cx l K Γ RX2 cX2_copyFrom 2 none 2) (S : SM) (T : SM) : G l K Γ (st_W K a S ++ st_W K b T) 33 2 [(0, .ref (a 3)), (1, .ref (b 3))] [] (fun z => (none, st_W K a z ++ st_W K b T)) (s_X2_copyFrom_L33 S T) := by
  unfold s_X2_copyFrom_L33
  refine G_aload_n C 1 dX2_copyFrom_33 rfl ?_
  refine G_get C 25 3 dX2_copyFrom_34 inlX2 uf_X2_21 rfl (by decide) rfl rfl rfl ?_
  refine G_aload_n C 0 dX2_copyFrom_37 rfl ?_
  refine G_get C 3 3 dX2_copyFrom_38 inlX2 uf_X2_21 rfl (by decide) rfl rfl rfl ?_
  refine G_callSNv C kd_X9_copyRow ut_X9_copyRow nw_19 (Ct.to (r' := (none, st_W K a (sU S 5 (T 5)) ++ st_W K b T)) (c_copyRow l K (ws := st_W K a S ++ st_W K b T) (q0 := 29) (q1 := 7) (n := 10) (f := T 5) (g := S 5) (by decide) rfl rfl) rfl) dX2_copyFrom_41 rfl rfl (Nat.le_of_ble_eq_true rfl) (Nat.le_of_ble_eq_true rfl) ?_
  refine G_sub [0, 1] rfl ?_
  exact g_X2_copyFrom_L44 C (sU S 5 (T 5)) T
def s_X2_copyFrom_L22 (S : SM) (T : SM) : SM := s_X2_copyFrom_L33 (sU S 4 (T 4)) T
theorem g_X2_copyFrom_L22 {l : Launch} {K : gK} {Γ : gT} {a b : Nat → Nat} (C : Cx l K Γ RX2 cX2_copyFrom 2 none 2) (S : SM) (T : SM) : G l K Γ (st_W K a S ++ st_W K b T) 22 2 [(0, .ref (a 3)), (1, .ref (b 3))] [] (fun z => (none, st_W K a z ++ st_W K b T)) (s_X2_copyFrom_L22 S T) := by
  unfold s_X2_copyFrom_L22
  refine G_aload_n C 1 dX2_copyFrom_22 rfl ?_
  refine G_get C 25 2 dX2_copyFrom_23 inlX2 uf_X2_18 rfl (by decide) rfl rfl rfl ?_
  refine G_aload_n C 0 dX2_copyFrom_26 rfl ?_
  refine G_get C 3 2 dX2_copyFrom_27 inlX2 uf_X2_18 rfl (by decide) rfl rfl rfl ?_
  refine G_callSNv C kd_X9_copyRow ut_X9_copyRow nw_19 (Ct.to (r' := (none, st_W K a (sU S 4 (T 4)) ++ st_W K b T)) (c_copyRow l K (ws := st_W K a S ++ st_W K b T) (q0 := 28) (q1 := 6) (n := 10) (f := T 4) (g := S 4) (by decide) rfl rfl) rfl) dX2_copyFrom_30 rfl rfl (Nat.le_of_ble_eq_true rfl) (Nat.le_of_ble_eq_true rfl) ?_
  refine G_sub [0, 1] rfl ?_
  exact g_X2_copyFrom_L33 C (sU S 4 (T 4)) T
def s_X2_copyFrom_L11 (S : SM) (T : SM) : SM := s_X2_copyFrom_L22 (sU S 3 (T 3)) T
theorem g_X2_copyFrom_L11 {l : Launch} {K : gK} {Γ : gT} {a b : Nat → Nat} (C : Cx l K Γ RX2 cX2_copyFrom 2 none 2) (S : SM) (T : SM) : G l K Γ (st_W K a S ++ st_W K b T) 11 2 [(0, .ref (a 3)), (1, .ref (b 3))] [] (fun z => (none, st_W K a z ++ st_W K b T)) (s_X2_copyFrom_L11 S T) := by
  unfold s_X2_copyFrom_L11
  refine G_aload_n C 1 dX2_copyFrom_11 rfl ?_
  refine G_get C 25 1 dX2_copyFrom_12 inlX2 uf_X2_15 rfl (by decide) rfl rfl rfl ?_
  refine G_aload_n C 0 dX2_copyFrom_15 rfl ?_
  refine G_get C 3 1 dX2_copyFrom_16 inlX2 uf_X2_15 rfl (by decide) rfl rfl rfl ?_
  refine G_callSNv C kd_X9_copyRow ut_X9_copyRow nw_19 (Ct.to (r' := (none, st_W K a (sU S 3 (T 3)) ++ st_W K b T)) (c_copyRow l K (ws := st_W K a S ++ st_W K b T) (q0 := 27) (q1 := 5) (n := 10) (f := T 3) (g := S 3) (by decide) rfl rfl) rfl) dX2_copyFrom_19 rfl rfl (Nat.le_of_ble_eq_true rfl) (Nat.le_of_ble_eq_true rfl) ?_
  refine G_sub [0, 1] rfl ?_
  exact g_X2_copyFrom_L22 C (sU S 3 (T 3)) T
def s_X2_copyFrom (S : SM) (T : SM) : SM := s_X2_copyFrom_L11 (sU S 2 (T 2)) T
theorem c_X2_copyFrom (l : Launch) (K : gK) (a b : Nat → Nat) (S : SM) (T : SM) : Ct l K yX2_copyFrom cX2_copyFrom 2 none 2 [.ref (a 3), .ref (b 3)] (st_W K a S ++ st_W K b T) (none, st_W K a (s_X2_copyFrom S T) ++ st_W K b T) := by
  refine Ct.of (own := RX2) (fun z => (none, st_W K a z ++ st_W K b T)) (x := s_X2_copyFrom S T) (by decide) rfl (Nat.le_of_ble_eq_true rfl) (fun Γ C => ?_)
  unfold s_X2_copyFrom
  refine G_aload_n C 1 dX2_copyFrom_0 rfl ?_
  refine G_get C 25 0 dX2_copyFrom_1 inlX2 uf_X2_9 rfl (by decide) rfl rfl rfl ?_
  refine G_aload_n C 0 dX2_copyFrom_4 rfl ?_
  refine G_get C 3 0 dX2_copyFrom_5 inlX2 uf_X2_9 rfl (by decide) rfl rfl rfl ?_
  refine G_callSNv C kd_X9_copyRow ut_X9_copyRow nw_19 (Ct.to (r' := (none, st_W K a (sU S 2 (T 2)) ++ st_W K b T)) (c_copyRow l K (ws := st_W K a S ++ st_W K b T) (q0 := 26) (q1 := 4) (n := 10) (f := T 2) (g := S 2) (by decide) rfl rfl) rfl) dX2_copyFrom_8 rfl rfl (Nat.le_of_ble_eq_true rfl) (Nat.le_of_ble_eq_true rfl) ?_
  refine G_sub [0, 1] rfl ?_
  exact g_X2_copyFrom_L11 C (sU S 2 (T 2)) T
/-! X8_copyFrom -/
theorem kd_X8_copyFrom : Card yX8_copyFrom cX8_copyFrom 2 none 1 := ⟨uc_X8_copyFrom, un_X8, ⟨by decide, by decide, by decide⟩, by decide⟩
def s_X8_copyFrom_L63 (S : SM) (T : SM) : SM := sF S 4 (T 18 4)
theorem g_X8_copyFrom_L63 {l : Launch} {K : gK} {Γ : gT} {a b : Nat → Nat} (C : Cx l K Γ RX8 cX8_copyFrom 2 none 2) (S : SM) (T : SM) : G l K Γ (st_W K a S ++ st_W K b T) 63 2 [(0, .ref (a 12)), (1, .ref (b 12))] [] (fun z => (none, st_W K a z ++ st_W K b T)) (s_X8_copyFrom_L63 S T) := by
  unfold s_X8_copyFrom_L63
  refine G_aload_n C 0 dX8_copyFrom_63 rfl ?_
  refine G_aload_n C 1 dX8_copyFrom_64 rfl ?_
  refine G_get C 34 6 dX8_copyFrom_65 inlX8 uf_X8_35 rfl (by decide) rfl rfl rfl ?_
  refine G_put (ws' := st_W K a (sF S 4 (T 18 4)) ++ st_W K b T) C 12 6 tyX8 .int dX8_copyFrom_68 inlX8 uf_X8_35 tyX8_ok nmX8 rfl (by decide) rfl rfl rfl rfl rfl rfl (Nat.le_of_ble_eq_true rfl) rfl ?_
  exact G_vret C dX8_copyFrom_71 rfl
def s_X8_copyFrom_L55 (S : SM) (T : SM) : SM := s_X8_copyFrom_L63 (sF S 3 (T 18 3)) T
theorem g_X8_copyFrom_L55 {l : Launch} {K : gK} {Γ : gT} {a b : Nat → Nat} (C : Cx l K Γ RX8 cX8_copyFrom 2 none 2) (S : SM) (T : SM) : G l K Γ (st_W K a S ++ st_W K b T) 55 2 [(0, .ref (a 12)), (1, .ref (b 12))] [] (fun z => (none, st_W K a z ++ st_W K b T)) (s_X8_copyFrom_L55 S T) := by
  unfold s_X8_copyFrom_L55
  refine G_aload_n C 0 dX8_copyFrom_55 rfl ?_
  refine G_aload_n C 1 dX8_copyFrom_56 rfl ?_
  refine G_get C 34 5 dX8_copyFrom_57 inlX8 uf_X8_31 rfl (by decide) rfl rfl rfl ?_
  refine G_put (ws' := st_W K a (sF S 3 (T 18 3)) ++ st_W K b T) C 12 5 tyX8 .int dX8_copyFrom_60 inlX8 uf_X8_31 tyX8_ok nmX8 rfl (by decide) rfl rfl rfl rfl rfl rfl (Nat.le_of_ble_eq_true rfl) rfl ?_
  refine G_sub [0, 1] rfl ?_
  exact g_X8_copyFrom_L63 C (sF S 3 (T 18 3)) T
def s_X8_copyFrom_L44 (S : SM) (T : SM) : SM := s_X8_copyFrom_L55 (sU S 14 (T 14)) T
theorem g_X8_copyFrom_L44 {l : Launch} {K : gK} {Γ : gT} {a b : Nat → Nat} (C : Cx l K Γ RX8 cX8_copyFrom 2 none 2) (S : SM) (T : SM) : G l K Γ (st_W K a S ++ st_W K b T) 44 2 [(0, .ref (a 12)), (1, .ref (b 12))] [] (fun z => (none, st_W K a z ++ st_W K b T)) (s_X8_copyFrom_L44 S T) := by
  unfold s_X8_copyFrom_L44
  refine G_aload_n C 1 dX8_copyFrom_44 rfl ?_
  refine G_get C 34 4 dX8_copyFrom_45 inlX8 uf_X8_24 rfl (by decide) rfl rfl rfl ?_
  refine G_aload_n C 0 dX8_copyFrom_48 rfl ?_
  refine G_get C 12 4 dX8_copyFrom_49 inlX8 uf_X8_24 rfl (by decide) rfl rfl rfl ?_
  refine G_callSNv C kd_X9_copyRow ut_X9_copyRow nw_20 (Ct.to (r' := (none, st_W K a (sU S 14 (T 14)) ++ st_W K b T)) (c_copyRow l K (ws := st_W K a S ++ st_W K b T) (q0 := 39) (q1 := 17) (n := 3) (f := T 14) (g := S 14) (by decide) rfl rfl) rfl) dX8_copyFrom_52 rfl rfl (Nat.le_of_ble_eq_true rfl) (Nat.le_of_ble_eq_true rfl) ?_
  refine G_sub [0, 1] rfl ?_
  exact g_X8_copyFrom_L55 C (sU S 14 (T 14)) T
def s_X8_copyFrom_L33 (S : SM) (T : SM) : SM := s_X8_copyFrom_L44 (sU S 13 (T 13)) T
theorem g_X8_copyFrom_L33 {l : Launch} {K : gK} {Γ : gT} {a b : Nat → Nat} (C : Cx l K Γ RX8 cX8_copyFrom 2 none 2) (S : SM) (T : SM) : G l K Γ (st_W K a S ++ st_W K b T) 33 2 [(0, .ref (a 12)), (1, .ref (b 12))] [] (fun z => (none, st_W K a z ++ st_W K b T)) (s_X8_copyFrom_L33 S T) := by
  unfold s_X8_copyFrom_L33
  refine G_aload_n C 1 dX8_copyFrom_33 rfl ?_
  refine G_get C 34 3 dX8_copyFrom_34 inlX8 uf_X8_21 rfl (by decide) rfl rfl rfl ?_
  refine G_aload_n C 0 dX8_copyFrom_37 rfl ?_
  refine G_get C 12 3 dX8_copyFrom_38 inlX8 uf_X8_21 rfl (by decide) rfl rfl rfl ?_
  refine G_callSNv C kd_X9_copyRow ut_X9_copyRow nw_20 (Ct.to (r' := (none, st_W K a (sU S 13 (T 13)) ++ st_W K b T)) (c_copyRow l K (ws := st_W K a S ++ st_W K b T) (q0 := 38) (q1 := 16) (n := 3) (f := T 13) (g := S 13) (by decide) rfl rfl) rfl) dX8_copyFrom_41 rfl rfl (Nat.le_of_ble_eq_true rfl) (Nat.le_of_ble_eq_true rfl) ?_
  refine G_sub [0, 1] rfl ?_
  exact g_X8_copyFrom_L44 C (sU S 13 (T 13)) T
def s_X8_copyFrom_L22 (S : SM) (T : SM) : SM := s_X8_copyFrom_L33 (sU S 12 (T 12)) T
theorem g_X8_copyFrom_L22 {l : Launch} {K : gK} {Γ : gT} {a b : Nat → Nat} (C : Cx l K Γ RX8 cX8_copyFrom 2 none 2) (S : SM) (T : SM) : G l K Γ (st_W K a S ++ st_W K b T) 22 2 [(0, .ref (a 12)), (1, .ref (b 12))] [] (fun z => (none, st_W K a z ++ st_W K b T)) (s_X8_copyFrom_L22 S T) := by
  unfold s_X8_copyFrom_L22
  refine G_aload_n C 1 dX8_copyFrom_22 rfl ?_
  refine G_get C 34 2 dX8_copyFrom_23 inlX8 uf_X8_18 rfl (by decide) rfl rfl rfl ?_
  refine G_aload_n C 0 dX8_copyFrom_26 rfl ?_
  refine G_get C 12 2 dX8_copyFrom_27 inlX8 uf_X8_18 rfl (by decide) rfl rfl rfl ?_
  refine G_callSNv C kd_X9_copyRow ut_X9_copyRow nw_20 (Ct.to (r' := (none, st_W K a (sU S 12 (T 12)) ++ st_W K b T)) (c_copyRow l K (ws := st_W K a S ++ st_W K b T) (q0 := 37) (q1 := 15) (n := 3) (f := T 12) (g := S 12) (by decide) rfl rfl) rfl) dX8_copyFrom_30 rfl rfl (Nat.le_of_ble_eq_true rfl) (Nat.le_of_ble_eq_true rfl) ?_
  refine G_sub [0, 1] rfl ?_
  exact g_X8_copyFrom_L33 C (sU S 12 (T 12)) T
def s_X8_copyFrom_L11 (S : SM) (T : SM) : SM := s_X8_copyFrom_L22 (sU S 11 (T 11)) T
theorem g_X8_copyFrom_L11 {l : Launch} {K : gK} {Γ : gT} {a b : Nat → Nat} (C : Cx l K Γ RX8 cX8_copyFrom 2 none 2) (S : SM) (T : SM) : G l K Γ (st_W K a S ++ st_W K b T) 11 2 [(0, .ref (a 12)), (1, .ref (b 12))] [] (fun z => (none, st_W K a z ++ st_W K b T)) (s_X8_copyFrom_L11 S T) := by
  unfold s_X8_copyFrom_L11
  refine G_aload_n C 1 dX8_copyFrom_11 rfl ?_
  refine G_get C 34 1 dX8_copyFrom_12 inlX8 uf_X8_15 rfl (by decide) rfl rfl rfl ?_
  refine G_aload_n C 0 dX8_copyFrom_15 rfl ?_
  refine G_get C 12 1 dX8_copyFrom_16 inlX8 uf_X8_15 rfl (by decide) rfl rfl rfl ?_
  refine G_callSNv C kd_X9_copyRow ut_X9_copyRow nw_20 (Ct.to (r' := (none, st_W K a (sU S 11 (T 11)) ++ st_W K b T)) (c_copyRow l K (ws := st_W K a S ++ st_W K b T) (q0 := 36) (q1 := 14) (n := 3) (f := T 11) (g := S 11) (by decide) rfl rfl) rfl) dX8_copyFrom_19 rfl rfl (Nat.le_of_ble_eq_true rfl) (Nat.le_of_ble_eq_true rfl) ?_
  refine G_sub [0, 1] rfl ?_
  exact g_X8_copyFrom_L22 C (sU S 11 (T 11)) T
def s_X8_copyFrom (S : SM) (T : SM) : SM := s_X8_copyFrom_L11 (sU S 10 (T 10)) T
theorem c_X8_copyFrom (l : Launch) (K : gK) (a b : Nat → Nat) (S : SM) (T : SM) : Ct l K yX8_copyFrom cX8_copyFrom 2 none 2 [.ref (a 12), .ref (b 12)] (st_W K a S ++ st_W K b T) (none, st_W K a (s_X8_copyFrom S T) ++ st_W K b T) := by
  refine Ct.of (own := RX8) (fun z => (none, st_W K a z ++ st_W K b T)) (x := s_X8_copyFrom S T) (by decide) rfl (Nat.le_of_ble_eq_true rfl) (fun Γ C => ?_)
  unfold s_X8_copyFrom
  refine G_aload_n C 1 dX8_copyFrom_0 rfl ?_
  refine G_get C 34 0 dX8_copyFrom_1 inlX8 uf_X8_9 rfl (by decide) rfl rfl rfl ?_
  refine G_aload_n C 0 dX8_copyFrom_4 rfl ?_
  refine G_get C 12 0 dX8_copyFrom_5 inlX8 uf_X8_9 rfl (by decide) rfl rfl rfl ?_
  refine G_callSNv C kd_X9_copyRow ut_X9_copyRow nw_20 (Ct.to (r' := (none, st_W K a (sU S 10 (T 10)) ++ st_W K b T)) (c_copyRow l K (ws := st_W K a S ++ st_W K b T) (q0 := 35) (q1 := 13) (n := 3) (f := T 10) (g := S 10) (by decide) rfl rfl) rfl) dX8_copyFrom_8 rfl rfl (Nat.le_of_ble_eq_true rfl) (Nat.le_of_ble_eq_true rfl) ?_
  refine G_sub [0, 1] rfl ?_
  exact g_X8_copyFrom_L11 C (sU S 10 (T 10)) T
/-! X6_copyFrom -/
theorem kd_X6_copyFrom : Card yX6_copyFrom cX6_copyFrom 2 none 1 := ⟨uc_X6_copyFrom, un_X6, ⟨by decide, by decide, by decide⟩, by decide⟩
def s_X6_copyFrom_L63 (S : SM) (T : SM) : SM := sF S 1 (T 18 1)
theorem g_X6_copyFrom_L63 {l : Launch} {K : gK} {Γ : gT} {a b : Nat → Nat} (C : Cx l K Γ RX6 cX6_copyFrom 2 none 3) (S : SM) (T : SM) : G l K Γ (st_W K a S ++ st_W K b T) 63 2 [(0, .ref (a 0)), (1, .ref (b 0))] [] (fun z => (none, st_W K a z ++ st_W K b T)) (s_X6_copyFrom_L63 S T) := by
  unfold s_X6_copyFrom_L63
  refine G_aload_n C 0 dX6_copyFrom_63 rfl ?_
  refine G_aload_n C 1 dX6_copyFrom_64 rfl ?_
  refine G_get C 22 6 dX6_copyFrom_65 inlX6 uf_X6_57 rfl (by decide) rfl rfl rfl ?_
  refine G_put (ws' := st_W K a (sF S 1 (T 18 1)) ++ st_W K b T) C 0 6 tyX6 .int dX6_copyFrom_68 inlX6 uf_X6_57 tyX6_ok nmX6 rfl (by decide) rfl rfl rfl rfl rfl rfl (Nat.le_of_ble_eq_true rfl) rfl ?_
  exact G_vret C dX6_copyFrom_71 rfl
def s_X6_copyFrom_L55 (S : SM) (T : SM) : SM := s_X6_copyFrom_L63 (sF S 0 (T 18 0)) T
theorem g_X6_copyFrom_L55 {l : Launch} {K : gK} {Γ : gT} {a b : Nat → Nat} (C : Cx l K Γ RX6 cX6_copyFrom 2 none 3) (S : SM) (T : SM) : G l K Γ (st_W K a S ++ st_W K b T) 55 2 [(0, .ref (a 0)), (1, .ref (b 0))] [] (fun z => (none, st_W K a z ++ st_W K b T)) (s_X6_copyFrom_L55 S T) := by
  unfold s_X6_copyFrom_L55
  refine G_aload_n C 0 dX6_copyFrom_55 rfl ?_
  refine G_aload_n C 1 dX6_copyFrom_56 rfl ?_
  refine G_get C 22 5 dX6_copyFrom_57 inlX6 uf_X6_53 rfl (by decide) rfl rfl rfl ?_
  refine G_put (ws' := st_W K a (sF S 0 (T 18 0)) ++ st_W K b T) C 0 5 tyX6 .int dX6_copyFrom_60 inlX6 uf_X6_53 tyX6_ok nmX6 rfl (by decide) rfl rfl rfl rfl rfl rfl (Nat.le_of_ble_eq_true rfl) rfl ?_
  refine G_sub [0, 1] rfl ?_
  exact g_X6_copyFrom_L63 C (sF S 0 (T 18 0)) T
def s_X6_copyFrom_L44 (S : SM) (T : SM) : SM := s_X6_copyFrom_L55 (s_X1_copyFrom S T) T
theorem g_X6_copyFrom_L44 {l : Launch} {K : gK} {Γ : gT} {a b : Nat → Nat} (C : Cx l K Γ RX6 cX6_copyFrom 2 none 3) (S : SM) (T : SM) : G l K Γ (st_W K a S ++ st_W K b T) 44 2 [(0, .ref (a 0)), (1, .ref (b 0))] [] (fun z => (none, st_W K a z ++ st_W K b T)) (s_X6_copyFrom_L44 S T) := by
  unfold s_X6_copyFrom_L44
  refine G_aload_n C 0 dX6_copyFrom_44 rfl ?_
  refine G_get C 0 4 dX6_copyFrom_45 inlX6 uf_X6_35 rfl (by decide) rfl rfl rfl ?_
  refine G_aload_n C 1 dX6_copyFrom_48 rfl ?_
  refine G_get C 22 4 dX6_copyFrom_49 inlX6 uf_X6_35 rfl (by decide) rfl rfl rfl ?_
  refine G_callVv C 18 1 kd_X1_copyFrom ui_X1_copyFrom us_X1_copyFrom um_X6_50 rfl rfl (c_X1_copyFrom l K a b S T) dX6_copyFrom_52 rfl rfl (Nat.le_of_ble_eq_true rfl) (Nat.le_of_ble_eq_true rfl) ?_
  refine G_sub [0, 1] rfl ?_
  exact g_X6_copyFrom_L55 C (s_X1_copyFrom S T) T
def s_X6_copyFrom_L33 (S : SM) (T : SM) : SM := s_X6_copyFrom_L44 (s_X8_copyFrom S T) T
theorem g_X6_copyFrom_L33 {l : Launch} {K : gK} {Γ : gT} {a b : Nat → Nat} (C : Cx l K Γ RX6 cX6_copyFrom 2 none 3) (S : SM) (T : SM) : G l K Γ (st_W K a S ++ st_W K b T) 33 2 [(0, .ref (a 0)), (1, .ref (b 0))] [] (fun z => (none, st_W K a z ++ st_W K b T)) (s_X6_copyFrom_L33 S T) := by
  unfold s_X6_copyFrom_L33
  refine G_aload_n C 0 dX6_copyFrom_33 rfl ?_
  refine G_get C 0 3 dX6_copyFrom_34 inlX6 uf_X6_28 rfl (by decide) rfl rfl rfl ?_
  refine G_aload_n C 1 dX6_copyFrom_37 rfl ?_
  refine G_get C 22 3 dX6_copyFrom_38 inlX6 uf_X6_28 rfl (by decide) rfl rfl rfl ?_
  refine G_callVv C 12 8 kd_X8_copyFrom ui_X8_copyFrom us_X8_copyFrom um_X6_47 rfl rfl (c_X8_copyFrom l K a b S T) dX6_copyFrom_41 rfl rfl (Nat.le_of_ble_eq_true rfl) (Nat.le_of_ble_eq_true rfl) ?_
  refine G_sub [0, 1] rfl ?_
  exact g_X6_copyFrom_L44 C (s_X8_copyFrom S T) T
def s_X6_copyFrom_L22 (S : SM) (T : SM) : SM := s_X6_copyFrom_L33 (s_X2_copyFrom S T) T
theorem g_X6_copyFrom_L22 {l : Launch} {K : gK} {Γ : gT} {a b : Nat → Nat} (C : Cx l K Γ RX6 cX6_copyFrom 2 none 3) (S : SM) (T : SM) : G l K Γ (st_W K a S ++ st_W K b T) 22 2 [(0, .ref (a 0)), (1, .ref (b 0))] [] (fun z => (none, st_W K a z ++ st_W K b T)) (s_X6_copyFrom_L22 S T) := by
  unfold s_X6_copyFrom_L22
  refine G_aload_n C 0 dX6_copyFrom_22 rfl ?_
  refine G_get C 0 2 dX6_copyFrom_23 inlX6 uf_X6_21 rfl (by decide) rfl rfl rfl ?_
  refine G_aload_n C 1 dX6_copyFrom_26 rfl ?_
  refine G_get C 22 2 dX6_copyFrom_27 inlX6 uf_X6_21 rfl (by decide) rfl rfl rfl ?_
  refine G_callVv C 3 2 kd_X2_copyFrom ui_X2_copyFrom us_X2_copyFrom um_X6_43 rfl rfl (c_X2_copyFrom l K a b S T) dX6_copyFrom_30 rfl rfl (Nat.le_of_ble_eq_true rfl) (Nat.le_of_ble_eq_true rfl) ?_
  refine G_sub [0, 1] rfl ?_
  exact g_X6_copyFrom_L33 C (s_X2_copyFrom S T) T
def s_X6_copyFrom_L11 (S : SM) (T : SM) : SM := s_X6_copyFrom_L22 (sU S 1 (T 1)) T
theorem g_X6_copyFrom_L11 {l : Launch} {K : gK} {Γ : gT} {a b : Nat → Nat} (C : Cx l K Γ RX6 cX6_copyFrom 2 none 3) (S : SM) (T : SM) : G l K Γ (st_W K a S ++ st_W K b T) 11 2 [(0, .ref (a 0)), (1, .ref (b 0))] [] (fun z => (none, st_W K a z ++ st_W K b T)) (s_X6_copyFrom_L11 S T) := by
  unfold s_X6_copyFrom_L11
  refine G_aload_n C 1 dX6_copyFrom_11 rfl ?_
  refine G_get C 22 1 dX6_copyFrom_12 inlX6 uf_X6_15 rfl (by decide) rfl rfl rfl ?_
  refine G_aload_n C 0 dX6_copyFrom_15 rfl ?_
  refine G_get C 0 1 dX6_copyFrom_16 inlX6 uf_X6_15 rfl (by decide) rfl rfl rfl ?_
  refine G_callSNv C kd_X9_copyRow ut_X9_copyRow nw_18 (Ct.to (r' := (none, st_W K a (sU S 1 (T 1)) ++ st_W K b T)) (c_copyRow l K (ws := st_W K a S ++ st_W K b T) (q0 := 24) (q1 := 2) (n := 9) (f := T 1) (g := S 1) (by decide) rfl rfl) rfl) dX6_copyFrom_19 rfl rfl (Nat.le_of_ble_eq_true rfl) (Nat.le_of_ble_eq_true rfl) ?_
  refine G_sub [0, 1] rfl ?_
  exact g_X6_copyFrom_L22 C (sU S 1 (T 1)) T
def s_X6_copyFrom (S : SM) (T : SM) : SM := s_X6_copyFrom_L11 (sU S 0 (T 0)) T
theorem c_X6_copyFrom (l : Launch) (K : gK) (a b : Nat → Nat) (S : SM) (T : SM) : Ct l K yX6_copyFrom cX6_copyFrom 2 none 3 [.ref (a 0), .ref (b 0)] (st_W K a S ++ st_W K b T) (none, st_W K a (s_X6_copyFrom S T) ++ st_W K b T) := by
  refine Ct.of (own := RX6) (fun z => (none, st_W K a z ++ st_W K b T)) (x := s_X6_copyFrom S T) (by decide) rfl (Nat.le_of_ble_eq_true rfl) (fun Γ C => ?_)
  unfold s_X6_copyFrom
  refine G_aload_n C 1 dX6_copyFrom_0 rfl ?_
  refine G_get C 22 0 dX6_copyFrom_1 inlX6 uf_X6_9 rfl (by decide) rfl rfl rfl ?_
  refine G_aload_n C 0 dX6_copyFrom_4 rfl ?_
  refine G_get C 0 0 dX6_copyFrom_5 inlX6 uf_X6_9 rfl (by decide) rfl rfl rfl ?_
  refine G_callSNv C kd_X9_copyRow ut_X9_copyRow nw_18 (Ct.to (r' := (none, st_W K a (sU S 0 (T 0)) ++ st_W K b T)) (c_copyRow l K (ws := st_W K a S ++ st_W K b T) (q0 := 23) (q1 := 1) (n := 3) (f := T 0) (g := S 0) (by decide) rfl rfl) rfl) dX6_copyFrom_8 rfl rfl (Nat.le_of_ble_eq_true rfl) (Nat.le_of_ble_eq_true rfl) ?_
  refine G_sub [0, 1] rfl ?_
  exact g_X6_copyFrom_L11 C (sU S 0 (T 0)) T
theorem copyFrom_eq (K : gK) (a : Nat → Nat) (S T : SM) : st_W K a (s_X6_copyFrom S T) = st_W K a T := rfl
theorem c_copyState (l : Launch) (K : gK) (a b : Nat → Nat) (S T : SM) : Ct l K yX6_copyFrom cX6_copyFrom 2 none 3 [.ref (a 0), .ref (b 0)] (st_W K a S ++ st_W K b T) (none, st_W K a T ++ st_W K b T) := c_X6_copyFrom l K a b S T
