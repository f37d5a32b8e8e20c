-- PART 07, go on (by gen/mkro.py)
/-! X9_cancel -/
theorem kd_X9_cancel : Card yX9_cancel cX9_cancel 5 (some .int) 2 := ⟨uc_X9_cancel, un_X9, ⟨by decide, by decide, by decide⟩, by decide⟩
def p_X9_cancel_L109 (Y : RS) (x1 : Int32) (x2 : Int32) (x4 : Int32) : Int32 × RS := (at_ 10 (Y 0 7) x1, Y)
theorem g_X9_cancel_L109 {l : Launch} {K : gK} {Γ : gT} {A : Nat → Nat → Nat} (C : Cx l K Γ RX9 cX9_cancel 5 (some .int) 6) (Y : RS) (x1 : Int32) (x2 : Int32) (x4 : Int32) : G l K Γ (ro_W K A Y) 109 5 [(0, .ref (A 4 0)), (1, .int x1), (2, .int x2), (3, .ref (A 0 3)), (4, .int x4)] [] (fun (z : Int32 × RS) => (some (.int z.1), ro_W K A z.2)) (p_X9_cancel_L109 Y x1 x2 x4) := by
  unfold p_X9_cancel_L109
  refine G_aload_n C 3 dX9_cancel_109 rfl ?_
  refine G_get C 4 5 dX9_cancel_110 inlX2 uf_X9_106 rfl (by decide) rfl rfl rfl ?_
  refine G_iload_n C 1 dX9_cancel_113 rfl ?_
  refine G_callSi C kd_X9_at ut_X9_at um_X9_110 (c_at l K (ws := ro_W K A Y) (q0 := 10) (n := 10) (g := Y 0 7) (ad := (A 0 9)) (by decide) rfl x1) dX9_cancel_114 rfl rfl (Nat.le_of_ble_eq_true rfl) (Nat.le_of_ble_eq_true rfl) ?_
  exact G_iret C dX9_cancel_117 rfl
def p_X9_cancel_L94 (Y : RS) (x1 : Int32) (x2 : Int32) (x4 : Int32) : Int32 × RS := p_X9_cancel_L109 (yU Y 0 (s_X1_add (Y 0) 9 x1 x4)) x1 x2 x4
theorem g_X9_cancel_L94 {l : Launch} {K : gK} {Γ : gT} {A : Nat → Nat → Nat} (C : Cx l K Γ RX9 cX9_cancel 5 (some .int) 6) (Y : RS) (x1 : Int32) (x2 : Int32) (x4 : Int32) : G l K Γ (ro_W K A Y) 94 5 [(0, .ref (A 4 0)), (1, .int x1), (2, .int x2), (3, .ref (A 0 3)), (4, .int x4)] [] (fun (z : Int32 × RS) => (some (.int z.1), ro_W K A z.2)) (p_X9_cancel_L94 Y x1 x2 x4) := by
  unfold p_X9_cancel_L94
  refine G_aload_n C 0 dX9_cancel_94 rfl ?_
  refine G_get C 0 0 dX9_cancel_95 inlX9 uf_X9_10 rfl (by decide) rfl rfl rfl ?_
  refine G_get C 1 4 dX9_cancel_98 inlX6 uf_X9_128 rfl (by decide) rfl rfl rfl ?_
  refine G_bipush C dX9_cancel_101 (v := 9) rfl ?_
  refine G_iload_n C 1 dX9_cancel_103 rfl ?_
  refine G_iload C 4 dX9_cancel_104 rfl ?_
  refine G_callVv C 19 1 kd_X1_add ui_X1_add us_X1_add um_X9_132 rfl rfl (Ct.chunk1 (cs := ro_C K A Y) (cs' := ro_C K A (yU Y 0 (s_X1_add (Y 0) 9 x1 x4))) 1 rfl (ro_u0 K A Y _) (c_X1_add l K (A 0) (Y 0) 9 x1 x4)) dX9_cancel_106 rfl rfl (Nat.le_of_ble_eq_true rfl) (Nat.le_of_ble_eq_true rfl) ?_
  refine G_sub [0, 1, 2, 3, 4] rfl ?_
  exact g_X9_cancel_L109 C (yU Y 0 (s_X1_add (Y 0) 9 x1 x4)) x1 x2 x4
def p_X9_cancel_L83 (Y : RS) (x1 : Int32) (x2 : Int32) (x4 : Int32) : Int32 × RS := p_X9_cancel_L94 (yU Y 0 (sU (Y 0) 1 (raise_ 9 (Y 0 1) 3))) x1 x2 x4
theorem g_X9_cancel_L83 {l : Launch} {K : gK} {Γ : gT} {A : Nat → Nat → Nat} (C : Cx l K Γ RX9 cX9_cancel 5 (some .int) 6) (Y : RS) (x1 : Int32) (x2 : Int32) (x4 : Int32) : G l K Γ (ro_W K A Y) 83 5 [(0, .ref (A 4 0)), (1, .int x1), (2, .int x2), (3, .ref (A 0 3)), (4, .int x4)] [] (fun (z : Int32 × RS) => (some (.int z.1), ro_W K A z.2)) (p_X9_cancel_L83 Y x1 x2 x4) := by
  unfold p_X9_cancel_L83
  refine G_aload_n C 0 dX9_cancel_83 rfl ?_
  refine G_get C 0 0 dX9_cancel_84 inlX9 uf_X9_10 rfl (by decide) rfl rfl rfl ?_
  refine G_get C 1 1 dX9_cancel_87 inlX6 uf_X9_121 rfl (by decide) rfl rfl rfl ?_
  refine G_iconst C dX9_cancel_90 (v := 3) rfl ?_
  refine G_callSv C kd_X9_raise ut_X9_raise um_X9_124 (Ct.to (r' := (none, ro_W K A (yU Y 0 (sU (Y 0) 1 (raise_ 9 (Y 0 1) 3))))) (c_raise l K (ws := ro_W K A Y) (q0 := 3) (n := 9) (g := Y 0 1) (ad := (A 0 2)) (by decide) rfl 3) rfl) dX9_cancel_91 rfl rfl (Nat.le_of_ble_eq_true rfl) (Nat.le_of_ble_eq_true rfl) ?_
  refine G_sub [0, 1, 2, 3, 4] rfl ?_
  exact g_X9_cancel_L94 C (yU Y 0 (sU (Y 0) 1 (raise_ 9 (Y 0 1) 3))) x1 x2 x4
def p_X9_cancel_L69 (Y : RS) (x1 : Int32) (x2 : Int32) : Int32 × RS := p_X9_cancel_L83 (yU Y 0 (s_X2_removeLetter (Y 0) x1 x2)) x1 x2 (v_X2_lengthOf (Y 0) x1 x2)
theorem g_X9_cancel_L69 {l : Launch} {K : gK} {Γ : gT} {A : Nat → Nat → Nat} (C : Cx l K Γ RX9 cX9_cancel 5 (some .int) 6) (Y : RS) (x1 : Int32) (x2 : Int32) : G l K Γ (ro_W K A Y) 69 5 [(0, .ref (A 4 0)), (1, .int x1), (2, .int x2), (3, .ref (A 0 3))] [] (fun (z : Int32 × RS) => (some (.int z.1), ro_W K A z.2)) (p_X9_cancel_L69 Y x1 x2) := by
  unfold p_X9_cancel_L69
  refine G_aload_n C 3 dX9_cancel_69 rfl ?_
  refine G_iload_n C 1 dX9_cancel_70 rfl ?_
  refine G_iload_n C 2 dX9_cancel_71 rfl ?_
  refine G_callVi C 4 2 kd_X2_lengthOf ui_X2_lengthOf us_X2_lengthOf um_X9_147 rfl rfl (Ct.chunk1 (cs := ro_C K A Y) (cs' := ro_C K A Y) 1 rfl rfl (c_X2_lengthOf l K (A 0) (Y 0) x1 x2)) dX9_cancel_72 rfl rfl (Nat.le_of_ble_eq_true rfl) (Nat.le_of_ble_eq_true rfl) ?_
  refine G_istore (lv' := [(4, .int (v_X2_lengthOf (Y 0) x1 x2)), (0, .ref (A 4 0)), (1, .int x1), (2, .int x2), (3, .ref (A 0 3))]) C dX9_cancel_75 (by decide) rfl ?_
  refine G_aload_n C 4 dX9_cancel_77 rfl ?_
  refine G_iload_n C 2 dX9_cancel_78 rfl ?_
  refine G_iload_n C 3 dX9_cancel_79 rfl ?_
  refine G_callVv C 4 2 kd_X2_removeLetter ui_X2_removeLetter us_X2_removeLetter um_X9_151 rfl rfl (Ct.chunk1 (cs := ro_C K A Y) (cs' := ro_C K A (yU Y 0 (s_X2_removeLetter (Y 0) x1 x2))) 1 rfl (ro_u0 K A Y _) (c_X2_removeLetter l K (A 0) (Y 0) x1 x2)) dX9_cancel_80 rfl rfl (Nat.le_of_ble_eq_true rfl) (Nat.le_of_ble_eq_true rfl) ?_
  refine G_sub [1, 2, 3, 4, 0] rfl ?_
  exact g_X9_cancel_L83 C (yU Y 0 (s_X2_removeLetter (Y 0) x1 x2)) x1 x2 (v_X2_lengthOf (Y 0) x1 x2)
def p_X9_cancel_L58 (Y : RS) (x1 : Int32) (x2 : Int32) : Int32 × RS := p_X9_cancel_L69 (s_X0_remember Y) x1 x2
theorem g_X9_cancel_L58 {l : Launch} {K : gK} {Γ : gT} {A : Nat → Nat → Nat} (C : Cx l K Γ RX9 cX9_cancel 5 (some .int) 6) (Y : RS) (x1 : Int32) (x2 : Int32) : G l K Γ (ro_W K A Y) 58 5 [(0, .ref (A 4 0)), (1, .int x1), (2, .int x2), (3, .ref (A 0 3))] [] (fun (z : Int32 × RS) => (some (.int z.1), ro_W K A z.2)) (p_X9_cancel_L58 Y x1 x2) := by
  unfold p_X9_cancel_L58
  refine G_aload_n C 0 dX9_cancel_58 rfl ?_
  refine G_get C 0 1 dX9_cancel_59 inlX9 uf_X9_19 rfl (by decide) rfl rfl rfl ?_
  refine G_aload_n C 0 dX9_cancel_62 rfl ?_
  refine G_get C 0 0 dX9_cancel_63 inlX9 uf_X9_10 rfl (by decide) rfl rfl rfl ?_
  refine G_callVv C 51 0 kd_X0_remember ui_X0_remember us_X0_remember um_X9_114 rfl rfl (c_X0_remember l K A Y) dX9_cancel_66 rfl rfl (Nat.le_of_ble_eq_true rfl) (Nat.le_of_ble_eq_true rfl) ?_
  refine G_sub [0, 1, 2, 3] rfl ?_
  exact g_X9_cancel_L69 C (s_X0_remember Y) x1 x2
def p_X9_cancel (Y : RS) (x1 : Int32) (x2 : Int32) : Int32 × RS := if (v_X2_has (Y 0) x1) = 0 then (-1, Y) else if x2 < 0 then (-1, Y) else if x2 < (at_ 10 (Y 0 7) x1) then if x2 = 0 then if 0 < (v_X8_leftAt (Y 0) x1) then (-4, Y) else p_X9_cancel_L58 Y x1 x2 else p_X9_cancel_L58 Y x1 x2 else (-2, Y)
theorem c_X9_cancel (l : Launch) (K : gK) (A : Nat → Nat → Nat) (Y : RS) (x1 : Int32) (x2 : Int32) : Ct l K yX9_cancel cX9_cancel 5 (some .int) 6 [.ref (A 4 0), .int x1, .int x2] (ro_W K A Y) (some (.int (p_X9_cancel Y x1 x2).1), ro_W K A ((p_X9_cancel Y x1 x2).2)) := by
  refine Ct.of (own := RX9) (fun (z : Int32 × RS) => (some (.int z.1), ro_W K A z.2)) (x := p_X9_cancel Y x1 x2) (by decide) rfl (Nat.le_of_ble_eq_true rfl) (fun Γ C => ?_)
  unfold p_X9_cancel
  refine G_aload_n C 0 dX9_cancel_0 rfl ?_
  refine G_get C 0 0 dX9_cancel_1 inlX9 uf_X9_10 rfl (by decide) rfl rfl rfl ?_
  refine G_get C 1 2 dX9_cancel_4 inlX6 uf_X9_89 rfl (by decide) rfl rfl rfl ?_
  refine G_astore_n (lv' := [(3, .ref (A 0 3)), (0, .ref (A 4 0)), (1, .int x1), (2, .int x2)]) C dX9_cancel_7 (by decide) rfl ?_
  refine G_aload_n C 0 dX9_cancel_8 rfl ?_
  refine G_iload_n C 2 dX9_cancel_9 rfl ?_
  refine G_callVi C 4 2 kd_X2_has ui_X2_has us_X2_has um_X9_98 rfl rfl (Ct.chunk1 (cs := ro_C K A Y) (cs' := ro_C K A Y) 1 rfl rfl (c_X2_has l K (A 0) (Y 0) x1)) dX9_cancel_10 rfl rfl (Nat.le_of_ble_eq_true rfl) (Nat.le_of_ble_eq_true rfl) ?_
  refine G_if_eq C 20 dX9_cancel_13 rfl (fun h1 => ?_) (fun h1 => ?_)
  · refine G_iconst C dX9_cancel_20 (v := -1) rfl ?_
    exact G_iret C dX9_cancel_21 rfl
  · refine G_iload_n C 3 dX9_cancel_16 rfl ?_
    refine G_if_ge C 22 dX9_cancel_17 rfl (fun h2 => ?_) (fun h2 => ?_)
    · refine G_iconst C dX9_cancel_20 (v := -1) rfl ?_
      exact G_iret C dX9_cancel_21 rfl
    · refine G_iload_n C 3 dX9_cancel_22 rfl ?_
      refine G_aload_n C 0 dX9_cancel_23 rfl ?_
      refine G_get C 4 5 dX9_cancel_24 inlX2 uf_X9_106 rfl (by decide) rfl rfl rfl ?_
      refine G_iload_n C 2 dX9_cancel_27 rfl ?_
      refine G_callSi C kd_X9_at ut_X9_at um_X9_110 (c_at l K (ws := ro_W K A Y) (q0 := 10) (n := 10) (g := Y 0 7) (ad := (A 0 9)) (by decide) rfl x1) dX9_cancel_28 rfl rfl (Nat.le_of_ble_eq_true rfl) (Nat.le_of_ble_eq_true rfl) ?_
      refine G_icmp_lt C 37 dX9_cancel_31 rfl (fun h3 => ?_) (fun h3 => ?_)
      · refine G_iload_n C 3 dX9_cancel_37 rfl ?_
        refine G_if_ne C 58 dX9_cancel_38 rfl (fun h4 => ?_) (fun h4 => ?_)
        · refine G_aload_n C 1 dX9_cancel_41 rfl ?_
          refine G_get C 0 0 dX9_cancel_42 inlX9 uf_X9_10 rfl (by decide) rfl rfl rfl ?_
          refine G_get C 1 3 dX9_cancel_45 inlX6 uf_X9_137 rfl (by decide) rfl rfl rfl ?_
          refine G_iload_n C 2 dX9_cancel_48 rfl ?_
          refine G_callVi C 13 8 kd_X8_leftAt ui_X8_leftAt us_X8_leftAt um_X9_141 rfl rfl (Ct.chunk1 (cs := ro_C K A Y) (cs' := ro_C K A Y) 1 rfl rfl (c_X8_leftAt l K (A 0) (Y 0) x1)) dX9_cancel_49 rfl rfl (Nat.le_of_ble_eq_true rfl) (Nat.le_of_ble_eq_true rfl) ?_
          refine G_if_le C 58 dX9_cancel_52 rfl (fun h5 => ?_) (fun h5 => ?_)
          · refine G_bipush C dX9_cancel_55 (v := -4) rfl ?_
            exact G_iret C dX9_cancel_57 rfl
          · refine G_sub [1, 2, 3, 0] rfl ?_
            exact g_X9_cancel_L58 C Y x1 x2
        · refine G_sub [1, 2, 3, 0] rfl ?_
          exact g_X9_cancel_L58 C Y x1 x2
      · refine G_bipush C dX9_cancel_34 (v := -2) rfl ?_
        exact G_iret C dX9_cancel_36 rfl
/-! X9_shut -/
theorem kd_X9_shut : Card yX9_shut cX9_shut 4 (some .int) 2 := ⟨uc_X9_shut, un_X9, ⟨by decide, by decide, by decide⟩, by decide⟩
def p_X9_shut_L79 (Y : RS) (x1 : Int32) (x2 : Int32) (x3 : Int32) : Int32 × RS := ((at_ 9 (Y 0 1) 6) - x3, Y)
theorem g_X9_shut_L79 {l : Launch} {K : gK} {Γ : gT} {A : Nat → Nat → Nat} (C : Cx l K Γ RX9 cX9_shut 4 (some .int) 6) (Y : RS) (x1 : Int32) (x2 : Int32) (x3 : Int32) : G l K Γ (ro_W K A Y) 79 4 [(0, .ref (A 4 0)), (1, .int x1), (2, .int x2), (3, .int x3)] [] (fun (z : Int32 × RS) => (some (.int z.1), ro_W K A z.2)) (p_X9_shut_L79 Y x1 x2 x3) := by
  unfold p_X9_shut_L79
  refine G_aload_n C 0 dX9_shut_79 rfl ?_
  refine G_get C 0 0 dX9_shut_80 inlX9 uf_X9_10 rfl (by decide) rfl rfl rfl ?_
  refine G_get C 1 1 dX9_shut_83 inlX6 uf_X9_121 rfl (by decide) rfl rfl rfl ?_
  refine G_bipush C dX9_shut_86 (v := 6) rfl ?_
  refine G_callSi C kd_X9_at ut_X9_at um_X9_110 (c_at l K (ws := ro_W K A Y) (q0 := 3) (n := 9) (g := Y 0 1) (ad := (A 0 2)) (by decide) rfl 6) dX9_shut_88 rfl rfl (Nat.le_of_ble_eq_true rfl) (Nat.le_of_ble_eq_true rfl) ?_
  refine G_iload_n C 3 dX9_shut_91 rfl ?_
  refine G_isub C dX9_shut_92 ?_
  exact G_iret C dX9_shut_93 rfl
def p_X9_shut_L57 (Y : RS) (x1 : Int32) (x2 : Int32) : Int32 × RS := p_X9_shut_L79 (yU Y 0 (s_X6_shutOrOpen (Y 0) x1 x2)) x1 x2 (at_ 9 (Y 0 1) 6)
theorem g_X9_shut_L57 {l : Launch} {K : gK} {Γ : gT} {A : Nat → Nat → Nat} (C : Cx l K Γ RX9 cX9_shut 4 (some .int) 6) (Y : RS) (x1 : Int32) (x2 : Int32) : G l K Γ (ro_W K A Y) 57 4 [(0, .ref (A 4 0)), (1, .int x1), (2, .int x2)] [] (fun (z : Int32 × RS) => (some (.int z.1), ro_W K A z.2)) (p_X9_shut_L57 Y x1 x2) := by
  unfold p_X9_shut_L57
  refine G_aload_n C 0 dX9_shut_57 rfl ?_
  refine G_get C 0 0 dX9_shut_58 inlX9 uf_X9_10 rfl (by decide) rfl rfl rfl ?_
  refine G_get C 1 1 dX9_shut_61 inlX6 uf_X9_121 rfl (by decide) rfl rfl rfl ?_
  refine G_bipush C dX9_shut_64 (v := 6) rfl ?_
  refine G_callSi C kd_X9_at ut_X9_at um_X9_110 (c_at l K (ws := ro_W K A Y) (q0 := 3) (n := 9) (g := Y 0 1) (ad := (A 0 2)) (by decide) rfl 6) dX9_shut_66 rfl rfl (Nat.le_of_ble_eq_true rfl) (Nat.le_of_ble_eq_true rfl) ?_
  refine G_istore_n (lv' := [(3, .int (at_ 9 (Y 0 1) 6)), (0, .ref (A 4 0)), (1, .int x1), (2, .int x2)]) C dX9_shut_69 (by decide) rfl ?_
  refine G_aload_n C 1 dX9_shut_70 rfl ?_
  refine G_get C 0 0 dX9_shut_71 inlX9 uf_X9_10 rfl (by decide) rfl rfl rfl ?_
  refine G_iload_n C 2 dX9_shut_74 rfl ?_
  refine G_iload_n C 3 dX9_shut_75 rfl ?_
  refine G_callVv C 1 6 kd_X6_shutOrOpen ui_X6_shutOrOpen us_X6_shutOrOpen um_X9_158 rfl rfl (Ct.chunk1 (cs := ro_C K A Y) (cs' := ro_C K A (yU Y 0 (s_X6_shutOrOpen (Y 0) x1 x2))) 1 rfl (ro_u0 K A Y _) (c_X6_shutOrOpen l K (A 0) (Y 0) x1 x2)) dX9_shut_76 rfl rfl (Nat.le_of_ble_eq_true rfl) (Nat.le_of_ble_eq_true rfl) ?_
  refine G_sub [1, 2, 3, 0] rfl ?_
  exact g_X9_shut_L79 C (yU Y 0 (s_X6_shutOrOpen (Y 0) x1 x2)) x1 x2 (at_ 9 (Y 0 1) 6)
def p_X9_shut (Y : RS) (x1 : Int32) (x2 : Int32) : Int32 × RS := if (v_X2_has (Y 0) x1) = 0 then (-1, Y) else if (v_X9_isWithin x2 0 1) = 0 then (-1, Y) else if (at_ 10 (Y 0 4) x1) = x2 then (-2, Y) else p_X9_shut_L57 (s_X0_remember Y) x1 x2
theorem c_X9_shut (l : Launch) (K : gK) (A : Nat → Nat → Nat) (Y : RS) (x1 : Int32) (x2 : Int32) : Ct l K yX9_shut cX9_shut 4 (some .int) 6 [.ref (A 4 0), .int x1, .int x2] (ro_W K A Y) (some (.int (p_X9_shut Y x1 x2).1), ro_W K A ((p_X9_shut Y x1 x2).2)) := by
  refine Ct.of (own := RX9) (fun (z : Int32 × RS) => (some (.int z.1), ro_W K A z.2)) (x := p_X9_shut Y x1 x2) (by decide) rfl (Nat.le_of_ble_eq_true rfl) (fun Γ C => ?_)
  unfold p_X9_shut
  refine G_aload_n C 0 dX9_shut_0 rfl ?_
  refine G_get C 0 0 dX9_shut_1 inlX9 uf_X9_10 rfl (by decide) rfl rfl rfl ?_
  refine G_get C 1 2 dX9_shut_4 inlX6 uf_X9_89 rfl (by decide) rfl rfl rfl ?_
  refine G_iload_n C 1 dX9_shut_7 rfl ?_
  refine G_callVi C 4 2 kd_X2_has ui_X2_has us_X2_has um_X9_98 rfl rfl (Ct.chunk1 (cs := ro_C K A Y) (cs' := ro_C K A Y) 1 rfl rfl (c_X2_has l K (A 0) (Y 0) x1)) dX9_shut_8 rfl rfl (Nat.le_of_ble_eq_true rfl) (Nat.le_of_ble_eq_true rfl) ?_
  refine G_if_eq C 23 dX9_shut_11 rfl (fun h1 => ?_) (fun h1 => ?_)
  · refine G_iconst C dX9_shut_23 (v := -1) rfl ?_
    exact G_iret C dX9_shut_24 rfl
  · refine G_iload_n C 2 dX9_shut_14 rfl ?_
    refine G_iconst C dX9_shut_15 (v := 0) rfl ?_
    refine G_iconst C dX9_shut_16 (v := 1) rfl ?_
    refine G_callSi C kd_X9_isWithin ut_X9_isWithin um_X9_102 (c_X9_isWithin l K (ro_W K A Y) x2 0 1) dX9_shut_17 rfl rfl (Nat.le_of_ble_eq_true rfl) (Nat.le_of_ble_eq_true rfl) ?_
    refine G_if_ne C 25 dX9_shut_20 rfl (fun h2 => ?_) (fun h2 => ?_)
    · refine G_iconst C dX9_shut_23 (v := -1) rfl ?_
      exact G_iret C dX9_shut_24 rfl
    · refine G_aload_n C 0 dX9_shut_25 rfl ?_
      refine G_get C 0 0 dX9_shut_26 inlX9 uf_X9_10 rfl (by decide) rfl rfl rfl ?_
      refine G_get C 1 2 dX9_shut_29 inlX6 uf_X9_89 rfl (by decide) rfl rfl rfl ?_
      refine G_get C 4 2 dX9_shut_32 inlX2 uf_X9_155 rfl (by decide) rfl rfl rfl ?_
      refine G_iload_n C 1 dX9_shut_35 rfl ?_
      refine G_callSi C kd_X9_at ut_X9_at um_X9_110 (c_at l K (ws := ro_W K A Y) (q0 := 7) (n := 10) (g := Y 0 4) (ad := (A 0 6)) (by decide) rfl x1) dX9_shut_36 rfl rfl (Nat.le_of_ble_eq_true rfl) (Nat.le_of_ble_eq_true rfl) ?_
      refine G_iload_n C 2 dX9_shut_39 rfl ?_
      refine G_icmp_ne C 46 dX9_shut_40 rfl (fun h3 => ?_) (fun h3 => ?_)
      · refine G_bipush C dX9_shut_43 (v := -2) rfl ?_
        exact G_iret C dX9_shut_45 rfl
      · refine G_aload_n C 0 dX9_shut_46 rfl ?_
        refine G_get C 0 1 dX9_shut_47 inlX9 uf_X9_19 rfl (by decide) rfl rfl rfl ?_
        refine G_aload_n C 0 dX9_shut_50 rfl ?_
        refine G_get C 0 0 dX9_shut_51 inlX9 uf_X9_10 rfl (by decide) rfl rfl rfl ?_
        refine G_callVv C 51 0 kd_X0_remember ui_X0_remember us_X0_remember um_X9_114 rfl rfl (c_X0_remember l K A Y) dX9_shut_54 rfl rfl (Nat.le_of_ble_eq_true rfl) (Nat.le_of_ble_eq_true rfl) ?_
        refine G_sub [0, 1, 2] rfl ?_
        exact g_X9_shut_L57 C (s_X0_remember Y) x1 x2
/-! X9_lose -/
theorem kd_X9_lose : Card yX9_lose cX9_lose 3 (some .int) 1 := ⟨uc_X9_lose, un_X9, ⟨by decide, by decide, by decide⟩, by decide⟩
def p_X9_lose_L27 (Y : RS) (x1 : Int32) : Int32 × RS := (at_ 3 (Y 0 10) x1, yU Y 0 (s_X6_loseToken (Y 0) x1))
theorem g_X9_lose_L27 {l : Launch} {K : gK} {Γ : gT} {A : Nat → Nat → Nat} (C : Cx l K Γ RX9 cX9_lose 3 (some .int) 6) (Y : RS) (x1 : Int32) : G l K Γ (ro_W K A Y) 27 3 [(0, .ref (A 4 0)), (1, .int x1)] [] (fun (z : Int32 × RS) => (some (.int z.1), ro_W K A z.2)) (p_X9_lose_L27 Y x1) := by
  unfold p_X9_lose_L27
  refine G_aload_n C 0 dX9_lose_27 rfl ?_
  refine G_get C 0 0 dX9_lose_28 inlX9 uf_X9_10 rfl (by decide) rfl rfl rfl ?_
  refine G_get C 1 3 dX9_lose_31 inlX6 uf_X9_137 rfl (by decide) rfl rfl rfl ?_
  refine G_get C 13 0 dX9_lose_34 inlX8 uf_X9_162 rfl (by decide) rfl rfl rfl ?_
  refine G_iload_n C 1 dX9_lose_37 rfl ?_
  refine G_callSi C kd_X9_at ut_X9_at um_X9_110 (c_at l K (ws := ro_W K A Y) (q0 := 14) (n := 3) (g := Y 0 10) (ad := (A 0 13)) (by decide) rfl x1) dX9_lose_38 rfl rfl (Nat.le_of_ble_eq_true rfl) (Nat.le_of_ble_eq_true rfl) ?_
  refine G_istore_n (lv' := [(2, .int (at_ 3 (Y 0 10) x1)), (0, .ref (A 4 0)), (1, .int x1)]) C dX9_lose_41 (by decide) rfl ?_
  refine G_aload_n C 1 dX9_lose_42 rfl ?_
  refine G_get C 0 0 dX9_lose_43 inlX9 uf_X9_10 rfl (by decide) rfl rfl rfl ?_
  refine G_iload_n C 2 dX9_lose_46 rfl ?_
  refine G_callVv C 1 6 kd_X6_loseToken ui_X6_loseToken us_X6_loseToken um_X9_165 rfl rfl (Ct.chunk1 (cs := ro_C K A Y) (cs' := ro_C K A (yU Y 0 (s_X6_loseToken (Y 0) x1))) 1 rfl (ro_u0 K A Y _) (c_X6_loseToken l K (A 0) (Y 0) x1)) dX9_lose_47 rfl rfl (Nat.le_of_ble_eq_true rfl) (Nat.le_of_ble_eq_true rfl) ?_
  refine G_iload_n C 0 dX9_lose_50 rfl ?_
  exact G_iret C dX9_lose_51 rfl
def p_X9_lose (Y : RS) (x1 : Int32) : Int32 × RS := if (v_X8_has (Y 0) x1) = 0 then (-1, Y) else p_X9_lose_L27 (s_X0_remember Y) x1
theorem c_X9_lose (l : Launch) (K : gK) (A : Nat → Nat → Nat) (Y : RS) (x1 : Int32) : Ct l K yX9_lose cX9_lose 3 (some .int) 6 [.ref (A 4 0), .int x1] (ro_W K A Y) (some (.int (p_X9_lose Y x1).1), ro_W K A ((p_X9_lose Y x1).2)) := by
  refine Ct.of (own := RX9) (fun (z : Int32 × RS) => (some (.int z.1), ro_W K A z.2)) (x := p_X9_lose Y x1) (by decide) rfl (Nat.le_of_ble_eq_true rfl) (fun Γ C => ?_)
  unfold p_X9_lose
  refine G_aload_n C 0 dX9_lose_0 rfl ?_
  refine G_get C 0 0 dX9_lose_1 inlX9 uf_X9_10 rfl (by decide) rfl rfl rfl ?_
  refine G_get C 1 3 dX9_lose_4 inlX6 uf_X9_137 rfl (by decide) rfl rfl rfl ?_
  refine G_iload_n C 1 dX9_lose_7 rfl ?_
  refine G_callVi C 13 8 kd_X8_has ui_X8_has us_X8_has um_X9_161 rfl rfl (Ct.chunk1 (cs := ro_C K A Y) (cs' := ro_C K A Y) 1 rfl rfl (c_X8_has l K (A 0) (Y 0) x1)) dX9_lose_8 rfl rfl (Nat.le_of_ble_eq_true rfl) (Nat.le_of_ble_eq_true rfl) ?_
  refine G_if_ne C 16 dX9_lose_11 rfl (fun h1 => ?_) (fun h1 => ?_)
  · refine G_iconst C dX9_lose_14 (v := -1) rfl ?_
    exact G_iret C dX9_lose_15 rfl
  · refine G_aload_n C 0 dX9_lose_16 rfl ?_
    refine G_get C 0 1 dX9_lose_17 inlX9 uf_X9_19 rfl (by decide) rfl rfl rfl ?_
    refine G_aload_n C 0 dX9_lose_20 rfl ?_
    refine G_get C 0 0 dX9_lose_21 inlX9 uf_X9_10 rfl (by decide) rfl rfl rfl ?_
    refine G_callVv C 51 0 kd_X0_remember ui_X0_remember us_X0_remember um_X9_114 rfl rfl (c_X0_remember l K A Y) dX9_lose_24 rfl rfl (Nat.le_of_ble_eq_true rfl) (Nat.le_of_ble_eq_true rfl) ?_
    refine G_sub [0, 1] rfl ?_
    exact g_X9_lose_L27 C (s_X0_remember Y) x1
/-! X9_stray -/
theorem kd_X9_stray : Card yX9_stray cX9_stray 3 (some .int) 1 := ⟨uc_X9_stray, un_X9, ⟨by decide, by decide, by decide⟩, by decide⟩
def p_X9_stray_L97 (Y : RS) (x1 : Int32) (x2 : Int32) : Int32 × RS := (x2, yU Y 0 (s_X6_tearUpWhereTwoMeet (Y 0)))
theorem g_X9_stray_L97 {l : Launch} {K : gK} {Γ : gT} {A : Nat → Nat → Nat} (C : Cx l K Γ RX9 cX9_stray 3 (some .int) 6) (Y : RS) (x1 : Int32) (x2 : Int32) : G l K Γ (ro_W K A Y) 97 3 [(0, .ref (A 4 0)), (1, .int x1), (2, .int x2)] [] (fun (z : Int32 × RS) => (some (.int z.1), ro_W K A z.2)) (p_X9_stray_L97 Y x1 x2) := by
  unfold p_X9_stray_L97
  refine G_aload_n C 0 dX9_stray_97 rfl ?_
  refine G_get C 0 0 dX9_stray_98 inlX9 uf_X9_10 rfl (by decide) rfl rfl rfl ?_
  refine G_callVv C 1 6 kd_X6_tearUpWhereTwoMeet ui_X6_tearUpWhereTwoMeet us_X6_tearUpWhereTwoMeet um_X9_177 rfl rfl (Ct.chunk1 (cs := ro_C K A Y) (cs' := ro_C K A (yU Y 0 (s_X6_tearUpWhereTwoMeet (Y 0)))) 1 rfl (ro_u0 K A Y _) (c_X6_tearUpWhereTwoMeet l K (A 0) (Y 0))) dX9_stray_101 rfl rfl (Nat.le_of_ble_eq_true rfl) (Nat.le_of_ble_eq_true rfl) ?_
  refine G_iload_n C 2 dX9_stray_104 rfl ?_
  exact G_iret C dX9_stray_105 rfl
def p_X9_stray_L72 (Y : RS) (x1 : Int32) : Int32 × RS := p_X9_stray_L97 (yU Y 0 (s_X1_add (Y 0) 6 (Y 0 18 4) x1)) x1 (Y 0 18 4)
theorem g_X9_stray_L72 {l : Launch} {K : gK} {Γ : gT} {A : Nat → Nat → Nat} (C : Cx l K Γ RX9 cX9_stray 3 (some .int) 6) (Y : RS) (x1 : Int32) : G l K Γ (ro_W K A Y) 72 3 [(0, .ref (A 4 0)), (1, .int x1)] [] (fun (z : Int32 × RS) => (some (.int z.1), ro_W K A z.2)) (p_X9_stray_L72 Y x1) := by
  unfold p_X9_stray_L72
  refine G_aload_n C 0 dX9_stray_72 rfl ?_
  refine G_get C 0 0 dX9_stray_73 inlX9 uf_X9_10 rfl (by decide) rfl rfl rfl ?_
  refine G_get C 1 3 dX9_stray_76 inlX6 uf_X9_137 rfl (by decide) rfl rfl rfl ?_
  refine G_get C 13 6 dX9_stray_79 inlX8 uf_X9_174 rfl (by decide) rfl rfl rfl ?_
  refine G_istore_n (lv' := [(2, .int (Y 0 18 4)), (0, .ref (A 4 0)), (1, .int x1)]) C dX9_stray_82 (by decide) rfl ?_
  refine G_aload_n C 1 dX9_stray_83 rfl ?_
  refine G_get C 0 0 dX9_stray_84 inlX9 uf_X9_10 rfl (by decide) rfl rfl rfl ?_
  refine G_get C 1 4 dX9_stray_87 inlX6 uf_X9_128 rfl (by decide) rfl rfl rfl ?_
  refine G_bipush C dX9_stray_90 (v := 6) rfl ?_
  refine G_iload_n C 0 dX9_stray_92 rfl ?_
  refine G_iload_n C 2 dX9_stray_93 rfl ?_
  refine G_callVv C 19 1 kd_X1_add ui_X1_add us_X1_add um_X9_132 rfl rfl (Ct.chunk1 (cs := ro_C K A Y) (cs' := ro_C K A (yU Y 0 (s_X1_add (Y 0) 6 (Y 0 18 4) x1))) 1 rfl (ro_u0 K A Y _) (c_X1_add l K (A 0) (Y 0) 6 (Y 0 18 4) x1)) dX9_stray_94 rfl rfl (Nat.le_of_ble_eq_true rfl) (Nat.le_of_ble_eq_true rfl) ?_
  refine G_sub [1, 2, 0] rfl ?_
  exact g_X9_stray_L97 C (yU Y 0 (s_X1_add (Y 0) 6 (Y 0 18 4) x1)) x1 (Y 0 18 4)
def p_X9_stray_L61 (Y : RS) (x1 : Int32) : Int32 × RS := p_X9_stray_L72 (yU Y 0 (s_X8_add (Y 0) x1)) x1
theorem g_X9_stray_L61 {l : Launch} {K : gK} {Γ : gT} {A : Nat → Nat → Nat} (C : Cx l K Γ RX9 cX9_stray 3 (some .int) 6) (Y : RS) (x1 : Int32) : G l K Γ (ro_W K A Y) 61 3 [(0, .ref (A 4 0)), (1, .int x1)] [] (fun (z : Int32 × RS) => (some (.int z.1), ro_W K A z.2)) (p_X9_stray_L61 Y x1) := by
  unfold p_X9_stray_L61
  refine G_aload_n C 0 dX9_stray_61 rfl ?_
  refine G_get C 0 0 dX9_stray_62 inlX9 uf_X9_10 rfl (by decide) rfl rfl rfl ?_
  refine G_get C 1 3 dX9_stray_65 inlX6 uf_X9_137 rfl (by decide) rfl rfl rfl ?_
  refine G_iload_n C 1 dX9_stray_68 rfl ?_
  refine G_callVv C 13 8 kd_X8_add ui_X8_add us_X8_add um_X9_172 rfl rfl (Ct.chunk1 (cs := ro_C K A Y) (cs' := ro_C K A (yU Y 0 (s_X8_add (Y 0) x1))) 1 rfl (ro_u0 K A Y _) (c_X8_add l K (A 0) (Y 0) x1)) dX9_stray_69 rfl rfl (Nat.le_of_ble_eq_true rfl) (Nat.le_of_ble_eq_true rfl) ?_
  refine G_sub [0, 1] rfl ?_
  exact g_X9_stray_L72 C (yU Y 0 (s_X8_add (Y 0) x1)) x1
def p_X9_stray (Y : RS) (x1 : Int32) : Int32 × RS := if (v_X2_has (Y 0) x1) = 0 then (-1, Y) else if (v_X2_isOpen (Y 0) x1) = 0 then (-4, Y) else if (Y 0 18 3) < 3 then p_X9_stray_L61 (s_X0_remember Y) x1 else (-3, Y)
theorem c_X9_stray (l : Launch) (K : gK) (A : Nat → Nat → Nat) (Y : RS) (x1 : Int32) : Ct l K yX9_stray cX9_stray 3 (some .int) 6 [.ref (A 4 0), .int x1] (ro_W K A Y) (some (.int (p_X9_stray Y x1).1), ro_W K A ((p_X9_stray Y x1).2)) := by
  refine Ct.of (own := RX9) (fun (z : Int32 × RS) => (some (.int z.1), ro_W K A z.2)) (x := p_X9_stray Y x1) (by decide) rfl (Nat.le_of_ble_eq_true rfl) (fun Γ C => ?_)
  unfold p_X9_stray
  refine G_aload_n C 0 dX9_stray_0 rfl ?_
  refine G_get C 0 0 dX9_stray_1 inlX9 uf_X9_10 rfl (by decide) rfl rfl rfl ?_
  refine G_get C 1 2 dX9_stray_4 inlX6 uf_X9_89 rfl (by decide) rfl rfl rfl ?_
  refine G_iload_n C 1 dX9_stray_7 rfl ?_
  refine G_callVi C 4 2 kd_X2_has ui_X2_has us_X2_has um_X9_98 rfl rfl (Ct.chunk1 (cs := ro_C K A Y) (cs' := ro_C K A Y) 1 rfl rfl (c_X2_has l K (A 0) (Y 0) x1)) dX9_stray_8 rfl rfl (Nat.le_of_ble_eq_true rfl) (Nat.le_of_ble_eq_true rfl) ?_
  refine G_if_ne C 16 dX9_stray_11 rfl (fun h1 => ?_) (fun h1 => ?_)
  · refine G_iconst C dX9_stray_14 (v := -1) rfl ?_
    exact G_iret C dX9_stray_15 rfl
  · refine G_aload_n C 0 dX9_stray_16 rfl ?_
    refine G_get C 0 0 dX9_stray_17 inlX9 uf_X9_10 rfl (by decide) rfl rfl rfl ?_
    refine G_get C 1 2 dX9_stray_20 inlX6 uf_X9_89 rfl (by decide) rfl rfl rfl ?_
    refine G_iload_n C 1 dX9_stray_23 rfl ?_
    refine G_callVi C 4 2 kd_X2_isOpen ui_X2_isOpen us_X2_isOpen um_X9_168 rfl rfl (Ct.chunk1 (cs := ro_C K A Y) (cs' := ro_C K A Y) 1 rfl rfl (c_X2_isOpen l K (A 0) (Y 0) x1)) dX9_stray_24 rfl rfl (Nat.le_of_ble_eq_true rfl) (Nat.le_of_ble_eq_true rfl) ?_
    refine G_if_ne C 33 dX9_stray_27 rfl (fun h2 => ?_) (fun h2 => ?_)
    · refine G_bipush C dX9_stray_30 (v := -4) rfl ?_
      exact G_iret C dX9_stray_32 rfl
    · refine G_aload_n C 0 dX9_stray_33 rfl ?_
      refine G_get C 0 0 dX9_stray_34 inlX9 uf_X9_10 rfl (by decide) rfl rfl rfl ?_
      refine G_get C 1 3 dX9_stray_37 inlX6 uf_X9_137 rfl (by decide) rfl rfl rfl ?_
      refine G_get C 13 5 dX9_stray_40 inlX8 uf_X9_171 rfl (by decide) rfl rfl rfl ?_
      refine G_iconst C dX9_stray_43 (v := 3) rfl ?_
      refine G_icmp_lt C 50 dX9_stray_44 rfl (fun h3 => ?_) (fun h3 => ?_)
      · refine G_aload_n C 0 dX9_stray_50 rfl ?_
        refine G_get C 0 1 dX9_stray_51 inlX9 uf_X9_19 rfl (by decide) rfl rfl rfl ?_
        refine G_aload_n C 0 dX9_stray_54 rfl ?_
        refine G_get C 0 0 dX9_stray_55 inlX9 uf_X9_10 rfl (by decide) rfl rfl rfl ?_
        refine G_callVv C 51 0 kd_X0_remember ui_X0_remember us_X0_remember um_X9_114 rfl rfl (c_X0_remember l K A Y) dX9_stray_58 rfl rfl (Nat.le_of_ble_eq_true rfl) (Nat.le_of_ble_eq_true rfl) ?_
        refine G_sub [0, 1] rfl ?_
        exact g_X9_stray_L61 C (s_X0_remember Y) x1
      · refine G_bipush C dX9_stray_47 (v := -3) rfl ?_
        exact G_iret C dX9_stray_49 rfl
/-! X9_minute -/
theorem kd_X9_minute : Card yX9_minute cX9_minute 4 (some .int) 1 := ⟨uc_X9_minute, un_X9, ⟨by decide, by decide, by decide⟩, by decide⟩
def p_X9_minute_L55 : Nat → RS → Int32 → Int32 → Int32 → Int32 × RS
  | 0, Y, _, _, _ => (0, Y)
  | fuel + 1, Y, x1, x2, x3 => if x3 < x1 then p_X9_minute_L55 fuel (yU Y 0 (s_X6_passMinute (Y 0))) x1 x2 (x3 + 1) else ((at_ 9 (Y 0 1) 1) - x2, Y)
theorem g_X9_minute_L55 {l : Launch} {K : gK} {Γ : gT} {A : Nat → Nat → Nat} (C : Cx l K Γ RX9 cX9_minute 4 (some .int) 6) : ∀ (n : Nat) (Y : RS) (x1 : Int32) (x2 : Int32) (x3 : Int32), mu x3 < n → G l K Γ (ro_W K A Y) 55 4 [(0, .ref (A 4 0)), (1, .int x1), (2, .int x2), (3, .int x3)] [] (fun (z : Int32 × RS) => (some (.int z.1), ro_W K A z.2)) (p_X9_minute_L55 n Y x1 x2 x3) := by
  intro n
  induction n with
  | zero =>
    intro Y x1 x2 x3 hm
    exact absurd hm (Nat.not_lt_zero _)
  | succ n ih =>
    intro Y x1 x2 x3 hm
    rw [p_X9_minute_L55]
    refine G_iload_n C 3 dX9_minute_55 rfl ?_
    refine G_iload_n C 1 dX9_minute_56 rfl ?_
    refine G_icmp_ge C 73 dX9_minute_57 rfl (fun h3 => ?_) (fun h3 => ?_)
    · refine G_aload_n C 0 dX9_minute_60 rfl ?_
      refine G_get C 0 0 dX9_minute_61 inlX9 uf_X9_10 rfl (by decide) rfl rfl rfl ?_
      refine G_callVv C 1 6 kd_X6_passMinute ui_X6_passMinute us_X6_passMinute um_X9_183 rfl rfl (Ct.chunk1 (cs := ro_C K A Y) (cs' := ro_C K A (yU Y 0 (s_X6_passMinute (Y 0)))) 1 rfl (ro_u0 K A Y _) (c_X6_passMinute l K (A 0) (Y 0))) dX9_minute_64 rfl rfl (Nat.le_of_ble_eq_true rfl) (Nat.le_of_ble_eq_true rfl) ?_
      refine G_iinc (lv' := [(3, .int (x3 + 1)), (0, .ref (A 4 0)), (1, .int x1), (2, .int x2)]) C 3 dX9_minute_67 rfl rfl (by decide) rfl ?_
      refine G_goto C 55 dX9_minute_70 rfl ?_
      refine G_sub [1, 2, 3, 0] rfl ?_
      exact ih (yU Y 0 (s_X6_passMinute (Y 0))) x1 x2 (x3 + 1) (by have := mu_up h3; omega)
    · refine G_aload_n C 0 dX9_minute_73 rfl ?_
      refine G_get C 0 0 dX9_minute_74 inlX9 uf_X9_10 rfl (by decide) rfl rfl rfl ?_
      refine G_get C 1 1 dX9_minute_77 inlX6 uf_X9_121 rfl (by decide) rfl rfl rfl ?_
      refine G_iconst C dX9_minute_80 (v := 1) rfl ?_
      refine G_callSi C kd_X9_at ut_X9_at um_X9_110 (c_at l K (ws := ro_W K A Y) (q0 := 3) (n := 9) (g := Y 0 1) (ad := (A 0 2)) (by decide) rfl 1) dX9_minute_81 rfl rfl (Nat.le_of_ble_eq_true rfl) (Nat.le_of_ble_eq_true rfl) ?_
      refine G_iload_n C 2 dX9_minute_84 rfl ?_
      refine G_isub C dX9_minute_85 ?_
      exact G_iret C dX9_minute_86 rfl
def p_X9_minute_L41 (Y : RS) (x1 : Int32) : Int32 × RS := p_X9_minute_L55 (mu 0 + 1) Y x1 (at_ 9 (Y 0 1) 1) 0
theorem g_X9_minute_L41 {l : Launch} {K : gK} {Γ : gT} {A : Nat → Nat → Nat} (C : Cx l K Γ RX9 cX9_minute 4 (some .int) 6) (Y : RS) (x1 : Int32) : G l K Γ (ro_W K A Y) 41 4 [(0, .ref (A 4 0)), (1, .int x1)] [] (fun (z : Int32 × RS) => (some (.int z.1), ro_W K A z.2)) (p_X9_minute_L41 Y x1) := by
  unfold p_X9_minute_L41
  refine G_aload_n C 0 dX9_minute_41 rfl ?_
  refine G_get C 0 0 dX9_minute_42 inlX9 uf_X9_10 rfl (by decide) rfl rfl rfl ?_
  refine G_get C 1 1 dX9_minute_45 inlX6 uf_X9_121 rfl (by decide) rfl rfl rfl ?_
  refine G_iconst C dX9_minute_48 (v := 1) rfl ?_
  refine G_callSi C kd_X9_at ut_X9_at um_X9_110 (c_at l K (ws := ro_W K A Y) (q0 := 3) (n := 9) (g := Y 0 1) (ad := (A 0 2)) (by decide) rfl 1) dX9_minute_49 rfl rfl (Nat.le_of_ble_eq_true rfl) (Nat.le_of_ble_eq_true rfl) ?_
  refine G_istore_n (lv' := [(2, .int (at_ 9 (Y 0 1) 1)), (0, .ref (A 4 0)), (1, .int x1)]) C dX9_minute_52 (by decide) rfl ?_
  refine G_iconst C dX9_minute_53 (v := 0) rfl ?_
  refine G_istore_n (lv' := [(3, .int 0), (2, .int (at_ 9 (Y 0 1) 1)), (0, .ref (A 4 0)), (1, .int x1)]) C dX9_minute_54 (by decide) rfl ?_
  refine G_sub [2, 3, 1, 0] rfl ?_
  exact g_X9_minute_L55 C _ Y x1 (at_ 9 (Y 0 1) 1) 0 (Nat.lt_succ_self _)
def p_X9_minute (Y : RS) (x1 : Int32) : Int32 × RS := if (v_X9_isWithin x1 1 100) = 0 then (-1, Y) else if (9999 - x1) < (Y 0 18 0) then (-3, Y) else p_X9_minute_L41 (s_X0_remember Y) x1
theorem c_X9_minute (l : Launch) (K : gK) (A : Nat → Nat → Nat) (Y : RS) (x1 : Int32) : Ct l K yX9_minute cX9_minute 4 (some .int) 6 [.ref (A 4 0), .int x1] (ro_W K A Y) (some (.int (p_X9_minute Y x1).1), ro_W K A ((p_X9_minute Y x1).2)) := by
  refine Ct.of (own := RX9) (fun (z : Int32 × RS) => (some (.int z.1), ro_W K A z.2)) (x := p_X9_minute Y x1) (by decide) rfl (Nat.le_of_ble_eq_true rfl) (fun Γ C => ?_)
  unfold p_X9_minute
  refine G_iload_n C 1 dX9_minute_0 rfl ?_
  refine G_iconst C dX9_minute_1 (v := 1) rfl ?_
  refine G_bipush C dX9_minute_2 (v := 100) rfl ?_
  refine G_callSi C kd_X9_isWithin ut_X9_isWithin um_X9_102 (c_X9_isWithin l K (ro_W K A Y) x1 1 100) dX9_minute_4 rfl rfl (Nat.le_of_ble_eq_true rfl) (Nat.le_of_ble_eq_true rfl) ?_
  refine G_if_ne C 12 dX9_minute_7 rfl (fun h1 => ?_) (fun h1 => ?_)
  · refine G_iconst C dX9_minute_10 (v := -1) rfl ?_
    exact G_iret C dX9_minute_11 rfl
  · refine G_aload_n C 0 dX9_minute_12 rfl ?_
    refine G_get C 0 0 dX9_minute_13 inlX9 uf_X9_10 rfl (by decide) rfl rfl rfl ?_
    refine G_get C 1 5 dX9_minute_16 inlX6 uf_X9_180 rfl (by decide) rfl rfl rfl ?_
    refine G_sipush C dX9_minute_19 (v := 9999) rfl ?_
    refine G_iload_n C 1 dX9_minute_22 rfl ?_
    refine G_isub C dX9_minute_23 ?_
    refine G_icmp_le C 30 dX9_minute_24 rfl (fun h2 => ?_) (fun h2 => ?_)
    · refine G_bipush C dX9_minute_27 (v := -3) rfl ?_
      exact G_iret C dX9_minute_29 rfl
    · refine G_aload_n C 0 dX9_minute_30 rfl ?_
      refine G_get C 0 1 dX9_minute_31 inlX9 uf_X9_19 rfl (by decide) rfl rfl rfl ?_
      refine G_aload_n C 0 dX9_minute_34 rfl ?_
      refine G_get C 0 0 dX9_minute_35 inlX9 uf_X9_10 rfl (by decide) rfl rfl rfl ?_
      refine G_callVv C 51 0 kd_X0_remember ui_X0_remember us_X0_remember um_X9_114 rfl rfl (c_X0_remember l K A Y) dX9_minute_38 rfl rfl (Nat.le_of_ble_eq_true rfl) (Nat.le_of_ble_eq_true rfl) ?_
      refine G_sub [0, 1] rfl ?_
      exact g_X9_minute_L41 C (s_X0_remember Y) x1
