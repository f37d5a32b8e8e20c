-- PART 07, go on (by gen/mkro.py)
/-! X9_set -/
theorem kd_X9_set : Card yX9_set cX9_set 6 (some .int) 3 := ⟨uc_X9_set, un_X9, ⟨by decide, by decide, by decide⟩, by decide⟩
def p_X9_set (Y : RS) (x1 : Int32) (x2 : Int32) (x3 : Int32) : Int32 × RS := if (v_X2_has (Y 0) x1) = 0 then (-1, Y) else if (v_X9_isWithin x2 0 1) = 0 then (-1, Y) else if x2 = 0 then if (v_X9_isWithin x3 1 9) = 0 then (-1, Y) else if x2 = 0 then if (at_ 10 (Y 0 2) x1) = x3 then (-2, Y) else if x2 = 1 then if (v_X2_isNameTaken (Y 0) x3) = 0 then lt1 (s_X0_remember Y) (fun Y1 => lt1 (yU Y1 0 (sU (Y1 0) 2 (put_ 10 (Y1 0 2) x1 x3))) (fun Y2 => lt1 (yU Y2 0 (s_X1_add (Y2 0) 10 ((10 * x1) + x2) (at_ 10 (Y 0 2) x1))) (fun Y3 => (at_ 10 (Y 0 2) x1, Y3)))) else (-4, Y) else lt1 (s_X0_remember Y) (fun Y4 => lt1 (yU Y4 0 (sU (Y4 0) 2 (put_ 10 (Y4 0 2) x1 x3))) (fun Y5 => lt1 (yU Y5 0 (s_X1_add (Y5 0) 10 ((10 * x1) + x2) (at_ 10 (Y 0 2) x1))) (fun Y6 => (at_ 10 (Y 0 2) x1, Y6)))) else if (at_ 10 (Y 0 3) x1) = x3 then (-2, Y) else if x2 = 1 then if (v_X2_isNameTaken (Y 0) x3) = 0 then lt1 (s_X0_remember Y) (fun Y7 => lt1 (yU Y7 0 (sU (Y7 0) 3 (put_ 10 (Y7 0 3) x1 x3))) (fun Y8 => lt1 (yU Y8 0 (s_X1_add (Y8 0) 10 ((10 * x1) + x2) (at_ 10 (Y 0 3) x1))) (fun Y9 => (at_ 10 (Y 0 3) x1, Y9)))) else (-4, Y) else lt1 (s_X0_remember Y) (fun Y10 => lt1 (yU Y10 0 (sU (Y10 0) 3 (put_ 10 (Y10 0 3) x1 x3))) (fun Y11 => lt1 (yU Y11 0 (s_X1_add (Y11 0) 10 ((10 * x1) + x2) (at_ 10 (Y 0 3) x1))) (fun Y12 => (at_ 10 (Y 0 3) x1, Y12)))) else if (v_X9_isWithin x3 1 99) = 0 then (-1, Y) else if x2 = 0 then if (at_ 10 (Y 0 2) x1) = x3 then (-2, Y) else if x2 = 1 then if (v_X2_isNameTaken (Y 0) x3) = 0 then lt1 (s_X0_remember Y) (fun Y13 => lt1 (yU Y13 0 (sU (Y13 0) 2 (put_ 10 (Y13 0 2) x1 x3))) (fun Y14 => lt1 (yU Y14 0 (s_X1_add (Y14 0) 10 ((10 * x1) + x2) (at_ 10 (Y 0 2) x1))) (fun Y15 => (at_ 10 (Y 0 2) x1, Y15)))) else (-4, Y) else lt1 (s_X0_remember Y) (fun Y16 => lt1 (yU Y16 0 (sU (Y16 0) 2 (put_ 10 (Y16 0 2) x1 x3))) (fun Y17 => lt1 (yU Y17 0 (s_X1_add (Y17 0) 10 ((10 * x1) + x2) (at_ 10 (Y 0 2) x1))) (fun Y18 => (at_ 10 (Y 0 2) x1, Y18)))) else if (at_ 10 (Y 0 3) x1) = x3 then (-2, Y) else if x2 = 1 then if (v_X2_isNameTaken (Y 0) x3) = 0 then lt1 (s_X0_remember Y) (fun Y19 => lt1 (yU Y19 0 (sU (Y19 0) 3 (put_ 10 (Y19 0 3) x1 x3))) (fun Y20 => lt1 (yU Y20 0 (s_X1_add (Y20 0) 10 ((10 * x1) + x2) (at_ 10 (Y 0 3) x1))) (fun Y21 => (at_ 10 (Y 0 3) x1, Y21)))) else (-4, Y) else lt1 (s_X0_remember Y) (fun Y22 => lt1 (yU Y22 0 (sU (Y22 0) 3 (put_ 10 (Y22 0 3) x1 x3))) (fun Y23 => lt1 (yU Y23 0 (s_X1_add (Y23 0) 10 ((10 * x1) + x2) (at_ 10 (Y 0 3) x1))) (fun Y24 => (at_ 10 (Y 0 3) x1, Y24))))
theorem c_X9_set (l : Launch) (K : gK) (A : Nat → Nat → Nat) (Y : RS) (x1 : Int32) (x2 : Int32) (x3 : Int32) : Ct l K yX9_set cX9_set 6 (some .int) 6 [.ref (A 4 0), .int x1, .int x2, .int x3] (ro_W K A Y) (some (.int (p_X9_set Y x1 x2 x3).1), ro_W K A ((p_X9_set Y x1 x2 x3).2)) := by
  refine Ct.of (own := RX9) (fun (z : Int32 × RS) => (some (.int z.1), ro_W K A z.2)) (x := p_X9_set Y x1 x2 x3) (by decide) rfl (Nat.le_of_ble_eq_true rfl) (fun Γ C => ?_)
  unfold p_X9_set
  refine G_aload_n C 0 dX9_set_0 rfl ?_
  refine G_get C 0 0 dX9_set_1 inlX9 uf_X9_10 rfl (by decide) rfl rfl rfl ?_
  refine G_get C 1 2 dX9_set_4 inlX6 uf_X9_89 rfl (by decide) rfl rfl rfl ?_
  refine G_iload_n C 1 dX9_set_7 rfl ?_
  refine G_callVi C 4 2 kd_X2_has ui_X2_has us_X2_has um_X9_98 rfl rfl (Ct.chunk1 (cs := ro_C K A Y) (cs' := ro_C K A Y) 1 rfl rfl (c_X2_has l K (A 0) (Y 0) x1)) dX9_set_8 rfl rfl (Nat.le_of_ble_eq_true rfl) (Nat.le_of_ble_eq_true rfl) ?_
  refine G_if_eq C 23 dX9_set_11 rfl (fun h1 => ?_) (fun h1 => ?_)
  · refine G_iconst C dX9_set_23 (v := -1) rfl ?_
    exact G_iret C dX9_set_24 rfl
  · refine G_iload_n C 2 dX9_set_14 rfl ?_
    refine G_iconst C dX9_set_15 (v := 0) rfl ?_
    refine G_iconst C dX9_set_16 (v := 1) rfl ?_
    refine G_callSi C kd_X9_isWithin ut_X9_isWithin um_X9_102 (c_X9_isWithin l K (ro_W K A Y) x2 0 1) dX9_set_17 rfl rfl (Nat.le_of_ble_eq_true rfl) (Nat.le_of_ble_eq_true rfl) ?_
    refine G_if_ne C 25 dX9_set_20 rfl (fun h2 => ?_) (fun h2 => ?_)
    · refine G_iconst C dX9_set_23 (v := -1) rfl ?_
      exact G_iret C dX9_set_24 rfl
    · refine G_iload_n C 3 dX9_set_25 rfl ?_
      refine G_iconst C dX9_set_26 (v := 1) rfl ?_
      refine G_iload_n C 2 dX9_set_27 rfl ?_
      refine G_if_ne C 36 dX9_set_28 rfl (fun h3 => ?_) (fun h3 => ?_)
      · refine G_bipush C dX9_set_31 (v := 9) rfl ?_
        refine G_goto C 38 dX9_set_33 rfl ?_
        refine G_callSi C kd_X9_isWithin ut_X9_isWithin um_X9_102 (c_X9_isWithin l K (ro_W K A Y) x3 1 9) dX9_set_38 rfl rfl (Nat.le_of_ble_eq_true rfl) (Nat.le_of_ble_eq_true rfl) ?_
        refine G_if_ne C 46 dX9_set_41 rfl (fun h4 => ?_) (fun h4 => ?_)
        · refine G_iconst C dX9_set_44 (v := -1) rfl ?_
          exact G_iret C dX9_set_45 rfl
        · refine G_iload_n C 2 dX9_set_46 rfl ?_
          refine G_if_ne C 63 dX9_set_47 rfl (fun h5 => ?_) (fun h5 => ?_)
          · refine G_aload_n C 0 dX9_set_50 rfl ?_
            refine G_get C 0 0 dX9_set_51 inlX9 uf_X9_10 rfl (by decide) rfl rfl rfl ?_
            refine G_get C 1 2 dX9_set_54 inlX6 uf_X9_89 rfl (by decide) rfl rfl rfl ?_
            refine G_get C 4 0 dX9_set_57 inlX2 uf_X9_186 rfl (by decide) rfl rfl rfl ?_
            refine G_goto C 73 dX9_set_60 rfl ?_
            refine G_astore (lv' := [(4, .ref (A 0 4)), (0, .ref (A 4 0)), (1, .int x1), (2, .int x2), (3, .int x3)]) C dX9_set_73 (by decide) rfl ?_
            refine G_aload C 0 dX9_set_75 rfl ?_
            refine G_iload_n C 2 dX9_set_77 rfl ?_
            refine G_callSi C kd_X9_at ut_X9_at um_X9_110 (c_at l K (ws := ro_W K A Y) (q0 := 5) (n := 10) (g := Y 0 2) (ad := (A 0 4)) (by decide) rfl x1) dX9_set_78 rfl rfl (Nat.le_of_ble_eq_true rfl) (Nat.le_of_ble_eq_true rfl) ?_
            refine G_istore (lv' := [(5, .int (at_ 10 (Y 0 2) x1)), (4, .ref (A 0 4)), (0, .ref (A 4 0)), (1, .int x1), (2, .int x2), (3, .int x3)]) C dX9_set_81 (by decide) rfl ?_
            refine G_iload C 0 dX9_set_83 rfl ?_
            refine G_iload_n C 5 dX9_set_85 rfl ?_
            refine G_icmp_ne C 92 dX9_set_86 rfl (fun h6 => ?_) (fun h6 => ?_)
            · refine G_bipush C dX9_set_89 (v := -2) rfl ?_
              exact G_iret C dX9_set_91 rfl
            · refine G_iload_n C 4 dX9_set_92 rfl ?_
              refine G_iconst C dX9_set_93 (v := 1) rfl ?_
              refine G_icmp_ne C 114 dX9_set_94 rfl (fun h7 => ?_) (fun h7 => ?_)
              · refine G_aload_n C 2 dX9_set_97 rfl ?_
                refine G_get C 0 0 dX9_set_98 inlX9 uf_X9_10 rfl (by decide) rfl rfl rfl ?_
                refine G_get C 1 2 dX9_set_101 inlX6 uf_X9_89 rfl (by decide) rfl rfl rfl ?_
                refine G_iload_n C 5 dX9_set_104 rfl ?_
                refine G_callVi C 4 2 kd_X2_isNameTaken ui_X2_isNameTaken us_X2_isNameTaken um_X9_192 rfl rfl (Ct.chunk1 (cs := ro_C K A Y) (cs' := ro_C K A Y) 1 rfl rfl (c_X2_isNameTaken l K (A 0) (Y 0) x3)) dX9_set_105 rfl rfl (Nat.le_of_ble_eq_true rfl) (Nat.le_of_ble_eq_true rfl) ?_
                refine G_if_eq C 114 dX9_set_108 rfl (fun h8 => ?_) (fun h8 => ?_)
                · refine G_aload_n C 2 dX9_set_114 rfl ?_
                  refine G_get C 0 1 dX9_set_115 inlX9 uf_X9_19 rfl (by decide) rfl rfl rfl ?_
                  refine G_aload_n C 2 dX9_set_118 rfl ?_
                  refine G_get C 0 0 dX9_set_119 inlX9 uf_X9_10 rfl (by decide) rfl rfl rfl ?_
                  refine G_callVv C 51 0 kd_X0_remember ui_X0_remember us_X0_remember um_X9_114 rfl rfl (c_X0_remember l K A Y) dX9_set_122 rfl rfl (Nat.le_of_ble_eq_true rfl) (Nat.le_of_ble_eq_true rfl) ?_
                  refine G_let (W := ro_W K A) (fun Y1 => ?_)
                  refine G_aload C 1 dX9_set_125 rfl ?_
                  refine G_iload_n C 3 dX9_set_127 rfl ?_
                  refine G_iload_n C 5 dX9_set_128 rfl ?_
                  refine G_callSv C kd_X9_put ut_X9_put um_X9_195 (Ct.to (r' := (none, ro_W K A (yU Y1 0 (sU (Y1 0) 2 (put_ 10 (Y1 0 2) x1 x3))))) (c_put l K (ws := ro_W K A Y1) (q0 := 5) (n := 10) (g := Y1 0 2) (ad := (A 0 4)) (by decide) rfl x1 x3) rfl) dX9_set_129 rfl rfl (Nat.le_of_ble_eq_true rfl) (Nat.le_of_ble_eq_true rfl) ?_
                  refine G_let (W := ro_W K A) (fun Y2 => ?_)
                  refine G_aload_n C 2 dX9_set_132 rfl ?_
                  refine G_get C 0 0 dX9_set_133 inlX9 uf_X9_10 rfl (by decide) rfl rfl rfl ?_
                  refine G_get C 1 4 dX9_set_136 inlX6 uf_X9_128 rfl (by decide) rfl rfl rfl ?_
                  refine G_bipush C dX9_set_139 (v := 10) rfl ?_
                  refine G_bipush C dX9_set_141 (v := 10) rfl ?_
                  refine G_iload_n C 3 dX9_set_143 rfl ?_
                  refine G_imul C dX9_set_144 ?_
                  refine G_iload_n C 4 dX9_set_145 rfl ?_
                  refine G_iadd C dX9_set_146 ?_
                  refine G_iload C 0 dX9_set_147 rfl ?_
                  refine G_callVv C 19 1 kd_X1_add ui_X1_add us_X1_add um_X9_132 rfl rfl (Ct.chunk1 (cs := ro_C K A Y2) (cs' := ro_C K A (yU Y2 0 (s_X1_add (Y2 0) 10 ((10 * x1) + x2) (at_ 10 (Y 0 2) x1)))) 1 rfl (ro_u0 K A Y2 _) (c_X1_add l K (A 0) (Y2 0) 10 ((10 * x1) + x2) (at_ 10 (Y 0 2) x1))) dX9_set_149 rfl rfl (Nat.le_of_ble_eq_true rfl) (Nat.le_of_ble_eq_true rfl) ?_
                  refine G_let (W := ro_W K A) (fun Y3 => ?_)
                  refine G_iload C 0 dX9_set_152 rfl ?_
                  exact G_iret C dX9_set_154 rfl
                · refine G_bipush C dX9_set_111 (v := -4) rfl ?_
                  exact G_iret C dX9_set_113 rfl
              · refine G_aload_n C 2 dX9_set_114 rfl ?_
                refine G_get C 0 1 dX9_set_115 inlX9 uf_X9_19 rfl (by decide) rfl rfl rfl ?_
                refine G_aload_n C 2 dX9_set_118 rfl ?_
                refine G_get C 0 0 dX9_set_119 inlX9 uf_X9_10 rfl (by decide) rfl rfl rfl ?_
                refine G_callVv C 51 0 kd_X0_remember ui_X0_remember us_X0_remember um_X9_114 rfl rfl (c_X0_remember l K A Y) dX9_set_122 rfl rfl (Nat.le_of_ble_eq_true rfl) (Nat.le_of_ble_eq_true rfl) ?_
                refine G_let (W := ro_W K A) (fun Y4 => ?_)
                refine G_aload C 1 dX9_set_125 rfl ?_
                refine G_iload_n C 3 dX9_set_127 rfl ?_
                refine G_iload_n C 5 dX9_set_128 rfl ?_
                refine G_callSv C kd_X9_put ut_X9_put um_X9_195 (Ct.to (r' := (none, ro_W K A (yU Y4 0 (sU (Y4 0) 2 (put_ 10 (Y4 0 2) x1 x3))))) (c_put l K (ws := ro_W K A Y4) (q0 := 5) (n := 10) (g := Y4 0 2) (ad := (A 0 4)) (by decide) rfl x1 x3) rfl) dX9_set_129 rfl rfl (Nat.le_of_ble_eq_true rfl) (Nat.le_of_ble_eq_true rfl) ?_
                refine G_let (W := ro_W K A) (fun Y5 => ?_)
                refine G_aload_n C 2 dX9_set_132 rfl ?_
                refine G_get C 0 0 dX9_set_133 inlX9 uf_X9_10 rfl (by decide) rfl rfl rfl ?_
                refine G_get C 1 4 dX9_set_136 inlX6 uf_X9_128 rfl (by decide) rfl rfl rfl ?_
                refine G_bipush C dX9_set_139 (v := 10) rfl ?_
                refine G_bipush C dX9_set_141 (v := 10) rfl ?_
                refine G_iload_n C 3 dX9_set_143 rfl ?_
                refine G_imul C dX9_set_144 ?_
                refine G_iload_n C 4 dX9_set_145 rfl ?_
                refine G_iadd C dX9_set_146 ?_
                refine G_iload C 0 dX9_set_147 rfl ?_
                refine G_callVv C 19 1 kd_X1_add ui_X1_add us_X1_add um_X9_132 rfl rfl (Ct.chunk1 (cs := ro_C K A Y5) (cs' := ro_C K A (yU Y5 0 (s_X1_add (Y5 0) 10 ((10 * x1) + x2) (at_ 10 (Y 0 2) x1)))) 1 rfl (ro_u0 K A Y5 _) (c_X1_add l K (A 0) (Y5 0) 10 ((10 * x1) + x2) (at_ 10 (Y 0 2) x1))) dX9_set_149 rfl rfl (Nat.le_of_ble_eq_true rfl) (Nat.le_of_ble_eq_true rfl) ?_
                refine G_let (W := ro_W K A) (fun Y6 => ?_)
                refine G_iload C 0 dX9_set_152 rfl ?_
                exact G_iret C dX9_set_154 rfl
          · refine G_aload_n C 0 dX9_set_63 rfl ?_
            refine G_get C 0 0 dX9_set_64 inlX9 uf_X9_10 rfl (by decide) rfl rfl rfl ?_
            refine G_get C 1 2 dX9_set_67 inlX6 uf_X9_89 rfl (by decide) rfl rfl rfl ?_
            refine G_get C 4 1 dX9_set_70 inlX2 uf_X9_189 rfl (by decide) rfl rfl rfl ?_
            refine G_astore (lv' := [(4, .ref (A 0 5)), (0, .ref (A 4 0)), (1, .int x1), (2, .int x2), (3, .int x3)]) C dX9_set_73 (by decide) rfl ?_
            refine G_aload C 0 dX9_set_75 rfl ?_
            refine G_iload_n C 2 dX9_set_77 rfl ?_
            refine G_callSi C kd_X9_at ut_X9_at um_X9_110 (c_at l K (ws := ro_W K A Y) (q0 := 6) (n := 10) (g := Y 0 3) (ad := (A 0 5)) (by decide) rfl x1) dX9_set_78 rfl rfl (Nat.le_of_ble_eq_true rfl) (Nat.le_of_ble_eq_true rfl) ?_
            refine G_istore (lv' := [(5, .int (at_ 10 (Y 0 3) x1)), (4, .ref (A 0 5)), (0, .ref (A 4 0)), (1, .int x1), (2, .int x2), (3, .int x3)]) C dX9_set_81 (by decide) rfl ?_
            refine G_iload C 0 dX9_set_83 rfl ?_
            refine G_iload_n C 5 dX9_set_85 rfl ?_
            refine G_icmp_ne C 92 dX9_set_86 rfl (fun h9 => ?_) (fun h9 => ?_)
            · refine G_bipush C dX9_set_89 (v := -2) rfl ?_
              exact G_iret C dX9_set_91 rfl
            · refine G_iload_n C 4 dX9_set_92 rfl ?_
              refine G_iconst C dX9_set_93 (v := 1) rfl ?_
              refine G_icmp_ne C 114 dX9_set_94 rfl (fun h10 => ?_) (fun h10 => ?_)
              · refine G_aload_n C 2 dX9_set_97 rfl ?_
                refine G_get C 0 0 dX9_set_98 inlX9 uf_X9_10 rfl (by decide) rfl rfl rfl ?_
                refine G_get C 1 2 dX9_set_101 inlX6 uf_X9_89 rfl (by decide) rfl rfl rfl ?_
                refine G_iload_n C 5 dX9_set_104 rfl ?_
                refine G_callVi C 4 2 kd_X2_isNameTaken ui_X2_isNameTaken us_X2_isNameTaken um_X9_192 rfl rfl (Ct.chunk1 (cs := ro_C K A Y) (cs' := ro_C K A Y) 1 rfl rfl (c_X2_isNameTaken l K (A 0) (Y 0) x3)) dX9_set_105 rfl rfl (Nat.le_of_ble_eq_true rfl) (Nat.le_of_ble_eq_true rfl) ?_
                refine G_if_eq C 114 dX9_set_108 rfl (fun h11 => ?_) (fun h11 => ?_)
                · refine G_aload_n C 2 dX9_set_114 rfl ?_
                  refine G_get C 0 1 dX9_set_115 inlX9 uf_X9_19 rfl (by decide) rfl rfl rfl ?_
                  refine G_aload_n C 2 dX9_set_118 rfl ?_
                  refine G_get C 0 0 dX9_set_119 inlX9 uf_X9_10 rfl (by decide) rfl rfl rfl ?_
                  refine G_callVv C 51 0 kd_X0_remember ui_X0_remember us_X0_remember um_X9_114 rfl rfl (c_X0_remember l K A Y) dX9_set_122 rfl rfl (Nat.le_of_ble_eq_true rfl) (Nat.le_of_ble_eq_true rfl) ?_
                  refine G_let (W := ro_W K A) (fun Y7 => ?_)
                  refine G_aload C 1 dX9_set_125 rfl ?_
                  refine G_iload_n C 3 dX9_set_127 rfl ?_
                  refine G_iload_n C 5 dX9_set_128 rfl ?_
                  refine G_callSv C kd_X9_put ut_X9_put um_X9_195 (Ct.to (r' := (none, ro_W K A (yU Y7 0 (sU (Y7 0) 3 (put_ 10 (Y7 0 3) x1 x3))))) (c_put l K (ws := ro_W K A Y7) (q0 := 6) (n := 10) (g := Y7 0 3) (ad := (A 0 5)) (by decide) rfl x1 x3) rfl) dX9_set_129 rfl rfl (Nat.le_of_ble_eq_true rfl) (Nat.le_of_ble_eq_true rfl) ?_
                  refine G_let (W := ro_W K A) (fun Y8 => ?_)
                  refine G_aload_n C 2 dX9_set_132 rfl ?_
                  refine G_get C 0 0 dX9_set_133 inlX9 uf_X9_10 rfl (by decide) rfl rfl rfl ?_
                  refine G_get C 1 4 dX9_set_136 inlX6 uf_X9_128 rfl (by decide) rfl rfl rfl ?_
                  refine G_bipush C dX9_set_139 (v := 10) rfl ?_
                  refine G_bipush C dX9_set_141 (v := 10) rfl ?_
                  refine G_iload_n C 3 dX9_set_143 rfl ?_
                  refine G_imul C dX9_set_144 ?_
                  refine G_iload_n C 4 dX9_set_145 rfl ?_
                  refine G_iadd C dX9_set_146 ?_
                  refine G_iload C 0 dX9_set_147 rfl ?_
                  refine G_callVv C 19 1 kd_X1_add ui_X1_add us_X1_add um_X9_132 rfl rfl (Ct.chunk1 (cs := ro_C K A Y8) (cs' := ro_C K A (yU Y8 0 (s_X1_add (Y8 0) 10 ((10 * x1) + x2) (at_ 10 (Y 0 3) x1)))) 1 rfl (ro_u0 K A Y8 _) (c_X1_add l K (A 0) (Y8 0) 10 ((10 * x1) + x2) (at_ 10 (Y 0 3) x1))) dX9_set_149 rfl rfl (Nat.le_of_ble_eq_true rfl) (Nat.le_of_ble_eq_true rfl) ?_
                  refine G_let (W := ro_W K A) (fun Y9 => ?_)
                  refine G_iload C 0 dX9_set_152 rfl ?_
                  exact G_iret C dX9_set_154 rfl
                · refine G_bipush C dX9_set_111 (v := -4) rfl ?_
                  exact G_iret C dX9_set_113 rfl
              · refine G_aload_n C 2 dX9_set_114 rfl ?_
                refine G_get C 0 1 dX9_set_115 inlX9 uf_X9_19 rfl (by decide) rfl rfl rfl ?_
                refine G_aload_n C 2 dX9_set_118 rfl ?_
                refine G_get C 0 0 dX9_set_119 inlX9 uf_X9_10 rfl (by decide) rfl rfl rfl ?_
                refine G_callVv C 51 0 kd_X0_remember ui_X0_remember us_X0_remember um_X9_114 rfl rfl (c_X0_remember l K A Y) dX9_set_122 rfl rfl (Nat.le_of_ble_eq_true rfl) (Nat.le_of_ble_eq_true rfl) ?_
                refine G_let (W := ro_W K A) (fun Y10 => ?_)
                refine G_aload C 1 dX9_set_125 rfl ?_
                refine G_iload_n C 3 dX9_set_127 rfl ?_
                refine G_iload_n C 5 dX9_set_128 rfl ?_
                refine G_callSv C kd_X9_put ut_X9_put um_X9_195 (Ct.to (r' := (none, ro_W K A (yU Y10 0 (sU (Y10 0) 3 (put_ 10 (Y10 0 3) x1 x3))))) (c_put l K (ws := ro_W K A Y10) (q0 := 6) (n := 10) (g := Y10 0 3) (ad := (A 0 5)) (by decide) rfl x1 x3) rfl) dX9_set_129 rfl rfl (Nat.le_of_ble_eq_true rfl) (Nat.le_of_ble_eq_true rfl) ?_
                refine G_let (W := ro_W K A) (fun Y11 => ?_)
                refine G_aload_n C 2 dX9_set_132 rfl ?_
                refine G_get C 0 0 dX9_set_133 inlX9 uf_X9_10 rfl (by decide) rfl rfl rfl ?_
                refine G_get C 1 4 dX9_set_136 inlX6 uf_X9_128 rfl (by decide) rfl rfl rfl ?_
                refine G_bipush C dX9_set_139 (v := 10) rfl ?_
                refine G_bipush C dX9_set_141 (v := 10) rfl ?_
                refine G_iload_n C 3 dX9_set_143 rfl ?_
                refine G_imul C dX9_set_144 ?_
                refine G_iload_n C 4 dX9_set_145 rfl ?_
                refine G_iadd C dX9_set_146 ?_
                refine G_iload C 0 dX9_set_147 rfl ?_
                refine G_callVv C 19 1 kd_X1_add ui_X1_add us_X1_add um_X9_132 rfl rfl (Ct.chunk1 (cs := ro_C K A Y11) (cs' := ro_C K A (yU Y11 0 (s_X1_add (Y11 0) 10 ((10 * x1) + x2) (at_ 10 (Y 0 3) x1)))) 1 rfl (ro_u0 K A Y11 _) (c_X1_add l K (A 0) (Y11 0) 10 ((10 * x1) + x2) (at_ 10 (Y 0 3) x1))) dX9_set_149 rfl rfl (Nat.le_of_ble_eq_true rfl) (Nat.le_of_ble_eq_true rfl) ?_
                refine G_let (W := ro_W K A) (fun Y12 => ?_)
                refine G_iload C 0 dX9_set_152 rfl ?_
                exact G_iret C dX9_set_154 rfl
      · refine G_bipush C dX9_set_36 (v := 99) rfl ?_
        refine G_callSi C kd_X9_isWithin ut_X9_isWithin um_X9_102 (c_X9_isWithin l K (ro_W K A Y) x3 1 99) dX9_set_38 rfl rfl (Nat.le_of_ble_eq_true rfl) (Nat.le_of_ble_eq_true rfl) ?_
        refine G_if_ne C 46 dX9_set_41 rfl (fun h12 => ?_) (fun h12 => ?_)
        · refine G_iconst C dX9_set_44 (v := -1) rfl ?_
          exact G_iret C dX9_set_45 rfl
        · refine G_iload_n C 2 dX9_set_46 rfl ?_
          refine G_if_ne C 63 dX9_set_47 rfl (fun h13 => ?_) (fun h13 => ?_)
          · refine G_aload_n C 0 dX9_set_50 rfl ?_
            refine G_get C 0 0 dX9_set_51 inlX9 uf_X9_10 rfl (by decide) rfl rfl rfl ?_
            refine G_get C 1 2 dX9_set_54 inlX6 uf_X9_89 rfl (by decide) rfl rfl rfl ?_
            refine G_get C 4 0 dX9_set_57 inlX2 uf_X9_186 rfl (by decide) rfl rfl rfl ?_
            refine G_goto C 73 dX9_set_60 rfl ?_
            refine G_astore (lv' := [(4, .ref (A 0 4)), (0, .ref (A 4 0)), (1, .int x1), (2, .int x2), (3, .int x3)]) C dX9_set_73 (by decide) rfl ?_
            refine G_aload C 0 dX9_set_75 rfl ?_
            refine G_iload_n C 2 dX9_set_77 rfl ?_
            refine G_callSi C kd_X9_at ut_X9_at um_X9_110 (c_at l K (ws := ro_W K A Y) (q0 := 5) (n := 10) (g := Y 0 2) (ad := (A 0 4)) (by decide) rfl x1) dX9_set_78 rfl rfl (Nat.le_of_ble_eq_true rfl) (Nat.le_of_ble_eq_true rfl) ?_
            refine G_istore (lv' := [(5, .int (at_ 10 (Y 0 2) x1)), (4, .ref (A 0 4)), (0, .ref (A 4 0)), (1, .int x1), (2, .int x2), (3, .int x3)]) C dX9_set_81 (by decide) rfl ?_
            refine G_iload C 0 dX9_set_83 rfl ?_
            refine G_iload_n C 5 dX9_set_85 rfl ?_
            refine G_icmp_ne C 92 dX9_set_86 rfl (fun h14 => ?_) (fun h14 => ?_)
            · refine G_bipush C dX9_set_89 (v := -2) rfl ?_
              exact G_iret C dX9_set_91 rfl
            · refine G_iload_n C 4 dX9_set_92 rfl ?_
              refine G_iconst C dX9_set_93 (v := 1) rfl ?_
              refine G_icmp_ne C 114 dX9_set_94 rfl (fun h15 => ?_) (fun h15 => ?_)
              · refine G_aload_n C 2 dX9_set_97 rfl ?_
                refine G_get C 0 0 dX9_set_98 inlX9 uf_X9_10 rfl (by decide) rfl rfl rfl ?_
                refine G_get C 1 2 dX9_set_101 inlX6 uf_X9_89 rfl (by decide) rfl rfl rfl ?_
                refine G_iload_n C 5 dX9_set_104 rfl ?_
                refine G_callVi C 4 2 kd_X2_isNameTaken ui_X2_isNameTaken us_X2_isNameTaken um_X9_192 rfl rfl (Ct.chunk1 (cs := ro_C K A Y) (cs' := ro_C K A Y) 1 rfl rfl (c_X2_isNameTaken l K (A 0) (Y 0) x3)) dX9_set_105 rfl rfl (Nat.le_of_ble_eq_true rfl) (Nat.le_of_ble_eq_true rfl) ?_
                refine G_if_eq C 114 dX9_set_108 rfl (fun h16 => ?_) (fun h16 => ?_)
                · refine G_aload_n C 2 dX9_set_114 rfl ?_
                  refine G_get C 0 1 dX9_set_115 inlX9 uf_X9_19 rfl (by decide) rfl rfl rfl ?_
                  refine G_aload_n C 2 dX9_set_118 rfl ?_
                  refine G_get C 0 0 dX9_set_119 inlX9 uf_X9_10 rfl (by decide) rfl rfl rfl ?_
                  refine G_callVv C 51 0 kd_X0_remember ui_X0_remember us_X0_remember um_X9_114 rfl rfl (c_X0_remember l K A Y) dX9_set_122 rfl rfl (Nat.le_of_ble_eq_true rfl) (Nat.le_of_ble_eq_true rfl) ?_
                  refine G_let (W := ro_W K A) (fun Y13 => ?_)
                  refine G_aload C 1 dX9_set_125 rfl ?_
                  refine G_iload_n C 3 dX9_set_127 rfl ?_
                  refine G_iload_n C 5 dX9_set_128 rfl ?_
                  refine G_callSv C kd_X9_put ut_X9_put um_X9_195 (Ct.to (r' := (none, ro_W K A (yU Y13 0 (sU (Y13 0) 2 (put_ 10 (Y13 0 2) x1 x3))))) (c_put l K (ws := ro_W K A Y13) (q0 := 5) (n := 10) (g := Y13 0 2) (ad := (A 0 4)) (by decide) rfl x1 x3) rfl) dX9_set_129 rfl rfl (Nat.le_of_ble_eq_true rfl) (Nat.le_of_ble_eq_true rfl) ?_
                  refine G_let (W := ro_W K A) (fun Y14 => ?_)
                  refine G_aload_n C 2 dX9_set_132 rfl ?_
                  refine G_get C 0 0 dX9_set_133 inlX9 uf_X9_10 rfl (by decide) rfl rfl rfl ?_
                  refine G_get C 1 4 dX9_set_136 inlX6 uf_X9_128 rfl (by decide) rfl rfl rfl ?_
                  refine G_bipush C dX9_set_139 (v := 10) rfl ?_
                  refine G_bipush C dX9_set_141 (v := 10) rfl ?_
                  refine G_iload_n C 3 dX9_set_143 rfl ?_
                  refine G_imul C dX9_set_144 ?_
                  refine G_iload_n C 4 dX9_set_145 rfl ?_
                  refine G_iadd C dX9_set_146 ?_
                  refine G_iload C 0 dX9_set_147 rfl ?_
                  refine G_callVv C 19 1 kd_X1_add ui_X1_add us_X1_add um_X9_132 rfl rfl (Ct.chunk1 (cs := ro_C K A Y14) (cs' := ro_C K A (yU Y14 0 (s_X1_add (Y14 0) 10 ((10 * x1) + x2) (at_ 10 (Y 0 2) x1)))) 1 rfl (ro_u0 K A Y14 _) (c_X1_add l K (A 0) (Y14 0) 10 ((10 * x1) + x2) (at_ 10 (Y 0 2) x1))) dX9_set_149 rfl rfl (Nat.le_of_ble_eq_true rfl) (Nat.le_of_ble_eq_true rfl) ?_
                  refine G_let (W := ro_W K A) (fun Y15 => ?_)
                  refine G_iload C 0 dX9_set_152 rfl ?_
                  exact G_iret C dX9_set_154 rfl
                · refine G_bipush C dX9_set_111 (v := -4) rfl ?_
                  exact G_iret C dX9_set_113 rfl
              · refine G_aload_n C 2 dX9_set_114 rfl ?_
                refine G_get C 0 1 dX9_set_115 inlX9 uf_X9_19 rfl (by decide) rfl rfl rfl ?_
                refine G_aload_n C 2 dX9_set_118 rfl ?_
                refine G_get C 0 0 dX9_set_119 inlX9 uf_X9_10 rfl (by decide) rfl rfl rfl ?_
                refine G_callVv C 51 0 kd_X0_remember ui_X0_remember us_X0_remember um_X9_114 rfl rfl (c_X0_remember l K A Y) dX9_set_122 rfl rfl (Nat.le_of_ble_eq_true rfl) (Nat.le_of_ble_eq_true rfl) ?_
                refine G_let (W := ro_W K A) (fun Y16 => ?_)
                refine G_aload C 1 dX9_set_125 rfl ?_
                refine G_iload_n C 3 dX9_set_127 rfl ?_
                refine G_iload_n C 5 dX9_set_128 rfl ?_
                refine G_callSv C kd_X9_put ut_X9_put um_X9_195 (Ct.to (r' := (none, ro_W K A (yU Y16 0 (sU (Y16 0) 2 (put_ 10 (Y16 0 2) x1 x3))))) (c_put l K (ws := ro_W K A Y16) (q0 := 5) (n := 10) (g := Y16 0 2) (ad := (A 0 4)) (by decide) rfl x1 x3) rfl) dX9_set_129 rfl rfl (Nat.le_of_ble_eq_true rfl) (Nat.le_of_ble_eq_true rfl) ?_
                refine G_let (W := ro_W K A) (fun Y17 => ?_)
                refine G_aload_n C 2 dX9_set_132 rfl ?_
                refine G_get C 0 0 dX9_set_133 inlX9 uf_X9_10 rfl (by decide) rfl rfl rfl ?_
                refine G_get C 1 4 dX9_set_136 inlX6 uf_X9_128 rfl (by decide) rfl rfl rfl ?_
                refine G_bipush C dX9_set_139 (v := 10) rfl ?_
                refine G_bipush C dX9_set_141 (v := 10) rfl ?_
                refine G_iload_n C 3 dX9_set_143 rfl ?_
                refine G_imul C dX9_set_144 ?_
                refine G_iload_n C 4 dX9_set_145 rfl ?_
                refine G_iadd C dX9_set_146 ?_
                refine G_iload C 0 dX9_set_147 rfl ?_
                refine G_callVv C 19 1 kd_X1_add ui_X1_add us_X1_add um_X9_132 rfl rfl (Ct.chunk1 (cs := ro_C K A Y17) (cs' := ro_C K A (yU Y17 0 (s_X1_add (Y17 0) 10 ((10 * x1) + x2) (at_ 10 (Y 0 2) x1)))) 1 rfl (ro_u0 K A Y17 _) (c_X1_add l K (A 0) (Y17 0) 10 ((10 * x1) + x2) (at_ 10 (Y 0 2) x1))) dX9_set_149 rfl rfl (Nat.le_of_ble_eq_true rfl) (Nat.le_of_ble_eq_true rfl) ?_
                refine G_let (W := ro_W K A) (fun Y18 => ?_)
                refine G_iload C 0 dX9_set_152 rfl ?_
                exact G_iret C dX9_set_154 rfl
          · refine G_aload_n C 0 dX9_set_63 rfl ?_
            refine G_get C 0 0 dX9_set_64 inlX9 uf_X9_10 rfl (by decide) rfl rfl rfl ?_
            refine G_get C 1 2 dX9_set_67 inlX6 uf_X9_89 rfl (by decide) rfl rfl rfl ?_
            refine G_get C 4 1 dX9_set_70 inlX2 uf_X9_189 rfl (by decide) rfl rfl rfl ?_
            refine G_astore (lv' := [(4, .ref (A 0 5)), (0, .ref (A 4 0)), (1, .int x1), (2, .int x2), (3, .int x3)]) C dX9_set_73 (by decide) rfl ?_
            refine G_aload C 0 dX9_set_75 rfl ?_
            refine G_iload_n C 2 dX9_set_77 rfl ?_
            refine G_callSi C kd_X9_at ut_X9_at um_X9_110 (c_at l K (ws := ro_W K A Y) (q0 := 6) (n := 10) (g := Y 0 3) (ad := (A 0 5)) (by decide) rfl x1) dX9_set_78 rfl rfl (Nat.le_of_ble_eq_true rfl) (Nat.le_of_ble_eq_true rfl) ?_
            refine G_istore (lv' := [(5, .int (at_ 10 (Y 0 3) x1)), (4, .ref (A 0 5)), (0, .ref (A 4 0)), (1, .int x1), (2, .int x2), (3, .int x3)]) C dX9_set_81 (by decide) rfl ?_
            refine G_iload C 0 dX9_set_83 rfl ?_
            refine G_iload_n C 5 dX9_set_85 rfl ?_
            refine G_icmp_ne C 92 dX9_set_86 rfl (fun h17 => ?_) (fun h17 => ?_)
            · refine G_bipush C dX9_set_89 (v := -2) rfl ?_
              exact G_iret C dX9_set_91 rfl
            · refine G_iload_n C 4 dX9_set_92 rfl ?_
              refine G_iconst C dX9_set_93 (v := 1) rfl ?_
              refine G_icmp_ne C 114 dX9_set_94 rfl (fun h18 => ?_) (fun h18 => ?_)
              · refine G_aload_n C 2 dX9_set_97 rfl ?_
                refine G_get C 0 0 dX9_set_98 inlX9 uf_X9_10 rfl (by decide) rfl rfl rfl ?_
                refine G_get C 1 2 dX9_set_101 inlX6 uf_X9_89 rfl (by decide) rfl rfl rfl ?_
                refine G_iload_n C 5 dX9_set_104 rfl ?_
                refine G_callVi C 4 2 kd_X2_isNameTaken ui_X2_isNameTaken us_X2_isNameTaken um_X9_192 rfl rfl (Ct.chunk1 (cs := ro_C K A Y) (cs' := ro_C K A Y) 1 rfl rfl (c_X2_isNameTaken l K (A 0) (Y 0) x3)) dX9_set_105 rfl rfl (Nat.le_of_ble_eq_true rfl) (Nat.le_of_ble_eq_true rfl) ?_
                refine G_if_eq C 114 dX9_set_108 rfl (fun h19 => ?_) (fun h19 => ?_)
                · refine G_aload_n C 2 dX9_set_114 rfl ?_
                  refine G_get C 0 1 dX9_set_115 inlX9 uf_X9_19 rfl (by decide) rfl rfl rfl ?_
                  refine G_aload_n C 2 dX9_set_118 rfl ?_
                  refine G_get C 0 0 dX9_set_119 inlX9 uf_X9_10 rfl (by decide) rfl rfl rfl ?_
                  refine G_callVv C 51 0 kd_X0_remember ui_X0_remember us_X0_remember um_X9_114 rfl rfl (c_X0_remember l K A Y) dX9_set_122 rfl rfl (Nat.le_of_ble_eq_true rfl) (Nat.le_of_ble_eq_true rfl) ?_
                  refine G_let (W := ro_W K A) (fun Y19 => ?_)
                  refine G_aload C 1 dX9_set_125 rfl ?_
                  refine G_iload_n C 3 dX9_set_127 rfl ?_
                  refine G_iload_n C 5 dX9_set_128 rfl ?_
                  refine G_callSv C kd_X9_put ut_X9_put um_X9_195 (Ct.to (r' := (none, ro_W K A (yU Y19 0 (sU (Y19 0) 3 (put_ 10 (Y19 0 3) x1 x3))))) (c_put l K (ws := ro_W K A Y19) (q0 := 6) (n := 10) (g := Y19 0 3) (ad := (A 0 5)) (by decide) rfl x1 x3) rfl) dX9_set_129 rfl rfl (Nat.le_of_ble_eq_true rfl) (Nat.le_of_ble_eq_true rfl) ?_
                  refine G_let (W := ro_W K A) (fun Y20 => ?_)
                  refine G_aload_n C 2 dX9_set_132 rfl ?_
                  refine G_get C 0 0 dX9_set_133 inlX9 uf_X9_10 rfl (by decide) rfl rfl rfl ?_
                  refine G_get C 1 4 dX9_set_136 inlX6 uf_X9_128 rfl (by decide) rfl rfl rfl ?_
                  refine G_bipush C dX9_set_139 (v := 10) rfl ?_
                  refine G_bipush C dX9_set_141 (v := 10) rfl ?_
                  refine G_iload_n C 3 dX9_set_143 rfl ?_
                  refine G_imul C dX9_set_144 ?_
                  refine G_iload_n C 4 dX9_set_145 rfl ?_
                  refine G_iadd C dX9_set_146 ?_
                  refine G_iload C 0 dX9_set_147 rfl ?_
                  refine G_callVv C 19 1 kd_X1_add ui_X1_add us_X1_add um_X9_132 rfl rfl (Ct.chunk1 (cs := ro_C K A Y20) (cs' := ro_C K A (yU Y20 0 (s_X1_add (Y20 0) 10 ((10 * x1) + x2) (at_ 10 (Y 0 3) x1)))) 1 rfl (ro_u0 K A Y20 _) (c_X1_add l K (A 0) (Y20 0) 10 ((10 * x1) + x2) (at_ 10 (Y 0 3) x1))) dX9_set_149 rfl rfl (Nat.le_of_ble_eq_true rfl) (Nat.le_of_ble_eq_true rfl) ?_
                  refine G_let (W := ro_W K A) (fun Y21 => ?_)
                  refine G_iload C 0 dX9_set_152 rfl ?_
                  exact G_iret C dX9_set_154 rfl
                · refine G_bipush C dX9_set_111 (v := -4) rfl ?_
                  exact G_iret C dX9_set_113 rfl
              · refine G_aload_n C 2 dX9_set_114 rfl ?_
                refine G_get C 0 1 dX9_set_115 inlX9 uf_X9_19 rfl (by decide) rfl rfl rfl ?_
                refine G_aload_n C 2 dX9_set_118 rfl ?_
                refine G_get C 0 0 dX9_set_119 inlX9 uf_X9_10 rfl (by decide) rfl rfl rfl ?_
                refine G_callVv C 51 0 kd_X0_remember ui_X0_remember us_X0_remember um_X9_114 rfl rfl (c_X0_remember l K A Y) dX9_set_122 rfl rfl (Nat.le_of_ble_eq_true rfl) (Nat.le_of_ble_eq_true rfl) ?_
                refine G_let (W := ro_W K A) (fun Y22 => ?_)
                refine G_aload C 1 dX9_set_125 rfl ?_
                refine G_iload_n C 3 dX9_set_127 rfl ?_
                refine G_iload_n C 5 dX9_set_128 rfl ?_
                refine G_callSv C kd_X9_put ut_X9_put um_X9_195 (Ct.to (r' := (none, ro_W K A (yU Y22 0 (sU (Y22 0) 3 (put_ 10 (Y22 0 3) x1 x3))))) (c_put l K (ws := ro_W K A Y22) (q0 := 6) (n := 10) (g := Y22 0 3) (ad := (A 0 5)) (by decide) rfl x1 x3) rfl) dX9_set_129 rfl rfl (Nat.le_of_ble_eq_true rfl) (Nat.le_of_ble_eq_true rfl) ?_
                refine G_let (W := ro_W K A) (fun Y23 => ?_)
                refine G_aload_n C 2 dX9_set_132 rfl ?_
                refine G_get C 0 0 dX9_set_133 inlX9 uf_X9_10 rfl (by decide) rfl rfl rfl ?_
                refine G_get C 1 4 dX9_set_136 inlX6 uf_X9_128 rfl (by decide) rfl rfl rfl ?_
                refine G_bipush C dX9_set_139 (v := 10) rfl ?_
                refine G_bipush C dX9_set_141 (v := 10) rfl ?_
                refine G_iload_n C 3 dX9_set_143 rfl ?_
                refine G_imul C dX9_set_144 ?_
                refine G_iload_n C 4 dX9_set_145 rfl ?_
                refine G_iadd C dX9_set_146 ?_
                refine G_iload C 0 dX9_set_147 rfl ?_
                refine G_callVv C 19 1 kd_X1_add ui_X1_add us_X1_add um_X9_132 rfl rfl (Ct.chunk1 (cs := ro_C K A Y23) (cs' := ro_C K A (yU Y23 0 (s_X1_add (Y23 0) 10 ((10 * x1) + x2) (at_ 10 (Y 0 3) x1)))) 1 rfl (ro_u0 K A Y23 _) (c_X1_add l K (A 0) (Y23 0) 10 ((10 * x1) + x2) (at_ 10 (Y 0 3) x1))) dX9_set_149 rfl rfl (Nat.le_of_ble_eq_true rfl) (Nat.le_of_ble_eq_true rfl) ?_
                refine G_let (W := ro_W K A) (fun Y24 => ?_)
                refine G_iload C 0 dX9_set_152 rfl ?_
                exact G_iret C dX9_set_154 rfl
/-! X9_rule -/
theorem kd_X9_rule : Card yX9_rule cX9_rule 4 (some .int) 2 := ⟨uc_X9_rule, un_X9, ⟨by decide, by decide, by decide⟩, by decide⟩
def p_X9_rule_L53 (Y : RS) (x1 : Int32) (x2 : Int32) (x3 : Int32) : Int32 × RS := (x3, yU Y 0 (s_X1_add (Y 0) 8 x1 x3))
theorem g_X9_rule_L53 {l : Launch} {K : gK} {Γ : gT} {A : Nat → Nat → Nat} (C : Cx l K Γ RX9 cX9_rule 4 (some .int) 6) (Y : RS) (x1 : Int32) (x2 : Int32) (x3 : Int32) : G l K Γ (ro_W K A Y) 53 4 [(0, .ref (A 4 0)), (1, .int x1), (2, .int x2), (3, .int x3)] [] (fun (z : Int32 × RS) => (some (.int z.1), ro_W K A z.2)) (p_X9_rule_L53 Y x1 x2 x3) := by
  unfold p_X9_rule_L53
  refine G_aload_n C 0 dX9_rule_53 rfl ?_
  refine G_get C 0 0 dX9_rule_54 inlX9 uf_X9_10 rfl (by decide) rfl rfl rfl ?_
  refine G_get C 1 4 dX9_rule_57 inlX6 uf_X9_128 rfl (by decide) rfl rfl rfl ?_
  refine G_bipush C dX9_rule_60 (v := 8) rfl ?_
  refine G_iload_n C 1 dX9_rule_62 rfl ?_
  refine G_iload_n C 3 dX9_rule_63 rfl ?_
  refine G_callVv C 19 1 kd_X1_add ui_X1_add us_X1_add um_X9_132 rfl rfl (Ct.chunk1 (cs := ro_C K A Y) (cs' := ro_C K A (yU Y 0 (s_X1_add (Y 0) 8 x1 x3))) 1 rfl (ro_u0 K A Y _) (c_X1_add l K (A 0) (Y 0) 8 x1 x3)) dX9_rule_64 rfl rfl (Nat.le_of_ble_eq_true rfl) (Nat.le_of_ble_eq_true rfl) ?_
  refine G_iload_n C 3 dX9_rule_67 rfl ?_
  exact G_iret C dX9_rule_68 rfl
def p_X9_rule_L41 (Y : RS) (x1 : Int32) (x2 : Int32) (x3 : Int32) : Int32 × RS := p_X9_rule_L53 (yU Y 0 (sU (Y 0) 0 (put_ 3 (Y 0 0) x1 x2))) x1 x2 x3
theorem g_X9_rule_L41 {l : Launch} {K : gK} {Γ : gT} {A : Nat → Nat → Nat} (C : Cx l K Γ RX9 cX9_rule 4 (some .int) 6) (Y : RS) (x1 : Int32) (x2 : Int32) (x3 : Int32) : G l K Γ (ro_W K A Y) 41 4 [(0, .ref (A 4 0)), (1, .int x1), (2, .int x2), (3, .int x3)] [] (fun (z : Int32 × RS) => (some (.int z.1), ro_W K A z.2)) (p_X9_rule_L41 Y x1 x2 x3) := by
  unfold p_X9_rule_L41
  refine G_aload_n C 0 dX9_rule_41 rfl ?_
  refine G_get C 0 0 dX9_rule_42 inlX9 uf_X9_10 rfl (by decide) rfl rfl rfl ?_
  refine G_get C 1 0 dX9_rule_45 inlX6 uf_X9_203 rfl (by decide) rfl rfl rfl ?_
  refine G_iload_n C 1 dX9_rule_48 rfl ?_
  refine G_iload_n C 2 dX9_rule_49 rfl ?_
  refine G_callSv C kd_X9_put ut_X9_put um_X9_195 (Ct.to (r' := (none, ro_W K A (yU Y 0 (sU (Y 0) 0 (put_ 3 (Y 0 0) x1 x2))))) (c_put l K (ws := ro_W K A Y) (q0 := 2) (n := 3) (g := Y 0 0) (ad := (A 0 1)) (by decide) rfl x1 x2) rfl) dX9_rule_50 rfl rfl (Nat.le_of_ble_eq_true rfl) (Nat.le_of_ble_eq_true rfl) ?_
  refine G_sub [0, 1, 2, 3] rfl ?_
  exact g_X9_rule_L53 C (yU Y 0 (sU (Y 0) 0 (put_ 3 (Y 0 0) x1 x2))) x1 x2 x3
def p_X9_rule (Y : RS) (x1 : Int32) (x2 : Int32) : Int32 × RS := if (v_X9_isRule x1 x2) = 0 then (-1, Y) else if (at_ 3 (Y 0 0) x1) = x2 then (-2, Y) else p_X9_rule_L41 (s_X0_remember Y) x1 x2 (at_ 3 (Y 0 0) x1)
theorem c_X9_rule (l : Launch) (K : gK) (A : Nat → Nat → Nat) (Y : RS) (x1 : Int32) (x2 : Int32) : Ct l K yX9_rule cX9_rule 4 (some .int) 6 [.ref (A 4 0), .int x1, .int x2] (ro_W K A Y) (some (.int (p_X9_rule Y x1 x2).1), ro_W K A ((p_X9_rule Y x1 x2).2)) := by
  refine Ct.of (own := RX9) (fun (z : Int32 × RS) => (some (.int z.1), ro_W K A z.2)) (x := p_X9_rule Y x1 x2) (by decide) rfl (Nat.le_of_ble_eq_true rfl) (fun Γ C => ?_)
  unfold p_X9_rule
  refine G_iload_n C 1 dX9_rule_0 rfl ?_
  refine G_iload_n C 2 dX9_rule_1 rfl ?_
  refine G_callSi C kd_X9_isRule ut_X9_isRule um_X9_199 (c_X9_isRule l K (ro_W K A Y) x1 x2) dX9_rule_2 rfl rfl (Nat.le_of_ble_eq_true rfl) (Nat.le_of_ble_eq_true rfl) ?_
  refine G_if_ne C 10 dX9_rule_5 rfl (fun h1 => ?_) (fun h1 => ?_)
  · refine G_iconst C dX9_rule_8 (v := -1) rfl ?_
    exact G_iret C dX9_rule_9 rfl
  · refine G_aload_n C 0 dX9_rule_10 rfl ?_
    refine G_get C 0 0 dX9_rule_11 inlX9 uf_X9_10 rfl (by decide) rfl rfl rfl ?_
    refine G_get C 1 0 dX9_rule_14 inlX6 uf_X9_203 rfl (by decide) rfl rfl rfl ?_
    refine G_iload_n C 1 dX9_rule_17 rfl ?_
    refine G_callSi C kd_X9_at ut_X9_at um_X9_110 (c_at l K (ws := ro_W K A Y) (q0 := 2) (n := 3) (g := Y 0 0) (ad := (A 0 1)) (by decide) rfl x1) dX9_rule_18 rfl rfl (Nat.le_of_ble_eq_true rfl) (Nat.le_of_ble_eq_true rfl) ?_
    refine G_istore_n (lv' := [(3, .int (at_ 3 (Y 0 0) x1)), (0, .ref (A 4 0)), (1, .int x1), (2, .int x2)]) C dX9_rule_21 (by decide) rfl ?_
    refine G_iload_n C 0 dX9_rule_22 rfl ?_
    refine G_iload_n C 3 dX9_rule_23 rfl ?_
    refine G_icmp_ne C 30 dX9_rule_24 rfl (fun h2 => ?_) (fun h2 => ?_)
    · refine G_bipush C dX9_rule_27 (v := -2) rfl ?_
      exact G_iret C dX9_rule_29 rfl
    · refine G_aload_n C 1 dX9_rule_30 rfl ?_
      refine G_get C 0 1 dX9_rule_31 inlX9 uf_X9_19 rfl (by decide) rfl rfl rfl ?_
      refine G_aload_n C 1 dX9_rule_34 rfl ?_
      refine G_get C 0 0 dX9_rule_35 inlX9 uf_X9_10 rfl (by decide) rfl rfl rfl ?_
      refine G_callVv C 51 0 kd_X0_remember ui_X0_remember us_X0_remember um_X9_114 rfl rfl (c_X0_remember l K A Y) dX9_rule_38 rfl rfl (Nat.le_of_ble_eq_true rfl) (Nat.le_of_ble_eq_true rfl) ?_
      refine G_sub [1, 2, 3, 0] rfl ?_
      exact g_X9_rule_L41 C (s_X0_remember Y) x1 x2 (at_ 3 (Y 0 0) x1)
/-! X9_keep -/
theorem kd_X9_keep : Card yX9_keep cX9_keep 2 (some .int) 1 := ⟨uc_X9_keep, un_X9, ⟨by decide, by decide, by decide⟩, by decide⟩
def p_X9_keep_L23 (Y : RS) (x1 : Int32) : Int32 × RS := (Y 0 18 0, Y)
theorem g_X9_keep_L23 {l : Launch} {K : gK} {Γ : gT} {A : Nat → Nat → Nat} (C : Cx l K Γ RX9 cX9_keep 2 (some .int) 5) (Y : RS) (x1 : Int32) : G l K Γ (ro_W K A Y) 23 2 [(0, .ref (A 4 0)), (1, .int x1)] [] (fun (z : Int32 × RS) => (some (.int z.1), ro_W K A z.2)) (p_X9_keep_L23 Y x1) := by
  unfold p_X9_keep_L23
  refine G_aload_n C 0 dX9_keep_23 rfl ?_
  refine G_get C 0 0 dX9_keep_24 inlX9 uf_X9_10 rfl (by decide) rfl rfl rfl ?_
  refine G_get C 1 5 dX9_keep_27 inlX6 uf_X9_180 rfl (by decide) rfl rfl rfl ?_
  exact G_iret C dX9_keep_30 rfl
def p_X9_keep (Y : RS) (x1 : Int32) : Int32 × RS := if (v_X9_isWithin x1 0 1) = 0 then (-1, Y) else p_X9_keep_L23 (s_X5_fill Y x1) x1
theorem c_X9_keep (l : Launch) (K : gK) (A : Nat → Nat → Nat) (Y : RS) (x1 : Int32) : Ct l K yX9_keep cX9_keep 2 (some .int) 5 [.ref (A 4 0), .int x1] (ro_W K A Y) (some (.int (p_X9_keep Y x1).1), ro_W K A ((p_X9_keep Y x1).2)) := by
  refine Ct.of (own := RX9) (fun (z : Int32 × RS) => (some (.int z.1), ro_W K A z.2)) (x := p_X9_keep Y x1) (by decide) rfl (Nat.le_of_ble_eq_true rfl) (fun Γ C => ?_)
  unfold p_X9_keep
  refine G_iload_n C 1 dX9_keep_0 rfl ?_
  refine G_iconst C dX9_keep_1 (v := 0) rfl ?_
  refine G_iconst C dX9_keep_2 (v := 1) rfl ?_
  refine G_callSi C kd_X9_isWithin ut_X9_isWithin um_X9_102 (c_X9_isWithin l K (ro_W K A Y) x1 0 1) dX9_keep_3 rfl rfl (Nat.le_of_ble_eq_true rfl) (Nat.le_of_ble_eq_true rfl) ?_
  refine G_if_ne C 11 dX9_keep_6 rfl (fun h1 => ?_) (fun h1 => ?_)
  · refine G_iconst C dX9_keep_9 (v := -1) rfl ?_
    exact G_iret C dX9_keep_10 rfl
  · refine G_aload_n C 0 dX9_keep_11 rfl ?_
    refine G_get C 0 2 dX9_keep_12 inlX9 uf_X9_26 rfl (by decide) rfl rfl rfl ?_
    refine G_iload_n C 1 dX9_keep_15 rfl ?_
    refine G_aload_n C 0 dX9_keep_16 rfl ?_
    refine G_get C 0 0 dX9_keep_17 inlX9 uf_X9_10 rfl (by decide) rfl rfl rfl ?_
    refine G_callVv C 53 5 kd_X5_fill ui_X5_fill us_X5_fill um_X9_206 rfl rfl (c_X5_fill l K A Y x1) dX9_keep_20 rfl rfl (Nat.le_of_ble_eq_true rfl) (Nat.le_of_ble_eq_true rfl) ?_
    refine G_sub [0, 1] rfl ?_
    exact g_X9_keep_L23 C (s_X5_fill Y x1) x1
/-! X9_undo -/
theorem kd_X9_undo : Card yX9_undo cX9_undo 1 (some .int) 0 := ⟨uc_X9_undo, un_X9, ⟨by decide, by decide, by decide⟩, by decide⟩
def p_X9_undo_L23 (Y : RS) : Int32 × RS := (Y 4 0 3, Y)
theorem g_X9_undo_L23 {l : Launch} {K : gK} {Γ : gT} {A : Nat → Nat → Nat} (C : Cx l K Γ RX9 cX9_undo 1 (some .int) 5) (Y : RS) : G l K Γ (ro_W K A Y) 23 1 [(0, .ref (A 4 0))] [] (fun (z : Int32 × RS) => (some (.int z.1), ro_W K A z.2)) (p_X9_undo_L23 Y) := by
  unfold p_X9_undo_L23
  refine G_aload_n C 0 dX9_undo_23 rfl ?_
  refine G_get C 0 1 dX9_undo_24 inlX9 uf_X9_19 rfl (by decide) rfl rfl rfl ?_
  refine G_get C 51 2 dX9_undo_27 inlX0 uf_X9_214 rfl (by decide) rfl rfl rfl ?_
  exact G_iret C dX9_undo_30 rfl
def p_X9_undo (Y : RS) : Int32 × RS := if (Y 4 0 3) = 0 then (-1, Y) else p_X9_undo_L23 (s_X0_takeBack Y)
theorem c_X9_undo (l : Launch) (K : gK) (A : Nat → Nat → Nat) (Y : RS) : Ct l K yX9_undo cX9_undo 1 (some .int) 5 [.ref (A 4 0)] (ro_W K A Y) (some (.int (p_X9_undo Y).1), ro_W K A ((p_X9_undo Y).2)) := by
  refine Ct.of (own := RX9) (fun (z : Int32 × RS) => (some (.int z.1), ro_W K A z.2)) (x := p_X9_undo Y) (by decide) rfl (Nat.le_of_ble_eq_true rfl) (fun Γ C => ?_)
  unfold p_X9_undo
  refine G_aload_n C 0 dX9_undo_0 rfl ?_
  refine G_get C 0 1 dX9_undo_1 inlX9 uf_X9_19 rfl (by decide) rfl rfl rfl ?_
  refine G_get C 51 2 dX9_undo_4 inlX0 uf_X9_214 rfl (by decide) rfl rfl rfl ?_
  refine G_if_ne C 12 dX9_undo_7 rfl (fun h1 => ?_) (fun h1 => ?_)
  · refine G_iconst C dX9_undo_10 (v := -1) rfl ?_
    exact G_iret C dX9_undo_11 rfl
  · refine G_aload_n C 0 dX9_undo_12 rfl ?_
    refine G_get C 0 1 dX9_undo_13 inlX9 uf_X9_19 rfl (by decide) rfl rfl rfl ?_
    refine G_aload_n C 0 dX9_undo_16 rfl ?_
    refine G_get C 0 0 dX9_undo_17 inlX9 uf_X9_10 rfl (by decide) rfl rfl rfl ?_
    refine G_callVv C 51 0 kd_X0_takeBack ui_X0_takeBack us_X0_takeBack um_X9_215 rfl rfl (c_X0_takeBack l K A Y) dX9_undo_20 rfl rfl (Nat.le_of_ble_eq_true rfl) (Nat.le_of_ble_eq_true rfl) ?_
    refine G_sub [0] rfl ?_
    exact g_X9_undo_L23 C (s_X0_takeBack Y)
/-! X9_value -/
theorem kd_X9_value : Card yX9_value cX9_value 2 (some .int) 1 := ⟨uc_X9_value, un_X9, ⟨by decide, by decide, by decide⟩, by decide⟩
def v_X9_value (Y : RS) (x1 : Int32) : Int32 := if (v_X9_isWithin x1 0 2) = 0 then if (v_X9_isWithin x1 10 18) = 0 then if x1 = 3 then Y 0 18 0 else if x1 = 4 then Y 0 18 2 else if x1 = 5 then v_X2_howManyOpen (Y 0) else if x1 = 6 then Y 0 18 3 else if x1 = 7 then Y 0 18 1 else if x1 = 8 then v_X2_lettersInAll (Y 0) else if x1 = 9 then v_X2_lengthInAll (Y 0) else if x1 = 10 then -1 else if x1 = 11 then -1 else if x1 = 12 then -1 else if x1 = 13 then -1 else if x1 = 14 then -1 else if x1 = 15 then -1 else if x1 = 16 then -1 else if x1 = 17 then -1 else if x1 = 18 then -1 else if x1 = 19 then Y 0 18 6 else if x1 = 20 then Y 4 0 3 else -1 else at_ 9 (Y 0 1) (x1 - 10) else at_ 3 (Y 0 0) x1
theorem c_X9_value (l : Launch) (K : gK) (A : Nat → Nat → Nat) (Y : RS) (x1 : Int32) : Ct l K yX9_value cX9_value 2 (some .int) 4 [.ref (A 4 0), .int x1] (ro_W K A Y) (some (.int (v_X9_value Y x1)), ro_W K A Y) := by
  refine Ct.of (own := RX9) (fun z => (some (.int z), ro_W K A Y)) (x := v_X9_value Y x1) (by decide) rfl (Nat.le_of_ble_eq_true rfl) (fun Γ C => ?_)
  unfold v_X9_value
  refine G_iload_n C 1 dX9_value_0 rfl ?_
  refine G_iconst C dX9_value_1 (v := 0) rfl ?_
  refine G_iconst C dX9_value_2 (v := 2) rfl ?_
  refine G_callSi C kd_X9_isWithin ut_X9_isWithin um_X9_102 (c_X9_isWithin l K (ro_W K A Y) x1 0 2) dX9_value_3 rfl rfl (Nat.le_of_ble_eq_true rfl) (Nat.le_of_ble_eq_true rfl) ?_
  refine G_if_eq C 21 dX9_value_6 rfl (fun h1 => ?_) (fun h1 => ?_)
  · refine G_iload_n C 1 dX9_value_21 rfl ?_
    refine G_bipush C dX9_value_22 (v := 10) rfl ?_
    refine G_bipush C dX9_value_24 (v := 18) rfl ?_
    refine G_callSi C kd_X9_isWithin ut_X9_isWithin um_X9_102 (c_X9_isWithin l K (ro_W K A Y) x1 10 18) dX9_value_26 rfl rfl (Nat.le_of_ble_eq_true rfl) (Nat.le_of_ble_eq_true rfl) ?_
    refine G_if_eq C 47 dX9_value_29 rfl (fun h2 => ?_) (fun h2 => ?_)
    · refine G_iload_n C 1 dX9_value_47 rfl ?_
      refine G_ite (fun h3 => ?_) (fun h3 => ?_)
      · refine G_tswIn (v := 3) C 136 0 dX9_value_48 h3 rfl (by decide) rfl rfl ?_
        refine G_aload_n C 0 dX9_value_136 rfl ?_
        refine G_get C 0 0 dX9_value_137 inlX9 uf_X9_10 rfl (by decide) rfl rfl rfl ?_
        refine G_get C 1 5 dX9_value_140 inlX6 uf_X9_180 rfl (by decide) rfl rfl rfl ?_
        exact G_iret C dX9_value_143 rfl
      · skip
        refine G_ite (fun h4 => ?_) (fun h4 => ?_)
        · refine G_tswIn (v := 4) C 144 1 dX9_value_48 h4 rfl (by decide) rfl rfl ?_
          refine G_aload_n C 0 dX9_value_144 rfl ?_
          refine G_get C 0 0 dX9_value_145 inlX9 uf_X9_10 rfl (by decide) rfl rfl rfl ?_
          refine G_get C 1 2 dX9_value_148 inlX6 uf_X9_89 rfl (by decide) rfl rfl rfl ?_
          refine G_get C 4 8 dX9_value_151 inlX2 uf_X9_93 rfl (by decide) rfl rfl rfl ?_
          exact G_iret C dX9_value_154 rfl
        · skip
          refine G_ite (fun h5 => ?_) (fun h5 => ?_)
          · refine G_tswIn (v := 5) C 155 2 dX9_value_48 h5 rfl (by decide) rfl rfl ?_
            refine G_aload_n C 0 dX9_value_155 rfl ?_
            refine G_get C 0 0 dX9_value_156 inlX9 uf_X9_10 rfl (by decide) rfl rfl rfl ?_
            refine G_get C 1 2 dX9_value_159 inlX6 uf_X9_89 rfl (by decide) rfl rfl rfl ?_
            refine G_callVi C 4 2 kd_X2_howManyOpen ui_X2_howManyOpen us_X2_howManyOpen um_X9_218 rfl rfl (Ct.chunk1 (cs := ro_C K A Y) (cs' := ro_C K A Y) 1 rfl rfl (c_X2_howManyOpen l K (A 0) (Y 0))) dX9_value_162 rfl rfl (Nat.le_of_ble_eq_true rfl) (Nat.le_of_ble_eq_true rfl) ?_
            exact G_iret C dX9_value_165 rfl
          · skip
            refine G_ite (fun h6 => ?_) (fun h6 => ?_)
            · refine G_tswIn (v := 6) C 166 3 dX9_value_48 h6 rfl (by decide) rfl rfl ?_
              refine G_aload_n C 0 dX9_value_166 rfl ?_
              refine G_get C 0 0 dX9_value_167 inlX9 uf_X9_10 rfl (by decide) rfl rfl rfl ?_
              refine G_get C 1 3 dX9_value_170 inlX6 uf_X9_137 rfl (by decide) rfl rfl rfl ?_
              refine G_get C 13 5 dX9_value_173 inlX8 uf_X9_171 rfl (by decide) rfl rfl rfl ?_
              exact G_iret C dX9_value_176 rfl
            · skip
              refine G_ite (fun h7 => ?_) (fun h7 => ?_)
              · refine G_tswIn (v := 7) C 177 4 dX9_value_48 h7 rfl (by decide) rfl rfl ?_
                refine G_aload_n C 0 dX9_value_177 rfl ?_
                refine G_get C 0 0 dX9_value_178 inlX9 uf_X9_10 rfl (by decide) rfl rfl rfl ?_
                refine G_get C 1 6 dX9_value_181 inlX6 uf_X9_221 rfl (by decide) rfl rfl rfl ?_
                exact G_iret C dX9_value_184 rfl
              · skip
                refine G_ite (fun h8 => ?_) (fun h8 => ?_)
                · refine G_tswIn (v := 8) C 185 5 dX9_value_48 h8 rfl (by decide) rfl rfl ?_
                  refine G_aload_n C 0 dX9_value_185 rfl ?_
                  refine G_get C 0 0 dX9_value_186 inlX9 uf_X9_10 rfl (by decide) rfl rfl rfl ?_
                  refine G_get C 1 2 dX9_value_189 inlX6 uf_X9_89 rfl (by decide) rfl rfl rfl ?_
                  refine G_callVi C 4 2 kd_X2_lettersInAll ui_X2_lettersInAll us_X2_lettersInAll um_X9_224 rfl rfl (Ct.chunk1 (cs := ro_C K A Y) (cs' := ro_C K A Y) 1 rfl rfl (c_X2_lettersInAll l K (A 0) (Y 0))) dX9_value_192 rfl rfl (Nat.le_of_ble_eq_true rfl) (Nat.le_of_ble_eq_true rfl) ?_
                  exact G_iret C dX9_value_195 rfl
                · skip
                  refine G_ite (fun h9 => ?_) (fun h9 => ?_)
                  · refine G_tswIn (v := 9) C 196 6 dX9_value_48 h9 rfl (by decide) rfl rfl ?_
                    refine G_aload_n C 0 dX9_value_196 rfl ?_
                    refine G_get C 0 0 dX9_value_197 inlX9 uf_X9_10 rfl (by decide) rfl rfl rfl ?_
                    refine G_get C 1 2 dX9_value_200 inlX6 uf_X9_89 rfl (by decide) rfl rfl rfl ?_
                    refine G_callVi C 4 2 kd_X2_lengthInAll ui_X2_lengthInAll us_X2_lengthInAll um_X9_227 rfl rfl (Ct.chunk1 (cs := ro_C K A Y) (cs' := ro_C K A Y) 1 rfl rfl (c_X2_lengthInAll l K (A 0) (Y 0))) dX9_value_203 rfl rfl (Nat.le_of_ble_eq_true rfl) (Nat.le_of_ble_eq_true rfl) ?_
                    exact G_iret C dX9_value_206 rfl
                  · skip
                    refine G_ite (fun h10 => ?_) (fun h10 => ?_)
                    · refine G_tswIn (v := 10) C 226 7 dX9_value_48 h10 rfl (by decide) rfl rfl ?_
                      refine G_iconst C dX9_value_226 (v := -1) rfl ?_
                      exact G_iret C dX9_value_227 rfl
                    · skip
                      refine G_ite (fun h11 => ?_) (fun h11 => ?_)
                      · refine G_tswIn (v := 11) C 226 8 dX9_value_48 h11 rfl (by decide) rfl rfl ?_
                        refine G_iconst C dX9_value_226 (v := -1) rfl ?_
                        exact G_iret C dX9_value_227 rfl
                      · skip
                        refine G_ite (fun h12 => ?_) (fun h12 => ?_)
                        · refine G_tswIn (v := 12) C 226 9 dX9_value_48 h12 rfl (by decide) rfl rfl ?_
                          refine G_iconst C dX9_value_226 (v := -1) rfl ?_
                          exact G_iret C dX9_value_227 rfl
                        · skip
                          refine G_ite (fun h13 => ?_) (fun h13 => ?_)
                          · refine G_tswIn (v := 13) C 226 10 dX9_value_48 h13 rfl (by decide) rfl rfl ?_
                            refine G_iconst C dX9_value_226 (v := -1) rfl ?_
                            exact G_iret C dX9_value_227 rfl
                          · skip
                            refine G_ite (fun h14 => ?_) (fun h14 => ?_)
                            · refine G_tswIn (v := 14) C 226 11 dX9_value_48 h14 rfl (by decide) rfl rfl ?_
                              refine G_iconst C dX9_value_226 (v := -1) rfl ?_
                              exact G_iret C dX9_value_227 rfl
                            · skip
                              refine G_ite (fun h15 => ?_) (fun h15 => ?_)
                              · refine G_tswIn (v := 15) C 226 12 dX9_value_48 h15 rfl (by decide) rfl rfl ?_
                                refine G_iconst C dX9_value_226 (v := -1) rfl ?_
                                exact G_iret C dX9_value_227 rfl
                              · skip
                                refine G_ite (fun h16 => ?_) (fun h16 => ?_)
                                · refine G_tswIn (v := 16) C 226 13 dX9_value_48 h16 rfl (by decide) rfl rfl ?_
                                  refine G_iconst C dX9_value_226 (v := -1) rfl ?_
                                  exact G_iret C dX9_value_227 rfl
                                · skip
                                  refine G_ite (fun h17 => ?_) (fun h17 => ?_)
                                  · refine G_tswIn (v := 17) C 226 14 dX9_value_48 h17 rfl (by decide) rfl rfl ?_
                                    refine G_iconst C dX9_value_226 (v := -1) rfl ?_
                                    exact G_iret C dX9_value_227 rfl
                                  · skip
                                    refine G_ite (fun h18 => ?_) (fun h18 => ?_)
                                    · refine G_tswIn (v := 18) C 226 15 dX9_value_48 h18 rfl (by decide) rfl rfl ?_
                                      refine G_iconst C dX9_value_226 (v := -1) rfl ?_
                                      exact G_iret C dX9_value_227 rfl
                                    · skip
                                      refine G_ite (fun h19 => ?_) (fun h19 => ?_)
                                      · refine G_tswIn (v := 19) C 207 16 dX9_value_48 h19 rfl (by decide) rfl rfl ?_
                                        refine G_aload_n C 0 dX9_value_207 rfl ?_
                                        refine G_get C 0 0 dX9_value_208 inlX9 uf_X9_10 rfl (by decide) rfl rfl rfl ?_
                                        refine G_get C 1 4 dX9_value_211 inlX6 uf_X9_128 rfl (by decide) rfl rfl rfl ?_
                                        refine G_get C 19 4 dX9_value_214 inlX1 uf_X9_230 rfl (by decide) rfl rfl rfl ?_
                                        exact G_iret C dX9_value_217 rfl
                                      · skip
                                        refine G_ite (fun h20 => ?_) (fun h20 => ?_)
                                        · refine G_tswIn (v := 20) C 218 17 dX9_value_48 h20 rfl (by decide) rfl rfl ?_
                                          refine G_aload_n C 0 dX9_value_218 rfl ?_
                                          refine G_get C 0 1 dX9_value_219 inlX9 uf_X9_19 rfl (by decide) rfl rfl rfl ?_
                                          refine G_get C 51 2 dX9_value_222 inlX0 uf_X9_214 rfl (by decide) rfl rfl rfl ?_
                                          exact G_iret C dX9_value_225 rfl
                                        · skip
                                          refine G_tswOut C 226 dX9_value_48 (by have q0 := i32_ne h3 (n := 3) rfl; have q1 := i32_ne h4 (n := 4) rfl; have q2 := i32_ne h5 (n := 5) rfl; have q3 := i32_ne h6 (n := 6) rfl; have q4 := i32_ne h7 (n := 7) rfl; have q5 := i32_ne h8 (n := 8) rfl; have q6 := i32_ne h9 (n := 9) rfl; have q7 := i32_ne h10 (n := 10) rfl; have q8 := i32_ne h11 (n := 11) rfl; have q9 := i32_ne h12 (n := 12) rfl; have q10 := i32_ne h13 (n := 13) rfl; have q11 := i32_ne h14 (n := 14) rfl; have q12 := i32_ne h15 (n := 15) rfl; have q13 := i32_ne h16 (n := 16) rfl; have q14 := i32_ne h17 (n := 17) rfl; have q15 := i32_ne h18 (n := 18) rfl; have q16 := i32_ne h19 (n := 19) rfl; have q17 := i32_ne h20 (n := 20) rfl; omega) rfl ?_
                                          refine G_iconst C dX9_value_226 (v := -1) rfl ?_
                                          exact G_iret C dX9_value_227 rfl
    · refine G_aload_n C 0 dX9_value_32 rfl ?_
      refine G_get C 0 0 dX9_value_33 inlX9 uf_X9_10 rfl (by decide) rfl rfl rfl ?_
      refine G_get C 1 1 dX9_value_36 inlX6 uf_X9_121 rfl (by decide) rfl rfl rfl ?_
      refine G_iload_n C 1 dX9_value_39 rfl ?_
      refine G_bipush C dX9_value_40 (v := 10) rfl ?_
      refine G_isub C dX9_value_42 ?_
      refine G_callSi C kd_X9_at ut_X9_at um_X9_110 (c_at l K (ws := ro_W K A Y) (q0 := 3) (n := 9) (g := Y 0 1) (ad := (A 0 2)) (by decide) rfl (x1 - 10)) dX9_value_43 rfl rfl (Nat.le_of_ble_eq_true rfl) (Nat.le_of_ble_eq_true rfl) ?_
      exact G_iret C dX9_value_46 rfl
  · refine G_aload_n C 0 dX9_value_9 rfl ?_
    refine G_get C 0 0 dX9_value_10 inlX9 uf_X9_10 rfl (by decide) rfl rfl rfl ?_
    refine G_get C 1 0 dX9_value_13 inlX6 uf_X9_203 rfl (by decide) rfl rfl rfl ?_
    refine G_iload_n C 1 dX9_value_16 rfl ?_
    refine G_callSi C kd_X9_at ut_X9_at um_X9_110 (c_at l K (ws := ro_W K A Y) (q0 := 2) (n := 3) (g := Y 0 0) (ad := (A 0 1)) (by decide) rfl x1) dX9_value_17 rfl rfl (Nat.le_of_ble_eq_true rfl) (Nat.le_of_ble_eq_true rfl) ?_
    exact G_iret C dX9_value_20 rfl
