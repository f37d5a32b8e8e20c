-- PART 07, go on (by gen/mkro.py)
/-! X9_office -/
theorem kd_X9_office : Card yX9_office cX9_office 4 (some .int) 2 := ⟨uc_X9_office, un_X9, ⟨by decide, by decide, by decide⟩, by decide⟩
def v_X9_office (Y : RS) (x1 : Int32) (x2 : Int32) : Int32 := if (v_X2_has (Y 0) x1) = 0 then -1 else if x2 = 0 then at_ 10 (Y 0 2) x1 else if x2 = 1 then at_ 10 (Y 0 3) x1 else if x2 = 2 then at_ 10 (Y 0 4) x1 else if x2 = 3 then at_ 10 (Y 0 5) x1 else if x2 = 4 then at_ 10 (Y 0 7) x1 else if x2 = 5 then v_X2_lengthInQueue (Y 0) x1 else if x2 = 6 then v_X8_standingAt (Y 0) x1 else if x2 = 7 then at_ 10 (Y 0 6) x1 else if x2 = 8 then v_X2_lettersTo (Y 0) x1 else -1
theorem c_X9_office (l : Launch) (K : gK) (A : Nat → Nat → Nat) (Y : RS) (x1 : Int32) (x2 : Int32) : Ct l K yX9_office cX9_office 4 (some .int) 3 [.ref (A 4 0), .int x1, .int x2] (ro_W K A Y) (some (.int (v_X9_office Y x1 x2)), ro_W K A Y) := by
  refine Ct.of (own := RX9) (fun z => (some (.int z), ro_W K A Y)) (x := v_X9_office Y x1 x2) (by decide) rfl (Nat.le_of_ble_eq_true rfl) (fun Γ C => ?_)
  unfold v_X9_office
  refine G_aload_n C 0 dX9_office_0 rfl ?_
  refine G_get C 0 0 dX9_office_1 inlX9 uf_X9_10 rfl (by decide) rfl rfl rfl ?_
  refine G_get C 1 2 dX9_office_4 inlX6 uf_X9_89 rfl (by decide) rfl rfl rfl ?_
  refine G_astore_n (lv' := [(3, .ref (A 0 3)), (0, .ref (A 4 0)), (1, .int x1), (2, .int x2)]) C dX9_office_7 (by decide) rfl ?_
  refine G_aload_n C 0 dX9_office_8 rfl ?_
  refine G_iload_n C 2 dX9_office_9 rfl ?_
  refine G_callVi C 4 2 kd_X2_has ui_X2_has us_X2_has um_X9_98 rfl rfl (Ct.chunk1 (cs := ro_C K A Y) (cs' := ro_C K A Y) 1 rfl rfl (c_X2_has l K (A 0) (Y 0) x1)) dX9_office_10 rfl rfl (Nat.le_of_ble_eq_true rfl) (Nat.le_of_ble_eq_true rfl) ?_
  refine G_if_ne C 18 dX9_office_13 rfl (fun h1 => ?_) (fun h1 => ?_)
  · refine G_iconst C dX9_office_16 (v := -1) rfl ?_
    exact G_iret C dX9_office_17 rfl
  · refine G_iload_n C 3 dX9_office_18 rfl ?_
    refine G_ite (fun h2 => ?_) (fun h2 => ?_)
    · refine G_tswIn (v := 0) C 68 0 dX9_office_19 h2 rfl (by decide) rfl rfl ?_
      refine G_aload_n C 0 dX9_office_68 rfl ?_
      refine G_get C 4 0 dX9_office_69 inlX2 uf_X9_186 rfl (by decide) rfl rfl rfl ?_
      refine G_iload_n C 2 dX9_office_72 rfl ?_
      refine G_callSi C kd_X9_at ut_X9_at um_X9_110 (c_at l K (ws := ro_W K A Y) (q0 := 5) (n := 10) (g := Y 0 2) (ad := (A 0 4)) (by decide) rfl x1) dX9_office_73 rfl rfl (Nat.le_of_ble_eq_true rfl) (Nat.le_of_ble_eq_true rfl) ?_
      exact G_iret C dX9_office_76 rfl
    · skip
      refine G_ite (fun h3 => ?_) (fun h3 => ?_)
      · refine G_tswIn (v := 1) C 77 1 dX9_office_19 h3 rfl (by decide) rfl rfl ?_
        refine G_aload_n C 0 dX9_office_77 rfl ?_
        refine G_get C 4 1 dX9_office_78 inlX2 uf_X9_189 rfl (by decide) rfl rfl rfl ?_
        refine G_iload_n C 2 dX9_office_81 rfl ?_
        refine G_callSi C kd_X9_at ut_X9_at um_X9_110 (c_at l K (ws := ro_W K A Y) (q0 := 6) (n := 10) (g := Y 0 3) (ad := (A 0 5)) (by decide) rfl x1) dX9_office_82 rfl rfl (Nat.le_of_ble_eq_true rfl) (Nat.le_of_ble_eq_true rfl) ?_
        exact G_iret C dX9_office_85 rfl
      · skip
        refine G_ite (fun h4 => ?_) (fun h4 => ?_)
        · refine G_tswIn (v := 2) C 86 2 dX9_office_19 h4 rfl (by decide) rfl rfl ?_
          refine G_aload_n C 0 dX9_office_86 rfl ?_
          refine G_get C 4 2 dX9_office_87 inlX2 uf_X9_155 rfl (by decide) rfl rfl rfl ?_
          refine G_iload_n C 2 dX9_office_90 rfl ?_
          refine G_callSi C kd_X9_at ut_X9_at um_X9_110 (c_at l K (ws := ro_W K A Y) (q0 := 7) (n := 10) (g := Y 0 4) (ad := (A 0 6)) (by decide) rfl x1) dX9_office_91 rfl rfl (Nat.le_of_ble_eq_true rfl) (Nat.le_of_ble_eq_true rfl) ?_
          exact G_iret C dX9_office_94 rfl
        · skip
          refine G_ite (fun h5 => ?_) (fun h5 => ?_)
          · refine G_tswIn (v := 3) C 95 3 dX9_office_19 h5 rfl (by decide) rfl rfl ?_
            refine G_aload_n C 0 dX9_office_95 rfl ?_
            refine G_get C 4 3 dX9_office_96 inlX2 uf_X9_231 rfl (by decide) rfl rfl rfl ?_
            refine G_iload_n C 2 dX9_office_99 rfl ?_
            refine G_callSi C kd_X9_at ut_X9_at um_X9_110 (c_at l K (ws := ro_W K A Y) (q0 := 8) (n := 10) (g := Y 0 5) (ad := (A 0 7)) (by decide) rfl x1) dX9_office_100 rfl rfl (Nat.le_of_ble_eq_true rfl) (Nat.le_of_ble_eq_true rfl) ?_
            exact G_iret C dX9_office_103 rfl
          · skip
            refine G_ite (fun h6 => ?_) (fun h6 => ?_)
            · refine G_tswIn (v := 4) C 104 4 dX9_office_19 h6 rfl (by decide) rfl rfl ?_
              refine G_aload_n C 0 dX9_office_104 rfl ?_
              refine G_get C 4 5 dX9_office_105 inlX2 uf_X9_106 rfl (by decide) rfl rfl rfl ?_
              refine G_iload_n C 2 dX9_office_108 rfl ?_
              refine G_callSi C kd_X9_at ut_X9_at um_X9_110 (c_at l K (ws := ro_W K A Y) (q0 := 10) (n := 10) (g := Y 0 7) (ad := (A 0 9)) (by decide) rfl x1) dX9_office_109 rfl rfl (Nat.le_of_ble_eq_true rfl) (Nat.le_of_ble_eq_true rfl) ?_
              exact G_iret C dX9_office_112 rfl
            · skip
              refine G_ite (fun h7 => ?_) (fun h7 => ?_)
              · refine G_tswIn (v := 5) C 113 5 dX9_office_19 h7 rfl (by decide) rfl rfl ?_
                refine G_aload_n C 0 dX9_office_113 rfl ?_
                refine G_iload_n C 2 dX9_office_114 rfl ?_
                refine G_callVi C 4 2 kd_X2_lengthInQueue ui_X2_lengthInQueue us_X2_lengthInQueue um_X9_234 rfl rfl (Ct.chunk1 (cs := ro_C K A Y) (cs' := ro_C K A Y) 1 rfl rfl (c_X2_lengthInQueue l K (A 0) (Y 0) x1)) dX9_office_115 rfl rfl (Nat.le_of_ble_eq_true rfl) (Nat.le_of_ble_eq_true rfl) ?_
                exact G_iret C dX9_office_118 rfl
              · skip
                refine G_ite (fun h8 => ?_) (fun h8 => ?_)
                · refine G_tswIn (v := 6) C 119 6 dX9_office_19 h8 rfl (by decide) rfl rfl ?_
                  refine G_aload_n C 1 dX9_office_119 rfl ?_
                  refine G_get C 0 0 dX9_office_120 inlX9 uf_X9_10 rfl (by decide) rfl rfl rfl ?_
                  refine G_get C 1 3 dX9_office_123 inlX6 uf_X9_137 rfl (by decide) rfl rfl rfl ?_
                  refine G_iload_n C 2 dX9_office_126 rfl ?_
                  refine G_callVi C 13 8 kd_X8_standingAt ui_X8_standingAt us_X8_standingAt um_X9_237 rfl rfl (Ct.chunk1 (cs := ro_C K A Y) (cs' := ro_C K A Y) 1 rfl rfl (c_X8_standingAt l K (A 0) (Y 0) x1)) dX9_office_127 rfl rfl (Nat.le_of_ble_eq_true rfl) (Nat.le_of_ble_eq_true rfl) ?_
                  exact G_iret C dX9_office_130 rfl
                · skip
                  refine G_ite (fun h9 => ?_) (fun h9 => ?_)
                  · refine G_tswIn (v := 7) C 131 7 dX9_office_19 h9 rfl (by decide) rfl rfl ?_
                    refine G_aload_n C 0 dX9_office_131 rfl ?_
                    refine G_get C 4 4 dX9_office_132 inlX2 uf_X9_240 rfl (by decide) rfl rfl rfl ?_
                    refine G_iload_n C 2 dX9_office_135 rfl ?_
                    refine G_callSi C kd_X9_at ut_X9_at um_X9_110 (c_at l K (ws := ro_W K A Y) (q0 := 9) (n := 10) (g := Y 0 6) (ad := (A 0 8)) (by decide) rfl x1) dX9_office_136 rfl rfl (Nat.le_of_ble_eq_true rfl) (Nat.le_of_ble_eq_true rfl) ?_
                    exact G_iret C dX9_office_139 rfl
                  · skip
                    refine G_ite (fun h10 => ?_) (fun h10 => ?_)
                    · refine G_tswIn (v := 8) C 140 8 dX9_office_19 h10 rfl (by decide) rfl rfl ?_
                      refine G_aload_n C 0 dX9_office_140 rfl ?_
                      refine G_iload_n C 2 dX9_office_141 rfl ?_
                      refine G_callVi C 4 2 kd_X2_lettersTo ui_X2_lettersTo us_X2_lettersTo um_X9_243 rfl rfl (Ct.chunk1 (cs := ro_C K A Y) (cs' := ro_C K A Y) 1 rfl rfl (c_X2_lettersTo l K (A 0) (Y 0) x1)) dX9_office_142 rfl rfl (Nat.le_of_ble_eq_true rfl) (Nat.le_of_ble_eq_true rfl) ?_
                      exact G_iret C dX9_office_145 rfl
                    · skip
                      refine G_tswOut C 146 dX9_office_19 (by have q0 := i32_ne h2 (n := 0) rfl; have q1 := i32_ne h3 (n := 1) rfl; have q2 := i32_ne h4 (n := 2) rfl; have q3 := i32_ne h5 (n := 3) rfl; have q4 := i32_ne h6 (n := 4) rfl; have q5 := i32_ne h7 (n := 5) rfl; have q6 := i32_ne h8 (n := 6) rfl; have q7 := i32_ne h9 (n := 7) rfl; have q8 := i32_ne h10 (n := 8) rfl; omega) rfl ?_
                      refine G_iconst C dX9_office_146 (v := -1) rfl ?_
                      exact G_iret C dX9_office_147 rfl
/-! X9_queue -/
theorem kd_X9_queue : Card yX9_queue cX9_queue 6 (some .int) 3 := ⟨uc_X9_queue, un_X9, ⟨by decide, by decide, by decide⟩, by decide⟩
def v_X9_queue_L91 (Y : RS) (x1 : Int32) (x2 : Int32) (x3 : Int32) (x5 : Int32) : Int32 := v_X2_lengthOf (Y 0) x1 x2
theorem g_X9_queue_L91 {l : Launch} {K : gK} {Γ : gT} {A : Nat → Nat → Nat} (C : Cx l K Γ RX9 cX9_queue 6 (some .int) 4) (Y : RS) (x1 : Int32) (x2 : Int32) (x3 : Int32) (x5 : Int32) : G l K Γ (ro_W K A Y) 91 6 [(0, .ref (A 4 0)), (1, .int x1), (2, .int x2), (3, .int x3), (4, .ref (A 0 3)), (5, .int x5)] [] (fun z => (some (.int z), ro_W K A Y)) (v_X9_queue_L91 Y x1 x2 x3 x5) := by
  unfold v_X9_queue_L91
  refine G_aload C 4 dX9_queue_91 rfl ?_
  refine G_iload_n C 1 dX9_queue_93 rfl ?_
  refine G_iload_n C 2 dX9_queue_94 rfl ?_
  refine G_callVi C 4 2 kd_X2_lengthOf ui_X2_lengthOf us_X2_lengthOf um_X9_147 rfl rfl (Ct.chunk1 (cs := ro_C K A Y) (cs' := ro_C K A Y) 1 rfl rfl (c_X2_lengthOf l K (A 0) (Y 0) x1 x2)) dX9_queue_95 rfl rfl (Nat.le_of_ble_eq_true rfl) (Nat.le_of_ble_eq_true rfl) ?_
  exact G_iret C dX9_queue_98 rfl
def v_X9_queue (Y : RS) (x1 : Int32) (x2 : Int32) (x3 : Int32) : Int32 := if (v_X2_has (Y 0) x1) = 0 then -1 else if x2 < 0 then -1 else if (v_X9_isWithin x3 0 2) = 0 then -1 else if x2 < (at_ 10 (Y 0 7) x1) then if x3 = 0 then v_X2_toOf (Y 0) x1 x2 else if x3 = 2 then if x2 = 0 then if 0 < (v_X8_leftAt (Y 0) x1) then v_X8_leftAt (Y 0) x1 else v_X9_queue_L91 Y x1 x2 x3 (v_X8_leftAt (Y 0) x1) else v_X9_queue_L91 Y x1 x2 x3 (v_X8_leftAt (Y 0) x1) else v_X9_queue_L91 Y x1 x2 x3 (v_X8_leftAt (Y 0) x1) else -2
theorem c_X9_queue (l : Launch) (K : gK) (A : Nat → Nat → Nat) (Y : RS) (x1 : Int32) (x2 : Int32) (x3 : Int32) : Ct l K yX9_queue cX9_queue 6 (some .int) 4 [.ref (A 4 0), .int x1, .int x2, .int x3] (ro_W K A Y) (some (.int (v_X9_queue Y x1 x2 x3)), ro_W K A Y) := by
  refine Ct.of (own := RX9) (fun z => (some (.int z), ro_W K A Y)) (x := v_X9_queue Y x1 x2 x3) (by decide) rfl (Nat.le_of_ble_eq_true rfl) (fun Γ C => ?_)
  unfold v_X9_queue
  refine G_aload_n C 0 dX9_queue_0 rfl ?_
  refine G_get C 0 0 dX9_queue_1 inlX9 uf_X9_10 rfl (by decide) rfl rfl rfl ?_
  refine G_get C 1 2 dX9_queue_4 inlX6 uf_X9_89 rfl (by decide) rfl rfl rfl ?_
  refine G_astore (lv' := [(4, .ref (A 0 3)), (0, .ref (A 4 0)), (1, .int x1), (2, .int x2), (3, .int x3)]) C dX9_queue_7 (by decide) rfl ?_
  refine G_aload C 0 dX9_queue_9 rfl ?_
  refine G_iload_n C 2 dX9_queue_11 rfl ?_
  refine G_callVi C 4 2 kd_X2_has ui_X2_has us_X2_has um_X9_98 rfl rfl (Ct.chunk1 (cs := ro_C K A Y) (cs' := ro_C K A Y) 1 rfl rfl (c_X2_has l K (A 0) (Y 0) x1)) dX9_queue_12 rfl rfl (Nat.le_of_ble_eq_true rfl) (Nat.le_of_ble_eq_true rfl) ?_
  refine G_if_eq C 31 dX9_queue_15 rfl (fun h1 => ?_) (fun h1 => ?_)
  · refine G_iconst C dX9_queue_31 (v := -1) rfl ?_
    exact G_iret C dX9_queue_32 rfl
  · refine G_iload_n C 3 dX9_queue_18 rfl ?_
    refine G_if_lt C 31 dX9_queue_19 rfl (fun h2 => ?_) (fun h2 => ?_)
    · refine G_iconst C dX9_queue_31 (v := -1) rfl ?_
      exact G_iret C dX9_queue_32 rfl
    · refine G_iload_n C 4 dX9_queue_22 rfl ?_
      refine G_iconst C dX9_queue_23 (v := 0) rfl ?_
      refine G_iconst C dX9_queue_24 (v := 2) rfl ?_
      refine G_callSi C kd_X9_isWithin ut_X9_isWithin um_X9_102 (c_X9_isWithin l K (ro_W K A Y) x3 0 2) dX9_queue_25 rfl rfl (Nat.le_of_ble_eq_true rfl) (Nat.le_of_ble_eq_true rfl) ?_
      refine G_if_ne C 33 dX9_queue_28 rfl (fun h3 => ?_) (fun h3 => ?_)
      · refine G_iconst C dX9_queue_31 (v := -1) rfl ?_
        exact G_iret C dX9_queue_32 rfl
      · refine G_iload_n C 3 dX9_queue_33 rfl ?_
        refine G_aload C 0 dX9_queue_34 rfl ?_
        refine G_get C 4 5 dX9_queue_36 inlX2 uf_X9_106 rfl (by decide) rfl rfl rfl ?_
        refine G_iload_n C 2 dX9_queue_39 rfl ?_
        refine G_callSi C kd_X9_at ut_X9_at um_X9_110 (c_at l K (ws := ro_W K A Y) (q0 := 10) (n := 10) (g := Y 0 7) (ad := (A 0 9)) (by decide) rfl x1) dX9_queue_40 rfl rfl (Nat.le_of_ble_eq_true rfl) (Nat.le_of_ble_eq_true rfl) ?_
        refine G_icmp_lt C 49 dX9_queue_43 rfl (fun h4 => ?_) (fun h4 => ?_)
        · refine G_iload_n C 4 dX9_queue_49 rfl ?_
          refine G_if_ne C 61 dX9_queue_50 rfl (fun h5 => ?_) (fun h5 => ?_)
          · refine G_aload C 0 dX9_queue_53 rfl ?_
            refine G_iload_n C 2 dX9_queue_55 rfl ?_
            refine G_iload_n C 3 dX9_queue_56 rfl ?_
            refine G_callVi C 4 2 kd_X2_toOf ui_X2_toOf us_X2_toOf um_X9_246 rfl rfl (Ct.chunk1 (cs := ro_C K A Y) (cs' := ro_C K A Y) 1 rfl rfl (c_X2_toOf l K (A 0) (Y 0) x1 x2)) dX9_queue_57 rfl rfl (Nat.le_of_ble_eq_true rfl) (Nat.le_of_ble_eq_true rfl) ?_
            exact G_iret C dX9_queue_60 rfl
          · refine G_aload_n C 1 dX9_queue_61 rfl ?_
            refine G_get C 0 0 dX9_queue_62 inlX9 uf_X9_10 rfl (by decide) rfl rfl rfl ?_
            refine G_get C 1 3 dX9_queue_65 inlX6 uf_X9_137 rfl (by decide) rfl rfl rfl ?_
            refine G_iload_n C 2 dX9_queue_68 rfl ?_
            refine G_callVi C 13 8 kd_X8_leftAt ui_X8_leftAt us_X8_leftAt um_X9_141 rfl rfl (Ct.chunk1 (cs := ro_C K A Y) (cs' := ro_C K A Y) 1 rfl rfl (c_X8_leftAt l K (A 0) (Y 0) x1)) dX9_queue_69 rfl rfl (Nat.le_of_ble_eq_true rfl) (Nat.le_of_ble_eq_true rfl) ?_
            refine G_istore (lv' := [(5, .int (v_X8_leftAt (Y 0) x1)), (4, .ref (A 0 3)), (0, .ref (A 4 0)), (1, .int x1), (2, .int x2), (3, .int x3)]) C dX9_queue_72 (by decide) rfl ?_
            refine G_iload_n C 5 dX9_queue_74 rfl ?_
            refine G_iconst C dX9_queue_75 (v := 2) rfl ?_
            refine G_icmp_ne C 91 dX9_queue_76 rfl (fun h6 => ?_) (fun h6 => ?_)
            · refine G_iload_n C 4 dX9_queue_79 rfl ?_
              refine G_if_ne C 91 dX9_queue_80 rfl (fun h7 => ?_) (fun h7 => ?_)
              · refine G_iload C 0 dX9_queue_83 rfl ?_
                refine G_if_le C 91 dX9_queue_85 rfl (fun h8 => ?_) (fun h8 => ?_)
                · refine G_iload C 0 dX9_queue_88 rfl ?_
                  exact G_iret C dX9_queue_90 rfl
                · refine G_sub [2, 3, 4, 5, 1, 0] rfl ?_
                  exact g_X9_queue_L91 C Y x1 x2 x3 (v_X8_leftAt (Y 0) x1)
              · refine G_sub [2, 3, 4, 5, 1, 0] rfl ?_
                exact g_X9_queue_L91 C Y x1 x2 x3 (v_X8_leftAt (Y 0) x1)
            · refine G_sub [2, 3, 4, 5, 1, 0] rfl ?_
              exact g_X9_queue_L91 C Y x1 x2 x3 (v_X8_leftAt (Y 0) x1)
        · refine G_bipush C dX9_queue_46 (v := -2) rfl ?_
          exact G_iret C dX9_queue_48 rfl
/-! X9_token -/
theorem kd_X9_token : Card yX9_token cX9_token 4 (some .int) 2 := ⟨uc_X9_token, un_X9, ⟨by decide, by decide, by decide⟩, by decide⟩
def v_X9_token (Y : RS) (x1 : Int32) (x2 : Int32) : Int32 := if (v_X8_has (Y 0) x1) = 0 then -1 else if x2 = 0 then at_ 3 (Y 0 10) x1 else if x2 = 1 then at_ 3 (Y 0 11) x1 else if x2 = 2 then at_ 3 (Y 0 12) x1 else if x2 = 3 then at_ 3 (Y 0 13) x1 else if x2 = 4 then at_ 3 (Y 0 14) x1 else -1
theorem c_X9_token (l : Launch) (K : gK) (A : Nat → Nat → Nat) (Y : RS) (x1 : Int32) (x2 : Int32) : Ct l K yX9_token cX9_token 4 (some .int) 1 [.ref (A 4 0), .int x1, .int x2] (ro_W K A Y) (some (.int (v_X9_token Y x1 x2)), ro_W K A Y) := by
  refine Ct.of (own := RX9) (fun z => (some (.int z), ro_W K A Y)) (x := v_X9_token Y x1 x2) (by decide) rfl (Nat.le_of_ble_eq_true rfl) (fun Γ C => ?_)
  unfold v_X9_token
  refine G_aload_n C 0 dX9_token_0 rfl ?_
  refine G_get C 0 0 dX9_token_1 inlX9 uf_X9_10 rfl (by decide) rfl rfl rfl ?_
  refine G_get C 1 3 dX9_token_4 inlX6 uf_X9_137 rfl (by decide) rfl rfl rfl ?_
  refine G_astore_n (lv' := [(3, .ref (A 0 12)), (0, .ref (A 4 0)), (1, .int x1), (2, .int x2)]) C dX9_token_7 (by decide) rfl ?_
  refine G_aload_n C 0 dX9_token_8 rfl ?_
  refine G_iload_n C 2 dX9_token_9 rfl ?_
  refine G_callVi C 13 8 kd_X8_has ui_X8_has us_X8_has um_X9_161 rfl rfl (Ct.chunk1 (cs := ro_C K A Y) (cs' := ro_C K A Y) 1 rfl rfl (c_X8_has l K (A 0) (Y 0) x1)) dX9_token_10 rfl rfl (Nat.le_of_ble_eq_true rfl) (Nat.le_of_ble_eq_true rfl) ?_
  refine G_if_ne C 18 dX9_token_13 rfl (fun h1 => ?_) (fun h1 => ?_)
  · refine G_iconst C dX9_token_16 (v := -1) rfl ?_
    exact G_iret C dX9_token_17 rfl
  · refine G_iload_n C 3 dX9_token_18 rfl ?_
    refine G_ite (fun h2 => ?_) (fun h2 => ?_)
    · refine G_tswIn (v := 0) C 52 0 dX9_token_19 h2 rfl (by decide) rfl rfl ?_
      refine G_aload_n C 0 dX9_token_52 rfl ?_
      refine G_get C 13 0 dX9_token_53 inlX8 uf_X9_162 rfl (by decide) rfl rfl rfl ?_
      refine G_iload_n C 2 dX9_token_56 rfl ?_
      refine G_callSi C kd_X9_at ut_X9_at um_X9_110 (c_at l K (ws := ro_W K A Y) (q0 := 14) (n := 3) (g := Y 0 10) (ad := (A 0 13)) (by decide) rfl x1) dX9_token_57 rfl rfl (Nat.le_of_ble_eq_true rfl) (Nat.le_of_ble_eq_true rfl) ?_
      exact G_iret C dX9_token_60 rfl
    · skip
      refine G_ite (fun h3 => ?_) (fun h3 => ?_)
      · refine G_tswIn (v := 1) C 61 1 dX9_token_19 h3 rfl (by decide) rfl rfl ?_
        refine G_aload_n C 0 dX9_token_61 rfl ?_
        refine G_get C 13 1 dX9_token_62 inlX8 uf_X9_249 rfl (by decide) rfl rfl rfl ?_
        refine G_iload_n C 2 dX9_token_65 rfl ?_
        refine G_callSi C kd_X9_at ut_X9_at um_X9_110 (c_at l K (ws := ro_W K A Y) (q0 := 15) (n := 3) (g := Y 0 11) (ad := (A 0 14)) (by decide) rfl x1) dX9_token_66 rfl rfl (Nat.le_of_ble_eq_true rfl) (Nat.le_of_ble_eq_true rfl) ?_
        exact G_iret C dX9_token_69 rfl
      · skip
        refine G_ite (fun h4 => ?_) (fun h4 => ?_)
        · refine G_tswIn (v := 2) C 70 2 dX9_token_19 h4 rfl (by decide) rfl rfl ?_
          refine G_aload_n C 0 dX9_token_70 rfl ?_
          refine G_get C 13 2 dX9_token_71 inlX8 uf_X9_252 rfl (by decide) rfl rfl rfl ?_
          refine G_iload_n C 2 dX9_token_74 rfl ?_
          refine G_callSi C kd_X9_at ut_X9_at um_X9_110 (c_at l K (ws := ro_W K A Y) (q0 := 16) (n := 3) (g := Y 0 12) (ad := (A 0 15)) (by decide) rfl x1) dX9_token_75 rfl rfl (Nat.le_of_ble_eq_true rfl) (Nat.le_of_ble_eq_true rfl) ?_
          exact G_iret C dX9_token_78 rfl
        · skip
          refine G_ite (fun h5 => ?_) (fun h5 => ?_)
          · refine G_tswIn (v := 3) C 79 3 dX9_token_19 h5 rfl (by decide) rfl rfl ?_
            refine G_aload_n C 0 dX9_token_79 rfl ?_
            refine G_get C 13 3 dX9_token_80 inlX8 uf_X9_255 rfl (by decide) rfl rfl rfl ?_
            refine G_iload_n C 2 dX9_token_83 rfl ?_
            refine G_callSi C kd_X9_at ut_X9_at um_X9_110 (c_at l K (ws := ro_W K A Y) (q0 := 17) (n := 3) (g := Y 0 13) (ad := (A 0 16)) (by decide) rfl x1) dX9_token_84 rfl rfl (Nat.le_of_ble_eq_true rfl) (Nat.le_of_ble_eq_true rfl) ?_
            exact G_iret C dX9_token_87 rfl
          · skip
            refine G_ite (fun h6 => ?_) (fun h6 => ?_)
            · refine G_tswIn (v := 4) C 88 4 dX9_token_19 h6 rfl (by decide) rfl rfl ?_
              refine G_aload_n C 0 dX9_token_88 rfl ?_
              refine G_get C 13 4 dX9_token_89 inlX8 uf_X9_258 rfl (by decide) rfl rfl rfl ?_
              refine G_iload_n C 2 dX9_token_92 rfl ?_
              refine G_callSi C kd_X9_at ut_X9_at um_X9_110 (c_at l K (ws := ro_W K A Y) (q0 := 18) (n := 3) (g := Y 0 14) (ad := (A 0 17)) (by decide) rfl x1) dX9_token_93 rfl rfl (Nat.le_of_ble_eq_true rfl) (Nat.le_of_ble_eq_true rfl) ?_
              exact G_iret C dX9_token_96 rfl
            · skip
              refine G_tswOut C 97 dX9_token_19 (by have q0 := i32_ne h2 (n := 0) rfl; have q1 := i32_ne h3 (n := 1) rfl; have q2 := i32_ne h4 (n := 2) rfl; have q3 := i32_ne h5 (n := 3) rfl; have q4 := i32_ne h6 (n := 4) rfl; omega) rfl ?_
              refine G_iconst C dX9_token_97 (v := -1) rfl ?_
              exact G_iret C dX9_token_98 rfl
/-! X9_winner -/
theorem kd_X9_winner : Card yX9_winner cX9_winner 1 (some .int) 0 := ⟨uc_X9_winner, un_X9, ⟨by decide, by decide, by decide⟩, by decide⟩
def v_X9_winner (Y : RS) : Int32 := v_X2_openWithGreatestName (Y 0)
theorem c_X9_winner (l : Launch) (K : gK) (A : Nat → Nat → Nat) (Y : RS) : Ct l K yX9_winner cX9_winner 1 (some .int) 3 [.ref (A 4 0)] (ro_W K A Y) (some (.int (v_X9_winner Y)), ro_W K A Y) := by
  refine Ct.of (own := RX9) (fun z => (some (.int z), ro_W K A Y)) (x := v_X9_winner Y) (by decide) rfl (Nat.le_of_ble_eq_true rfl) (fun Γ C => ?_)
  unfold v_X9_winner
  refine G_aload_n C 0 dX9_winner_0 rfl ?_
  refine G_get C 0 0 dX9_winner_1 inlX9 uf_X9_10 rfl (by decide) rfl rfl rfl ?_
  refine G_get C 1 2 dX9_winner_4 inlX6 uf_X9_89 rfl (by decide) rfl rfl rfl ?_
  refine G_callVi C 4 2 kd_X2_openWithGreatestName ui_X2_openWithGreatestName us_X2_openWithGreatestName um_X9_261 rfl rfl (Ct.chunk1 (cs := ro_C K A Y) (cs' := ro_C K A Y) 1 rfl rfl (c_X2_openWithGreatestName l K (A 0) (Y 0))) dX9_winner_7 rfl rfl (Nat.le_of_ble_eq_true rfl) (Nat.le_of_ble_eq_true rfl) ?_
  exact G_iret C dX9_winner_10 rfl
/-! X9_round -/
theorem kd_X9_round : Card yX9_round cX9_round 3 (some .int) 0 := ⟨uc_X9_round, un_X9, ⟨by decide, by decide, by decide⟩, by decide⟩
def v_X9_round_L4 : Nat → RS → Int32 → Int32 → Int32
  | 0, _, _, _ => 0
  | fuel + 1, Y, x1, x2 => if x2 < (Y 0 18 2) then v_X9_round_L4 fuel Y (x1 + (at_ 10 (Y 0 2) x2)) (x2 + 1) else x1
theorem g_X9_round_L4 {l : Launch} {K : gK} {Γ : gT} {A : Nat → Nat → Nat} (C : Cx l K Γ RX9 cX9_round 3 (some .int) 1) : ∀ (n : Nat) (Y : RS) (x1 : Int32) (x2 : Int32), mu x2 < n → G l K Γ (ro_W K A Y) 4 3 [(0, .ref (A 4 0)), (1, .int x1), (2, .int x2)] [] (fun z => (some (.int z), ro_W K A Y)) (v_X9_round_L4 n Y x1 x2) := by
  intro n
  induction n with
  | zero =>
    intro Y x1 x2 hm
    exact absurd hm (Nat.not_lt_zero _)
  | succ n ih =>
    intro Y x1 x2 hm
    rw [v_X9_round_L4]
    refine G_iload_n C 2 dX9_round_4 rfl ?_
    refine G_aload_n C 0 dX9_round_5 rfl ?_
    refine G_get C 0 0 dX9_round_6 inlX9 uf_X9_10 rfl (by decide) rfl rfl rfl ?_
    refine G_get C 1 2 dX9_round_9 inlX6 uf_X9_89 rfl (by decide) rfl rfl rfl ?_
    refine G_get C 4 8 dX9_round_12 inlX2 uf_X9_93 rfl (by decide) rfl rfl rfl ?_
    refine G_icmp_ge C 41 dX9_round_15 rfl (fun h1 => ?_) (fun h1 => ?_)
    · refine G_iload_n C 1 dX9_round_18 rfl ?_
      refine G_aload_n C 0 dX9_round_19 rfl ?_
      refine G_get C 0 0 dX9_round_20 inlX9 uf_X9_10 rfl (by decide) rfl rfl rfl ?_
      refine G_get C 1 2 dX9_round_23 inlX6 uf_X9_89 rfl (by decide) rfl rfl rfl ?_
      refine G_get C 4 0 dX9_round_26 inlX2 uf_X9_186 rfl (by decide) rfl rfl rfl ?_
      refine G_iload_n C 2 dX9_round_29 rfl ?_
      refine G_callSi C kd_X9_at ut_X9_at um_X9_110 (c_at l K (ws := ro_W K A Y) (q0 := 5) (n := 10) (g := Y 0 2) (ad := (A 0 4)) (by decide) rfl x2) dX9_round_30 rfl rfl (Nat.le_of_ble_eq_true rfl) (Nat.le_of_ble_eq_true rfl) ?_
      refine G_iadd C dX9_round_33 ?_
      refine G_istore_n (lv' := [(1, .int (x1 + (at_ 10 (Y 0 2) x2))), (0, .ref (A 4 0)), (2, .int x2)]) C dX9_round_34 (by decide) rfl ?_
      refine G_iinc (lv' := [(2, .int (x2 + 1)), (1, .int (x1 + (at_ 10 (Y 0 2) x2))), (0, .ref (A 4 0))]) C 2 dX9_round_35 rfl rfl (by decide) rfl ?_
      refine G_goto C 4 dX9_round_38 rfl ?_
      refine G_sub [2, 1, 0] rfl ?_
      exact ih Y (x1 + (at_ 10 (Y 0 2) x2)) (x2 + 1) (by have := mu_up h1; omega)
    · refine G_iload_n C 1 dX9_round_41 rfl ?_
      exact G_iret C dX9_round_42 rfl
def v_X9_round (Y : RS) : Int32 := v_X9_round_L4 (mu 0 + 1) Y 0 0
theorem c_X9_round (l : Launch) (K : gK) (A : Nat → Nat → Nat) (Y : RS) : Ct l K yX9_round cX9_round 3 (some .int) 1 [.ref (A 4 0)] (ro_W K A Y) (some (.int (v_X9_round Y)), ro_W K A Y) := by
  refine Ct.of (own := RX9) (fun z => (some (.int z), ro_W K A Y)) (x := v_X9_round Y) (by decide) rfl (Nat.le_of_ble_eq_true rfl) (fun Γ C => ?_)
  unfold v_X9_round
  refine G_iconst C dX9_round_0 (v := 0) rfl ?_
  refine G_istore_n (lv' := [(1, .int 0), (0, .ref (A 4 0))]) C dX9_round_1 (by decide) rfl ?_
  refine G_iconst C dX9_round_2 (v := 0) rfl ?_
  refine G_istore_n (lv' := [(2, .int 0), (1, .int 0), (0, .ref (A 4 0))]) C dX9_round_3 (by decide) rfl ?_
  refine G_sub [2, 1, 0] rfl ?_
  exact g_X9_round_L4 C _ Y 0 0 (Nat.lt_succ_self _)
/-! X9_busiest -/
theorem kd_X9_busiest : Card yX9_busiest cX9_busiest 3 (some .int) 0 := ⟨uc_X9_busiest, un_X9, ⟨by decide, by decide, by decide⟩, by decide⟩
def v_X9_busiest_L4 : Nat → RS → Int32 → Int32 → Int32
  | 0, _, _, _ => 0
  | fuel + 1, Y, x1, x2 => if x2 < (Y 0 18 2) then if (v_X2_lengthInQueue (Y 0) x1) < (v_X2_lengthInQueue (Y 0) x2) then v_X9_busiest_L4 fuel Y x2 (x2 + 1) else v_X9_busiest_L4 fuel Y x1 (x2 + 1) else x1
theorem g_X9_busiest_L4 {l : Launch} {K : gK} {Γ : gT} {A : Nat → Nat → Nat} (C : Cx l K Γ RX9 cX9_busiest 3 (some .int) 3) : ∀ (n : Nat) (Y : RS) (x1 : Int32) (x2 : Int32), mu x2 < n → G l K Γ (ro_W K A Y) 4 3 [(0, .ref (A 4 0)), (1, .int x1), (2, .int x2)] [] (fun z => (some (.int z), ro_W K A Y)) (v_X9_busiest_L4 n Y x1 x2) := by
  intro n
  induction n with
  | zero =>
    intro Y x1 x2 hm
    exact absurd hm (Nat.not_lt_zero _)
  | succ n ih =>
    intro Y x1 x2 hm
    rw [v_X9_busiest_L4]
    refine G_iload_n C 2 dX9_busiest_4 rfl ?_
    refine G_aload_n C 0 dX9_busiest_5 rfl ?_
    refine G_get C 0 0 dX9_busiest_6 inlX9 uf_X9_10 rfl (by decide) rfl rfl rfl ?_
    refine G_get C 1 2 dX9_busiest_9 inlX6 uf_X9_89 rfl (by decide) rfl rfl rfl ?_
    refine G_get C 4 8 dX9_busiest_12 inlX2 uf_X9_93 rfl (by decide) rfl rfl rfl ?_
    refine G_icmp_ge C 51 dX9_busiest_15 rfl (fun h1 => ?_) (fun h1 => ?_)
    · refine G_aload_n C 0 dX9_busiest_18 rfl ?_
      refine G_get C 0 0 dX9_busiest_19 inlX9 uf_X9_10 rfl (by decide) rfl rfl rfl ?_
      refine G_get C 1 2 dX9_busiest_22 inlX6 uf_X9_89 rfl (by decide) rfl rfl rfl ?_
      refine G_iload_n C 2 dX9_busiest_25 rfl ?_
      refine G_callVi C 4 2 kd_X2_lengthInQueue ui_X2_lengthInQueue us_X2_lengthInQueue um_X9_234 rfl rfl (Ct.chunk1 (cs := ro_C K A Y) (cs' := ro_C K A Y) 1 rfl rfl (c_X2_lengthInQueue l K (A 0) (Y 0) x2)) dX9_busiest_26 rfl rfl (Nat.le_of_ble_eq_true rfl) (Nat.le_of_ble_eq_true rfl) ?_
      refine G_aload_n C 0 dX9_busiest_29 rfl ?_
      refine G_get C 0 0 dX9_busiest_30 inlX9 uf_X9_10 rfl (by decide) rfl rfl rfl ?_
      refine G_get C 1 2 dX9_busiest_33 inlX6 uf_X9_89 rfl (by decide) rfl rfl rfl ?_
      refine G_iload_n C 1 dX9_busiest_36 rfl ?_
      refine G_callVi C 4 2 kd_X2_lengthInQueue ui_X2_lengthInQueue us_X2_lengthInQueue um_X9_234 rfl rfl (Ct.chunk1 (cs := ro_C K A Y) (cs' := ro_C K A Y) 1 rfl rfl (c_X2_lengthInQueue l K (A 0) (Y 0) x1)) dX9_busiest_37 rfl rfl (Nat.le_of_ble_eq_true rfl) (Nat.le_of_ble_eq_true rfl) ?_
      refine G_icmp_le C 45 dX9_busiest_40 rfl (fun h2 => ?_) (fun h2 => ?_)
      · refine G_iload_n C 2 dX9_busiest_43 rfl ?_
        refine G_istore_n (lv' := [(1, .int x2), (0, .ref (A 4 0)), (2, .int x2)]) C dX9_busiest_44 (by decide) rfl ?_
        refine G_iinc (lv' := [(2, .int (x2 + 1)), (1, .int x2), (0, .ref (A 4 0))]) C 2 dX9_busiest_45 rfl rfl (by decide) rfl ?_
        refine G_goto C 4 dX9_busiest_48 rfl ?_
        refine G_sub [2, 1, 0] rfl ?_
        exact ih Y x2 (x2 + 1) (by have := mu_up h1; omega)
      · refine G_iinc (lv' := [(2, .int (x2 + 1)), (0, .ref (A 4 0)), (1, .int x1)]) C 2 dX9_busiest_45 rfl rfl (by decide) rfl ?_
        refine G_goto C 4 dX9_busiest_48 rfl ?_
        refine G_sub [1, 2, 0] rfl ?_
        exact ih Y x1 (x2 + 1) (by have := mu_up h1; omega)
    · refine G_iload_n C 1 dX9_busiest_51 rfl ?_
      exact G_iret C dX9_busiest_52 rfl
def v_X9_busiest (Y : RS) : Int32 := v_X9_busiest_L4 (mu 1 + 1) Y 0 1
theorem c_X9_busiest (l : Launch) (K : gK) (A : Nat → Nat → Nat) (Y : RS) : Ct l K yX9_busiest cX9_busiest 3 (some .int) 3 [.ref (A 4 0)] (ro_W K A Y) (some (.int (v_X9_busiest Y)), ro_W K A Y) := by
  refine Ct.of (own := RX9) (fun z => (some (.int z), ro_W K A Y)) (x := v_X9_busiest Y) (by decide) rfl (Nat.le_of_ble_eq_true rfl) (fun Γ C => ?_)
  unfold v_X9_busiest
  refine G_iconst C dX9_busiest_0 (v := 0) rfl ?_
  refine G_istore_n (lv' := [(1, .int 0), (0, .ref (A 4 0))]) C dX9_busiest_1 (by decide) rfl ?_
  refine G_iconst C dX9_busiest_2 (v := 1) rfl ?_
  refine G_istore_n (lv' := [(2, .int 1), (1, .int 0), (0, .ref (A 4 0))]) C dX9_busiest_3 (by decide) rfl ?_
  refine G_sub [2, 1, 0] rfl ?_
  exact g_X9_busiest_L4 C _ Y 0 1 (Nat.lt_succ_self _)
/-! X9_why -/
theorem kd_X9_why : Card yX9_why cX9_why 4 (some .int) 1 := ⟨uc_X9_why, un_X9, ⟨by decide, by decide, by decide⟩, by decide⟩
def v_X9_why (Y : RS) (x1 : Int32) : Int32 := if (v_X2_has (Y 0) x1) = 0 then -1 else if 0 < (at_ 3 (Y 0 14) (v_X8_standingAt (Y 0) x1)) then 0 else if (v_X2_isOpen (Y 0) x1) = 0 then 1 else if (v_X8_standingAt (Y 0) x1) = (-2) then 2 else if (at_ 10 (Y 0 7) x1) = 0 then 3 else if (v_X6_fitsInTurn (Y 0) x1 (v_X8_standingAt (Y 0) x1)) = 0 then 4 else if (v_X6_fitsInDay (Y 0) x1) = 0 then 5 else 6
theorem c_X9_why (l : Launch) (K : gK) (A : Nat → Nat → Nat) (Y : RS) (x1 : Int32) : Ct l K yX9_why cX9_why 4 (some .int) 3 [.ref (A 4 0), .int x1] (ro_W K A Y) (some (.int (v_X9_why Y x1)), ro_W K A Y) := by
  refine Ct.of (own := RX9) (fun z => (some (.int z), ro_W K A Y)) (x := v_X9_why Y x1) (by decide) rfl (Nat.le_of_ble_eq_true rfl) (fun Γ C => ?_)
  unfold v_X9_why
  refine G_aload_n C 0 dX9_why_0 rfl ?_
  refine G_get C 0 0 dX9_why_1 inlX9 uf_X9_10 rfl (by decide) rfl rfl rfl ?_
  refine G_get C 1 2 dX9_why_4 inlX6 uf_X9_89 rfl (by decide) rfl rfl rfl ?_
  refine G_astore_n (lv' := [(2, .ref (A 0 3)), (0, .ref (A 4 0)), (1, .int x1)]) C dX9_why_7 (by decide) rfl ?_
  refine G_aload_n C 0 dX9_why_8 rfl ?_
  refine G_iload_n C 2 dX9_why_9 rfl ?_
  refine G_callVi C 4 2 kd_X2_has ui_X2_has us_X2_has um_X9_98 rfl rfl (Ct.chunk1 (cs := ro_C K A Y) (cs' := ro_C K A Y) 1 rfl rfl (c_X2_has l K (A 0) (Y 0) x1)) dX9_why_10 rfl rfl (Nat.le_of_ble_eq_true rfl) (Nat.le_of_ble_eq_true rfl) ?_
  refine G_if_ne C 18 dX9_why_13 rfl (fun h1 => ?_) (fun h1 => ?_)
  · refine G_iconst C dX9_why_16 (v := -1) rfl ?_
    exact G_iret C dX9_why_17 rfl
  · refine G_aload_n C 1 dX9_why_18 rfl ?_
    refine G_get C 0 0 dX9_why_19 inlX9 uf_X9_10 rfl (by decide) rfl rfl rfl ?_
    refine G_get C 1 3 dX9_why_22 inlX6 uf_X9_137 rfl (by decide) rfl rfl rfl ?_
    refine G_iload_n C 2 dX9_why_25 rfl ?_
    refine G_callVi C 13 8 kd_X8_standingAt ui_X8_standingAt us_X8_standingAt um_X9_237 rfl rfl (Ct.chunk1 (cs := ro_C K A Y) (cs' := ro_C K A Y) 1 rfl rfl (c_X8_standingAt l K (A 0) (Y 0) x1)) dX9_why_26 rfl rfl (Nat.le_of_ble_eq_true rfl) (Nat.le_of_ble_eq_true rfl) ?_
    refine G_istore_n (lv' := [(3, .int (v_X8_standingAt (Y 0) x1)), (2, .ref (A 0 3)), (0, .ref (A 4 0)), (1, .int x1)]) C dX9_why_29 (by decide) rfl ?_
    refine G_aload_n C 2 dX9_why_30 rfl ?_
    refine G_get C 0 0 dX9_why_31 inlX9 uf_X9_10 rfl (by decide) rfl rfl rfl ?_
    refine G_get C 1 3 dX9_why_34 inlX6 uf_X9_137 rfl (by decide) rfl rfl rfl ?_
    refine G_get C 13 4 dX9_why_37 inlX8 uf_X9_258 rfl (by decide) rfl rfl rfl ?_
    refine G_iload_n C 0 dX9_why_40 rfl ?_
    refine G_callSi C kd_X9_at ut_X9_at um_X9_110 (c_at l K (ws := ro_W K A Y) (q0 := 18) (n := 3) (g := Y 0 14) (ad := (A 0 17)) (by decide) rfl (v_X8_standingAt (Y 0) x1)) dX9_why_41 rfl rfl (Nat.le_of_ble_eq_true rfl) (Nat.le_of_ble_eq_true rfl) ?_
    refine G_if_le C 49 dX9_why_44 rfl (fun h2 => ?_) (fun h2 => ?_)
    · refine G_iconst C dX9_why_47 (v := 0) rfl ?_
      exact G_iret C dX9_why_48 rfl
    · refine G_aload_n C 1 dX9_why_49 rfl ?_
      refine G_iload_n C 3 dX9_why_50 rfl ?_
      refine G_callVi C 4 2 kd_X2_isOpen ui_X2_isOpen us_X2_isOpen um_X9_168 rfl rfl (Ct.chunk1 (cs := ro_C K A Y) (cs' := ro_C K A Y) 1 rfl rfl (c_X2_isOpen l K (A 0) (Y 0) x1)) dX9_why_51 rfl rfl (Nat.le_of_ble_eq_true rfl) (Nat.le_of_ble_eq_true rfl) ?_
      refine G_if_ne C 59 dX9_why_54 rfl (fun h3 => ?_) (fun h3 => ?_)
      · refine G_iconst C dX9_why_57 (v := 1) rfl ?_
        exact G_iret C dX9_why_58 rfl
      · refine G_iload_n C 0 dX9_why_59 rfl ?_
        refine G_bipush C dX9_why_60 (v := -2) rfl ?_
        refine G_icmp_ne C 67 dX9_why_62 rfl (fun h4 => ?_) (fun h4 => ?_)
        · refine G_iconst C dX9_why_65 (v := 2) rfl ?_
          exact G_iret C dX9_why_66 rfl
        · refine G_aload_n C 1 dX9_why_67 rfl ?_
          refine G_get C 4 5 dX9_why_68 inlX2 uf_X9_106 rfl (by decide) rfl rfl rfl ?_
          refine G_iload_n C 3 dX9_why_71 rfl ?_
          refine G_callSi C kd_X9_at ut_X9_at um_X9_110 (c_at l K (ws := ro_W K A Y) (q0 := 10) (n := 10) (g := Y 0 7) (ad := (A 0 9)) (by decide) rfl x1) dX9_why_72 rfl rfl (Nat.le_of_ble_eq_true rfl) (Nat.le_of_ble_eq_true rfl) ?_
          refine G_if_ne C 80 dX9_why_75 rfl (fun h5 => ?_) (fun h5 => ?_)
          · refine G_iconst C dX9_why_78 (v := 3) rfl ?_
            exact G_iret C dX9_why_79 rfl
          · refine G_aload_n C 2 dX9_why_80 rfl ?_
            refine G_get C 0 0 dX9_why_81 inlX9 uf_X9_10 rfl (by decide) rfl rfl rfl ?_
            refine G_iload_n C 3 dX9_why_84 rfl ?_
            refine G_iload_n C 0 dX9_why_85 rfl ?_
            refine G_callVi C 1 6 kd_X6_fitsInTurn ui_X6_fitsInTurn us_X6_fitsInTurn um_X9_264 rfl rfl (Ct.chunk1 (cs := ro_C K A Y) (cs' := ro_C K A Y) 1 rfl rfl (c_X6_fitsInTurn l K (A 0) (Y 0) x1 (v_X8_standingAt (Y 0) x1))) dX9_why_86 rfl rfl (Nat.le_of_ble_eq_true rfl) (Nat.le_of_ble_eq_true rfl) ?_
            refine G_if_ne C 94 dX9_why_89 rfl (fun h6 => ?_) (fun h6 => ?_)
            · refine G_iconst C dX9_why_92 (v := 4) rfl ?_
              exact G_iret C dX9_why_93 rfl
            · refine G_aload_n C 2 dX9_why_94 rfl ?_
              refine G_get C 0 0 dX9_why_95 inlX9 uf_X9_10 rfl (by decide) rfl rfl rfl ?_
              refine G_iload_n C 3 dX9_why_98 rfl ?_
              refine G_callVi C 1 6 kd_X6_fitsInDay ui_X6_fitsInDay us_X6_fitsInDay um_X9_267 rfl rfl (Ct.chunk1 (cs := ro_C K A Y) (cs' := ro_C K A Y) 1 rfl rfl (c_X6_fitsInDay l K (A 0) (Y 0) x1)) dX9_why_99 rfl rfl (Nat.le_of_ble_eq_true rfl) (Nat.le_of_ble_eq_true rfl) ?_
              refine G_if_ne C 107 dX9_why_102 rfl (fun h7 => ?_) (fun h7 => ?_)
              · refine G_iconst C dX9_why_105 (v := 5) rfl ?_
                exact G_iret C dX9_why_106 rfl
              · refine G_bipush C dX9_why_107 (v := 6) rfl ?_
                exact G_iret C dX9_why_109 rfl
/-! X9_comesIn -/
theorem kd_X9_comesIn : Card yX9_comesIn cX9_comesIn 3 (some .int) 1 := ⟨uc_X9_comesIn, un_X9, ⟨by decide, by decide, by decide⟩, by decide⟩
def p_X9_comesIn_L29 : Nat → RS → Int32 → Int32 → Int32 × RS
  | 0, Y, _, _ => (0, Y)
  | fuel + 1, Y, x1, x2 => if 300 < x2 then (-2, Y) else if (v_X8_standingAt (Y 1) x1) = (-2) then p_X9_comesIn_L29 fuel (yU Y 1 (s_X6_passMinute (Y 1))) x1 (x2 + 1) else (x2, Y)
theorem g_X9_comesIn_L29 {l : Launch} {K : gK} {Γ : gT} {A : Nat → Nat → Nat} (C : Cx l K Γ RX9 cX9_comesIn 3 (some .int) 6) : ∀ (n : Nat) (Y : RS) (x1 : Int32) (x2 : Int32), mu x2 < n → G l K Γ (ro_W K A Y) 29 3 [(0, .ref (A 4 0)), (1, .int x1), (2, .int x2)] [] (fun (z : Int32 × RS) => (some (.int z.1), ro_W K A z.2)) (p_X9_comesIn_L29 n Y x1 x2) := by
  intro n
  induction n with
  | zero =>
    intro Y x1 x2 hm
    exact absurd hm (Nat.not_lt_zero _)
  | succ n ih =>
    intro Y x1 x2 hm
    rw [p_X9_comesIn_L29]
    refine G_iload_n C 2 dX9_comesIn_29 rfl ?_
    refine G_sipush C dX9_comesIn_30 (v := 300) rfl ?_
    refine G_icmp_gt C 67 dX9_comesIn_33 rfl (fun h2 => ?_) (fun h2 => ?_)
    · refine G_bipush C dX9_comesIn_67 (v := -2) rfl ?_
      exact G_iret C dX9_comesIn_69 rfl
    · refine G_aload_n C 0 dX9_comesIn_36 rfl ?_
      refine G_get C 0 5 dX9_comesIn_37 inlX9 uf_X9_53 rfl (by decide) rfl rfl rfl ?_
      refine G_get C 27 3 dX9_comesIn_40 inlX6 uf_X9_137 rfl (by decide) rfl rfl rfl ?_
      refine G_iload_n C 1 dX9_comesIn_43 rfl ?_
      refine G_callVi C 39 8 kd_X8_standingAt ui_X8_standingAt us_X8_standingAt um_X9_237 rfl rfl (Ct.chunk1 (cs := ro_C K A Y) (cs' := ro_C K A Y) 3 rfl rfl (c_X8_standingAt l K (A 1) (Y 1) x1)) dX9_comesIn_44 rfl rfl (Nat.le_of_ble_eq_true rfl) (Nat.le_of_ble_eq_true rfl) ?_
      refine G_bipush C dX9_comesIn_47 (v := -2) rfl ?_
      refine G_icmp_eq C 54 dX9_comesIn_49 rfl (fun h3 => ?_) (fun h3 => ?_)
      · refine G_aload_n C 0 dX9_comesIn_54 rfl ?_
        refine G_get C 0 5 dX9_comesIn_55 inlX9 uf_X9_53 rfl (by decide) rfl rfl rfl ?_
        refine G_callVv C 27 6 kd_X6_passMinute ui_X6_passMinute us_X6_passMinute um_X9_183 rfl rfl (Ct.chunk1 (cs := ro_C K A Y) (cs' := ro_C K A (yU Y 1 (s_X6_passMinute (Y 1)))) 3 rfl (ro_u1 K A Y _) (c_X6_passMinute l K (A 1) (Y 1))) dX9_comesIn_58 rfl rfl (Nat.le_of_ble_eq_true rfl) (Nat.le_of_ble_eq_true rfl) ?_
        refine G_iinc (lv' := [(2, .int (x2 + 1)), (0, .ref (A 4 0)), (1, .int x1)]) C 2 dX9_comesIn_61 rfl rfl (by decide) rfl ?_
        refine G_goto C 29 dX9_comesIn_64 rfl ?_
        refine G_sub [1, 2, 0] rfl ?_
        exact ih (yU Y 1 (s_X6_passMinute (Y 1))) x1 (x2 + 1) (by have := mu_upc h2 (by decide); omega)
      · refine G_iload_n C 2 dX9_comesIn_52 rfl ?_
        exact G_iret C dX9_comesIn_53 rfl
def p_X9_comesIn_L27 (Y : RS) (x1 : Int32) : Int32 × RS := p_X9_comesIn_L29 (mu 0 + 1) Y x1 0
theorem g_X9_comesIn_L27 {l : Launch} {K : gK} {Γ : gT} {A : Nat → Nat → Nat} (C : Cx l K Γ RX9 cX9_comesIn 3 (some .int) 6) (Y : RS) (x1 : Int32) : G l K Γ (ro_W K A Y) 27 3 [(0, .ref (A 4 0)), (1, .int x1)] [] (fun (z : Int32 × RS) => (some (.int z.1), ro_W K A z.2)) (p_X9_comesIn_L27 Y x1) := by
  unfold p_X9_comesIn_L27
  refine G_iconst C dX9_comesIn_27 (v := 0) rfl ?_
  refine G_istore_n (lv' := [(2, .int 0), (0, .ref (A 4 0)), (1, .int x1)]) C dX9_comesIn_28 (by decide) rfl ?_
  refine G_sub [1, 2, 0] rfl ?_
  exact g_X9_comesIn_L29 C _ Y x1 0 (Nat.lt_succ_self _)
def p_X9_comesIn (Y : RS) (x1 : Int32) : Int32 × RS := if (v_X2_has (Y 0) x1) = 0 then (-1, Y) else p_X9_comesIn_L27 (yU Y 1 (Y 0)) x1
theorem c_X9_comesIn (l : Launch) (K : gK) (A : Nat → Nat → Nat) (Y : RS) (x1 : Int32) : Ct l K yX9_comesIn cX9_comesIn 3 (some .int) 6 [.ref (A 4 0), .int x1] (ro_W K A Y) (some (.int (p_X9_comesIn Y x1).1), ro_W K A ((p_X9_comesIn Y x1).2)) := by
  refine Ct.of (own := RX9) (fun (z : Int32 × RS) => (some (.int z.1), ro_W K A z.2)) (x := p_X9_comesIn Y x1) (by decide) rfl (Nat.le_of_ble_eq_true rfl) (fun Γ C => ?_)
  unfold p_X9_comesIn
  refine G_aload_n C 0 dX9_comesIn_0 rfl ?_
  refine G_get C 0 0 dX9_comesIn_1 inlX9 uf_X9_10 rfl (by decide) rfl rfl rfl ?_
  refine G_get C 1 2 dX9_comesIn_4 inlX6 uf_X9_89 rfl (by decide) rfl rfl rfl ?_
  refine G_iload_n C 1 dX9_comesIn_7 rfl ?_
  refine G_callVi C 4 2 kd_X2_has ui_X2_has us_X2_has um_X9_98 rfl rfl (Ct.chunk1 (cs := ro_C K A Y) (cs' := ro_C K A Y) 1 rfl rfl (c_X2_has l K (A 0) (Y 0) x1)) dX9_comesIn_8 rfl rfl (Nat.le_of_ble_eq_true rfl) (Nat.le_of_ble_eq_true rfl) ?_
  refine G_if_ne C 16 dX9_comesIn_11 rfl (fun h1 => ?_) (fun h1 => ?_)
  · refine G_iconst C dX9_comesIn_14 (v := -1) rfl ?_
    exact G_iret C dX9_comesIn_15 rfl
  · refine G_aload_n C 0 dX9_comesIn_16 rfl ?_
    refine G_get C 0 5 dX9_comesIn_17 inlX9 uf_X9_53 rfl (by decide) rfl rfl rfl ?_
    refine G_aload_n C 0 dX9_comesIn_20 rfl ?_
    refine G_get C 0 0 dX9_comesIn_21 inlX9 uf_X9_10 rfl (by decide) rfl rfl rfl ?_
    refine G_callVv C 27 6 kd_X6_copyFrom ui_X6_copyFrom us_X6_copyFrom um_X9_81 rfl rfl (c_scratch l K A Y) dX9_comesIn_24 rfl rfl (Nat.le_of_ble_eq_true rfl) (Nat.le_of_ble_eq_true rfl) ?_
    refine G_sub [0, 1] rfl ?_
    exact g_X9_comesIn_L27 C (yU Y 1 (Y 0)) x1
/-! X9_triedUntilDone -/
theorem kd_X9_triedUntilDone : Card yX9_triedUntilDone cX9_triedUntilDone 3 (some .int) 1 := ⟨uc_X9_triedUntilDone, un_X9, ⟨by decide, by decide, by decide⟩, by decide⟩
def p_X9_triedUntilDone_L2 : Nat → RS → Int32 → Int32 → Int32 × RS
  | 0, Y, _, _ => (0, Y)
  | fuel + 1, Y, x1, x2 => if x1 < x2 then (-2, Y) else if (v_X2_lettersInAll (Y 1)) = 0 then (x2, Y) else p_X9_triedUntilDone_L2 fuel (yU Y 1 (s_X6_passMinute (Y 1))) x1 (x2 + 1)
theorem g_X9_triedUntilDone_L2 {l : Launch} {K : gK} {Γ : gT} {A : Nat → Nat → Nat} (C : Cx l K Γ RX9 cX9_triedUntilDone 3 (some .int) 6) : ∀ (n : Nat) (Y : RS) (x1 : Int32) (hx1 : x1.toInt < 2147483647) (x2 : Int32), mu x2 < n → G l K Γ (ro_W K A Y) 2 3 [(0, .ref (A 4 0)), (1, .int x1), (2, .int x2)] [] (fun (z : Int32 × RS) => (some (.int z.1), ro_W K A z.2)) (p_X9_triedUntilDone_L2 n Y x1 x2) := by
  intro n
  induction n with
  | zero =>
    intro Y x1 hx1 x2 hm
    exact absurd hm (Nat.not_lt_zero _)
  | succ n ih =>
    intro Y x1 hx1 x2 hm
    rw [p_X9_triedUntilDone_L2]
    refine G_iload_n C 2 dX9_triedUntilDone_2 rfl ?_
    refine G_iload_n C 1 dX9_triedUntilDone_3 rfl ?_
    refine G_icmp_gt C 35 dX9_triedUntilDone_4 rfl (fun h1 => ?_) (fun h1 => ?_)
    · refine G_bipush C dX9_triedUntilDone_35 (v := -2) rfl ?_
      exact G_iret C dX9_triedUntilDone_37 rfl
    · refine G_aload_n C 0 dX9_triedUntilDone_7 rfl ?_
      refine G_get C 0 5 dX9_triedUntilDone_8 inlX9 uf_X9_53 rfl (by decide) rfl rfl rfl ?_
      refine G_get C 27 2 dX9_triedUntilDone_11 inlX6 uf_X9_89 rfl (by decide) rfl rfl rfl ?_
      refine G_callVi C 30 2 kd_X2_lettersInAll ui_X2_lettersInAll us_X2_lettersInAll um_X9_224 rfl rfl (Ct.chunk1 (cs := ro_C K A Y) (cs' := ro_C K A Y) 3 rfl rfl (c_X2_lettersInAll l K (A 1) (Y 1))) dX9_triedUntilDone_14 rfl rfl (Nat.le_of_ble_eq_true rfl) (Nat.le_of_ble_eq_true rfl) ?_
      refine G_if_ne C 22 dX9_triedUntilDone_17 rfl (fun h2 => ?_) (fun h2 => ?_)
      · refine G_iload_n C 2 dX9_triedUntilDone_20 rfl ?_
        exact G_iret C dX9_triedUntilDone_21 rfl
      · refine G_aload_n C 0 dX9_triedUntilDone_22 rfl ?_
        refine G_get C 0 5 dX9_triedUntilDone_23 inlX9 uf_X9_53 rfl (by decide) rfl rfl rfl ?_
        refine G_callVv C 27 6 kd_X6_passMinute ui_X6_passMinute us_X6_passMinute um_X9_183 rfl rfl (Ct.chunk1 (cs := ro_C K A Y) (cs' := ro_C K A (yU Y 1 (s_X6_passMinute (Y 1)))) 3 rfl (ro_u1 K A Y _) (c_X6_passMinute l K (A 1) (Y 1))) dX9_triedUntilDone_26 rfl rfl (Nat.le_of_ble_eq_true rfl) (Nat.le_of_ble_eq_true rfl) ?_
        refine G_iinc (lv' := [(2, .int (x2 + 1)), (0, .ref (A 4 0)), (1, .int x1)]) C 2 dX9_triedUntilDone_29 rfl rfl (by decide) rfl ?_
        refine G_goto C 2 dX9_triedUntilDone_32 rfl ?_
        refine G_sub [1, 2, 0] rfl ?_
        exact ih (yU Y 1 (s_X6_passMinute (Y 1))) x1 hx1 (x2 + 1) (by have := mu_upc h1 hx1; omega)
def p_X9_triedUntilDone (Y : RS) (x1 : Int32) : Int32 × RS := p_X9_triedUntilDone_L2 (mu 0 + 1) Y x1 0
theorem c_X9_triedUntilDone (l : Launch) (K : gK) (A : Nat → Nat → Nat) (Y : RS) (x1 : Int32) (hx1 : x1.toInt < 2147483647) : Ct l K yX9_triedUntilDone cX9_triedUntilDone 3 (some .int) 6 [.ref (A 4 0), .int x1] (ro_W K A Y) (some (.int (p_X9_triedUntilDone Y x1).1), ro_W K A ((p_X9_triedUntilDone Y x1).2)) := by
  refine Ct.of (own := RX9) (fun (z : Int32 × RS) => (some (.int z.1), ro_W K A z.2)) (x := p_X9_triedUntilDone Y x1) (by decide) rfl (Nat.le_of_ble_eq_true rfl) (fun Γ C => ?_)
  unfold p_X9_triedUntilDone
  refine G_iconst C dX9_triedUntilDone_0 (v := 0) rfl ?_
  refine G_istore_n (lv' := [(2, .int 0), (0, .ref (A 4 0)), (1, .int x1)]) C dX9_triedUntilDone_1 (by decide) rfl ?_
  refine G_sub [1, 2, 0] rfl ?_
  exact g_X9_triedUntilDone_L2 C _ Y x1 hx1 0 (Nat.lt_succ_self _)
theorem tud_ltL : ∀ (n : Nat) (Y : RS) (x1 : Int32) (hx1 : x1.toInt < 2147483647) (x2 : Int32), (p_X9_triedUntilDone_L2 n Y x1 x2).1.toInt < 2147483647 := by
  intro n
  induction n with
  | zero =>
    intro Y x1 hx1 x2
    show (0 : Int32).toInt < 2147483647
    decide
  | succ n ih =>
    intro Y x1 hx1 x2
    rw [p_X9_triedUntilDone_L2]
    by_cases h1 : x1 < x2
    · rw [if_pos h1]
      show (-2 : Int32).toInt < 2147483647
      decide
    · rw [if_neg h1]
      split
      · show x2.toInt < 2147483647
        have h4 : ¬ x1.toInt < x2.toInt := fun q => h1 (Int32.lt_iff_toInt_lt.mpr q)
        omega
      · exact ih _ x1 hx1 _
theorem tud_lt (Y : RS) : (p_X9_triedUntilDone Y 500).1.toInt < 2147483647 := tud_ltL _ Y 500 (by decide) 0
/-! X9_doneIn -/
theorem kd_X9_doneIn : Card yX9_doneIn cX9_doneIn 1 (some .int) 0 := ⟨uc_X9_doneIn, un_X9, ⟨by decide, by decide, by decide⟩, by decide⟩
def p_X9_doneIn_L11 (Y : RS) : Int32 × RS := ((p_X9_triedUntilDone Y 500).1, (p_X9_triedUntilDone Y 500).2)
theorem g_X9_doneIn_L11 {l : Launch} {K : gK} {Γ : gT} {A : Nat → Nat → Nat} (C : Cx l K Γ RX9 cX9_doneIn 1 (some .int) 7) (Y : RS) : G l K Γ (ro_W K A Y) 11 1 [(0, .ref (A 4 0))] [] (fun (z : Int32 × RS) => (some (.int z.1), ro_W K A z.2)) (p_X9_doneIn_L11 Y) := by
  unfold p_X9_doneIn_L11
  refine G_aload_n C 0 dX9_doneIn_11 rfl ?_
  refine G_sipush C dX9_doneIn_12 (v := 500) rfl ?_
  refine G_callVi C 0 9 kd_X9_triedUntilDone ui_X9_triedUntilDone us_X9_triedUntilDone um_X9_270 rfl rfl (c_X9_triedUntilDone l K A Y 500 (by decide)) dX9_doneIn_15 rfl rfl (Nat.le_of_ble_eq_true rfl) (Nat.le_of_ble_eq_true rfl) ?_
  exact G_iret C dX9_doneIn_18 rfl
def p_X9_doneIn (Y : RS) : Int32 × RS := p_X9_doneIn_L11 (yU Y 1 (Y 0))
theorem c_X9_doneIn (l : Launch) (K : gK) (A : Nat → Nat → Nat) (Y : RS) : Ct l K yX9_doneIn cX9_doneIn 1 (some .int) 7 [.ref (A 4 0)] (ro_W K A Y) (some (.int (p_X9_doneIn Y).1), ro_W K A ((p_X9_doneIn Y).2)) := by
  refine Ct.of (own := RX9) (fun (z : Int32 × RS) => (some (.int z.1), ro_W K A z.2)) (x := p_X9_doneIn Y) (by decide) rfl (Nat.le_of_ble_eq_true rfl) (fun Γ C => ?_)
  unfold p_X9_doneIn
  refine G_aload_n C 0 dX9_doneIn_0 rfl ?_
  refine G_get C 0 5 dX9_doneIn_1 inlX9 uf_X9_53 rfl (by decide) rfl rfl rfl ?_
  refine G_aload_n C 0 dX9_doneIn_4 rfl ?_
  refine G_get C 0 0 dX9_doneIn_5 inlX9 uf_X9_10 rfl (by decide) rfl rfl rfl ?_
  refine G_callVv C 27 6 kd_X6_copyFrom ui_X6_copyFrom us_X6_copyFrom um_X9_81 rfl rfl (c_scratch l K A Y) dX9_doneIn_8 rfl rfl (Nat.le_of_ble_eq_true rfl) (Nat.le_of_ble_eq_true rfl) ?_
  refine G_sub [0] rfl ?_
  exact g_X9_doneIn_L11 C (yU Y 1 (Y 0))
/-! X9_triedMinutes -/
theorem kd_X9_triedMinutes : Card yX9_triedMinutes cX9_triedMinutes 4 (some .int) 2 := ⟨uc_X9_triedMinutes, un_X9, ⟨by decide, by decide, by decide⟩, by decide⟩
def p_X9_triedMinutes_L2 : Nat → RS → Int32 → Int32 → Int32 → Int32 × RS
  | 0, Y, _, _, _ => (0, Y)
  | fuel + 1, Y, x1, x2, x3 => if x3 < x1 then p_X9_triedMinutes_L2 fuel (yU Y 1 (s_X6_passMinute (Y 1))) x1 x2 (x3 + 1) else if x2 = 3 then (Y 1 18 3, Y) else ((at_ 9 (Y 1 1) (v_X9_countTold x2)) - (at_ 9 (Y 0 1) (v_X9_countTold x2)), Y)
theorem g_X9_triedMinutes_L2 {l : Launch} {K : gK} {Γ : gT} {A : Nat → Nat → Nat} (C : Cx l K Γ RX9 cX9_triedMinutes 4 (some .int) 6) : ∀ (n : Nat) (Y : RS) (x1 : Int32) (x2 : Int32) (x3 : Int32), mu x3 < n → G l K Γ (ro_W K A Y) 2 4 [(0, .ref (A 4 0)), (1, .int x1), (2, .int x2), (3, .int x3)] [] (fun (z : Int32 × RS) => (some (.int z.1), ro_W K A z.2)) (p_X9_triedMinutes_L2 n Y x1 x2 x3) := by
  intro n
  induction n with
  | zero =>
    intro Y x1 x2 x3 hm
    exact absurd hm (Nat.not_lt_zero _)
  | succ n ih =>
    intro Y x1 x2 x3 hm
    rw [p_X9_triedMinutes_L2]
    refine G_iload_n C 3 dX9_triedMinutes_2 rfl ?_
    refine G_iload_n C 1 dX9_triedMinutes_3 rfl ?_
    refine G_icmp_ge C 20 dX9_triedMinutes_4 rfl (fun h1 => ?_) (fun h1 => ?_)
    · refine G_aload_n C 0 dX9_triedMinutes_7 rfl ?_
      refine G_get C 0 5 dX9_triedMinutes_8 inlX9 uf_X9_53 rfl (by decide) rfl rfl rfl ?_
      refine G_callVv C 27 6 kd_X6_passMinute ui_X6_passMinute us_X6_passMinute um_X9_183 rfl rfl (Ct.chunk1 (cs := ro_C K A Y) (cs' := ro_C K A (yU Y 1 (s_X6_passMinute (Y 1)))) 3 rfl (ro_u1 K A Y _) (c_X6_passMinute l K (A 1) (Y 1))) dX9_triedMinutes_11 rfl rfl (Nat.le_of_ble_eq_true rfl) (Nat.le_of_ble_eq_true rfl) ?_
      refine G_iinc (lv' := [(3, .int (x3 + 1)), (0, .ref (A 4 0)), (1, .int x1), (2, .int x2)]) C 3 dX9_triedMinutes_14 rfl rfl (by decide) rfl ?_
      refine G_goto C 2 dX9_triedMinutes_17 rfl ?_
      refine G_sub [1, 2, 3, 0] rfl ?_
      exact ih (yU Y 1 (s_X6_passMinute (Y 1))) x1 x2 (x3 + 1) (by have := mu_up h1; omega)
    · refine G_iload_n C 2 dX9_triedMinutes_20 rfl ?_
      refine G_iconst C dX9_triedMinutes_21 (v := 3) rfl ?_
      refine G_icmp_ne C 36 dX9_triedMinutes_22 rfl (fun h2 => ?_) (fun h2 => ?_)
      · refine G_aload_n C 0 dX9_triedMinutes_25 rfl ?_
        refine G_get C 0 5 dX9_triedMinutes_26 inlX9 uf_X9_53 rfl (by decide) rfl rfl rfl ?_
        refine G_get C 27 3 dX9_triedMinutes_29 inlX6 uf_X9_137 rfl (by decide) rfl rfl rfl ?_
        refine G_get C 39 5 dX9_triedMinutes_32 inlX8 uf_X9_171 rfl (by decide) rfl rfl rfl ?_
        exact G_iret C dX9_triedMinutes_35 rfl
      · refine G_iload_n C 2 dX9_triedMinutes_36 rfl ?_
        refine G_callSi C kd_X9_countTold ut_X9_countTold um_X9_305 (c_X9_countTold l K (ro_W K A Y) x2) dX9_triedMinutes_37 rfl rfl (Nat.le_of_ble_eq_true rfl) (Nat.le_of_ble_eq_true rfl) ?_
        refine G_istore_n (lv' := [(3, .int (v_X9_countTold x2)), (0, .ref (A 4 0)), (1, .int x1), (2, .int x2)]) C dX9_triedMinutes_40 (by decide) rfl ?_
        refine G_aload_n C 1 dX9_triedMinutes_41 rfl ?_
        refine G_get C 0 5 dX9_triedMinutes_42 inlX9 uf_X9_53 rfl (by decide) rfl rfl rfl ?_
        refine G_get C 27 1 dX9_triedMinutes_45 inlX6 uf_X9_121 rfl (by decide) rfl rfl rfl ?_
        refine G_iload_n C 0 dX9_triedMinutes_48 rfl ?_
        refine G_callSi C kd_X9_at ut_X9_at um_X9_110 (c_at l K (ws := ro_W K A Y) (q0 := 29) (n := 9) (g := Y 1 1) (ad := (A 1 2)) (by decide) rfl (v_X9_countTold x2)) dX9_triedMinutes_49 rfl rfl (Nat.le_of_ble_eq_true rfl) (Nat.le_of_ble_eq_true rfl) ?_
        refine G_aload_n C 1 dX9_triedMinutes_52 rfl ?_
        refine G_get C 0 0 dX9_triedMinutes_53 inlX9 uf_X9_10 rfl (by decide) rfl rfl rfl ?_
        refine G_get C 1 1 dX9_triedMinutes_56 inlX6 uf_X9_121 rfl (by decide) rfl rfl rfl ?_
        refine G_iload_n C 0 dX9_triedMinutes_59 rfl ?_
        refine G_callSi C kd_X9_at ut_X9_at um_X9_110 (c_at l K (ws := ro_W K A Y) (q0 := 3) (n := 9) (g := Y 0 1) (ad := (A 0 2)) (by decide) rfl (v_X9_countTold x2)) dX9_triedMinutes_60 rfl rfl (Nat.le_of_ble_eq_true rfl) (Nat.le_of_ble_eq_true rfl) ?_
        refine G_isub C dX9_triedMinutes_63 ?_
        exact G_iret C dX9_triedMinutes_64 rfl
def p_X9_triedMinutes (Y : RS) (x1 : Int32) (x2 : Int32) : Int32 × RS := p_X9_triedMinutes_L2 (mu 0 + 1) Y x1 x2 0
theorem c_X9_triedMinutes (l : Launch) (K : gK) (A : Nat → Nat → Nat) (Y : RS) (x1 : Int32) (x2 : Int32) : Ct l K yX9_triedMinutes cX9_triedMinutes 4 (some .int) 6 [.ref (A 4 0), .int x1, .int x2] (ro_W K A Y) (some (.int (p_X9_triedMinutes Y x1 x2).1), ro_W K A ((p_X9_triedMinutes Y x1 x2).2)) := by
  refine Ct.of (own := RX9) (fun (z : Int32 × RS) => (some (.int z.1), ro_W K A z.2)) (x := p_X9_triedMinutes Y x1 x2) (by decide) rfl (Nat.le_of_ble_eq_true rfl) (fun Γ C => ?_)
  unfold p_X9_triedMinutes
  refine G_iconst C dX9_triedMinutes_0 (v := 0) rfl ?_
  refine G_istore_n (lv' := [(3, .int 0), (0, .ref (A 4 0)), (1, .int x1), (2, .int x2)]) C dX9_triedMinutes_1 (by decide) rfl ?_
  refine G_sub [1, 2, 3, 0] rfl ?_
  exact g_X9_triedMinutes_L2 C _ Y x1 x2 0 (Nat.lt_succ_self _)
/-! X9_ifPassed -/
theorem kd_X9_ifPassed : Card yX9_ifPassed cX9_ifPassed 3 (some .int) 2 := ⟨uc_X9_ifPassed, un_X9, ⟨by decide, by decide, by decide⟩, by decide⟩
def p_X9_ifPassed_L21 (Y : RS) (x1 : Int32) (x2 : Int32) : Int32 × RS := ((p_X9_triedMinutes Y x1 x2).1, (p_X9_triedMinutes Y x1 x2).2)
theorem g_X9_ifPassed_L21 {l : Launch} {K : gK} {Γ : gT} {A : Nat → Nat → Nat} (C : Cx l K Γ RX9 cX9_ifPassed 3 (some .int) 7) (Y : RS) (x1 : Int32) (x2 : Int32) : G l K Γ (ro_W K A Y) 21 3 [(0, .ref (A 4 0)), (1, .int x1), (2, .int x2)] [] (fun (z : Int32 × RS) => (some (.int z.1), ro_W K A z.2)) (p_X9_ifPassed_L21 Y x1 x2) := by
  unfold p_X9_ifPassed_L21
  refine G_aload_n C 0 dX9_ifPassed_21 rfl ?_
  refine G_iload_n C 1 dX9_ifPassed_22 rfl ?_
  refine G_iload_n C 2 dX9_ifPassed_23 rfl ?_
  refine G_callVi C 0 9 kd_X9_triedMinutes ui_X9_triedMinutes us_X9_triedMinutes um_X9_276 rfl rfl (c_X9_triedMinutes l K A Y x1 x2) dX9_ifPassed_24 rfl rfl (Nat.le_of_ble_eq_true rfl) (Nat.le_of_ble_eq_true rfl) ?_
  exact G_iret C dX9_ifPassed_27 rfl
def p_X9_ifPassed (Y : RS) (x1 : Int32) (x2 : Int32) : Int32 × RS := if (v_X9_isForesight x1 x2) = 0 then (-1, Y) else p_X9_ifPassed_L21 (yU Y 1 (Y 0)) x1 x2
theorem c_X9_ifPassed (l : Launch) (K : gK) (A : Nat → Nat → Nat) (Y : RS) (x1 : Int32) (x2 : Int32) : Ct l K yX9_ifPassed cX9_ifPassed 3 (some .int) 7 [.ref (A 4 0), .int x1, .int x2] (ro_W K A Y) (some (.int (p_X9_ifPassed Y x1 x2).1), ro_W K A ((p_X9_ifPassed Y x1 x2).2)) := by
  refine Ct.of (own := RX9) (fun (z : Int32 × RS) => (some (.int z.1), ro_W K A z.2)) (x := p_X9_ifPassed Y x1 x2) (by decide) rfl (Nat.le_of_ble_eq_true rfl) (fun Γ C => ?_)
  unfold p_X9_ifPassed
  refine G_iload_n C 1 dX9_ifPassed_0 rfl ?_
  refine G_iload_n C 2 dX9_ifPassed_1 rfl ?_
  refine G_callSi C kd_X9_isForesight ut_X9_isForesight um_X9_273 (c_X9_isForesight l K (ro_W K A Y) x1 x2) dX9_ifPassed_2 rfl rfl (Nat.le_of_ble_eq_true rfl) (Nat.le_of_ble_eq_true rfl) ?_
  refine G_if_ne C 10 dX9_ifPassed_5 rfl (fun h1 => ?_) (fun h1 => ?_)
  · refine G_iconst C dX9_ifPassed_8 (v := -1) rfl ?_
    exact G_iret C dX9_ifPassed_9 rfl
  · refine G_aload_n C 0 dX9_ifPassed_10 rfl ?_
    refine G_get C 0 5 dX9_ifPassed_11 inlX9 uf_X9_53 rfl (by decide) rfl rfl rfl ?_
    refine G_aload_n C 0 dX9_ifPassed_14 rfl ?_
    refine G_get C 0 0 dX9_ifPassed_15 inlX9 uf_X9_10 rfl (by decide) rfl rfl rfl ?_
    refine G_callVv C 27 6 kd_X6_copyFrom ui_X6_copyFrom us_X6_copyFrom um_X9_81 rfl rfl (c_scratch l K A Y) dX9_ifPassed_18 rfl rfl (Nat.le_of_ble_eq_true rfl) (Nat.le_of_ble_eq_true rfl) ?_
    refine G_sub [0, 1, 2] rfl ?_
    exact g_X9_ifPassed_L21 C (yU Y 1 (Y 0)) x1 x2
/-! X9_ifRule -/
theorem kd_X9_ifRule : Card yX9_ifRule cX9_ifRule 5 (some .int) 4 := ⟨uc_X9_ifRule, un_X9, ⟨by decide, by decide, by decide⟩, by decide⟩
def p_X9_ifRule_L42 (Y : RS) (x1 : Int32) (x2 : Int32) (x3 : Int32) (x4 : Int32) : Int32 × RS := ((p_X9_triedMinutes Y x3 x4).1, (p_X9_triedMinutes Y x3 x4).2)
theorem g_X9_ifRule_L42 {l : Launch} {K : gK} {Γ : gT} {A : Nat → Nat → Nat} (C : Cx l K Γ RX9 cX9_ifRule 5 (some .int) 7) (Y : RS) (x1 : Int32) (x2 : Int32) (x3 : Int32) (x4 : Int32) : G l K Γ (ro_W K A Y) 42 5 [(0, .ref (A 4 0)), (1, .int x1), (2, .int x2), (3, .int x3), (4, .int x4)] [] (fun (z : Int32 × RS) => (some (.int z.1), ro_W K A z.2)) (p_X9_ifRule_L42 Y x1 x2 x3 x4) := by
  unfold p_X9_ifRule_L42
  refine G_aload_n C 0 dX9_ifRule_42 rfl ?_
  refine G_iload_n C 3 dX9_ifRule_43 rfl ?_
  refine G_iload C 4 dX9_ifRule_44 rfl ?_
  refine G_callVi C 0 9 kd_X9_triedMinutes ui_X9_triedMinutes us_X9_triedMinutes um_X9_276 rfl rfl (c_X9_triedMinutes l K A Y x3 x4) dX9_ifRule_46 rfl rfl (Nat.le_of_ble_eq_true rfl) (Nat.le_of_ble_eq_true rfl) ?_
  exact G_iret C dX9_ifRule_49 rfl
def p_X9_ifRule_L30 (Y : RS) (x1 : Int32) (x2 : Int32) (x3 : Int32) (x4 : Int32) : Int32 × RS := p_X9_ifRule_L42 (yU Y 1 (sU (Y 1) 0 (put_ 3 (Y 1 0) x1 x2))) x1 x2 x3 x4
theorem g_X9_ifRule_L30 {l : Launch} {K : gK} {Γ : gT} {A : Nat → Nat → Nat} (C : Cx l K Γ RX9 cX9_ifRule 5 (some .int) 7) (Y : RS) (x1 : Int32) (x2 : Int32) (x3 : Int32) (x4 : Int32) : G l K Γ (ro_W K A Y) 30 5 [(0, .ref (A 4 0)), (1, .int x1), (2, .int x2), (3, .int x3), (4, .int x4)] [] (fun (z : Int32 × RS) => (some (.int z.1), ro_W K A z.2)) (p_X9_ifRule_L30 Y x1 x2 x3 x4) := by
  unfold p_X9_ifRule_L30
  refine G_aload_n C 0 dX9_ifRule_30 rfl ?_
  refine G_get C 0 5 dX9_ifRule_31 inlX9 uf_X9_53 rfl (by decide) rfl rfl rfl ?_
  refine G_get C 27 0 dX9_ifRule_34 inlX6 uf_X9_203 rfl (by decide) rfl rfl rfl ?_
  refine G_iload_n C 1 dX9_ifRule_37 rfl ?_
  refine G_iload_n C 2 dX9_ifRule_38 rfl ?_
  refine G_callSv C kd_X9_put ut_X9_put um_X9_195 (Ct.to (r' := (none, ro_W K A (yU Y 1 (sU (Y 1) 0 (put_ 3 (Y 1 0) x1 x2))))) (c_put l K (ws := ro_W K A Y) (q0 := 28) (n := 3) (g := Y 1 0) (ad := (A 1 1)) (by decide) rfl x1 x2) rfl) dX9_ifRule_39 rfl rfl (Nat.le_of_ble_eq_true rfl) (Nat.le_of_ble_eq_true rfl) ?_
  refine G_sub [0, 1, 2, 3, 4] rfl ?_
  exact g_X9_ifRule_L42 C (yU Y 1 (sU (Y 1) 0 (put_ 3 (Y 1 0) x1 x2))) x1 x2 x3 x4
def p_X9_ifRule (Y : RS) (x1 : Int32) (x2 : Int32) (x3 : Int32) (x4 : Int32) : Int32 × RS := if (v_X9_isRule x1 x2) = 0 then (-1, Y) else if (v_X9_isForesight x3 x4) = 0 then (-1, Y) else p_X9_ifRule_L30 (yU Y 1 (Y 0)) x1 x2 x3 x4
theorem c_X9_ifRule (l : Launch) (K : gK) (A : Nat → Nat → Nat) (Y : RS) (x1 : Int32) (x2 : Int32) (x3 : Int32) (x4 : Int32) : Ct l K yX9_ifRule cX9_ifRule 5 (some .int) 7 [.ref (A 4 0), .int x1, .int x2, .int x3, .int x4] (ro_W K A Y) (some (.int (p_X9_ifRule Y x1 x2 x3 x4).1), ro_W K A ((p_X9_ifRule Y x1 x2 x3 x4).2)) := by
  refine Ct.of (own := RX9) (fun (z : Int32 × RS) => (some (.int z.1), ro_W K A z.2)) (x := p_X9_ifRule Y x1 x2 x3 x4) (by decide) rfl (Nat.le_of_ble_eq_true rfl) (fun Γ C => ?_)
  unfold p_X9_ifRule
  refine G_iload_n C 1 dX9_ifRule_0 rfl ?_
  refine G_iload_n C 2 dX9_ifRule_1 rfl ?_
  refine G_callSi C kd_X9_isRule ut_X9_isRule um_X9_199 (c_X9_isRule l K (ro_W K A Y) x1 x2) dX9_ifRule_2 rfl rfl (Nat.le_of_ble_eq_true rfl) (Nat.le_of_ble_eq_true rfl) ?_
  refine G_if_eq C 17 dX9_ifRule_5 rfl (fun h1 => ?_) (fun h1 => ?_)
  · refine G_iconst C dX9_ifRule_17 (v := -1) rfl ?_
    exact G_iret C dX9_ifRule_18 rfl
  · refine G_iload_n C 3 dX9_ifRule_8 rfl ?_
    refine G_iload C 4 dX9_ifRule_9 rfl ?_
    refine G_callSi C kd_X9_isForesight ut_X9_isForesight um_X9_273 (c_X9_isForesight l K (ro_W K A Y) x3 x4) dX9_ifRule_11 rfl rfl (Nat.le_of_ble_eq_true rfl) (Nat.le_of_ble_eq_true rfl) ?_
    refine G_if_ne C 19 dX9_ifRule_14 rfl (fun h2 => ?_) (fun h2 => ?_)
    · refine G_iconst C dX9_ifRule_17 (v := -1) rfl ?_
      exact G_iret C dX9_ifRule_18 rfl
    · refine G_aload_n C 0 dX9_ifRule_19 rfl ?_
      refine G_get C 0 5 dX9_ifRule_20 inlX9 uf_X9_53 rfl (by decide) rfl rfl rfl ?_
      refine G_aload_n C 0 dX9_ifRule_23 rfl ?_
      refine G_get C 0 0 dX9_ifRule_24 inlX9 uf_X9_10 rfl (by decide) rfl rfl rfl ?_
      refine G_callVv C 27 6 kd_X6_copyFrom ui_X6_copyFrom us_X6_copyFrom um_X9_81 rfl rfl (c_scratch l K A Y) dX9_ifRule_27 rfl rfl (Nat.le_of_ble_eq_true rfl) (Nat.le_of_ble_eq_true rfl) ?_
      refine G_sub [0, 1, 2, 3, 4] rfl ?_
      exact g_X9_ifRule_L30 C (yU Y 1 (Y 0)) x1 x2 x3 x4
