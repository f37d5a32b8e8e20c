-- PART 07, go on (by gen/mkro.py)
/-! X9_writeSetup -/
theorem kd_X9_writeSetup : Card yX9_writeSetup cX9_writeSetup 2 none 0 := ⟨uc_X9_writeSetup, un_X9, ⟨by decide, by decide, by decide⟩, by decide⟩
def s_X9_writeSetup_L203 (Y : RS) (x1 : Int32) : RS := yU Y 3 (s_X7_add_p (Y 3) 59)
theorem g_X9_writeSetup_L203 {l : Launch} {K : gK} {Γ : gT} {A : Nat → Nat → Nat} (C : Cx l K Γ RX9 cX9_writeSetup 2 none 8) (Y : RS) (x1 : Int32) : G l K Γ (ro_W K A Y) 203 2 [(0, .ref (A 4 0)), (1, .int x1)] [] (fun z => (none, ro_W K A z)) (s_X9_writeSetup_L203 Y x1) := by
  unfold s_X9_writeSetup_L203
  refine G_aload_n C 0 dX9_writeSetup_203 rfl ?_
  refine G_get C 0 6 dX9_writeSetup_204 inlX9 uf_X9_61 rfl (by decide) rfl rfl rfl ?_
  refine G_bipush C dX9_writeSetup_207 (v := 59) rfl ?_
  refine G_callVv C 49 7 kd_X7_add ui_X7_add us_X7_add um_X9_314 rfl rfl (Ct.chunk1 (cs := ro_C K A Y) (cs' := ro_C K A (yU Y 3 (s_X7_add_p (Y 3) 59))) 4 rfl (ro_u3 K A Y _) (c_X7_add_p l K (A 3) (Y 3) 59)) dX9_writeSetup_209 rfl rfl (Nat.le_of_ble_eq_true rfl) (Nat.le_of_ble_eq_true rfl) ?_
  exact G_vret C dX9_writeSetup_212 rfl
def s_X9_writeSetup_L182 (Y : RS) (x1 : Int32) : RS := s_X9_writeSetup_L203 (yU Y 3 (s_X7_addNumber_p (Y 3) (at_ 3 (Y 0 11) x1))) x1
theorem g_X9_writeSetup_L182 {l : Launch} {K : gK} {Γ : gT} {A : Nat → Nat → Nat} (C : Cx l K Γ RX9 cX9_writeSetup 2 none 8) (Y : RS) (x1 : Int32) : G l K Γ (ro_W K A Y) 182 2 [(0, .ref (A 4 0)), (1, .int x1)] [] (fun z => (none, ro_W K A z)) (s_X9_writeSetup_L182 Y x1) := by
  unfold s_X9_writeSetup_L182
  refine G_aload_n C 0 dX9_writeSetup_182 rfl ?_
  refine G_get C 0 6 dX9_writeSetup_183 inlX9 uf_X9_61 rfl (by decide) rfl rfl rfl ?_
  refine G_aload_n C 0 dX9_writeSetup_186 rfl ?_
  refine G_get C 0 0 dX9_writeSetup_187 inlX9 uf_X9_10 rfl (by decide) rfl rfl rfl ?_
  refine G_get C 1 3 dX9_writeSetup_190 inlX6 uf_X9_137 rfl (by decide) rfl rfl rfl ?_
  refine G_get C 13 1 dX9_writeSetup_193 inlX8 uf_X9_249 rfl (by decide) rfl rfl rfl ?_
  refine G_iload_n C 1 dX9_writeSetup_196 rfl ?_
  refine G_callSi C kd_X9_at ut_X9_at um_X9_110 (c_at l K (ws := ro_W K A Y) (q0 := 15) (n := 3) (g := Y 0 11) (ad := (A 0 14)) (by decide) rfl x1) dX9_writeSetup_197 rfl rfl (Nat.le_of_ble_eq_true rfl) (Nat.le_of_ble_eq_true rfl) ?_
  refine G_callVv C 49 7 kd_X7_addNumber ui_X7_addNumber us_X7_addNumber um_X9_311 rfl rfl (Ct.chunk1 (cs := ro_C K A Y) (cs' := ro_C K A (yU Y 3 (s_X7_addNumber_p (Y 3) (at_ 3 (Y 0 11) x1)))) 4 rfl (ro_u3 K A Y _) (c_X7_addNumber_p l K (A 3) (Y 3) (at_ 3 (Y 0 11) x1))) dX9_writeSetup_200 rfl rfl (Nat.le_of_ble_eq_true rfl) (Nat.le_of_ble_eq_true rfl) ?_
  refine G_sub [0, 1] rfl ?_
  exact g_X9_writeSetup_L203 C (yU Y 3 (s_X7_addNumber_p (Y 3) (at_ 3 (Y 0 11) x1))) x1
def s_X9_writeSetup_L130 : Nat → RS → Int32 → RS
  | 0, Y, _ => Y
  | fuel + 1, Y, x1 => if x1 < (Y 0 18 2) then s_X9_writeSetup_L130 fuel (s_X9_writeSetupLetters Y x1) (x1 + 1) else if (v_X8_firstStanding (Y 0)) = (-2) then Y else s_X9_writeSetup_L182 (yU Y 3 (s_X7_addWord_p (Y 3) 13)) (v_X8_firstStanding (Y 0))
theorem g_X9_writeSetup_L130 {l : Launch} {K : gK} {Γ : gT} {A : Nat → Nat → Nat} (C : Cx l K Γ RX9 cX9_writeSetup 2 none 8) : ∀ (n : Nat) (Y : RS) (x1 : Int32), mu x1 < n → G l K Γ (ro_W K A Y) 130 2 [(0, .ref (A 4 0)), (1, .int x1)] [] (fun z => (none, ro_W K A z)) (s_X9_writeSetup_L130 n Y x1) := by
  intro n
  induction n with
  | zero =>
    intro Y x1 hm
    exact absurd hm (Nat.not_lt_zero _)
  | succ n ih =>
    intro Y x1 hm
    rw [s_X9_writeSetup_L130]
    refine G_iload_n C 1 dX9_writeSetup_130 rfl ?_
    refine G_aload_n C 0 dX9_writeSetup_131 rfl ?_
    refine G_get C 0 0 dX9_writeSetup_132 inlX9 uf_X9_10 rfl (by decide) rfl rfl rfl ?_
    refine G_get C 1 2 dX9_writeSetup_135 inlX6 uf_X9_89 rfl (by decide) rfl rfl rfl ?_
    refine G_get C 4 8 dX9_writeSetup_138 inlX2 uf_X9_93 rfl (by decide) rfl rfl rfl ?_
    refine G_icmp_ge C 155 dX9_writeSetup_141 rfl (fun h2 => ?_) (fun h2 => ?_)
    · refine G_aload_n C 0 dX9_writeSetup_144 rfl ?_
      refine G_iload_n C 1 dX9_writeSetup_145 rfl ?_
      refine G_callVv C 0 9 kd_X9_writeSetupLetters ui_X9_writeSetupLetters us_X9_writeSetupLetters um_X9_328 rfl rfl (c_X9_writeSetupLetters l K A Y x1) dX9_writeSetup_146 rfl rfl (Nat.le_of_ble_eq_true rfl) (Nat.le_of_ble_eq_true rfl) ?_
      refine G_iinc (lv' := [(1, .int (x1 + 1)), (0, .ref (A 4 0))]) C 1 dX9_writeSetup_149 rfl rfl (by decide) rfl ?_
      refine G_goto C 130 dX9_writeSetup_152 rfl ?_
      refine G_sub [1, 0] rfl ?_
      exact ih (s_X9_writeSetupLetters Y x1) (x1 + 1) (by have := mu_up h2; omega)
    · refine G_aload_n C 0 dX9_writeSetup_155 rfl ?_
      refine G_get C 0 0 dX9_writeSetup_156 inlX9 uf_X9_10 rfl (by decide) rfl rfl rfl ?_
      refine G_get C 1 3 dX9_writeSetup_159 inlX6 uf_X9_137 rfl (by decide) rfl rfl rfl ?_
      refine G_callVi C 13 8 kd_X8_firstStanding ui_X8_firstStanding us_X8_firstStanding um_X9_331 rfl rfl (Ct.chunk1 (cs := ro_C K A Y) (cs' := ro_C K A Y) 1 rfl rfl (c_X8_firstStanding l K (A 0) (Y 0))) dX9_writeSetup_162 rfl rfl (Nat.le_of_ble_eq_true rfl) (Nat.le_of_ble_eq_true rfl) ?_
      refine G_istore_n (lv' := [(1, .int (v_X8_firstStanding (Y 0))), (0, .ref (A 4 0))]) C dX9_writeSetup_165 (by decide) rfl ?_
      refine G_iload_n C 0 dX9_writeSetup_166 rfl ?_
      refine G_bipush C dX9_writeSetup_167 (v := -2) rfl ?_
      refine G_icmp_eq C 212 dX9_writeSetup_169 rfl (fun h3 => ?_) (fun h3 => ?_)
      · exact G_vret C dX9_writeSetup_212 rfl
      · refine G_aload_n C 1 dX9_writeSetup_172 rfl ?_
        refine G_get C 0 6 dX9_writeSetup_173 inlX9 uf_X9_61 rfl (by decide) rfl rfl rfl ?_
        refine G_ldcwS C 13 dX9_writeSetup_176 rfl ?_
        refine G_callVv C 49 7 kd_X7_addWord ui_X7_addWord us_X7_addWord um_X9_317 rfl rfl (Ct.chunk1 (cs := ro_C K A Y) (cs' := ro_C K A (yU Y 3 (s_X7_addWord_p (Y 3) 13))) 4 rfl (ro_u3 K A Y _) (c_X7_addWord_p l K (A 3) (Y 3) (j := 13) (by decide))) dX9_writeSetup_179 rfl rfl (Nat.le_of_ble_eq_true rfl) (Nat.le_of_ble_eq_true rfl) ?_
        refine G_sub [1, 0] rfl ?_
        exact g_X9_writeSetup_L182 C (yU Y 3 (s_X7_addWord_p (Y 3) 13)) (v_X8_firstStanding (Y 0))
def s_X9_writeSetup_L103 : Nat → RS → Int32 → RS
  | 0, Y, _ => Y
  | fuel + 1, Y, x1 => if x1 < (Y 0 18 2) then s_X9_writeSetup_L103 fuel (s_X9_writeSetupOffice Y x1) (x1 + 1) else s_X9_writeSetup_L130 (mu 0 + 1) Y 0
theorem g_X9_writeSetup_L103 {l : Launch} {K : gK} {Γ : gT} {A : Nat → Nat → Nat} (C : Cx l K Γ RX9 cX9_writeSetup 2 none 8) : ∀ (n : Nat) (Y : RS) (x1 : Int32), mu x1 < n → G l K Γ (ro_W K A Y) 103 2 [(0, .ref (A 4 0)), (1, .int x1)] [] (fun z => (none, ro_W K A z)) (s_X9_writeSetup_L103 n Y x1) := by
  intro n
  induction n with
  | zero =>
    intro Y x1 hm
    exact absurd hm (Nat.not_lt_zero _)
  | succ n ih =>
    intro Y x1 hm
    rw [s_X9_writeSetup_L103]
    refine G_iload_n C 1 dX9_writeSetup_103 rfl ?_
    refine G_aload_n C 0 dX9_writeSetup_104 rfl ?_
    refine G_get C 0 0 dX9_writeSetup_105 inlX9 uf_X9_10 rfl (by decide) rfl rfl rfl ?_
    refine G_get C 1 2 dX9_writeSetup_108 inlX6 uf_X9_89 rfl (by decide) rfl rfl rfl ?_
    refine G_get C 4 8 dX9_writeSetup_111 inlX2 uf_X9_93 rfl (by decide) rfl rfl rfl ?_
    refine G_icmp_ge C 128 dX9_writeSetup_114 rfl (fun h1 => ?_) (fun h1 => ?_)
    · refine G_aload_n C 0 dX9_writeSetup_117 rfl ?_
      refine G_iload_n C 1 dX9_writeSetup_118 rfl ?_
      refine G_callVv C 0 9 kd_X9_writeSetupOffice ui_X9_writeSetupOffice us_X9_writeSetupOffice um_X9_325 rfl rfl (c_X9_writeSetupOffice l K A Y x1) dX9_writeSetup_119 rfl rfl (Nat.le_of_ble_eq_true rfl) (Nat.le_of_ble_eq_true rfl) ?_
      refine G_iinc (lv' := [(1, .int (x1 + 1)), (0, .ref (A 4 0))]) C 1 dX9_writeSetup_122 rfl rfl (by decide) rfl ?_
      refine G_goto C 103 dX9_writeSetup_125 rfl ?_
      refine G_sub [1, 0] rfl ?_
      exact ih (s_X9_writeSetupOffice Y x1) (x1 + 1) (by have := mu_up h1; omega)
    · refine G_iconst C dX9_writeSetup_128 (v := 0) rfl ?_
      refine G_istore_n (lv' := [(1, .int 0), (0, .ref (A 4 0))]) C dX9_writeSetup_129 (by decide) rfl ?_
      refine G_sub [1, 0] rfl ?_
      exact g_X9_writeSetup_L130 C _ Y 0 (Nat.lt_succ_self _)
def s_X9_writeSetup_L101 (Y : RS) : RS := s_X9_writeSetup_L103 (mu 0 + 1) Y 0
theorem g_X9_writeSetup_L101 {l : Launch} {K : gK} {Γ : gT} {A : Nat → Nat → Nat} (C : Cx l K Γ RX9 cX9_writeSetup 2 none 8) (Y : RS) : G l K Γ (ro_W K A Y) 101 2 [(0, .ref (A 4 0))] [] (fun z => (none, ro_W K A z)) (s_X9_writeSetup_L101 Y) := by
  unfold s_X9_writeSetup_L101
  refine G_iconst C dX9_writeSetup_101 (v := 0) rfl ?_
  refine G_istore_n (lv' := [(1, .int 0), (0, .ref (A 4 0))]) C dX9_writeSetup_102 (by decide) rfl ?_
  refine G_sub [1, 0] rfl ?_
  exact g_X9_writeSetup_L103 C _ Y 0 (Nat.lt_succ_self _)
def s_X9_writeSetup_L92 (Y : RS) : RS := s_X9_writeSetup_L101 (yU Y 3 (s_X7_add_p (Y 3) 59))
theorem g_X9_writeSetup_L92 {l : Launch} {K : gK} {Γ : gT} {A : Nat → Nat → Nat} (C : Cx l K Γ RX9 cX9_writeSetup 2 none 8) (Y : RS) : G l K Γ (ro_W K A Y) 92 2 [(0, .ref (A 4 0))] [] (fun z => (none, ro_W K A z)) (s_X9_writeSetup_L92 Y) := by
  unfold s_X9_writeSetup_L92
  refine G_aload_n C 0 dX9_writeSetup_92 rfl ?_
  refine G_get C 0 6 dX9_writeSetup_93 inlX9 uf_X9_61 rfl (by decide) rfl rfl rfl ?_
  refine G_bipush C dX9_writeSetup_96 (v := 59) rfl ?_
  refine G_callVv C 49 7 kd_X7_add ui_X7_add us_X7_add um_X9_314 rfl rfl (Ct.chunk1 (cs := ro_C K A Y) (cs' := ro_C K A (yU Y 3 (s_X7_add_p (Y 3) 59))) 4 rfl (ro_u3 K A Y _) (c_X7_add_p l K (A 3) (Y 3) 59)) dX9_writeSetup_98 rfl rfl (Nat.le_of_ble_eq_true rfl) (Nat.le_of_ble_eq_true rfl) ?_
  refine G_sub [0] rfl ?_
  exact g_X9_writeSetup_L101 C (yU Y 3 (s_X7_add_p (Y 3) 59))
def s_X9_writeSetup_L74 (Y : RS) : RS := s_X9_writeSetup_L92 (yU Y 3 (s_X7_addNumber_p (Y 3) (at_ 3 (Y 0 0) 2)))
theorem g_X9_writeSetup_L74 {l : Launch} {K : gK} {Γ : gT} {A : Nat → Nat → Nat} (C : Cx l K Γ RX9 cX9_writeSetup 2 none 8) (Y : RS) : G l K Γ (ro_W K A Y) 74 2 [(0, .ref (A 4 0))] [] (fun z => (none, ro_W K A z)) (s_X9_writeSetup_L74 Y) := by
  unfold s_X9_writeSetup_L74
  refine G_aload_n C 0 dX9_writeSetup_74 rfl ?_
  refine G_get C 0 6 dX9_writeSetup_75 inlX9 uf_X9_61 rfl (by decide) rfl rfl rfl ?_
  refine G_aload_n C 0 dX9_writeSetup_78 rfl ?_
  refine G_get C 0 0 dX9_writeSetup_79 inlX9 uf_X9_10 rfl (by decide) rfl rfl rfl ?_
  refine G_get C 1 0 dX9_writeSetup_82 inlX6 uf_X9_203 rfl (by decide) rfl rfl rfl ?_
  refine G_iconst C dX9_writeSetup_85 (v := 2) rfl ?_
  refine G_callSi C kd_X9_at ut_X9_at um_X9_110 (c_at l K (ws := ro_W K A Y) (q0 := 2) (n := 3) (g := Y 0 0) (ad := (A 0 1)) (by decide) rfl 2) dX9_writeSetup_86 rfl rfl (Nat.le_of_ble_eq_true rfl) (Nat.le_of_ble_eq_true rfl) ?_
  refine G_callVv C 49 7 kd_X7_addNumber ui_X7_addNumber us_X7_addNumber um_X9_311 rfl rfl (Ct.chunk1 (cs := ro_C K A Y) (cs' := ro_C K A (yU Y 3 (s_X7_addNumber_p (Y 3) (at_ 3 (Y 0 0) 2)))) 4 rfl (ro_u3 K A Y _) (c_X7_addNumber_p l K (A 3) (Y 3) (at_ 3 (Y 0 0) 2))) dX9_writeSetup_89 rfl rfl (Nat.le_of_ble_eq_true rfl) (Nat.le_of_ble_eq_true rfl) ?_
  refine G_sub [0] rfl ?_
  exact g_X9_writeSetup_L92 C (yU Y 3 (s_X7_addNumber_p (Y 3) (at_ 3 (Y 0 0) 2)))
def s_X9_writeSetup_L64 (Y : RS) : RS := s_X9_writeSetup_L74 (yU Y 3 (s_X7_addWord_p (Y 3) 9))
theorem g_X9_writeSetup_L64 {l : Launch} {K : gK} {Γ : gT} {A : Nat → Nat → Nat} (C : Cx l K Γ RX9 cX9_writeSetup 2 none 8) (Y : RS) : G l K Γ (ro_W K A Y) 64 2 [(0, .ref (A 4 0))] [] (fun z => (none, ro_W K A z)) (s_X9_writeSetup_L64 Y) := by
  unfold s_X9_writeSetup_L64
  refine G_aload_n C 0 dX9_writeSetup_64 rfl ?_
  refine G_get C 0 6 dX9_writeSetup_65 inlX9 uf_X9_61 rfl (by decide) rfl rfl rfl ?_
  refine G_ldcwS C 9 dX9_writeSetup_68 rfl ?_
  refine G_callVv C 49 7 kd_X7_addWord ui_X7_addWord us_X7_addWord um_X9_317 rfl rfl (Ct.chunk1 (cs := ro_C K A Y) (cs' := ro_C K A (yU Y 3 (s_X7_addWord_p (Y 3) 9))) 4 rfl (ro_u3 K A Y _) (c_X7_addWord_p l K (A 3) (Y 3) (j := 9) (by decide))) dX9_writeSetup_71 rfl rfl (Nat.le_of_ble_eq_true rfl) (Nat.le_of_ble_eq_true rfl) ?_
  refine G_sub [0] rfl ?_
  exact g_X9_writeSetup_L74 C (yU Y 3 (s_X7_addWord_p (Y 3) 9))
def s_X9_writeSetup_L46 (Y : RS) : RS := s_X9_writeSetup_L64 (yU Y 3 (s_X7_addNumber_p (Y 3) (at_ 3 (Y 0 0) 1)))
theorem g_X9_writeSetup_L46 {l : Launch} {K : gK} {Γ : gT} {A : Nat → Nat → Nat} (C : Cx l K Γ RX9 cX9_writeSetup 2 none 8) (Y : RS) : G l K Γ (ro_W K A Y) 46 2 [(0, .ref (A 4 0))] [] (fun z => (none, ro_W K A z)) (s_X9_writeSetup_L46 Y) := by
  unfold s_X9_writeSetup_L46
  refine G_aload_n C 0 dX9_writeSetup_46 rfl ?_
  refine G_get C 0 6 dX9_writeSetup_47 inlX9 uf_X9_61 rfl (by decide) rfl rfl rfl ?_
  refine G_aload_n C 0 dX9_writeSetup_50 rfl ?_
  refine G_get C 0 0 dX9_writeSetup_51 inlX9 uf_X9_10 rfl (by decide) rfl rfl rfl ?_
  refine G_get C 1 0 dX9_writeSetup_54 inlX6 uf_X9_203 rfl (by decide) rfl rfl rfl ?_
  refine G_iconst C dX9_writeSetup_57 (v := 1) rfl ?_
  refine G_callSi C kd_X9_at ut_X9_at um_X9_110 (c_at l K (ws := ro_W K A Y) (q0 := 2) (n := 3) (g := Y 0 0) (ad := (A 0 1)) (by decide) rfl 1) dX9_writeSetup_58 rfl rfl (Nat.le_of_ble_eq_true rfl) (Nat.le_of_ble_eq_true rfl) ?_
  refine G_callVv C 49 7 kd_X7_addNumber ui_X7_addNumber us_X7_addNumber um_X9_311 rfl rfl (Ct.chunk1 (cs := ro_C K A Y) (cs' := ro_C K A (yU Y 3 (s_X7_addNumber_p (Y 3) (at_ 3 (Y 0 0) 1)))) 4 rfl (ro_u3 K A Y _) (c_X7_addNumber_p l K (A 3) (Y 3) (at_ 3 (Y 0 0) 1))) dX9_writeSetup_61 rfl rfl (Nat.le_of_ble_eq_true rfl) (Nat.le_of_ble_eq_true rfl) ?_
  refine G_sub [0] rfl ?_
  exact g_X9_writeSetup_L64 C (yU Y 3 (s_X7_addNumber_p (Y 3) (at_ 3 (Y 0 0) 1)))
def s_X9_writeSetup_L36 (Y : RS) : RS := s_X9_writeSetup_L46 (yU Y 3 (s_X7_addWord_p (Y 3) 8))
theorem g_X9_writeSetup_L36 {l : Launch} {K : gK} {Γ : gT} {A : Nat → Nat → Nat} (C : Cx l K Γ RX9 cX9_writeSetup 2 none 8) (Y : RS) : G l K Γ (ro_W K A Y) 36 2 [(0, .ref (A 4 0))] [] (fun z => (none, ro_W K A z)) (s_X9_writeSetup_L36 Y) := by
  unfold s_X9_writeSetup_L36
  refine G_aload_n C 0 dX9_writeSetup_36 rfl ?_
  refine G_get C 0 6 dX9_writeSetup_37 inlX9 uf_X9_61 rfl (by decide) rfl rfl rfl ?_
  refine G_ldcwS C 8 dX9_writeSetup_40 rfl ?_
  refine G_callVv C 49 7 kd_X7_addWord ui_X7_addWord us_X7_addWord um_X9_317 rfl rfl (Ct.chunk1 (cs := ro_C K A Y) (cs' := ro_C K A (yU Y 3 (s_X7_addWord_p (Y 3) 8))) 4 rfl (ro_u3 K A Y _) (c_X7_addWord_p l K (A 3) (Y 3) (j := 8) (by decide))) dX9_writeSetup_43 rfl rfl (Nat.le_of_ble_eq_true rfl) (Nat.le_of_ble_eq_true rfl) ?_
  refine G_sub [0] rfl ?_
  exact g_X9_writeSetup_L46 C (yU Y 3 (s_X7_addWord_p (Y 3) 8))
def s_X9_writeSetup_L18 (Y : RS) : RS := s_X9_writeSetup_L36 (yU Y 3 (s_X7_addNumber_p (Y 3) (at_ 3 (Y 0 0) 0)))
theorem g_X9_writeSetup_L18 {l : Launch} {K : gK} {Γ : gT} {A : Nat → Nat → Nat} (C : Cx l K Γ RX9 cX9_writeSetup 2 none 8) (Y : RS) : G l K Γ (ro_W K A Y) 18 2 [(0, .ref (A 4 0))] [] (fun z => (none, ro_W K A z)) (s_X9_writeSetup_L18 Y) := by
  unfold s_X9_writeSetup_L18
  refine G_aload_n C 0 dX9_writeSetup_18 rfl ?_
  refine G_get C 0 6 dX9_writeSetup_19 inlX9 uf_X9_61 rfl (by decide) rfl rfl rfl ?_
  refine G_aload_n C 0 dX9_writeSetup_22 rfl ?_
  refine G_get C 0 0 dX9_writeSetup_23 inlX9 uf_X9_10 rfl (by decide) rfl rfl rfl ?_
  refine G_get C 1 0 dX9_writeSetup_26 inlX6 uf_X9_203 rfl (by decide) rfl rfl rfl ?_
  refine G_iconst C dX9_writeSetup_29 (v := 0) rfl ?_
  refine G_callSi C kd_X9_at ut_X9_at um_X9_110 (c_at l K (ws := ro_W K A Y) (q0 := 2) (n := 3) (g := Y 0 0) (ad := (A 0 1)) (by decide) rfl 0) dX9_writeSetup_30 rfl rfl (Nat.le_of_ble_eq_true rfl) (Nat.le_of_ble_eq_true rfl) ?_
  refine G_callVv C 49 7 kd_X7_addNumber ui_X7_addNumber us_X7_addNumber um_X9_311 rfl rfl (Ct.chunk1 (cs := ro_C K A Y) (cs' := ro_C K A (yU Y 3 (s_X7_addNumber_p (Y 3) (at_ 3 (Y 0 0) 0)))) 4 rfl (ro_u3 K A Y _) (c_X7_addNumber_p l K (A 3) (Y 3) (at_ 3 (Y 0 0) 0))) dX9_writeSetup_33 rfl rfl (Nat.le_of_ble_eq_true rfl) (Nat.le_of_ble_eq_true rfl) ?_
  refine G_sub [0] rfl ?_
  exact g_X9_writeSetup_L36 C (yU Y 3 (s_X7_addNumber_p (Y 3) (at_ 3 (Y 0 0) 0)))
def s_X9_writeSetup_L8 (Y : RS) : RS := s_X9_writeSetup_L18 (yU Y 3 (s_X7_addWord_p (Y 3) 7))
theorem g_X9_writeSetup_L8 {l : Launch} {K : gK} {Γ : gT} {A : Nat → Nat → Nat} (C : Cx l K Γ RX9 cX9_writeSetup 2 none 8) (Y : RS) : G l K Γ (ro_W K A Y) 8 2 [(0, .ref (A 4 0))] [] (fun z => (none, ro_W K A z)) (s_X9_writeSetup_L8 Y) := by
  unfold s_X9_writeSetup_L8
  refine G_aload_n C 0 dX9_writeSetup_8 rfl ?_
  refine G_get C 0 6 dX9_writeSetup_9 inlX9 uf_X9_61 rfl (by decide) rfl rfl rfl ?_
  refine G_ldcwS C 7 dX9_writeSetup_12 rfl ?_
  refine G_callVv C 49 7 kd_X7_addWord ui_X7_addWord us_X7_addWord um_X9_317 rfl rfl (Ct.chunk1 (cs := ro_C K A Y) (cs' := ro_C K A (yU Y 3 (s_X7_addWord_p (Y 3) 7))) 4 rfl (ro_u3 K A Y _) (c_X7_addWord_p l K (A 3) (Y 3) (j := 7) (by decide))) dX9_writeSetup_15 rfl rfl (Nat.le_of_ble_eq_true rfl) (Nat.le_of_ble_eq_true rfl) ?_
  refine G_sub [0] rfl ?_
  exact g_X9_writeSetup_L18 C (yU Y 3 (s_X7_addWord_p (Y 3) 7))
def s_X9_writeSetup (Y : RS) : RS := s_X9_writeSetup_L8 (yL Y 3 0)
theorem c_X9_writeSetup (l : Launch) (K : gK) (A : Nat → Nat → Nat) (Y : RS) : Ct l K yX9_writeSetup cX9_writeSetup 2 none 8 [.ref (A 4 0)] (ro_W K A Y) (none, ro_W K A (s_X9_writeSetup Y)) := by
  refine Ct.of (own := RX9) (fun z => (none, ro_W K A z)) (x := s_X9_writeSetup Y) (by decide) rfl (Nat.le_of_ble_eq_true rfl) (fun Γ C => ?_)
  unfold s_X9_writeSetup
  refine G_aload_n C 0 dX9_writeSetup_0 rfl ?_
  refine G_get C 0 6 dX9_writeSetup_1 inlX9 uf_X9_61 rfl (by decide) rfl rfl rfl ?_
  refine G_iconst C dX9_writeSetup_4 (v := 0) rfl ?_
  refine G_put (ws' := ro_W K A (yL Y 3 0)) C 49 1 tyX7 .int dX9_writeSetup_5 inlX7 uf_X9_71 tyX7_ok nmX7 rfl (by decide) rfl rfl rfl rfl rfl rfl (Nat.le_of_ble_eq_true rfl) rfl ?_
  refine G_sub [0] rfl ?_
  exact g_X9_writeSetup_L8 C (yL Y 3 0)
/-! X9_setupLength -/
theorem kd_X9_setupLength : Card yX9_setupLength cX9_setupLength 1 (some .int) 0 := ⟨uc_X9_setupLength, un_X9, ⟨by decide, by decide, by decide⟩, by decide⟩
def p_X9_setupLength_L4 (Y : RS) : Int32 × RS := (Y 3 1 0, Y)
theorem g_X9_setupLength_L4 {l : Launch} {K : gK} {Γ : gT} {A : Nat → Nat → Nat} (C : Cx l K Γ RX9 cX9_setupLength 1 (some .int) 9) (Y : RS) : G l K Γ (ro_W K A Y) 4 1 [(0, .ref (A 4 0))] [] (fun (z : Int32 × RS) => (some (.int z.1), ro_W K A z.2)) (p_X9_setupLength_L4 Y) := by
  unfold p_X9_setupLength_L4
  refine G_aload_n C 0 dX9_setupLength_4 rfl ?_
  refine G_get C 0 6 dX9_setupLength_5 inlX9 uf_X9_61 rfl (by decide) rfl rfl rfl ?_
  refine G_get C 49 1 dX9_setupLength_8 inlX7 uf_X9_71 rfl (by decide) rfl rfl rfl ?_
  exact G_iret C dX9_setupLength_11 rfl
def p_X9_setupLength (Y : RS) : Int32 × RS := p_X9_setupLength_L4 (s_X9_writeSetup Y)
theorem c_X9_setupLength (l : Launch) (K : gK) (A : Nat → Nat → Nat) (Y : RS) : Ct l K yX9_setupLength cX9_setupLength 1 (some .int) 9 [.ref (A 4 0)] (ro_W K A Y) (some (.int (p_X9_setupLength Y).1), ro_W K A ((p_X9_setupLength Y).2)) := by
  refine Ct.of (own := RX9) (fun (z : Int32 × RS) => (some (.int z.1), ro_W K A z.2)) (x := p_X9_setupLength Y) (by decide) rfl (Nat.le_of_ble_eq_true rfl) (fun Γ C => ?_)
  unfold p_X9_setupLength
  refine G_aload_n C 0 dX9_setupLength_0 rfl ?_
  refine G_callVv C 0 9 kd_X9_writeSetup ui_X9_writeSetup us_X9_writeSetup um_X9_288 rfl rfl (c_X9_writeSetup l K A Y) dX9_setupLength_1 rfl rfl (Nat.le_of_ble_eq_true rfl) (Nat.le_of_ble_eq_true rfl) ?_
  refine G_sub [0] rfl ?_
  exact g_X9_setupLength_L4 C (s_X9_writeSetup Y)
/-! X9_setupByte -/
theorem kd_X9_setupByte : Card yX9_setupByte cX9_setupByte 2 (some .int) 1 := ⟨uc_X9_setupByte, un_X9, ⟨by decide, by decide, by decide⟩, by decide⟩
def p_X9_setupByte_L10 (Y : RS) (x1 : Int32) : Int32 × RS := (v_X7_byteAt_p (Y 3) x1, Y)
theorem g_X9_setupByte_L10 {l : Launch} {K : gK} {Γ : gT} {A : Nat → Nat → Nat} (C : Cx l K Γ RX9 cX9_setupByte 2 (some .int) 9) (Y : RS) (x1 : Int32) : G l K Γ (ro_W K A Y) 10 2 [(0, .ref (A 4 0)), (1, .int x1)] [] (fun (z : Int32 × RS) => (some (.int z.1), ro_W K A z.2)) (p_X9_setupByte_L10 Y x1) := by
  unfold p_X9_setupByte_L10
  refine G_aload_n C 0 dX9_setupByte_10 rfl ?_
  refine G_get C 0 6 dX9_setupByte_11 inlX9 uf_X9_61 rfl (by decide) rfl rfl rfl ?_
  refine G_iload_n C 1 dX9_setupByte_14 rfl ?_
  refine G_callVi C 49 7 kd_X7_byteAt ui_X7_byteAt us_X7_byteAt um_X9_285 rfl rfl (Ct.chunk1 (cs := ro_C K A Y) (cs' := ro_C K A Y) 4 rfl rfl (c_X7_byteAt_p l K (A 3) (Y 3) x1)) dX9_setupByte_15 rfl rfl (Nat.le_of_ble_eq_true rfl) (Nat.le_of_ble_eq_true rfl) ?_
  exact G_iret C dX9_setupByte_18 rfl
def p_X9_setupByte (Y : RS) (x1 : Int32) : Int32 × RS := if x1 < 0 then (-1, Y) else p_X9_setupByte_L10 (s_X9_writeSetup Y) x1
theorem c_X9_setupByte (l : Launch) (K : gK) (A : Nat → Nat → Nat) (Y : RS) (x1 : Int32) : Ct l K yX9_setupByte cX9_setupByte 2 (some .int) 9 [.ref (A 4 0), .int x1] (ro_W K A Y) (some (.int (p_X9_setupByte Y x1).1), ro_W K A ((p_X9_setupByte Y x1).2)) := by
  refine Ct.of (own := RX9) (fun (z : Int32 × RS) => (some (.int z.1), ro_W K A z.2)) (x := p_X9_setupByte Y x1) (by decide) rfl (Nat.le_of_ble_eq_true rfl) (fun Γ C => ?_)
  unfold p_X9_setupByte
  refine G_iload_n C 1 dX9_setupByte_0 rfl ?_
  refine G_if_ge C 6 dX9_setupByte_1 rfl (fun h1 => ?_) (fun h1 => ?_)
  · refine G_iconst C dX9_setupByte_4 (v := -1) rfl ?_
    exact G_iret C dX9_setupByte_5 rfl
  · refine G_aload_n C 0 dX9_setupByte_6 rfl ?_
    refine G_callVv C 0 9 kd_X9_writeSetup ui_X9_writeSetup us_X9_writeSetup um_X9_288 rfl rfl (c_X9_writeSetup l K A Y) dX9_setupByte_7 rfl rfl (Nat.le_of_ble_eq_true rfl) (Nat.le_of_ble_eq_true rfl) ?_
    refine G_sub [0, 1] rfl ?_
    exact g_X9_setupByte_L10 C (s_X9_writeSetup Y) x1
