-- PART 52: the law's method does
theorem mod_ne {c o r : Nat} (ho : o < c) (hr : r + 1 < c) : (o + 1 + r) % c ≠ o := by
  by_cases h : o + 1 + r < c
  · rw [Nat.mod_eq_of_lt h]
    omega
  · rw [Nat.mod_eq_sub_mod (by omega), Nat.mod_eq_of_lt (by omega)]
    omega
theorem kd_L_does : Cd yL_does cL_does 8 (some .boolean) 3 := ⟨uc_L_does, un_L, ⟨by decide, by decide, by decide⟩⟩
theorem St.keepM {B B2 : Nat} {Y Z : RS} {M M2 : NM} (h : St B Y M) (h2 : St B2 Z M2) (e : Z 0 = Y 0) (hB : B ≤ B2) : St B2 Z M := ⟨by rw [e]; exact h.1, h.2.1.mono hB, h2.2.2⟩
theorem c_L_does (l : Launch) (K : gK) (A : Nat → Nat → Nat) {B : Nat} {Y : RS} {M : NM} (hS : St B Y M) (hB : B ≤ 9000) {U V : Nat} (hU : U < 2147483648) (hV : V < 2147483648) : Cr l K yL_does cL_does 8 (some .boolean) 8 0 0 [.ref (A 4 0), .int (iN U), .int (iN V)] (ro_W K A Y) (fun u : {Z : RS // ∃ M2, St (B + 600) Z M2} => (some (.int 1), ro_W K A u.1)) := by
  have c10 := hS.2.1.1.c10
  have c2 := hS.2.1.1.c2
  have hB2 : B ≤ 1000000 := by omega
  refine Cr.of (own := RL) (by decide) rfl (Nat.le_of_ble_eq_true rfl) (fun Γ C Yc _ => ?_)
  refine J_leq (lv' := [(0, .ref (A 4 0)), (1, .int (iN U)), (2, .int (iN V))]) rfl ?_
  refine J_aload_n C 0 dL_does_0 rfl ?_
  refine J_crS (as := [.ref (A 4 0)]) C Yc kd_L_state ut_L_state um_L_129 (Cr.right [] (c_L_state l K A hS)) dL_does_1 rfl rfl ⟨(Nat.le_of_ble_eq_true rfl), (Nat.le_of_ble_eq_true rfl)⟩ (Nat.le_of_ble_eq_true rfl) (Nat.le_of_ble_eq_true rfl) (Nat.le_of_ble_eq_true rfl) (fun _ => ?_)
  have ho : V % 256 % M 18 2 < M 18 2 := Nat.mod_lt _ (by omega)
  refine J_lstore_n C (lv' := [(3, .long (stL (Y 0) M)), (0, .ref (A 4 0)), (1, .int (iN U)), (2, .int (iN V))]) dL_does_4 (by decide) rfl ?_
  refine J_aload_n C 1 dL_does_5 rfl ?_
  refine J_iconst C (v := 4) dL_does_6 rfl ?_
  refine x_value C Yc (Nat.le_of_ble_eq_true rfl) (Nat.le_of_ble_eq_true rfl) [] (w := (iN (M 18 2))) hS.val4 dL_does_7 (Nat.le_of_ble_eq_true rfl) (Nat.le_of_ble_eq_true rfl) ?_
  refine J_istore C (lv' := [(5, .int (iN (M 18 2))), (3, .long (stL (Y 0) M)), (0, .ref (A 4 0)), (1, .int (iN U)), (2, .int (iN V))]) dL_does_10 (by decide) rfl ?_
  refine J_iload_n C 4 dL_does_12 rfl ?_
  refine J_sipush C (v := 255) dL_does_13 rfl ?_
  refine J_iand C dL_does_16 ?_
  refine J_eqi (b := (iN (V % 256))) (m255_ V) ?_
  refine J_iload C 0 dL_does_17 rfl ?_
  refine J_irem C dL_does_19 (fun z => absurd ((iN_0 (by omega)).mp z) (by omega)) ?_
  refine J_eqi (b := (iN (V % 256 % M 18 2))) (iN_rem (by omega) (by omega)) ?_
  refine J_istore C (lv' := [(6, .int (iN (V % 256 % M 18 2))), (5, .int (iN (M 18 2))), (3, .long (stL (Y 0) M)), (0, .ref (A 4 0)), (1, .int (iN U)), (2, .int (iN V))]) dL_does_20 (by decide) rfl ?_
  have k296 : ∀ (g : Int32) (Z : RS), (¬ g < 0 ∨ Z 0 = Y 0) → (∃ M2, St (B + 600) Z M2) → J l K Γ (Jz K Γ (fun u : {Z : RS // ∃ M2, St (B + 600) Z M2} => (some (.int 1), ro_W K A u.1)) 0 0) 0 0 ([] ++ ro_W K A Z) 296 8 [(7, .int g), (6, .int (iN (V % 256 % M 18 2))), (5, .int (iN (M 18 2))), (3, .long (stL (Y 0) M)), (0, .ref (A 4 0)), (1, .int (iN U)), (2, .int (iN V))] [] := by
    intro g Z hg hZ
    refine J_iload C 0 dL_does_296 rfl ?_
    have k310 : J l K Γ (Jz K Γ (fun u : {Z : RS // ∃ M2, St (B + 600) Z M2} => (some (.int 1), ro_W K A u.1)) 0 0) 0 0 ([] ++ ro_W K A Z) 310 8 [(7, .int g), (6, .int (iN (V % 256 % M 18 2))), (5, .int (iN (M 18 2))), (3, .long (stL (Y 0) M)), (0, .ref (A 4 0)), (1, .int (iN U)), (2, .int (iN V))] [] := by
      refine J_iconst C (v := 1) dL_does_310 rfl ?_
      refine J_goto C 315 dL_does_311 rfl ?_
      exact J_rnret rfl C ⟨Z, hZ⟩ dL_does_315 (Nat.le_of_ble_eq_true rfl) (Nat.le_of_ble_eq_true rfl) rfl
    by_cases hn : g < 0
    · obtain ⟨M2, h2⟩ := hZ
      have hz := hg.resolve_left (fun z => z hn)
      have h3 := hS.keepM h2 hz (by omega)
      refine J_if_ge_y C 310 hn dL_does_298 rfl ?_
      refine J_aload_n C 4 dL_does_301 rfl ?_
      refine J_crS (as := [.ref (A 4 0)]) C Yc kd_L_state ut_L_state um_L_129 (Cr.right [] (c_L_state l K A h3)) dL_does_302 rfl rfl ⟨(Nat.le_of_ble_eq_true rfl), (Nat.le_of_ble_eq_true rfl)⟩ (Nat.le_of_ble_eq_true rfl) (Nat.le_of_ble_eq_true rfl) (Nat.le_of_ble_eq_true rfl) (fun _ => ?_)
      refine J_lload_n C 3 dL_does_305 rfl ?_
      refine J_lcmp0 C (by rw [hz]) dL_does_306 ?_
      refine J_if_ne_y C 314 rfl dL_does_307 rfl ?_
      exact k310
    · refine J_if_ge_n C 310 hn dL_does_298 rfl ?_
      exact k310
  refine J_iload_n C 4 dL_does_22 rfl ?_
  refine J_bipush C (v := 15) dL_does_23 rfl ?_
  refine J_iand C dL_does_25 ?_
  refine J_eqi (b := (iN (U % 16))) (m15_ U) ?_
  have hr : U % 16 < 16 := Nat.mod_lt _ (by decide)
  have b100 : J l K Γ (Jz K Γ (fun u : {Z : RS // ∃ M2, St (B + 600) Z M2} => (some (.int 1), ro_W K A u.1)) 0 0) 0 0 ([] ++ ro_W K A Y) 100 8 [(6, .int (iN (V % 256 % M 18 2))), (5, .int (iN (M 18 2))), (3, .long (stL (Y 0) M)), (0, .ref (A 4 0)), (1, .int (iN U)), (2, .int (iN V))] [] := by
    have hq : V / 16 % 256 % (M 18 2 - 1) < M 18 2 - 1 := Nat.mod_lt _ (by omega)
    refine J_aload_n C 3 dL_does_100 rfl ?_
    refine J_iload C 0 dL_does_101 rfl ?_
    refine J_iload C 0 dL_does_103 rfl ?_
    refine J_iconst C (v := 1) dL_does_105 rfl ?_
    refine J_iadd C dL_does_106 ?_
    refine J_eqi (b := (iN (V % 256 % M 18 2 + 1))) (iN_s _) ?_
    refine J_iload_n C 5 dL_does_107 rfl ?_
    refine J_iconst C (v := 4) dL_does_108 rfl ?_
    refine J_ishr C dL_does_109 rfl ?_
    refine J_eqi (b := (iN (V / 16))) (sr_ hV 4 (by decide)) ?_
    refine J_sipush C (v := 255) dL_does_110 rfl ?_
    refine J_iand C dL_does_113 ?_
    refine J_eqi (b := (iN (V / 16 % 256))) (m255_ _) ?_
    refine J_iload C 1 dL_does_114 rfl ?_
    refine J_iconst C (v := 1) dL_does_116 rfl ?_
    refine J_isub C dL_does_117 ?_
    refine J_eqi (b := (iN (M 18 2 - 1))) (iN_1 (by omega)) ?_
    refine J_irem C dL_does_118 (fun z => absurd ((iN_0 (by omega)).mp z) (by omega)) ?_
    refine J_eqi (b := (iN (V / 16 % 256 % (M 18 2 - 1)))) (iN_rem (by omega) (by omega)) ?_
    refine J_iadd C dL_does_119 ?_
    refine J_eqi (b := (iN (V % 256 % M 18 2 + 1 + V / 16 % 256 % (M 18 2 - 1)))) (iN_add _ _) ?_
    refine J_iload C 1 dL_does_120 rfl ?_
    refine J_irem C dL_does_122 (fun z => absurd ((iN_0 (by omega)).mp z) (by omega)) ?_
    refine J_eqi (b := (iN ((V % 256 % M 18 2 + 1 + V / 16 % 256 % (M 18 2 - 1)) % M 18 2))) (iN_rem (by omega) (by omega)) ?_
    refine J_iconst C (v := 1) dL_does_123 rfl ?_
    refine J_iload_n C 5 dL_does_124 rfl ?_
    refine J_bipush C (v := 6) dL_does_125 rfl ?_
    refine J_ishr C dL_does_127 rfl ?_
    refine J_eqi (b := (iN (V / 64))) (sr_ hV 6 (by decide)) ?_
    refine J_bipush C (v := 7) dL_does_128 rfl ?_
    refine J_iand C dL_does_130 ?_
    refine J_eqi (b := (iN (V / 64 % 8))) (m7_ _) ?_
    refine J_iadd C dL_does_131 ?_
    refine J_eqi (b := (iN (1 + V / 64 % 8))) (iN_add 1 _) ?_
    refine x_letter C Yc (Nat.le_of_ble_eq_true rfl) (Nat.le_of_ble_eq_true rfl) [] (w := (p_X9_letter Y (iN (V % 256 % M 18 2)) (iN ((V % 256 % M 18 2 + 1 + V / 16 % 256 % (M 18 2 - 1)) % M 18 2)) (iN (1 + V / 64 % 8))).1) rfl dL_does_132 (Nat.le_of_ble_eq_true rfl) (Nat.le_of_ble_eq_true rfl) ?_
    refine J_istore C (lv' := [(7, .int ((p_X9_letter Y (iN (V % 256 % M 18 2)) (iN ((V % 256 % M 18 2 + 1 + V / 16 % 256 % (M 18 2 - 1)) % M 18 2)) (iN (1 + V / 64 % 8))).1)), (6, .int (iN (V % 256 % M 18 2))), (5, .int (iN (M 18 2))), (3, .long (stL (Y 0) M)), (0, .ref (A 4 0)), (1, .int (iN U)), (2, .int (iN V))]) dL_does_135 (by decide) rfl ?_
    refine J_goto C 296 dL_does_137 rfl ?_
    exact k296 _ _ (Dn.letter hS ho (Nat.mod_lt _ (by omega)) (mod_ne ho (by omega)) (by omega) (by omega)).1 (Dn.letter hS ho (Nat.mod_lt _ (by omega)) (mod_ne ho (by omega)) (by omega) (by omega)).2
  have b140 : J l K Γ (Jz K Γ (fun u : {Z : RS // ∃ M2, St (B + 600) Z M2} => (some (.int 1), ro_W K A u.1)) 0 0) 0 0 ([] ++ ro_W K A Y) 140 8 [(6, .int (iN (V % 256 % M 18 2))), (5, .int (iN (M 18 2))), (3, .long (stL (Y 0) M)), (0, .ref (A 4 0)), (1, .int (iN U)), (2, .int (iN V))] [] := by
    refine J_aload_n C 3 dL_does_140 rfl ?_
    refine J_iload C 0 dL_does_141 rfl ?_
    refine J_iload_n C 5 dL_does_143 rfl ?_
    refine J_iconst C (v := 3) dL_does_144 rfl ?_
    refine J_ishr C dL_does_145 rfl ?_
    refine J_eqi (b := (iN (V / 8))) (sr_ hV 3 (by decide)) ?_
    refine J_iconst C (v := 3) dL_does_146 rfl ?_
    refine J_iand C dL_does_147 ?_
    refine J_eqi (b := (iN (V / 8 % 4))) (m3_ _) ?_
    refine x_cancel C Yc (Nat.le_of_ble_eq_true rfl) (Nat.le_of_ble_eq_true rfl) [] (w := (p_X9_cancel Y (iN (V % 256 % M 18 2)) (iN (V / 8 % 4))).1) rfl dL_does_148 (Nat.le_of_ble_eq_true rfl) (Nat.le_of_ble_eq_true rfl) ?_
    refine J_istore C (lv' := [(7, .int ((p_X9_cancel Y (iN (V % 256 % M 18 2)) (iN (V / 8 % 4))).1)), (6, .int (iN (V % 256 % M 18 2))), (5, .int (iN (M 18 2))), (3, .long (stL (Y 0) M)), (0, .ref (A 4 0)), (1, .int (iN U)), (2, .int (iN V))]) dL_does_151 (by decide) rfl ?_
    refine J_goto C 296 dL_does_153 rfl ?_
    exact k296 _ _ (Dn.cancel hS hB2 ho (by omega)).1 (Dn.cancel hS hB2 ho (by omega)).2
  have b156 : J l K Γ (Jz K Γ (fun u : {Z : RS // ∃ M2, St (B + 600) Z M2} => (some (.int 1), ro_W K A u.1)) 0 0) 0 0 ([] ++ ro_W K A Y) 156 8 [(6, .int (iN (V % 256 % M 18 2))), (5, .int (iN (M 18 2))), (3, .long (stL (Y 0) M)), (0, .ref (A 4 0)), (1, .int (iN U)), (2, .int (iN V))] [] := by
    refine J_aload_n C 3 dL_does_156 rfl ?_
    refine J_iload C 0 dL_does_157 rfl ?_
    refine J_iload_n C 5 dL_does_159 rfl ?_
    refine J_iconst C (v := 3) dL_does_160 rfl ?_
    refine J_ishr C dL_does_161 rfl ?_
    refine J_eqi (b := (iN (V / 8))) (sr_ hV 3 (by decide)) ?_
    refine J_iconst C (v := 1) dL_does_162 rfl ?_
    refine J_iand C dL_does_163 ?_
    refine J_eqi (b := (iN (V / 8 % 2))) (m1_ _) ?_
    refine x_shut C Yc (Nat.le_of_ble_eq_true rfl) (Nat.le_of_ble_eq_true rfl) [] (w := (p_X9_shut Y (iN (V % 256 % M 18 2)) (iN (V / 8 % 2))).1) rfl dL_does_164 (Nat.le_of_ble_eq_true rfl) (Nat.le_of_ble_eq_true rfl) ?_
    refine J_istore C (lv' := [(7, .int ((p_X9_shut Y (iN (V % 256 % M 18 2)) (iN (V / 8 % 2))).1)), (6, .int (iN (V % 256 % M 18 2))), (5, .int (iN (M 18 2))), (3, .long (stL (Y 0) M)), (0, .ref (A 4 0)), (1, .int (iN U)), (2, .int (iN V))]) dL_does_167 (by decide) rfl ?_
    refine J_goto C 296 dL_does_169 rfl ?_
    exact k296 _ _ (Dn.shut hS hB2 ho (by omega)).1 (Dn.shut hS hB2 ho (by omega)).2
  have b172 : J l K Γ (Jz K Γ (fun u : {Z : RS // ∃ M2, St (B + 600) Z M2} => (some (.int 1), ro_W K A u.1)) 0 0) 0 0 ([] ++ ro_W K A Y) 172 8 [(6, .int (iN (V % 256 % M 18 2))), (5, .int (iN (M 18 2))), (3, .long (stL (Y 0) M)), (0, .ref (A 4 0)), (1, .int (iN U)), (2, .int (iN V))] [] := by
    refine J_aload_n C 3 dL_does_172 rfl ?_
    refine J_iload_n C 5 dL_does_173 rfl ?_
    refine J_iconst C (v := 3) dL_does_174 rfl ?_
    refine J_iand C dL_does_175 ?_
    refine J_eqi (b := (iN (V % 4))) (m3_ _) ?_
    refine x_lose C Yc (Nat.le_of_ble_eq_true rfl) (Nat.le_of_ble_eq_true rfl) [] (w := (p_X9_lose Y (iN (V % 4))).1) rfl dL_does_176 (Nat.le_of_ble_eq_true rfl) (Nat.le_of_ble_eq_true rfl) ?_
    refine J_istore C (lv' := [(7, .int ((p_X9_lose Y (iN (V % 4))).1)), (6, .int (iN (V % 256 % M 18 2))), (5, .int (iN (M 18 2))), (3, .long (stL (Y 0) M)), (0, .ref (A 4 0)), (1, .int (iN U)), (2, .int (iN V))]) dL_does_179 (by decide) rfl ?_
    refine J_goto C 296 dL_does_181 rfl ?_
    exact k296 _ _ (Dn.lose hS hB2 (by omega)).1 (Dn.lose hS hB2 (by omega)).2
  have b184 : J l K Γ (Jz K Γ (fun u : {Z : RS // ∃ M2, St (B + 600) Z M2} => (some (.int 1), ro_W K A u.1)) 0 0) 0 0 ([] ++ ro_W K A Y) 184 8 [(6, .int (iN (V % 256 % M 18 2))), (5, .int (iN (M 18 2))), (3, .long (stL (Y 0) M)), (0, .ref (A 4 0)), (1, .int (iN U)), (2, .int (iN V))] [] := by
    refine J_aload_n C 3 dL_does_184 rfl ?_
    refine J_iload C 0 dL_does_185 rfl ?_
    refine x_stray C Yc (Nat.le_of_ble_eq_true rfl) (Nat.le_of_ble_eq_true rfl) [] (w := (p_X9_stray Y (iN (V % 256 % M 18 2))).1) rfl dL_does_187 (Nat.le_of_ble_eq_true rfl) (Nat.le_of_ble_eq_true rfl) ?_
    refine J_istore C (lv' := [(7, .int ((p_X9_stray Y (iN (V % 256 % M 18 2))).1)), (6, .int (iN (V % 256 % M 18 2))), (5, .int (iN (M 18 2))), (3, .long (stL (Y 0) M)), (0, .ref (A 4 0)), (1, .int (iN U)), (2, .int (iN V))]) dL_does_190 (by decide) rfl ?_
    refine J_goto C 296 dL_does_192 rfl ?_
    exact k296 _ _ (Dn.stray hS hB2 ho).1 (Dn.stray hS hB2 ho).2
  have b195 : J l K Γ (Jz K Γ (fun u : {Z : RS // ∃ M2, St (B + 600) Z M2} => (some (.int 1), ro_W K A u.1)) 0 0) 0 0 ([] ++ ro_W K A Y) 195 8 [(6, .int (iN (V % 256 % M 18 2))), (5, .int (iN (M 18 2))), (3, .long (stL (Y 0) M)), (0, .ref (A 4 0)), (1, .int (iN U)), (2, .int (iN V))] [] := by
    refine J_aload_n C 3 dL_does_195 rfl ?_
    refine J_iconst C (v := 1) dL_does_196 rfl ?_
    refine J_iload_n C 5 dL_does_197 rfl ?_
    refine J_bipush C (v := 31) dL_does_198 rfl ?_
    refine J_iand C dL_does_200 ?_
    refine J_eqi (b := (iN (V % 32))) (m31_ _) ?_
    refine J_iadd C dL_does_201 ?_
    refine J_eqi (b := (iN (1 + V % 32))) (iN_add 1 _) ?_
    refine x_minute C Yc (Nat.le_of_ble_eq_true rfl) (Nat.le_of_ble_eq_true rfl) [] (w := (p_X9_minute Y (iN (1 + V % 32))).1) rfl dL_does_202 (Nat.le_of_ble_eq_true rfl) (Nat.le_of_ble_eq_true rfl) ?_
    refine J_istore C (lv' := [(7, .int ((p_X9_minute Y (iN (1 + V % 32))).1)), (6, .int (iN (V % 256 % M 18 2))), (5, .int (iN (M 18 2))), (3, .long (stL (Y 0) M)), (0, .ref (A 4 0)), (1, .int (iN U)), (2, .int (iN V))]) dL_does_205 (by decide) rfl ?_
    refine J_goto C 296 dL_does_207 rfl ?_
    exact k296 _ _ (Dn.minute hS hB (by omega) (by omega)).1 (Dn.minute hS hB (by omega) (by omega)).2
  have b210 : J l K Γ (Jz K Γ (fun u : {Z : RS // ∃ M2, St (B + 600) Z M2} => (some (.int 1), ro_W K A u.1)) 0 0) 0 0 ([] ++ ro_W K A Y) 210 8 [(6, .int (iN (V % 256 % M 18 2))), (5, .int (iN (M 18 2))), (3, .long (stL (Y 0) M)), (0, .ref (A 4 0)), (1, .int (iN U)), (2, .int (iN V))] [] := by
    refine J_aload_n C 3 dL_does_210 rfl ?_
    refine J_iload C 0 dL_does_211 rfl ?_
    refine J_iload_n C 5 dL_does_213 rfl ?_
    refine J_iconst C (v := 3) dL_does_214 rfl ?_
    refine J_ishr C dL_does_215 rfl ?_
    refine J_eqi (b := (iN (V / 8))) (sr_ hV 3 (by decide)) ?_
    refine J_iconst C (v := 1) dL_does_216 rfl ?_
    refine J_iand C dL_does_217 ?_
    refine J_eqi (b := (iN (V / 8 % 2))) (m1_ _) ?_
    refine J_iconst C (v := 1) dL_does_218 rfl ?_
    refine J_iload_n C 5 dL_does_219 rfl ?_
    refine J_iconst C (v := 4) dL_does_220 rfl ?_
    refine J_ishr C dL_does_221 rfl ?_
    refine J_eqi (b := (iN (V / 16))) (sr_ hV 4 (by decide)) ?_
    refine J_bipush C (v := 15) dL_does_222 rfl ?_
    refine J_iand C dL_does_224 ?_
    refine J_eqi (b := (iN (V / 16 % 16))) (m15_ _) ?_
    refine J_iadd C dL_does_225 ?_
    refine J_eqi (b := (iN (1 + V / 16 % 16))) (iN_add 1 _) ?_
    refine x_set C Yc (Nat.le_of_ble_eq_true rfl) (Nat.le_of_ble_eq_true rfl) [] (w := (p_X9_set Y (iN (V % 256 % M 18 2)) (iN (V / 8 % 2)) (iN (1 + V / 16 % 16))).1) rfl dL_does_226 (Nat.le_of_ble_eq_true rfl) (Nat.le_of_ble_eq_true rfl) ?_
    refine J_istore C (lv' := [(7, .int ((p_X9_set Y (iN (V % 256 % M 18 2)) (iN (V / 8 % 2)) (iN (1 + V / 16 % 16))).1)), (6, .int (iN (V % 256 % M 18 2))), (5, .int (iN (M 18 2))), (3, .long (stL (Y 0) M)), (0, .ref (A 4 0)), (1, .int (iN U)), (2, .int (iN V))]) dL_does_229 (by decide) rfl ?_
    refine J_goto C 296 dL_does_231 rfl ?_
    exact k296 _ _ (Dn.set hS ho (by omega) (by omega) (by omega)).1 (Dn.set hS ho (by omega) (by omega) (by omega)).2
  have b234 : J l K Γ (Jz K Γ (fun u : {Z : RS // ∃ M2, St (B + 600) Z M2} => (some (.int 1), ro_W K A u.1)) 0 0) 0 0 ([] ++ ro_W K A Y) 234 8 [(6, .int (iN (V % 256 % M 18 2))), (5, .int (iN (M 18 2))), (3, .long (stL (Y 0) M)), (0, .ref (A 4 0)), (1, .int (iN U)), (2, .int (iN V))] [] := by
    refine J_aload_n C 3 dL_does_234 rfl ?_
    refine J_iload_n C 5 dL_does_235 rfl ?_
    refine J_sipush C (v := 255) dL_does_236 rfl ?_
    refine J_iand C dL_does_239 ?_
    refine J_eqi (b := (iN (V % 256))) (m255_ _) ?_
    refine J_iconst C (v := 3) dL_does_240 rfl ?_
    refine J_irem C dL_does_241 (by decide) ?_
    refine J_eqi (b := (iN (V % 256 % 3))) (iN_rem (b := 3) (by omega) (by decide)) ?_
    refine J_iconst C (v := 1) dL_does_242 rfl ?_
    refine J_iload_n C 5 dL_does_243 rfl ?_
    refine J_iconst C (v := 2) dL_does_244 rfl ?_
    refine J_ishr C dL_does_245 rfl ?_
    refine J_eqi (b := (iN (V / 4))) (sr_ hV 2 (by decide)) ?_
    refine J_bipush C (v := 15) dL_does_246 rfl ?_
    refine J_iand C dL_does_248 ?_
    refine J_eqi (b := (iN (V / 4 % 16))) (m15_ _) ?_
    refine J_iadd C dL_does_249 ?_
    refine J_eqi (b := (iN (1 + V / 4 % 16))) (iN_add 1 _) ?_
    refine x_rule C Yc (Nat.le_of_ble_eq_true rfl) (Nat.le_of_ble_eq_true rfl) [] (w := (p_X9_rule Y (iN (V % 256 % 3)) (iN (1 + V / 4 % 16))).1) rfl dL_does_250 (Nat.le_of_ble_eq_true rfl) (Nat.le_of_ble_eq_true rfl) ?_
    refine J_istore C (lv' := [(7, .int ((p_X9_rule Y (iN (V % 256 % 3)) (iN (1 + V / 4 % 16))).1)), (6, .int (iN (V % 256 % M 18 2))), (5, .int (iN (M 18 2))), (3, .long (stL (Y 0) M)), (0, .ref (A 4 0)), (1, .int (iN U)), (2, .int (iN V))]) dL_does_253 (by decide) rfl ?_
    refine J_goto C 296 dL_does_255 rfl ?_
    exact k296 _ _ (Dn.rule hS (by omega) (by omega) (by omega)).1 (Dn.rule hS (by omega) (by omega) (by omega)).2
  have b258 : J l K Γ (Jz K Γ (fun u : {Z : RS // ∃ M2, St (B + 600) Z M2} => (some (.int 1), ro_W K A u.1)) 0 0) 0 0 ([] ++ ro_W K A Y) 258 8 [(6, .int (iN (V % 256 % M 18 2))), (5, .int (iN (M 18 2))), (3, .long (stL (Y 0) M)), (0, .ref (A 4 0)), (1, .int (iN U)), (2, .int (iN V))] [] := by
    refine J_iload_n C 5 dL_does_258 rfl ?_
    refine J_iconst C (v := 1) dL_does_259 rfl ?_
    refine J_iand C dL_does_260 ?_
    refine J_eqi (b := (iN (V % 2))) (m1_ _) ?_
    by_cases hv : V % 2 = 0
    · refine J_if_ne_y C 272 ((iN_0 (by omega)).mpr hv) dL_does_261 rfl ?_
      refine J_aload_n C 3 dL_does_264 rfl ?_
      refine J_iconst C (v := 1) dL_does_265 rfl ?_
      refine x_keep C Yc (Nat.le_of_ble_eq_true rfl) (Nat.le_of_ble_eq_true rfl) [] (w := (p_X9_keep Y 1).1) rfl dL_does_266 (Nat.le_of_ble_eq_true rfl) (Nat.le_of_ble_eq_true rfl) ?_
      refine J_goto C 277 dL_does_269 rfl ?_
      refine J_istore C (lv' := [(7, .int ((p_X9_keep Y 1).1)), (6, .int (iN (V % 256 % M 18 2))), (5, .int (iN (M 18 2))), (3, .long (stL (Y 0) M)), (0, .ref (A 4 0)), (1, .int (iN U)), (2, .int (iN V))]) dL_does_277 (by decide) rfl ?_
      refine J_goto C 296 dL_does_279 rfl ?_
      exact k296 _ _ (Dn.keep hS hB2).1 (Dn.keep hS hB2).2
    · refine J_if_ne_n C 272 (fun z => hv ((iN_0 (by omega)).mp z)) dL_does_261 rfl ?_
      refine J_aload_n C 3 dL_does_272 rfl ?_
      refine J_iconst C (v := 1) dL_does_273 rfl ?_
      refine x_restore C Yc (Nat.le_of_ble_eq_true rfl) (Nat.le_of_ble_eq_true rfl) [] (w := (p_X9_restore Y 1).1) rfl dL_does_274 (Nat.le_of_ble_eq_true rfl) (Nat.le_of_ble_eq_true rfl) ?_
      refine J_istore C (lv' := [(7, .int ((p_X9_restore Y 1).1)), (6, .int (iN (V % 256 % M 18 2))), (5, .int (iN (M 18 2))), (3, .long (stL (Y 0) M)), (0, .ref (A 4 0)), (1, .int (iN U)), (2, .int (iN V))]) dL_does_277 (by decide) rfl ?_
      refine J_goto C 296 dL_does_279 rfl ?_
      exact k296 _ _ (Dn.restore hS hB2).1 (Dn.restore hS hB2).2
  have b282 : J l K Γ (Jz K Γ (fun u : {Z : RS // ∃ M2, St (B + 600) Z M2} => (some (.int 1), ro_W K A u.1)) 0 0) 0 0 ([] ++ ro_W K A Y) 282 8 [(6, .int (iN (V % 256 % M 18 2))), (5, .int (iN (M 18 2))), (3, .long (stL (Y 0) M)), (0, .ref (A 4 0)), (1, .int (iN U)), (2, .int (iN V))] [] := by
    refine J_aload_n C 3 dL_does_282 rfl ?_
    rcases hS.undo with hu | ⟨n, Z, M2, hu, hn, h2⟩
    · refine x_undo C Yc (Nat.le_of_ble_eq_true rfl) (Nat.le_of_ble_eq_true rfl) [] (w := (-1)) hu dL_does_283 (Nat.le_of_ble_eq_true rfl) (Nat.le_of_ble_eq_true rfl) ?_
      refine J_iconst C (v := -1) dL_does_286 rfl ?_
      refine J_icmp_lt_n C 294 (by decide) dL_does_287 rfl ?_
      refine J_iconst C (v := 1) dL_does_290 rfl ?_
      refine J_goto C 295 dL_does_291 rfl ?_
      exact J_rnret rfl C ⟨Y, M, hS.mono (by omega)⟩ dL_does_295 (Nat.le_of_ble_eq_true rfl) (Nat.le_of_ble_eq_true rfl) rfl
    · refine x_undo C Yc (Nat.le_of_ble_eq_true rfl) (Nat.le_of_ble_eq_true rfl) [] (w := (iN n)) hu dL_does_283 (Nat.le_of_ble_eq_true rfl) (Nat.le_of_ble_eq_true rfl) ?_
      refine J_iconst C (v := -1) dL_does_286 rfl ?_
      refine J_icmp_lt_n C 294 (fun z => iN_neg (a := n) (by omega) (Int32.lt_trans z (by decide))) dL_does_287 rfl ?_
      refine J_iconst C (v := 1) dL_does_290 rfl ?_
      refine J_goto C 295 dL_does_291 rfl ?_
      exact J_rnret rfl C ⟨Z, M2, h2.mono (by omega)⟩ dL_does_295 (Nat.le_of_ble_eq_true rfl) (Nat.le_of_ble_eq_true rfl) rfl
  rcases (show U % 16 = 0 ∨ U % 16 = 1 ∨ U % 16 = 2 ∨ U % 16 = 3 ∨ U % 16 = 4 ∨ U % 16 = 5 ∨ U % 16 = 6 ∨ U % 16 = 7 ∨ U % 16 = 8 ∨ U % 16 = 9 ∨ U % 16 = 10 ∨ U % 16 = 11 ∨ U % 16 = 12 ∨ U % 16 = 13 ∨ U % 16 = 14 ∨ U % 16 = 15 by omega) with h | h | h | h | h | h | h | h | h | h | h | h | h | h | h | h
  · exact J_tswIn C 100 0 (v := 0) dL_does_26 (by rw [h]; rfl) rfl (by decide) rfl rfl b100
  · exact J_tswIn C 100 1 (v := 1) dL_does_26 (by rw [h]; rfl) rfl (by decide) rfl rfl b100
  · exact J_tswIn C 100 2 (v := 2) dL_does_26 (by rw [h]; rfl) rfl (by decide) rfl rfl b100
  · exact J_tswIn C 100 3 (v := 3) dL_does_26 (by rw [h]; rfl) rfl (by decide) rfl rfl b100
  · exact J_tswIn C 140 4 (v := 4) dL_does_26 (by rw [h]; rfl) rfl (by decide) rfl rfl b140
  · exact J_tswIn C 156 5 (v := 5) dL_does_26 (by rw [h]; rfl) rfl (by decide) rfl rfl b156
  · exact J_tswIn C 172 6 (v := 6) dL_does_26 (by rw [h]; rfl) rfl (by decide) rfl rfl b172
  · exact J_tswIn C 184 7 (v := 7) dL_does_26 (by rw [h]; rfl) rfl (by decide) rfl rfl b184
  · exact J_tswIn C 184 8 (v := 8) dL_does_26 (by rw [h]; rfl) rfl (by decide) rfl rfl b184
  · exact J_tswIn C 195 9 (v := 9) dL_does_26 (by rw [h]; rfl) rfl (by decide) rfl rfl b195
  · exact J_tswIn C 195 10 (v := 10) dL_does_26 (by rw [h]; rfl) rfl (by decide) rfl rfl b195
  · exact J_tswIn C 195 11 (v := 11) dL_does_26 (by rw [h]; rfl) rfl (by decide) rfl rfl b195
  · exact J_tswIn C 210 12 (v := 12) dL_does_26 (by rw [h]; rfl) rfl (by decide) rfl rfl b210
  · exact J_tswIn C 234 13 (v := 13) dL_does_26 (by rw [h]; rfl) rfl (by decide) rfl rfl b234
  · exact J_tswIn C 258 14 (v := 14) dL_does_26 (by rw [h]; rfl) rfl (by decide) rfl rfl b258
  · exact J_tswOut C 282 dL_does_26 (by rw [h]; exact Or.inr (by decide)) rfl b282
