-- PART 56: the law's method would
section LWOU
variable {l : Launch} {K : gK} {Γ : gT} {Q : State → Prop} {A : Nat → Nat → Nat} {B U V m tl a vl o : Nat} {S : SM} {P : RS} {M : NM} {was : Int64} {a8 a11 : Nat}
theorem wo_1 (C : Cx l K Γ RL cL_would 27 (some .boolean) 8) (Yc : Cy Γ 2 12) (h : GD B M S P) (hB : B ≤ 9000) (hm1 : 1 ≤ m) (hm : m ≤ 60) (ht : tl ≤ 5) (kf : ∀ Z, GD B M S Z → J l K Γ Q 2 12 ([] ++ ro_W K A Z) 213 27 [(10, .int 1), (7, .int (iN tl)), (6, .int (iN m)), (5, .int (iN (M 18 2))), (3, .long was), (2, .int (iN V)), (1, .int (iN U)), (0, .ref (A 4 0))] []) : J l K Γ Q 0 0 ([] ++ ro_W K A P) 37 27 [(7, .int (iN tl)), (6, .int (iN m)), (5, .int (iN (M 18 2))), (3, .long was), (2, .int (iN V)), (1, .int (iN U)), (0, .ref (A 4 0))] [] := by
  have hS := h.2
  have hI := hS.2.1
  have c10 := hI.1.c10
  have c2 := hI.1.c2
  have t3 := hI.2.1.1
  have hz := h.1
  obtain ⟨P1, hv1, hsc1⟩ := hS.ifPassed (by omega) (m := m) (w := tl) (by omega) ht
  have h1 := h.sc hsc1
  obtain ⟨P2, hv2, -, h2, hU⟩ := h1.2.minute hB hm1 (show m ≤ 100 by omega)
  rw [h1.1] at hU
  have hb2 := h2.2.1.2.2.2.1.2.2.2.1
  refine J_bipush C (v := 6) dL_would_37 rfl ?_
  refine J_newI C Yc 6 dL_would_39 rfl (by decide) (Nat.le_of_ble_eq_true rfl) (Nat.le_of_ble_eq_true rfl) (fun a8 => ?_)
  refine J_weq (ws' := ([cI K a8 (6) (fA (fun i => iN (hadW M i)) (0))] ++ ro_W K A P)) (by simp only [fA_0] <;> rfl) ?_
  refine J_dup C dL_would_41 rfl ?_
  refine J_iconst C (v := 0) dL_would_42 rfl ?_
  refine J_aload_n C 6 dL_would_43 rfl ?_
  refine J_bipush C (v := 11) dL_would_44 rfl ?_
  refine x_value C Yc (Nat.le_of_ble_eq_true rfl) (Nat.le_of_ble_eq_true rfl) [cI K a8 (6) (fA (fun i => iN (hadW M i)) (0))] (w := (iN (hadW M 0))) hS.val11 dL_would_46 (Nat.le_of_ble_eq_true rfl) (Nat.le_of_ble_eq_true rfl) ?_
  refine J_isN C 0 0 rfl (by decide) (by omega) (ws2 := ([cI K a8 (6) (fA (fun i => iN (hadW M i)) (1))] ++ ro_W K A P)) rfl (by rw [fA_upd] <;> rfl) dL_would_49 ?_
  refine J_dup C dL_would_50 rfl ?_
  refine J_iconst C (v := 1) dL_would_51 rfl ?_
  refine J_aload_n C 6 dL_would_52 rfl ?_
  refine J_bipush C (v := 12) dL_would_53 rfl ?_
  refine x_value C Yc (Nat.le_of_ble_eq_true rfl) (Nat.le_of_ble_eq_true rfl) [cI K a8 (6) (fA (fun i => iN (hadW M i)) (1))] (w := (iN (hadW M 1))) hS.val12 dL_would_55 (Nat.le_of_ble_eq_true rfl) (Nat.le_of_ble_eq_true rfl) ?_
  refine J_isN C 0 1 rfl (by decide) (by omega) (ws2 := ([cI K a8 (6) (fA (fun i => iN (hadW M i)) (2))] ++ ro_W K A P)) rfl (by rw [fA_upd] <;> rfl) dL_would_58 ?_
  refine J_dup C dL_would_59 rfl ?_
  refine J_iconst C (v := 2) dL_would_60 rfl ?_
  refine J_aload_n C 6 dL_would_61 rfl ?_
  refine J_bipush C (v := 18) dL_would_62 rfl ?_
  refine x_value C Yc (Nat.le_of_ble_eq_true rfl) (Nat.le_of_ble_eq_true rfl) [cI K a8 (6) (fA (fun i => iN (hadW M i)) (2))] (w := (iN (hadW M 2))) hS.val18 dL_would_64 (Nat.le_of_ble_eq_true rfl) (Nat.le_of_ble_eq_true rfl) ?_
  refine J_isN C 0 2 rfl (by decide) (by omega) (ws2 := ([cI K a8 (6) (fA (fun i => iN (hadW M i)) (3))] ++ ro_W K A P)) rfl (by rw [fA_upd] <;> rfl) dL_would_67 ?_
  refine J_dup C dL_would_68 rfl ?_
  refine J_iconst C (v := 3) dL_would_69 rfl ?_
  refine J_iconst C (v := 0) dL_would_70 rfl ?_
  refine J_eqi (b := (iN (hadW M 3))) rfl ?_
  refine J_isN C 0 3 rfl (by decide) (by omega) (ws2 := ([cI K a8 (6) (fA (fun i => iN (hadW M i)) (4))] ++ ro_W K A P)) rfl (by rw [fA_upd] <;> rfl) dL_would_71 ?_
  refine J_dup C dL_would_72 rfl ?_
  refine J_iconst C (v := 4) dL_would_73 rfl ?_
  refine J_aload_n C 6 dL_would_74 rfl ?_
  refine J_bipush C (v := 17) dL_would_75 rfl ?_
  refine x_value C Yc (Nat.le_of_ble_eq_true rfl) (Nat.le_of_ble_eq_true rfl) [cI K a8 (6) (fA (fun i => iN (hadW M i)) (4))] (w := (iN (hadW M 4))) hS.val17 dL_would_77 (Nat.le_of_ble_eq_true rfl) (Nat.le_of_ble_eq_true rfl) ?_
  refine J_isN C 0 4 rfl (by decide) (by omega) (ws2 := ([cI K a8 (6) (fA (fun i => iN (hadW M i)) (5))] ++ ro_W K A P)) rfl (by rw [fA_upd] <;> rfl) dL_would_80 ?_
  refine J_dup C dL_would_81 rfl ?_
  refine J_iconst C (v := 5) dL_would_82 rfl ?_
  refine J_aload_n C 6 dL_would_83 rfl ?_
  refine J_bipush C (v := 14) dL_would_84 rfl ?_
  refine x_value C Yc (Nat.le_of_ble_eq_true rfl) (Nat.le_of_ble_eq_true rfl) [cI K a8 (6) (fA (fun i => iN (hadW M i)) (5))] (w := (iN (hadW M 5))) hS.val14 dL_would_86 (Nat.le_of_ble_eq_true rfl) (Nat.le_of_ble_eq_true rfl) ?_
  refine J_isN C 0 5 rfl (by decide) (by omega) (ws2 := ([cI K a8 (6) (fA (fun i => iN (hadW M i)) (6))] ++ ro_W K A P)) rfl (by rw [fA_upd] <;> rfl) dL_would_89 ?_
  refine J_astore C (lv' := [(8, .ref a8), (7, .int (iN tl)), (6, .int (iN m)), (5, .int (iN (M 18 2))), (3, .long was), (2, .int (iN V)), (1, .int (iN U)), (0, .ref (A 4 0))]) dL_would_90 (by decide) rfl ?_
  refine J_aload_n C 7 dL_would_92 rfl ?_
  refine J_iload C 2 dL_would_93 rfl ?_
  refine J_iload C 1 dL_would_95 rfl ?_
  refine x_ifPassed C Yc (Nat.le_of_ble_eq_true rfl) (Nat.le_of_ble_eq_true rfl) [cI K a8 (6) (fA (fun i => iN (hadW M i)) (6))] (w := (toN5 M M m tl)) hv1 dL_would_97 (Nat.le_of_ble_eq_true rfl) (Nat.le_of_ble_eq_true rfl) ?_
  refine J_istore C (lv' := [(9, .int (toN5 M M m tl)), (8, .ref a8), (7, .int (iN tl)), (6, .int (iN m)), (5, .int (iN (M 18 2))), (3, .long was), (2, .int (iN V)), (1, .int (iN U)), (0, .ref (A 4 0))]) dL_would_100 (by decide) rfl ?_
  refine J_aload_n C 8 dL_would_102 rfl ?_
  refine J_iload C 3 dL_would_103 rfl ?_
  refine x_minute C Yc (Nat.le_of_ble_eq_true rfl) (Nat.le_of_ble_eq_true rfl) [cI K a8 (6) (fA (fun i => iN (hadW M i)) (6))] (w := (iN (miI M m 1 1 - M 1 1))) hv2 dL_would_105 (Nat.le_of_ble_eq_true rfl) (Nat.le_of_ble_eq_true rfl) ?_
  refine J_if_lt_n C 115 (iN_neg (by omega)) dL_would_108 rfl ?_
  refine J_iconst C (v := 1) dL_would_111 rfl ?_
  refine J_goto C 116 dL_would_112 rfl ?_
  refine J_istore C (lv' := [(10, .int 1), (9, .int (toN5 M M m tl)), (8, .ref a8), (7, .int (iN tl)), (6, .int (iN m)), (5, .int (iN (M 18 2))), (3, .long was), (2, .int (iN V)), (1, .int (iN U)), (0, .ref (A 4 0))]) dL_would_116 (by decide) rfl ?_
  refine J_bipush C (v := 6) dL_would_118 rfl ?_
  refine J_newI C Yc 6 dL_would_120 rfl (by decide) (Nat.le_of_ble_eq_true rfl) (Nat.le_of_ble_eq_true rfl) (fun a11 => ?_)
  refine J_weq (ws' := ([cI K a11 (6) (fA (fun i => iN (nowW (miI M m) i)) (0)), cI K a8 (6) (fA (fun i => iN (hadW M i)) (6))] ++ ro_W K A P2)) (by simp only [fA_0] <;> rfl) ?_
  obtain ⟨un, Z, uv, u8, u0, us, -⟩ := hU
  refine J_dup C dL_would_122 rfl ?_
  refine J_iconst C (v := 0) dL_would_123 rfl ?_
  refine J_aload_n C 9 dL_would_124 rfl ?_
  refine J_bipush C (v := 11) dL_would_125 rfl ?_
  refine x_value C Yc (Nat.le_of_ble_eq_true rfl) (Nat.le_of_ble_eq_true rfl) [cI K a11 (6) (fA (fun i => iN (nowW (miI M m) i)) (0)), cI K a8 (6) (fA (fun i => iN (hadW M i)) (6))] (w := (iN (nowW (miI M m) 0))) h2.val11 dL_would_127 (Nat.le_of_ble_eq_true rfl) (Nat.le_of_ble_eq_true rfl) ?_
  refine J_isN C 0 0 rfl (by decide) (by omega) (ws2 := ([cI K a11 (6) (fA (fun i => iN (nowW (miI M m) i)) (1)), cI K a8 (6) (fA (fun i => iN (hadW M i)) (6))] ++ ro_W K A P2)) rfl (by rw [fA_upd] <;> rfl) dL_would_130 ?_
  refine J_dup C dL_would_131 rfl ?_
  refine J_iconst C (v := 1) dL_would_132 rfl ?_
  refine J_aload_n C 9 dL_would_133 rfl ?_
  refine J_bipush C (v := 12) dL_would_134 rfl ?_
  refine x_value C Yc (Nat.le_of_ble_eq_true rfl) (Nat.le_of_ble_eq_true rfl) [cI K a11 (6) (fA (fun i => iN (nowW (miI M m) i)) (1)), cI K a8 (6) (fA (fun i => iN (hadW M i)) (6))] (w := (iN (nowW (miI M m) 1))) h2.val12 dL_would_136 (Nat.le_of_ble_eq_true rfl) (Nat.le_of_ble_eq_true rfl) ?_
  refine J_isN C 0 1 rfl (by decide) (by omega) (ws2 := ([cI K a11 (6) (fA (fun i => iN (nowW (miI M m) i)) (2)), cI K a8 (6) (fA (fun i => iN (hadW M i)) (6))] ++ ro_W K A P2)) rfl (by rw [fA_upd] <;> rfl) dL_would_139 ?_
  refine J_dup C dL_would_140 rfl ?_
  refine J_iconst C (v := 2) dL_would_141 rfl ?_
  refine J_aload_n C 9 dL_would_142 rfl ?_
  refine J_bipush C (v := 18) dL_would_143 rfl ?_
  refine x_value C Yc (Nat.le_of_ble_eq_true rfl) (Nat.le_of_ble_eq_true rfl) [cI K a11 (6) (fA (fun i => iN (nowW (miI M m) i)) (2)), cI K a8 (6) (fA (fun i => iN (hadW M i)) (6))] (w := (iN (nowW (miI M m) 2))) h2.val18 dL_would_145 (Nat.le_of_ble_eq_true rfl) (Nat.le_of_ble_eq_true rfl) ?_
  refine J_isN C 0 2 rfl (by decide) (by omega) (ws2 := ([cI K a11 (6) (fA (fun i => iN (nowW (miI M m) i)) (3)), cI K a8 (6) (fA (fun i => iN (hadW M i)) (6))] ++ ro_W K A P2)) rfl (by rw [fA_upd] <;> rfl) dL_would_148 ?_
  refine J_dup C dL_would_149 rfl ?_
  refine J_iconst C (v := 3) dL_would_150 rfl ?_
  refine J_aload_n C 9 dL_would_151 rfl ?_
  refine J_bipush C (v := 6) dL_would_152 rfl ?_
  refine x_value C Yc (Nat.le_of_ble_eq_true rfl) (Nat.le_of_ble_eq_true rfl) [cI K a11 (6) (fA (fun i => iN (nowW (miI M m) i)) (3)), cI K a8 (6) (fA (fun i => iN (hadW M i)) (6))] (w := (iN (nowW (miI M m) 3))) h2.val6 dL_would_154 (Nat.le_of_ble_eq_true rfl) (Nat.le_of_ble_eq_true rfl) ?_
  refine J_isN C 0 3 rfl (by decide) (by omega) (ws2 := ([cI K a11 (6) (fA (fun i => iN (nowW (miI M m) i)) (4)), cI K a8 (6) (fA (fun i => iN (hadW M i)) (6))] ++ ro_W K A P2)) rfl (by rw [fA_upd] <;> rfl) dL_would_157 ?_
  refine J_dup C dL_would_158 rfl ?_
  refine J_iconst C (v := 4) dL_would_159 rfl ?_
  refine J_aload_n C 9 dL_would_160 rfl ?_
  refine J_bipush C (v := 17) dL_would_161 rfl ?_
  refine x_value C Yc (Nat.le_of_ble_eq_true rfl) (Nat.le_of_ble_eq_true rfl) [cI K a11 (6) (fA (fun i => iN (nowW (miI M m) i)) (4)), cI K a8 (6) (fA (fun i => iN (hadW M i)) (6))] (w := (iN (nowW (miI M m) 4))) h2.val17 dL_would_163 (Nat.le_of_ble_eq_true rfl) (Nat.le_of_ble_eq_true rfl) ?_
  refine J_isN C 0 4 rfl (by decide) (by omega) (ws2 := ([cI K a11 (6) (fA (fun i => iN (nowW (miI M m) i)) (5)), cI K a8 (6) (fA (fun i => iN (hadW M i)) (6))] ++ ro_W K A P2)) rfl (by rw [fA_upd] <;> rfl) dL_would_166 ?_
  refine J_dup C dL_would_167 rfl ?_
  refine J_iconst C (v := 5) dL_would_168 rfl ?_
  refine J_aload_n C 9 dL_would_169 rfl ?_
  refine J_bipush C (v := 14) dL_would_170 rfl ?_
  refine x_value C Yc (Nat.le_of_ble_eq_true rfl) (Nat.le_of_ble_eq_true rfl) [cI K a11 (6) (fA (fun i => iN (nowW (miI M m) i)) (5)), cI K a8 (6) (fA (fun i => iN (hadW M i)) (6))] (w := (iN (nowW (miI M m) 5))) h2.val14 dL_would_172 (Nat.le_of_ble_eq_true rfl) (Nat.le_of_ble_eq_true rfl) ?_
  refine J_isN C 0 5 rfl (by decide) (by omega) (ws2 := ([cI K a11 (6) (fA (fun i => iN (nowW (miI M m) i)) (6)), cI K a8 (6) (fA (fun i => iN (hadW M i)) (6))] ++ ro_W K A P2)) rfl (by rw [fA_upd] <;> rfl) dL_would_175 ?_
  refine J_astore C (lv' := [(11, .ref a11), (10, .int 1), (9, .int (toN5 M M m tl)), (8, .ref a8), (7, .int (iN tl)), (6, .int (iN m)), (5, .int (iN (M 18 2))), (3, .long was), (2, .int (iN V)), (1, .int (iN U)), (0, .ref (A 4 0))]) dL_would_176 (by decide) rfl ?_
  refine J_iload C 1 dL_would_178 rfl ?_
  refine J_if_eq_n C 210 (by decide) dL_would_180 rfl ?_
  refine J_aload C 0 dL_would_183 rfl ?_
  refine J_iload C 4 dL_would_185 rfl ?_
  refine J_iaN C 0 tl rfl (by omega) (by omega) rfl dL_would_187 ?_
  refine J_eqi (b := (iN (nowW (miI M m) tl))) (fA_get (by omega)) ?_
  refine J_aload C 3 dL_would_188 rfl ?_
  refine J_iload C 4 dL_would_190 rfl ?_
  refine J_iaN C 1 tl rfl (by omega) (by omega) rfl dL_would_192 ?_
  refine J_eqi (b := (iN (hadW M tl))) (fA_get (by omega)) ?_
  refine J_isub C dL_would_193 ?_
  refine J_eqi (b := (toN5 M M m tl)) (told_eq ht) ?_
  refine J_iload C 2 dL_would_194 rfl ?_
  refine J_icmp_ne_y C 210 rfl dL_would_196 rfl ?_
  refine J_aload_n C 10 dL_would_199 rfl ?_
  refine x_undo C Yc (Nat.le_of_ble_eq_true rfl) (Nat.le_of_ble_eq_true rfl) [cI K a11 (6) (fA (fun i => iN (nowW (miI M m) i)) (6)), cI K a8 (6) (fA (fun i => iN (hadW M i)) (6))] (w := (iN un)) uv dL_would_200 (Nat.le_of_ble_eq_true rfl) (Nat.le_of_ble_eq_true rfl) ?_
  refine J_if_lt_n C 210 (iN_neg (by omega)) dL_would_203 rfl ?_
  refine J_iconst C (v := 1) dL_would_206 rfl ?_
  refine J_goto C 211 dL_would_207 rfl ?_
  refine J_istore C (lv' := [(10, .int 1), (11, .ref a11), (9, .int (toN5 M M m tl)), (8, .ref a8), (7, .int (iN tl)), (6, .int (iN m)), (5, .int (iN (M 18 2))), (3, .long was), (2, .int (iN V)), (1, .int (iN U)), (0, .ref (A 4 0))]) dL_would_211 (by decide) rfl ?_
  refine J_drop (u := [cI K a11 (6) (fA (fun i => iN (nowW (miI M m) i)) (6)), cI K a8 (6) (fA (fun i => iN (hadW M i)) (6))]) ?_
  refine J_sub [0, 4, 5, 6, 7, 8, 9, 10] (lv' := [(10, .int 1), (7, .int (iN tl)), (6, .int (iN m)), (5, .int (iN (M 18 2))), (3, .long was), (2, .int (iN V)), (1, .int (iN U)), (0, .ref (A 4 0))]) rfl ?_
  exact kf Z ⟨u0, us⟩
theorem wo_2 (C : Cx l K Γ RL cL_would 27 (some .boolean) 8) (Yc : Cy Γ 2 12) (h : GD B M S P) (hB : B ≤ 9000) (hm : m ≤ 60) (ht : tl ≤ 5) (hr : rOK a vl) (kf : ∀ Z, GD B M S Z → J l K Γ Q 2 12 ([] ++ ro_W K A Z) 299 27 [(10, .int 1), (7, .int (iN tl)), (6, .int (iN m)), (5, .int (iN (M 18 2))), (3, .long was), (2, .int (iN V)), (0, .ref (A 4 0))] []) : J l K Γ Q 2 12 ([] ++ ro_W K A P) 236 27 [(13, .int (iN vl)), (12, .int (iN a)), (10, .int 1), (7, .int (iN tl)), (6, .int (iN m)), (5, .int (iN (M 18 2))), (3, .long was), (2, .int (iN V)), (0, .ref (A 4 0))] [] := by
  have hS := h.2
  have hI := hS.2.1
  have c10 := hI.1.c10
  have c2 := hI.1.c2
  have t3 := hI.2.1.1
  have hz := h.1
  obtain ⟨P1, hv1, hsc1⟩ := hS.ifRule (by omega) hr (m := m) (w := tl) (by omega) ht
  obtain ⟨sv, P2, hv2, h2, hRU⟩ := (h.sc hsc1).rule hr
  obtain ⟨P3, hv3, hsc3⟩ := h2.ifPassed (by omega) (m := m) (w := tl) (by omega) ht
  rw [toN5_base (M := M) nP0_1] at hv3
  have hRU3 := hRU.sc hsc3
  refine J_aload_n C 8 dL_would_236 rfl ?_
  refine J_iload C 1 dL_would_237 rfl ?_
  refine J_iload C 0 dL_would_239 rfl ?_
  refine J_iload C 4 dL_would_241 rfl ?_
  refine J_iload C 3 dL_would_243 rfl ?_
  refine x_ifRule C Yc (Nat.le_of_ble_eq_true rfl) (Nat.le_of_ble_eq_true rfl) [] (w := (toN5 M (nP M 0 a vl) m tl)) hv1 dL_would_245 (Nat.le_of_ble_eq_true rfl) (Nat.le_of_ble_eq_true rfl) ?_
  refine J_istore C (lv' := [(9, .int (toN5 M (nP M 0 a vl) m tl)), (13, .int (iN vl)), (12, .int (iN a)), (10, .int 1), (7, .int (iN tl)), (6, .int (iN m)), (5, .int (iN (M 18 2))), (3, .long was), (2, .int (iN V)), (0, .ref (A 4 0))]) dL_would_248 (by decide) rfl ?_
  refine J_aload_n C 9 dL_would_250 rfl ?_
  refine J_iload C 2 dL_would_251 rfl ?_
  refine J_iload C 1 dL_would_253 rfl ?_
  refine x_rule C Yc (Nat.le_of_ble_eq_true rfl) (Nat.le_of_ble_eq_true rfl) [] (w := sv) hv2 dL_would_255 (Nat.le_of_ble_eq_true rfl) (Nat.le_of_ble_eq_true rfl) ?_
  refine J_istore C (lv' := [(14, .int sv), (9, .int (toN5 M (nP M 0 a vl) m tl)), (13, .int (iN vl)), (12, .int (iN a)), (10, .int 1), (7, .int (iN tl)), (6, .int (iN m)), (5, .int (iN (M 18 2))), (3, .long was), (2, .int (iN V)), (0, .ref (A 4 0))]) dL_would_258 (by decide) rfl ?_
  refine J_iload C 4 dL_would_260 rfl ?_
  refine J_if_eq_n C 296 (by decide) dL_would_262 rfl ?_
  refine J_aload_n C 10 dL_would_265 rfl ?_
  refine J_iload C 6 dL_would_266 rfl ?_
  refine J_iload C 5 dL_would_268 rfl ?_
  refine x_ifPassed C Yc (Nat.le_of_ble_eq_true rfl) (Nat.le_of_ble_eq_true rfl) [] (w := (toN5 M (nP M 0 a vl) m tl)) hv3 dL_would_270 (Nat.le_of_ble_eq_true rfl) (Nat.le_of_ble_eq_true rfl) ?_
  refine J_iload C 1 dL_would_273 rfl ?_
  refine J_icmp_ne_y C 296 rfl dL_would_275 rfl ?_
  refine J_iload C 0 dL_would_278 rfl ?_
  refine J_bipush C (v := -2) dL_would_280 rfl ?_
  have k292 : ∀ Z, GD B M S Z → J l K Γ Q 2 12 ([] ++ ro_W K A Z) 292 27 [(14, .int sv), (9, .int (toN5 M (nP M 0 a vl) m tl)), (13, .int (iN vl)), (12, .int (iN a)), (10, .int 1), (7, .int (iN tl)), (6, .int (iN m)), (5, .int (iN (M 18 2))), (3, .long was), (2, .int (iN V)), (0, .ref (A 4 0))] [] := by
    intro Z hg
    refine J_iconst C (v := 1) dL_would_292 rfl ?_
    refine J_goto C 297 dL_would_293 rfl ?_
    refine J_istore C (lv' := [(10, .int 1), (14, .int sv), (9, .int (toN5 M (nP M 0 a vl) m tl)), (13, .int (iN vl)), (12, .int (iN a)), (7, .int (iN tl)), (6, .int (iN m)), (5, .int (iN (M 18 2))), (3, .long was), (2, .int (iN V)), (0, .ref (A 4 0))]) dL_would_297 (by decide) rfl ?_
    refine J_sub [0, 5, 6, 7, 8, 9, 10] (lv' := [(10, .int 1), (7, .int (iN tl)), (6, .int (iN m)), (5, .int (iN (M 18 2))), (3, .long was), (2, .int (iN V)), (0, .ref (A 4 0))]) rfl ?_
    exact kf Z hg
  rcases hRU3 with ⟨re, rg⟩ | ⟨re, rg⟩
  · refine J_icmp_eq_y C 292 re dL_would_282 rfl ?_
    exact k292 P3 rg
  · obtain ⟨run, Z, ruv, ru8, ru0, rus, -⟩ := rg
    refine J_icmp_eq_n C 292 re dL_would_282 rfl ?_
    refine J_aload_n C 10 dL_would_285 rfl ?_
    refine x_undo C Yc (Nat.le_of_ble_eq_true rfl) (Nat.le_of_ble_eq_true rfl) [] (w := (iN run)) ruv dL_would_286 (Nat.le_of_ble_eq_true rfl) (Nat.le_of_ble_eq_true rfl) ?_
    refine J_if_lt_n C 296 (iN_neg (by omega)) dL_would_289 rfl ?_
    exact k292 Z ⟨ru0, rus⟩
theorem wo_3 (C : Cx l K Γ RL cL_would 27 (some .boolean) 8) (Yc : Cy Γ 2 12) (h : GD B M S P) (hB : B ≤ 9000) (hm : m ≤ 60) (ht : tl ≤ 5) (ho : o < M 18 2) (kf : ∀ Z, GD B M S Z → J l K Γ Q 2 12 ([] ++ ro_W K A Z) 417 27 [(17, .int (iO (stand M o))), (15, .int (iN o)), (10, .int 1), (6, .int (iN m)), (3, .long was), (0, .ref (A 4 0))] []) : J l K Γ Q 2 12 ([] ++ ro_W K A P) 309 27 [(15, .int (iN o)), (10, .int 1), (7, .int (iN tl)), (6, .int (iN m)), (3, .long was), (0, .ref (A 4 0))] [] := by
  have hS := h.2
  have hI := hS.2.1
  have c10 := hI.1.c10
  have c2 := hI.1.c2
  have t3 := hI.2.1.1
  have hz := h.1
  have hop := hI.1.op ho
  obtain ⟨P1, hv1, hsc1⟩ := hS.ifShut (by omega) ho (m := m) (w := tl) (by omega) ht
  have h1 := h.sc hsc1
  obtain ⟨P2, hv2, h2, hU⟩ := h1.2.shut (by omega) ho (v := 1 - M 4 o) (by omega) (by omega)
  rw [h1.1] at hU
  have hv2' : p_X9_shut P1 (iN o) (iN (1 - M 4 o)) = (iN (lsN M o), P2) := hv2
  obtain ⟨P3, hv3, hsc3⟩ := h2.ifPassed (by omega) (m := m) (w := tl) (by omega) ht
  rw [toN5_base (M := M) (shN_1 (cT_6 tl).1)] at hv3
  have hU3 := hU.sc hsc3
  have hls := lsN_le (M := M) (o := o)
  obtain ⟨un, Z, uv, u8, u0, us, -⟩ := hU3
  refine J_aload_n C 5 dL_would_309 rfl ?_
  refine J_iload C 0 dL_would_310 rfl ?_
  refine J_iload C 3 dL_would_312 rfl ?_
  refine J_iload C 2 dL_would_314 rfl ?_
  refine x_ifShut C Yc (Nat.le_of_ble_eq_true rfl) (Nat.le_of_ble_eq_true rfl) [] (w := (toN5 M (shN M o (1 - M 4 o)) m tl)) hv1 dL_would_316 (Nat.le_of_ble_eq_true rfl) (Nat.le_of_ble_eq_true rfl) ?_
  refine J_istore C (lv' := [(9, .int (toN5 M (shN M o (1 - M 4 o)) m tl)), (15, .int (iN o)), (10, .int 1), (7, .int (iN tl)), (6, .int (iN m)), (3, .long was), (0, .ref (A 4 0))]) dL_would_319 (by decide) rfl ?_
  refine J_aload_n C 6 dL_would_321 rfl ?_
  refine J_bipush C (v := 6) dL_would_322 rfl ?_
  refine x_value C Yc (Nat.le_of_ble_eq_true rfl) (Nat.le_of_ble_eq_true rfl) [] (w := (iN (M 18 3))) h1.2.val6 dL_would_324 (Nat.le_of_ble_eq_true rfl) (Nat.le_of_ble_eq_true rfl) ?_
  refine J_istore C (lv' := [(16, .int (iN (M 18 3))), (9, .int (toN5 M (shN M o (1 - M 4 o)) m tl)), (15, .int (iN o)), (10, .int 1), (7, .int (iN tl)), (6, .int (iN m)), (3, .long was), (0, .ref (A 4 0))]) dL_would_327 (by decide) rfl ?_
  refine J_aload_n C 7 dL_would_329 rfl ?_
  refine J_iload C 2 dL_would_330 rfl ?_
  refine J_bipush C (v := 6) dL_would_332 rfl ?_
  refine x_office C Yc (Nat.le_of_ble_eq_true rfl) (Nat.le_of_ble_eq_true rfl) [] (w := (iO (stand M o))) (h1.2.off6 (by omega) ho) dL_would_334 (Nat.le_of_ble_eq_true rfl) (Nat.le_of_ble_eq_true rfl) ?_
  refine J_istore C (lv' := [(17, .int (iO (stand M o))), (16, .int (iN (M 18 3))), (9, .int (toN5 M (shN M o (1 - M 4 o)) m tl)), (15, .int (iN o)), (10, .int 1), (7, .int (iN tl)), (6, .int (iN m)), (3, .long was), (0, .ref (A 4 0))]) dL_would_337 (by decide) rfl ?_
  refine J_aload_n C 8 dL_would_339 rfl ?_
  refine J_iload C 3 dL_would_340 rfl ?_
  refine J_iconst C (v := 1) dL_would_342 rfl ?_
  refine J_aload_n C 8 dL_would_343 rfl ?_
  refine J_iload C 3 dL_would_344 rfl ?_
  refine J_iconst C (v := 2) dL_would_346 rfl ?_
  refine x_office C Yc (Nat.le_of_ble_eq_true rfl) (Nat.le_of_ble_eq_true rfl) [] (w := (iN (M 4 o))) (h1.2.off2 ho) dL_would_347 (Nat.le_of_ble_eq_true rfl) (Nat.le_of_ble_eq_true rfl) ?_
  refine J_isub C dL_would_350 ?_
  refine J_eqi (b := (iN (1 - M 4 o))) (iN_sub (a := 1) hop) ?_
  refine x_shut C Yc (Nat.le_of_ble_eq_true rfl) (Nat.le_of_ble_eq_true rfl) [] (w := (iN (lsN M o))) hv2' dL_would_351 (Nat.le_of_ble_eq_true rfl) (Nat.le_of_ble_eq_true rfl) ?_
  refine J_istore C (lv' := [(18, .int (iN (lsN M o))), (17, .int (iO (stand M o))), (16, .int (iN (M 18 3))), (9, .int (toN5 M (shN M o (1 - M 4 o)) m tl)), (15, .int (iN o)), (10, .int 1), (7, .int (iN tl)), (6, .int (iN m)), (3, .long was), (0, .ref (A 4 0))]) dL_would_354 (by decide) rfl ?_
  refine J_iload C 5 dL_would_356 rfl ?_
  refine J_if_eq_n C 414 (by decide) dL_would_358 rfl ?_
  refine J_iload C 0 dL_would_361 rfl ?_
  refine J_iload C 1 dL_would_363 rfl ?_
  have k376 : J l K Γ Q 2 12 ([] ++ ro_W K A P2) 376 27 [(18, .int (iN (lsN M o))), (17, .int (iO (stand M o))), (16, .int (iN (M 18 3))), (9, .int (toN5 M (shN M o (1 - M 4 o)) m tl)), (15, .int (iN o)), (10, .int 1), (7, .int (iN tl)), (6, .int (iN m)), (3, .long was), (0, .ref (A 4 0))] [] := by
    refine J_aload_n C 9 dL_would_376 rfl ?_
    refine J_bipush C (v := 6) dL_would_377 rfl ?_
    refine x_value C Yc (Nat.le_of_ble_eq_true rfl) (Nat.le_of_ble_eq_true rfl) [] (w := (iN (M 18 3 - lsN M o))) (h2.val6.trans (by rw [shN_3])) dL_would_379 (Nat.le_of_ble_eq_true rfl) (Nat.le_of_ble_eq_true rfl) ?_
    refine J_iload C 2 dL_would_382 rfl ?_
    refine J_iload C 0 dL_would_384 rfl ?_
    refine J_isub C dL_would_386 ?_
    refine J_eqi (b := (iN (M 18 3 - lsN M o))) (iN_sub hls.1) ?_
    refine J_icmp_ne_y C 414 rfl dL_would_387 rfl ?_
    refine J_aload_n C 9 dL_would_390 rfl ?_
    refine J_iload C 7 dL_would_391 rfl ?_
    refine J_iload C 6 dL_would_393 rfl ?_
    refine x_ifPassed C Yc (Nat.le_of_ble_eq_true rfl) (Nat.le_of_ble_eq_true rfl) [] (w := (toN5 M (shN M o (1 - M 4 o)) m tl)) hv3 dL_would_395 (Nat.le_of_ble_eq_true rfl) (Nat.le_of_ble_eq_true rfl) ?_
    refine J_iload C 3 dL_would_398 rfl ?_
    refine J_icmp_ne_y C 414 rfl dL_would_400 rfl ?_
    refine J_aload_n C 9 dL_would_403 rfl ?_
    refine x_undo C Yc (Nat.le_of_ble_eq_true rfl) (Nat.le_of_ble_eq_true rfl) [] (w := (iN un)) uv dL_would_404 (Nat.le_of_ble_eq_true rfl) (Nat.le_of_ble_eq_true rfl) ?_
    refine J_if_lt_n C 414 (iN_neg (by omega)) dL_would_407 rfl ?_
    refine J_iconst C (v := 1) dL_would_410 rfl ?_
    refine J_goto C 415 dL_would_411 rfl ?_
    refine J_istore C (lv' := [(10, .int 1), (18, .int (iN (lsN M o))), (17, .int (iO (stand M o))), (16, .int (iN (M 18 3))), (9, .int (toN5 M (shN M o (1 - M 4 o)) m tl)), (15, .int (iN o)), (7, .int (iN tl)), (6, .int (iN m)), (3, .long was), (0, .ref (A 4 0))]) dL_would_415 (by decide) rfl ?_
    refine J_sub [2, 5, 0, 7, 8, 9] (lv' := [(17, .int (iO (stand M o))), (15, .int (iN o)), (10, .int 1), (6, .int (iN m)), (3, .long was), (0, .ref (A 4 0))]) rfl ?_
    exact kf Z ⟨u0, us⟩
  rcases opt_ways (stand M o) with hs | ⟨t, hs⟩
  · refine J_if_lt_y C 372 (by rw [hs]; decide) dL_would_365 rfl ?_
    refine J_iconst C (v := 0) dL_would_372 rfl ?_
    refine J_icmp_ne_y C 414 (by rw [lsN_none hs]; rfl) dL_would_373 rfl ?_
    exact k376
  · have hst := (stN_some _ hs).1
    refine J_if_lt_n C 372 (by rw [hs]; exact iN_neg (by omega)) dL_would_365 rfl ?_
    refine J_iconst C (v := 1) dL_would_368 rfl ?_
    refine J_goto C 373 dL_would_369 rfl ?_
    refine J_icmp_ne_y C 414 (by rw [lsN_some hs]; rfl) dL_would_373 rfl ?_
    exact k376
theorem wo_4 (C : Cx l K Γ RL cL_would 27 (some .boolean) 8) (Yc : Cy Γ 2 12) (h : GD B M S P) (hB : B ≤ 9000) (ho : o < M 18 2) (kf : ∀ Z , GD B M S Z → J l K Γ Q 2 12 ([] ++ ro_W K A Z) 549 27 [(17, .int (iO (stand M o))), (15, .int (iN o)), (10, .int 1), (6, .int (iN m)), (3, .long was), (0, .ref (A 4 0))] []) : J l K Γ Q 2 12 ([] ++ ro_W K A P) 417 27 [(17, .int (iO (stand M o))), (15, .int (iN o)), (10, .int 1), (6, .int (iN m)), (3, .long was), (0, .ref (A 4 0))] [] := by
  have hS := h.2
  have hI := hS.2.1
  have c10 := hI.1.c10
  have c2 := hI.1.c2
  have t3 := hI.2.1.1
  have hz := h.1
  obtain ⟨hFR, hsc1⟩ := hS.comesIn (by omega) ho
  have h1 := h.sc hsc1
  generalize hv : p_X9_comesIn P (iN o) = pr at hFR hsc1 h1
  obtain ⟨r, P1⟩ := pr
  have hFR : FR (CO M o) 300 r := hFR
  have hsc1 : SC P P1 := hsc1
  have h1 : GD B M S P1 := h1
  have hnz : ∀ t, stand M o = some t → CO M o 0 := fun t e z => by
    have z : stand M o = none := z
    rw [e] at z
    cases z
  refine J_aload_n C 5 dL_would_417 rfl ?_
  refine J_iload C 1 dL_would_418 rfl ?_
  refine x_comesIn C Yc (Nat.le_of_ble_eq_true rfl) (Nat.le_of_ble_eq_true rfl) [] (w := r) hv dL_would_420 (Nat.le_of_ble_eq_true rfl) (Nat.le_of_ble_eq_true rfl) ?_
  refine J_istore C (lv' := [(19, .int r), (17, .int (iO (stand M o))), (15, .int (iN o)), (10, .int 1), (6, .int (iN m)), (3, .long was), (0, .ref (A 4 0))]) dL_would_423 (by decide) rfl ?_
  refine J_iload C 0 dL_would_425 rfl ?_
  have kel : (r = 0 ∧ ∃ t, stand M o = some t) ∨ (¬ r = 0 ∧ stand M o = none) → J l K Γ Q 2 12 ([] ++ ro_W K A P1) 514 27 [(19, .int r), (17, .int (iO (stand M o))), (15, .int (iN o)), (10, .int 1), (6, .int (iN m)), (3, .long was), (0, .ref (A 4 0))] [] := by
    intro hz0
    refine J_iload C 3 dL_would_514 rfl ?_
    refine J_if_eq_n C 546 (by decide) dL_would_516 rfl ?_
    refine J_iload C 0 dL_would_519 rfl ?_
    rcases hz0 with ⟨e0, e1⟩ | ⟨e0, e1⟩
    · have hst := (stN_some _ e1.choose_spec).1
      refine J_if_ne_y C 528 e0 dL_would_521 rfl ?_
      refine J_iconst C (v := 1) dL_would_524 rfl ?_
      refine J_goto C 529 dL_would_525 rfl ?_
      refine J_iload C 1 dL_would_529 rfl ?_
      refine J_if_lt_n C 538 (by rw [e1.choose_spec]; exact iN_neg (by omega)) dL_would_531 rfl ?_
      refine J_iconst C (v := 1) dL_would_534 rfl ?_
      refine J_goto C 539 dL_would_535 rfl ?_
      refine J_icmp_ne_y C 546 rfl dL_would_539 rfl ?_
      refine J_iconst C (v := 1) dL_would_542 rfl ?_
      refine J_goto C 547 dL_would_543 rfl ?_
      refine J_istore C (lv' := [(10, .int 1), (19, .int r), (17, .int (iO (stand M o))), (15, .int (iN o)), (6, .int (iN m)), (3, .long was), (0, .ref (A 4 0))]) dL_would_547 (by decide) rfl ?_
      refine J_sub [2, 3, 0, 4, 5, 6] (lv' := [(17, .int (iO (stand M o))), (15, .int (iN o)), (10, .int 1), (6, .int (iN m)), (3, .long was), (0, .ref (A 4 0))]) rfl ?_
      exact kf P1 h1
    · refine J_if_ne_n C 528 e0 dL_would_521 rfl ?_
      refine J_iconst C (v := 0) dL_would_528 rfl ?_
      refine J_iload C 1 dL_would_529 rfl ?_
      refine J_if_lt_y C 538 (by rw [e1]; decide) dL_would_531 rfl ?_
      refine J_iconst C (v := 0) dL_would_538 rfl ?_
      refine J_icmp_ne_y C 546 rfl dL_would_539 rfl ?_
      refine J_iconst C (v := 1) dL_would_542 rfl ?_
      refine J_goto C 547 dL_would_543 rfl ?_
      refine J_istore C (lv' := [(10, .int 1), (19, .int r), (17, .int (iO (stand M o))), (15, .int (iN o)), (6, .int (iN m)), (3, .long was), (0, .ref (A 4 0))]) dL_would_547 (by decide) rfl ?_
      refine J_sub [2, 3, 0, 4, 5, 6] (lv' := [(17, .int (iO (stand M o))), (15, .int (iN o)), (10, .int 1), (6, .int (iN m)), (3, .long was), (0, .ref (A 4 0))]) rfl ?_
      exact kf P1 h1
  rcases hFR with ⟨er, hno⟩ | ⟨k, hk, er, hyes, hmin⟩
  · refine J_if_le_n C 514 (by rw [er]; decide) dL_would_427 rfl ?_
    exact kel (Or.inr ⟨by rw [er]; decide, (opt_ways _).resolve_right (fun ⟨t, e⟩ => hno 0 (by omega) (hnz t e))⟩)
  · rcases Nat.eq_zero_or_pos k with k0 | k0
    · subst k0
      refine J_if_le_n C 514 (by rw [er]; decide) dL_would_427 rfl ?_
      exact kel (Or.inl ⟨er, (opt_ways _).resolve_left hyes⟩)
    · subst er
      refine J_if_le_y C 514 ((iN_pos (by omega)).mpr k0) dL_would_427 rfl ?_
      refine J_iload C 0 dL_would_430 rfl ?_
      refine J_bipush C (v := 100) dL_would_432 rfl ?_
      by_cases k100 : k ≤ 100
      · obtain ⟨P2, hv2, -, h2, hU2⟩ := h1.2.minute hB k0 k100
        rw [h1.1] at hU2
        have hb2 := h2.2.1.2.2.2.1.2.2.2.1
        obtain ⟨un, Z2, uv, u8, u0, us, -⟩ := hU2
        have g2 : GD B M S Z2 := ⟨u0, us⟩
        have hc2 : miI M k 18 2 = M 18 2 := miI_c hI k
        obtain ⟨t2, hs2⟩ := (opt_ways (stand (miI M k) o)).resolve_left hyes
        have ht2 := (stN_some _ hs2).1
        have ht3 := h2.2.1.2.1.1
        refine J_icmp_gt_n C 514 (iN_nlt' (a := 100) k100 (by decide)) dL_would_434 rfl ?_
        refine J_iload C 3 dL_would_437 rfl ?_
        refine J_if_eq_n C 508 (by decide) dL_would_439 rfl ?_
        refine J_aload_n C 6 dL_would_442 rfl ?_
        refine J_iload C 0 dL_would_443 rfl ?_
        refine x_minute C Yc (Nat.le_of_ble_eq_true rfl) (Nat.le_of_ble_eq_true rfl) [] (w := (iN (miI M k 1 1 - M 1 1))) hv2 dL_would_445 (Nat.le_of_ble_eq_true rfl) (Nat.le_of_ble_eq_true rfl) ?_
        refine J_if_lt_n C 508 (iN_neg (by omega)) dL_would_448 rfl ?_
        refine J_aload_n C 6 dL_would_451 rfl ?_
        refine J_iload C 2 dL_would_452 rfl ?_
        refine J_bipush C (v := 6) dL_would_454 rfl ?_
        refine x_office C Yc (Nat.le_of_ble_eq_true rfl) (Nat.le_of_ble_eq_true rfl) [] (w := (iN t2)) ((h2.off6 (by omega) (by omega)).trans (by rw [hs2]; rfl)) dL_would_456 (Nat.le_of_ble_eq_true rfl) (Nat.le_of_ble_eq_true rfl) ?_
        refine J_if_lt_n C 508 (iN_neg (by omega)) dL_would_459 rfl ?_
        refine J_aload_n C 6 dL_would_462 rfl ?_
        refine x_undo C Yc (Nat.le_of_ble_eq_true rfl) (Nat.le_of_ble_eq_true rfl) [] (w := (iN un)) uv dL_would_463 (Nat.le_of_ble_eq_true rfl) (Nat.le_of_ble_eq_true rfl) ?_
        refine J_if_lt_n C 508 (iN_neg (by omega)) dL_would_466 rfl ?_
        refine J_iload C 0 dL_would_469 rfl ?_
        refine J_iconst C (v := 1) dL_would_471 rfl ?_
        have kj : ∀ Z, GD B M S Z → J l K Γ Q 2 12 ([] ++ ro_W K A Z) 504 27 [(19, .int (iN k)), (17, .int (iO (stand M o))), (15, .int (iN o)), (10, .int 1), (6, .int (iN m)), (3, .long was), (0, .ref (A 4 0))] [] := by
          intro Z hg
          refine J_iconst C (v := 1) dL_would_504 rfl ?_
          refine J_goto C 509 dL_would_505 rfl ?_
          refine J_istore C (lv' := [(10, .int 1), (19, .int (iN k)), (17, .int (iO (stand M o))), (15, .int (iN o)), (6, .int (iN m)), (3, .long was), (0, .ref (A 4 0))]) dL_would_509 (by decide) rfl ?_
          refine J_goto C 549 dL_would_511 rfl ?_
          refine J_sub [2, 3, 0, 4, 5, 6] (lv' := [(17, .int (iO (stand M o))), (15, .int (iN o)), (10, .int 1), (6, .int (iN m)), (3, .long was), (0, .ref (A 4 0))]) rfl ?_
          exact kf Z hg
        by_cases k1 : k = 1
        · refine J_icmp_eq_y C 504 (by rw [k1]; rfl) dL_would_472 rfl ?_
          exact kj Z2 g2
        · obtain ⟨P3, hv3, -, h3, hU3⟩ := g2.2.minute hB (m := k - 1) (by omega) (by omega)
          rw [g2.1] at hU3
          have hb3 := h3.2.1.2.2.2.1.2.2.2.1
          obtain ⟨vn, Z3, vv, v8, v0, vs, -⟩ := hU3
          have hc3 : miI M (k - 1) 18 2 = M 18 2 := miI_c hI (k - 1)
          have hs3 : stand (miI M (k - 1)) o = none := (opt_ways _).resolve_right (fun z => hmin (k - 1) (by omega) (by obtain ⟨t, z⟩ := z; show stand (miI M (k - 1)) o ≠ none; rw [z]; exact fun y => by cases y))
          refine J_icmp_eq_n C 504 (iN_ne' (b := 1) k1 (by omega) (by decide)) dL_would_472 rfl ?_
          refine J_aload_n C 6 dL_would_475 rfl ?_
          refine J_iload C 0 dL_would_476 rfl ?_
          refine J_iconst C (v := 1) dL_would_478 rfl ?_
          refine J_isub C dL_would_479 ?_
          refine J_eqi (b := (iN (k - 1))) (iN_1 k0) ?_
          refine x_minute C Yc (Nat.le_of_ble_eq_true rfl) (Nat.le_of_ble_eq_true rfl) [] (w := (iN (miI M (k - 1) 1 1 - M 1 1))) hv3 dL_would_480 (Nat.le_of_ble_eq_true rfl) (Nat.le_of_ble_eq_true rfl) ?_
          refine J_if_lt_n C 508 (iN_neg (by omega)) dL_would_483 rfl ?_
          refine J_aload_n C 6 dL_would_486 rfl ?_
          refine J_iload C 2 dL_would_487 rfl ?_
          refine J_bipush C (v := 6) dL_would_489 rfl ?_
          refine x_office C Yc (Nat.le_of_ble_eq_true rfl) (Nat.le_of_ble_eq_true rfl) [] (w := (-2)) ((h3.off6 (by omega) (by omega)).trans (by rw [hs3]; rfl)) dL_would_491 (Nat.le_of_ble_eq_true rfl) (Nat.le_of_ble_eq_true rfl) ?_
          refine J_if_ge_y C 508 (by decide) dL_would_494 rfl ?_
          refine J_aload_n C 6 dL_would_497 rfl ?_
          refine x_undo C Yc (Nat.le_of_ble_eq_true rfl) (Nat.le_of_ble_eq_true rfl) [] (w := (iN vn)) vv dL_would_498 (Nat.le_of_ble_eq_true rfl) (Nat.le_of_ble_eq_true rfl) ?_
          refine J_if_lt_n C 508 (iN_neg (by omega)) dL_would_501 rfl ?_
          exact kj Z3 ⟨v0, vs⟩
      · refine J_icmp_gt_y C 514 (iN_ylt' (a := 100) (by omega) (by omega)) dL_would_434 rfl ?_
        exact kel (Or.inr ⟨fun z => absurd ((iN_0 (by omega)).mp z) (by omega), (opt_ways _).resolve_right (fun ⟨t, e⟩ => hmin 0 k0 (hnz t e))⟩)
theorem wo_5 (C : Cx l K Γ RL cL_would 27 (some .boolean) 8) (Yc : Cy Γ 2 12) (h : GD B M S P) (hB : B ≤ 9000)  (kf : ∀ Z r , GD B M S Z → FR (DO M) 500 r → J l K Γ Q 2 12 ([] ++ ro_W K A Z) 679 27 [(20, .int r), (17, .int (iO (stand M o))), (15, .int (iN o)), (10, .int 1), (6, .int (iN m)), (3, .long was), (0, .ref (A 4 0))] []) : J l K Γ Q 2 12 ([] ++ ro_W K A P) 549 27 [(17, .int (iO (stand M o))), (15, .int (iN o)), (10, .int 1), (6, .int (iN m)), (3, .long was), (0, .ref (A 4 0))] [] := by
  have hS := h.2
  have hI := hS.2.1
  have c10 := hI.1.c10
  have c2 := hI.1.c2
  have t3 := hI.2.1.1
  have hz := h.1
  obtain ⟨hFR, hsc1⟩ := hS.doneIn (by omega)
  have h1 := h.sc hsc1
  generalize hv : p_X9_doneIn P = pr at hFR hsc1 h1
  obtain ⟨r, P1⟩ := pr
  have hFR : FR (DO M) 500 r := hFR
  have hsc1 : SC P P1 := hsc1
  have h1 : GD B M S P1 := h1
  have s7 := nsum_le (f := M 7) (a := 6) (M 18 2) (fun i hi => hI.1.w6 hi)
  refine J_aload_n C 5 dL_would_549 rfl ?_
  refine x_doneIn C Yc (Nat.le_of_ble_eq_true rfl) (Nat.le_of_ble_eq_true rfl) [] (w := r) hv dL_would_550 (Nat.le_of_ble_eq_true rfl) (Nat.le_of_ble_eq_true rfl) ?_
  refine J_istore C (lv' := [(20, .int r), (17, .int (iO (stand M o))), (15, .int (iN o)), (10, .int 1), (6, .int (iN m)), (3, .long was), (0, .ref (A 4 0))]) dL_would_553 (by decide) rfl ?_
  refine J_iload C 0 dL_would_555 rfl ?_
  have kel : (r = 0 ∧ nsum (M 7) (M 18 2) = 0) ∨ (¬ r = 0 ∧ nsum (M 7) (M 18 2) ≠ 0) → J l K Γ Q 2 12 ([] ++ ro_W K A P1) 640 27 [(20, .int r), (17, .int (iO (stand M o))), (15, .int (iN o)), (10, .int 1), (6, .int (iN m)), (3, .long was), (0, .ref (A 4 0))] [] := by
    intro hz0
    refine J_iload C 3 dL_would_640 rfl ?_
    refine J_if_eq_n C 676 (by decide) dL_would_642 rfl ?_
    refine J_iload C 0 dL_would_645 rfl ?_
    rcases hz0 with ⟨e0, e1⟩ | ⟨e0, e1⟩
    · refine J_if_ne_y C 654 e0 dL_would_647 rfl ?_
      refine J_iconst C (v := 1) dL_would_650 rfl ?_
      refine J_goto C 655 dL_would_651 rfl ?_
      refine J_aload_n C 6 dL_would_655 rfl ?_
      refine J_bipush C (v := 8) dL_would_656 rfl ?_
      refine x_value C Yc (Nat.le_of_ble_eq_true rfl) (Nat.le_of_ble_eq_true rfl) [] (w := 0) (h1.2.val8.trans (by rw [e1]; rfl)) dL_would_658 (Nat.le_of_ble_eq_true rfl) (Nat.le_of_ble_eq_true rfl) ?_
      refine J_if_ne_y C 668 rfl dL_would_661 rfl ?_
      refine J_iconst C (v := 1) dL_would_664 rfl ?_
      refine J_goto C 669 dL_would_665 rfl ?_
      refine J_icmp_ne_y C 676 rfl dL_would_669 rfl ?_
      refine J_iconst C (v := 1) dL_would_672 rfl ?_
      refine J_goto C 677 dL_would_673 rfl ?_
      refine J_istore C (lv' := [(10, .int 1), (20, .int r), (17, .int (iO (stand M o))), (15, .int (iN o)), (6, .int (iN m)), (3, .long was), (0, .ref (A 4 0))]) dL_would_677 (by decide) rfl ?_
      refine J_sub [1, 2, 3, 0, 4, 5, 6] (lv' := [(20, .int r), (17, .int (iO (stand M o))), (15, .int (iN o)), (10, .int 1), (6, .int (iN m)), (3, .long was), (0, .ref (A 4 0))]) rfl ?_
      exact kf P1 r h1 hFR
    · refine J_if_ne_n C 654 e0 dL_would_647 rfl ?_
      refine J_iconst C (v := 0) dL_would_654 rfl ?_
      refine J_aload_n C 6 dL_would_655 rfl ?_
      refine J_bipush C (v := 8) dL_would_656 rfl ?_
      refine x_value C Yc (Nat.le_of_ble_eq_true rfl) (Nat.le_of_ble_eq_true rfl) [] (w := (iN (nsum (M 7) (M 18 2)))) h1.2.val8 dL_would_658 (Nat.le_of_ble_eq_true rfl) (Nat.le_of_ble_eq_true rfl) ?_
      refine J_if_ne_n C 668 (fun z => e1 ((iN_0 (by omega)).mp z)) dL_would_661 rfl ?_
      refine J_iconst C (v := 0) dL_would_668 rfl ?_
      refine J_icmp_ne_y C 676 rfl dL_would_669 rfl ?_
      refine J_iconst C (v := 1) dL_would_672 rfl ?_
      refine J_goto C 677 dL_would_673 rfl ?_
      refine J_istore C (lv' := [(10, .int 1), (20, .int r), (17, .int (iO (stand M o))), (15, .int (iN o)), (6, .int (iN m)), (3, .long was), (0, .ref (A 4 0))]) dL_would_677 (by decide) rfl ?_
      refine J_sub [1, 2, 3, 0, 4, 5, 6] (lv' := [(20, .int r), (17, .int (iO (stand M o))), (15, .int (iN o)), (10, .int 1), (6, .int (iN m)), (3, .long was), (0, .ref (A 4 0))]) rfl ?_
      exact kf P1 r h1 hFR
  rcases id hFR with ⟨er, hno⟩ | ⟨k, hk, er, hyes, hmin⟩
  · refine J_if_le_n C 640 (by rw [er]; decide) dL_would_557 rfl ?_
    exact kel (Or.inr ⟨by rw [er]; decide, hno 0 (by omega)⟩)
  · rcases Nat.eq_zero_or_pos k with k0 | k0
    · subst k0
      refine J_if_le_n C 640 (by rw [er]; decide) dL_would_557 rfl ?_
      exact kel (Or.inl ⟨er, hyes⟩)
    · subst er
      refine J_if_le_y C 640 ((iN_pos (by omega)).mpr k0) dL_would_557 rfl ?_
      refine J_iload C 0 dL_would_560 rfl ?_
      refine J_bipush C (v := 100) dL_would_562 rfl ?_
      by_cases k100 : k ≤ 100
      · obtain ⟨P2, hv2, -, h2, hU2⟩ := h1.2.minute hB k0 k100
        rw [h1.1] at hU2
        have hb2 := h2.2.1.2.2.2.1.2.2.2.1
        obtain ⟨un, Z2, uv, u8, u0, us, -⟩ := hU2
        have g2 : GD B M S Z2 := ⟨u0, us⟩
        have hy2 : nsum (miI M k 7) (miI M k 18 2) = 0 := hyes
        refine J_icmp_gt_n C 640 (iN_nlt' (a := 100) k100 (by decide)) dL_would_564 rfl ?_
        refine J_iload C 3 dL_would_567 rfl ?_
        refine J_if_eq_n C 634 (by decide) dL_would_569 rfl ?_
        refine J_aload_n C 6 dL_would_572 rfl ?_
        refine J_iload C 0 dL_would_573 rfl ?_
        refine x_minute C Yc (Nat.le_of_ble_eq_true rfl) (Nat.le_of_ble_eq_true rfl) [] (w := (iN (miI M k 1 1 - M 1 1))) hv2 dL_would_575 (Nat.le_of_ble_eq_true rfl) (Nat.le_of_ble_eq_true rfl) ?_
        refine J_if_lt_n C 634 (iN_neg (by omega)) dL_would_578 rfl ?_
        refine J_aload_n C 6 dL_would_581 rfl ?_
        refine J_bipush C (v := 8) dL_would_582 rfl ?_
        refine x_value C Yc (Nat.le_of_ble_eq_true rfl) (Nat.le_of_ble_eq_true rfl) [] (w := 0) (h2.val8.trans (by rw [hy2]; rfl)) dL_would_584 (Nat.le_of_ble_eq_true rfl) (Nat.le_of_ble_eq_true rfl) ?_
        refine J_if_ne_y C 634 rfl dL_would_587 rfl ?_
        refine J_aload_n C 6 dL_would_590 rfl ?_
        refine x_undo C Yc (Nat.le_of_ble_eq_true rfl) (Nat.le_of_ble_eq_true rfl) [] (w := (iN un)) uv dL_would_591 (Nat.le_of_ble_eq_true rfl) (Nat.le_of_ble_eq_true rfl) ?_
        refine J_if_lt_n C 634 (iN_neg (by omega)) dL_would_594 rfl ?_
        refine J_iload C 0 dL_would_597 rfl ?_
        refine J_iconst C (v := 1) dL_would_599 rfl ?_
        have kj : ∀ Z, GD B M S Z → J l K Γ Q 2 12 ([] ++ ro_W K A Z) 630 27 [(20, .int (iN k)), (17, .int (iO (stand M o))), (15, .int (iN o)), (10, .int 1), (6, .int (iN m)), (3, .long was), (0, .ref (A 4 0))] [] := by
          intro Z hg
          refine J_iconst C (v := 1) dL_would_630 rfl ?_
          refine J_goto C 635 dL_would_631 rfl ?_
          refine J_istore C (lv' := [(10, .int 1), (20, .int (iN k)), (17, .int (iO (stand M o))), (15, .int (iN o)), (6, .int (iN m)), (3, .long was), (0, .ref (A 4 0))]) dL_would_635 (by decide) rfl ?_
          refine J_goto C 679 dL_would_637 rfl ?_
          refine J_sub [1, 2, 3, 0, 4, 5, 6] (lv' := [(20, .int (iN k)), (17, .int (iO (stand M o))), (15, .int (iN o)), (10, .int 1), (6, .int (iN m)), (3, .long was), (0, .ref (A 4 0))]) rfl ?_
          exact kf Z (iN k) hg hFR
        by_cases k1 : k = 1
        · refine J_icmp_eq_y C 630 (by rw [k1]; rfl) dL_would_600 rfl ?_
          exact kj Z2 g2
        · obtain ⟨P3, hv3, -, h3, hU3⟩ := g2.2.minute hB (m := k - 1) (by omega) (by omega)
          rw [g2.1] at hU3
          have hb3 := h3.2.1.2.2.2.1.2.2.2.1
          obtain ⟨vn, Z3, vv, v8, v0, vs, -⟩ := hU3
          have hs3 : nsum (miI M (k - 1) 7) (miI M (k - 1) 18 2) ≠ 0 := hmin (k - 1) (by omega)
          have hs7 := nsum_le (f := miI M (k - 1) 7) (a := 6) (miI M (k - 1) 18 2) (fun i hi => h3.2.1.1.w6 hi)
          have hs10 := h3.2.1.1.c10
          refine J_icmp_eq_n C 630 (iN_ne' (b := 1) k1 (by omega) (by decide)) dL_would_600 rfl ?_
          refine J_aload_n C 6 dL_would_603 rfl ?_
          refine J_iload C 0 dL_would_604 rfl ?_
          refine J_iconst C (v := 1) dL_would_606 rfl ?_
          refine J_isub C dL_would_607 ?_
          refine J_eqi (b := (iN (k - 1))) (iN_1 k0) ?_
          refine x_minute C Yc (Nat.le_of_ble_eq_true rfl) (Nat.le_of_ble_eq_true rfl) [] (w := (iN (miI M (k - 1) 1 1 - M 1 1))) hv3 dL_would_608 (Nat.le_of_ble_eq_true rfl) (Nat.le_of_ble_eq_true rfl) ?_
          refine J_if_lt_n C 634 (iN_neg (by omega)) dL_would_611 rfl ?_
          refine J_aload_n C 6 dL_would_614 rfl ?_
          refine J_bipush C (v := 8) dL_would_615 rfl ?_
          refine x_value C Yc (Nat.le_of_ble_eq_true rfl) (Nat.le_of_ble_eq_true rfl) [] (w := (iN (nsum (miI M (k - 1) 7) (miI M (k - 1) 18 2)))) h3.val8 dL_would_617 (Nat.le_of_ble_eq_true rfl) (Nat.le_of_ble_eq_true rfl) ?_
          refine J_if_le_y C 634 ((iN_pos (by omega)).mpr (by omega)) dL_would_620 rfl ?_
          refine J_aload_n C 6 dL_would_623 rfl ?_
          refine x_undo C Yc (Nat.le_of_ble_eq_true rfl) (Nat.le_of_ble_eq_true rfl) [] (w := (iN vn)) vv dL_would_624 (Nat.le_of_ble_eq_true rfl) (Nat.le_of_ble_eq_true rfl) ?_
          refine J_if_lt_n C 634 (iN_neg (by omega)) dL_would_627 rfl ?_
          exact kj Z3 ⟨v0, vs⟩
      · refine J_icmp_gt_y C 640 (iN_ylt' (a := 100) (by omega) (by omega)) dL_would_564 rfl ?_
        exact kel (Or.inr ⟨fun z => absurd ((iN_0 (by omega)).mp z) (by omega), hmin 0 k0⟩)
theorem wo_6 {r : Int32} (C : Cx l K Γ RL cL_would 27 (some .boolean) 8) (Yc : Cy Γ 2 12) (h : GD B M S P) (hB : B ≤ 9000) (hFR : FR (DO M) 500 r) (kf : ∀ Z, GD B M S Z → J l K Γ Q 2 12 ([] ++ ro_W K A Z) 835 27 [(17, .int (iO (stand M o))), (15, .int (iN o)), (10, .int 1), (6, .int (iN m)), (3, .long was), (0, .ref (A 4 0))] []) : J l K Γ Q 2 12 ([] ++ ro_W K A P) 679 27 [(20, .int r), (17, .int (iO (stand M o))), (15, .int (iN o)), (10, .int 1), (6, .int (iN m)), (3, .long was), (0, .ref (A 4 0))] [] := by
  have hS := h.2
  have hI := hS.2.1
  have c10 := hI.1.c10
  have c2 := hI.1.c2
  have t3 := hI.2.1.1
  have hz := h.1
  obtain ⟨hq, hsc1⟩ := hS.leastQuota (by omega)
  have h1 := h.sc hsc1
  generalize hv : p_X9_leastQuota P = pr at hq hsc1 h1
  obtain ⟨r2, P1⟩ := pr
  have h1 : GD B M S P1 := h1
  refine J_aload_n C 6 dL_would_679 rfl ?_
  refine x_leastQuota C Yc (Nat.le_of_ble_eq_true rfl) (Nat.le_of_ble_eq_true rfl) [] (w := r2) hv dL_would_680 (Nat.le_of_ble_eq_true rfl) (Nat.le_of_ble_eq_true rfl) ?_
  refine J_istore C (lv' := [(21, .int r2), (20, .int r), (17, .int (iO (stand M o))), (15, .int (iN o)), (10, .int 1), (6, .int (iN m)), (3, .long was), (0, .ref (A 4 0))]) dL_would_683 (by decide) rfl ?_
  refine J_iload C 4 dL_would_685 rfl ?_
  refine J_if_eq_n C 717 (by decide) dL_would_687 rfl ?_
  refine J_iload C 1 dL_would_690 rfl ?_
  rcases hq with ⟨er2, hno⟩ | ⟨k0, q, hk0, hd0, hmin, hq1, hq60, er2, hQ, hQmin⟩
  · have er2 : r2 = -2 := er2
    have er := hFR.none hno
    subst er
    subst er2
    refine J_if_ge_y C 699 (by decide) dL_would_692 rfl ?_
    refine J_iconst C (v := 1) dL_would_695 rfl ?_
    refine J_goto C 700 dL_would_696 rfl ?_
    refine J_iload C 0 dL_would_700 rfl ?_
    refine J_if_ge_y C 709 (by decide) dL_would_702 rfl ?_
    refine J_iconst C (v := 1) dL_would_705 rfl ?_
    refine J_goto C 710 dL_would_706 rfl ?_
    refine J_icmp_ne_y C 717 rfl dL_would_710 rfl ?_
    refine J_iconst C (v := 1) dL_would_713 rfl ?_
    refine J_goto C 718 dL_would_714 rfl ?_
    refine J_istore C (lv' := [(10, .int 1), (21, .int (-2)), (20, .int (-2)), (17, .int (iO (stand M o))), (15, .int (iN o)), (6, .int (iN m)), (3, .long was), (0, .ref (A 4 0))]) dL_would_718 (by decide) rfl ?_
    refine J_iload C 1 dL_would_720 rfl ?_
    refine J_if_le_n C 835 (by decide) dL_would_722 rfl ?_
    refine J_sub [3, 4, 0, 5, 6, 7] (lv' := [(17, .int (iO (stand M o))), (15, .int (iN o)), (10, .int 1), (6, .int (iN m)), (3, .long was), (0, .ref (A 4 0))]) rfl ?_
    exact kf P1 h1
  · have er2 : r2 = iN q := er2
    have er := hFR.uniq hk0 hd0 hmin
    subst er
    subst er2
    obtain ⟨sv, P2, hv2, h2, hRU⟩ := h1.rule (a := 2) (v := q) ⟨Or.inr (Or.inr ⟨rfl, hq60⟩), hq1⟩
    obtain ⟨i0, hi0, hdi0⟩ := hQ
    obtain ⟨hF3, hsc3⟩ := h2.doneIn (by omega)
    generalize hv3 : p_X9_doneIn P2 = pr3 at hF3 hsc3
    obtain ⟨r3, P3⟩ := pr3
    have hF3 : FR (DO (nP M 0 2 q)) 500 r3 := hF3
    have hsc3 : SC P2 P3 := hsc3
    obtain ⟨j3, hj3, er3, -⟩ := hF3.some (by omega) hdi0
    subst er3
    obtain ⟨hF4, hsc4⟩ := (SC.st h2 hsc3).doneIn (by omega)
    generalize hv4 : p_X9_doneIn P3 = pr4 at hF4 hsc4
    obtain ⟨r4, P4⟩ := pr4
    have hF4 : FR (DO (nP M 0 2 q)) 500 r4 := hF4
    have hsc4 : SC P3 P4 := hsc4
    obtain ⟨j4, hj4, er4, -⟩ := hF4.some (by omega) hdi0
    subst er4
    have hRU4 := hRU.sc (hsc3.tr hsc4)
    refine J_if_ge_n C 699 (iN_neg (by omega)) dL_would_692 rfl ?_
    refine J_iconst C (v := 0) dL_would_699 rfl ?_
    refine J_iload C 0 dL_would_700 rfl ?_
    refine J_if_ge_n C 709 (iN_neg (by omega)) dL_would_702 rfl ?_
    refine J_iconst C (v := 0) dL_would_709 rfl ?_
    refine J_icmp_ne_y C 717 rfl dL_would_710 rfl ?_
    refine J_iconst C (v := 1) dL_would_713 rfl ?_
    refine J_goto C 718 dL_would_714 rfl ?_
    refine J_istore C (lv' := [(10, .int 1), (21, .int (iN q)), (20, .int (iN k0)), (17, .int (iO (stand M o))), (15, .int (iN o)), (6, .int (iN m)), (3, .long was), (0, .ref (A 4 0))]) dL_would_718 (by decide) rfl ?_
    refine J_iload C 1 dL_would_720 rfl ?_
    refine J_if_le_y C 835 ((iN_pos (by omega)).mpr hq1) dL_would_722 rfl ?_
    refine J_aload_n C 7 dL_would_725 rfl ?_
    refine J_iconst C (v := 2) dL_would_726 rfl ?_
    refine J_iload C 1 dL_would_727 rfl ?_
    refine x_rule C Yc (Nat.le_of_ble_eq_true rfl) (Nat.le_of_ble_eq_true rfl) [] (w := sv) hv2 dL_would_729 (Nat.le_of_ble_eq_true rfl) (Nat.le_of_ble_eq_true rfl) ?_
    refine J_istore C (lv' := [(14, .int sv), (10, .int 1), (21, .int (iN q)), (20, .int (iN k0)), (17, .int (iO (stand M o))), (15, .int (iN o)), (6, .int (iN m)), (3, .long was), (0, .ref (A 4 0))]) dL_would_732 (by decide) rfl ?_
    refine J_iload C 1 dL_would_734 rfl ?_
    refine J_if_eq_n C 773 (by decide) dL_would_736 rfl ?_
    refine J_aload_n C 8 dL_would_739 rfl ?_
    refine x_doneIn C Yc (Nat.le_of_ble_eq_true rfl) (Nat.le_of_ble_eq_true rfl) [] (w := (iN j3)) hv3 dL_would_740 (Nat.le_of_ble_eq_true rfl) (Nat.le_of_ble_eq_true rfl) ?_
    refine J_if_lt_n C 773 (iN_neg (by omega)) dL_would_743 rfl ?_
    refine J_aload_n C 8 dL_would_746 rfl ?_
    refine x_doneIn C Yc (Nat.le_of_ble_eq_true rfl) (Nat.le_of_ble_eq_true rfl) [] (w := (iN j4)) hv4 dL_would_747 (Nat.le_of_ble_eq_true rfl) (Nat.le_of_ble_eq_true rfl) ?_
    refine J_iload C 3 dL_would_750 rfl ?_
    refine J_icmp_gt_n C 773 (iN_nlt' (by omega) (by omega)) dL_would_752 rfl ?_
    refine J_iload C 0 dL_would_755 rfl ?_
    refine J_bipush C (v := -2) dL_would_757 rfl ?_
    have k769 : ∀ Z, GD B M S Z → J l K Γ Q 2 12 ([] ++ ro_W K A Z) 769 27 [(14, .int sv), (10, .int 1), (21, .int (iN q)), (20, .int (iN k0)), (17, .int (iO (stand M o))), (15, .int (iN o)), (6, .int (iN m)), (3, .long was), (0, .ref (A 4 0))] [] := by
      intro Z hg
      refine J_iconst C (v := 1) dL_would_769 rfl ?_
      refine J_goto C 774 dL_would_770 rfl ?_
      refine J_istore C (lv' := [(10, .int 1), (14, .int sv), (21, .int (iN q)), (20, .int (iN k0)), (17, .int (iO (stand M o))), (15, .int (iN o)), (6, .int (iN m)), (3, .long was), (0, .ref (A 4 0))]) dL_would_774 (by decide) rfl ?_
      refine J_iload C 2 dL_would_776 rfl ?_
      refine J_iconst C (v := 1) dL_would_778 rfl ?_
      by_cases hq2 : q = 1
      · refine J_icmp_le_n C 835 (by rw [hq2]; decide) dL_would_779 rfl ?_
        refine J_sub [4, 5, 0, 6, 7, 8] (lv' := [(17, .int (iO (stand M o))), (15, .int (iN o)), (10, .int 1), (6, .int (iN m)), (3, .long was), (0, .ref (A 4 0))]) rfl ?_
        exact kf Z hg
      · obtain ⟨sv5, P5, hv5, h5, hRU5⟩ := hg.rule (a := 2) (v := q - 1) ⟨Or.inr (Or.inr ⟨rfl, by omega⟩), by omega⟩
        have hnq := hQmin (q - 1) (by omega) (by omega)
        obtain ⟨hF6, hsc6⟩ := h5.doneIn (by omega)
        generalize hv6 : p_X9_doneIn P5 = pr6 at hF6 hsc6
        obtain ⟨r6, P6⟩ := pr6
        have hF6 : FR (DO (nP M 0 2 (q - 1))) 500 r6 := hF6
        have hsc6 : SC P5 P6 := hsc6
        obtain ⟨hF7, hsc7⟩ := (SC.st h5 hsc6).doneIn (by omega)
        generalize hv7 : p_X9_doneIn P6 = pr7 at hF7 hsc7
        obtain ⟨r7, P7⟩ := pr7
        have hF7 : FR (DO (nP M 0 2 (q - 1))) 500 r7 := hF7
        have hsc7 : SC P6 P7 := hsc7
        have hRU6 := hRU5.sc hsc6
        have hRU7 := hRU6.sc hsc7
        refine J_icmp_le_y C 835 (iN_ylt' (a := 1) (by omega) (by omega)) dL_would_779 rfl ?_
        refine J_aload_n C 8 dL_would_782 rfl ?_
        refine J_iconst C (v := 2) dL_would_783 rfl ?_
        refine J_iload C 2 dL_would_784 rfl ?_
        refine J_iconst C (v := 1) dL_would_786 rfl ?_
        refine J_isub C dL_would_787 ?_
        refine J_eqi (b := (iN (q - 1))) (iN_1 hq1) ?_
        refine x_rule C Yc (Nat.le_of_ble_eq_true rfl) (Nat.le_of_ble_eq_true rfl) [] (w := sv5) hv5 dL_would_788 (Nat.le_of_ble_eq_true rfl) (Nat.le_of_ble_eq_true rfl) ?_
        refine J_istore C (lv' := [(14, .int sv5), (10, .int 1), (21, .int (iN q)), (20, .int (iN k0)), (17, .int (iO (stand M o))), (15, .int (iN o)), (6, .int (iN m)), (3, .long was), (0, .ref (A 4 0))]) dL_would_791 (by decide) rfl ?_
        refine J_iload C 1 dL_would_793 rfl ?_
        refine J_if_eq_n C 832 (by decide) dL_would_795 rfl ?_
        refine J_aload_n C 8 dL_would_798 rfl ?_
        refine x_doneIn C Yc (Nat.le_of_ble_eq_true rfl) (Nat.le_of_ble_eq_true rfl) [] (w := r6) hv6 dL_would_799 (Nat.le_of_ble_eq_true rfl) (Nat.le_of_ble_eq_true rfl) ?_
        have k814 : ∀ Z7, RU B M S sv5 Z7 → J l K Γ Q 2 12 ([] ++ ro_W K A Z7) 814 27 [(14, .int sv5), (10, .int 1), (21, .int (iN q)), (20, .int (iN k0)), (17, .int (iO (stand M o))), (15, .int (iN o)), (6, .int (iN m)), (3, .long was), (0, .ref (A 4 0))] [] := by
          intro Z7 hRUz
          refine J_iload C 0 dL_would_814 rfl ?_
          refine J_bipush C (v := -2) dL_would_816 rfl ?_
          have k828 : ∀ Z, GD B M S Z → J l K Γ Q 2 12 ([] ++ ro_W K A Z) 828 27 [(14, .int sv5), (10, .int 1), (21, .int (iN q)), (20, .int (iN k0)), (17, .int (iO (stand M o))), (15, .int (iN o)), (6, .int (iN m)), (3, .long was), (0, .ref (A 4 0))] [] := by
            intro Z hgz
            refine J_iconst C (v := 1) dL_would_828 rfl ?_
            refine J_goto C 833 dL_would_829 rfl ?_
            refine J_istore C (lv' := [(10, .int 1), (14, .int sv5), (21, .int (iN q)), (20, .int (iN k0)), (17, .int (iO (stand M o))), (15, .int (iN o)), (6, .int (iN m)), (3, .long was), (0, .ref (A 4 0))]) dL_would_833 (by decide) rfl ?_
            refine J_sub [4, 5, 0, 6, 7, 8] (lv' := [(17, .int (iO (stand M o))), (15, .int (iN o)), (10, .int 1), (6, .int (iN m)), (3, .long was), (0, .ref (A 4 0))]) rfl ?_
            exact kf Z hgz
          rcases hRUz with ⟨xe, xg⟩ | ⟨xe, xg⟩
          · refine J_icmp_eq_y C 828 xe dL_would_818 rfl ?_
            exact k828 Z7 xg
          · obtain ⟨xun, Z8, xuv, xu8, xu0, xus, -⟩ := xg
            refine J_icmp_eq_n C 828 xe dL_would_818 rfl ?_
            refine J_aload_n C 8 dL_would_821 rfl ?_
            refine x_undo C Yc (Nat.le_of_ble_eq_true rfl) (Nat.le_of_ble_eq_true rfl) [] (w := (iN xun)) xuv dL_would_822 (Nat.le_of_ble_eq_true rfl) (Nat.le_of_ble_eq_true rfl) ?_
            refine J_if_lt_n C 832 (iN_neg (by omega)) dL_would_825 rfl ?_
            exact k828 Z8 ⟨xu0, xus⟩
        rcases id hF6 with ⟨e6, -⟩ | ⟨k6, hk6, e6, hp6, -⟩
        · refine J_if_lt_y C 814 (by rw [e6]; decide) dL_would_802 rfl ?_
          exact k814 P6 hRU6
        · obtain ⟨k7, hk7, e7, hp7⟩ := hF7.some hk6 hp6
          refine J_if_lt_n C 814 (by rw [e6]; exact iN_neg (by omega)) dL_would_802 rfl ?_
          refine J_aload_n C 8 dL_would_805 rfl ?_
          refine x_doneIn C Yc (Nat.le_of_ble_eq_true rfl) (Nat.le_of_ble_eq_true rfl) [] (w := r7) hv7 dL_would_806 (Nat.le_of_ble_eq_true rfl) (Nat.le_of_ble_eq_true rfl) ?_
          refine J_iload C 3 dL_would_809 rfl ?_
          refine J_icmp_le_y C 832 (by rw [e7]; exact iN_ylt' (Nat.lt_of_not_le fun z => hnq ⟨k7, z, hp7⟩) (by omega)) dL_would_811 rfl ?_
          exact k814 P7 hRU7
    rcases hRU4 with ⟨re, rg⟩ | ⟨re, rg⟩
    · refine J_icmp_eq_y C 769 re dL_would_759 rfl ?_
      exact k769 P4 rg
    · obtain ⟨run, Z5, ruv, ru8, ru0, rus, -⟩ := rg
      refine J_icmp_eq_n C 769 re dL_would_759 rfl ?_
      refine J_aload_n C 8 dL_would_762 rfl ?_
      refine x_undo C Yc (Nat.le_of_ble_eq_true rfl) (Nat.le_of_ble_eq_true rfl) [] (w := (iN run)) ruv dL_would_763 (Nat.le_of_ble_eq_true rfl) (Nat.le_of_ble_eq_true rfl) ?_
      refine J_if_lt_n C 773 (iN_neg (by omega)) dL_would_766 rfl ?_
      exact k769 Z5 ⟨ru0, rus⟩
theorem wo_7l {b : Nat} (C : Cx l K Γ RL cL_would 27 (some .boolean) 8) (Yc : Cy Γ 2 12) (hB : B ≤ 9000) (hb1 : 1 ≤ b) (hb20 : b ≤ 20) (hbest : ∀ i, 1 ≤ i → i ≤ 20 → rdS M (m % 25) i ≤ rdS M (m % 25) b ∧ (i < b → rdS M (m % 25) i < rdS M (m % 25) b)) (kf : ∀ Z, GD B M S Z → J l K Γ Q 2 12 ([] ++ ro_W K A Z) 927 27 [(17, .int (iO (stand M o))), (15, .int (iN o)), (10, .int 1), (3, .long was), (0, .ref (A 4 0))] []) : ∀ d k P, k + 2 * d = 21 → 1 ≤ k → GD B M S P → J l K Γ Q 2 12 ([] ++ ro_W K A P) 865 27 [(25, .int (iN k)), (24, .int (iN (rdS M (m % 25) b))), (23, .int (iN b)), (22, .int (iN (m % 25))), (17, .int (iO (stand M o))), (15, .int (iN o)), (10, .int 1), (3, .long was), (0, .ref (A 4 0))] [] := by
  intro d
  induction d with
  | zero =>
    intro k P e h1 h
    rw [show k = 21 by omega]
    refine J_iload C 0 dL_would_865 rfl ?_
    refine J_bipush C (v := 20) dL_would_867 rfl ?_
    refine J_icmp_gt_y C 927 (by decide) dL_would_869 rfl ?_
    refine J_sub [4, 5, 6, 7, 8] (lv' := [(17, .int (iO (stand M o))), (15, .int (iN o)), (10, .int 1), (3, .long was), (0, .ref (A 4 0))]) rfl ?_
    exact kf P h
  | succ d ih =>
    intro k P e h1 h
    have hI := h.2.2.1
    have hm25 : m % 25 < 25 := Nat.mod_lt _ (by decide)
    have hk := hbest k h1 (by omega)
    obtain ⟨er, hbd⟩ := rdS_eq hI (m := m % 25) (s := k) h1 (by omega)
    obtain ⟨-, hbb⟩ := rdS_eq hI (m := m % 25) (s := b) hb1 hb20
    obtain ⟨P1, hv1, hsc1⟩ := h.2.ifRule (by omega) (a := 0) (v := k) (m := m % 25) (w := 0) ⟨Or.inl ⟨rfl, by omega⟩, h1⟩ (by omega) (by decide)
    rw [er] at hv1
    have g1 := h.sc hsc1
    obtain ⟨P2, hv2, hsc2⟩ := g1.2.ifRule (by omega) (a := 0) (v := k) (m := m % 25) (w := 0) ⟨Or.inl ⟨rfl, by omega⟩, h1⟩ (by omega) (by decide)
    rw [er] at hv2
    have g2 := g1.sc hsc2
    refine J_iload C 0 dL_would_865 rfl ?_
    refine J_bipush C (v := 20) dL_would_867 rfl ?_
    refine J_icmp_gt_n C 927 (iN_nlt' (a := 20) (by omega) (by decide)) dL_would_869 rfl ?_
    refine J_iload C 6 dL_would_872 rfl ?_
    refine J_if_eq_n C 918 (by decide) dL_would_874 rfl ?_
    refine J_aload_n C 8 dL_would_877 rfl ?_
    refine J_iconst C (v := 0) dL_would_878 rfl ?_
    refine J_iload C 0 dL_would_879 rfl ?_
    refine J_iload C 3 dL_would_881 rfl ?_
    refine J_iconst C (v := 0) dL_would_883 rfl ?_
    refine x_ifRule C Yc (Nat.le_of_ble_eq_true rfl) (Nat.le_of_ble_eq_true rfl) [] (w := (iN (rdS M (m % 25) k))) hv1 dL_would_884 (Nat.le_of_ble_eq_true rfl) (Nat.le_of_ble_eq_true rfl) ?_
    refine J_iload C 1 dL_would_887 rfl ?_
    refine J_icmp_gt_n C 918 (iN_nlt' hk.1 (by omega)) dL_would_889 rfl ?_
    refine J_iload C 0 dL_would_892 rfl ?_
    refine J_iload C 2 dL_would_894 rfl ?_
    have k914 : ∀ Z, GD B M S Z → J l K Γ Q 2 12 ([] ++ ro_W K A Z) 914 27 [(25, .int (iN k)), (24, .int (iN (rdS M (m % 25) b))), (23, .int (iN b)), (22, .int (iN (m % 25))), (17, .int (iO (stand M o))), (15, .int (iN o)), (10, .int 1), (3, .long was), (0, .ref (A 4 0))] [] := by
      intro Z hg
      refine J_iconst C (v := 1) dL_would_914 rfl ?_
      refine J_goto C 919 dL_would_915 rfl ?_
      refine J_istore C (lv' := [(10, .int 1), (25, .int (iN k)), (24, .int (iN (rdS M (m % 25) b))), (23, .int (iN b)), (22, .int (iN (m % 25))), (17, .int (iO (stand M o))), (15, .int (iN o)), (3, .long was), (0, .ref (A 4 0))]) dL_would_919 (by decide) rfl ?_
      refine J_iinc C 1 (w := (iN (k + 2))) (lv' := [(25, .int (iN (k + 2))), (10, .int 1), (24, .int (iN (rdS M (m % 25) b))), (23, .int (iN b)), (22, .int (iN (m % 25))), (17, .int (iO (stand M o))), (15, .int (iN o)), (3, .long was), (0, .ref (A 4 0))]) dL_would_921 rfl (iN_add _ _) (by decide) rfl ?_
      refine J_goto C 865 dL_would_924 rfl ?_
      refine J_sub [0, 2, 3, 4, 5, 6, 1, 7, 8] (lv' := [(25, .int (iN (k + 2))), (24, .int (iN (rdS M (m % 25) b))), (23, .int (iN b)), (22, .int (iN (m % 25))), (17, .int (iO (stand M o))), (15, .int (iN o)), (10, .int 1), (3, .long was), (0, .ref (A 4 0))]) rfl ?_
      exact ih (k + 2) Z (by omega) (by omega) hg
    by_cases hkb : k < b
    · refine J_icmp_ge_y C 914 (iN_ylt' hkb (by omega)) dL_would_896 rfl ?_
      refine J_aload_n C 8 dL_would_899 rfl ?_
      refine J_iconst C (v := 0) dL_would_900 rfl ?_
      refine J_iload C 0 dL_would_901 rfl ?_
      refine J_iload C 3 dL_would_903 rfl ?_
      refine J_iconst C (v := 0) dL_would_905 rfl ?_
      refine x_ifRule C Yc (Nat.le_of_ble_eq_true rfl) (Nat.le_of_ble_eq_true rfl) [] (w := (iN (rdS M (m % 25) k))) hv2 dL_would_906 (Nat.le_of_ble_eq_true rfl) (Nat.le_of_ble_eq_true rfl) ?_
      refine J_iload C 1 dL_would_909 rfl ?_
      refine J_icmp_ge_y C 918 (iN_ylt' (hk.2 hkb) (by omega)) dL_would_911 rfl ?_
      exact k914 P2 g2
    · refine J_icmp_ge_n C 914 (iN_nlt' (by omega) (by omega)) dL_would_896 rfl ?_
      exact k914 P1 g1
theorem wo_7 (C : Cx l K Γ RL cL_would 27 (some .boolean) 8) (Yc : Cy Γ 2 12) (h : GD B M S P) (hB : B ≤ 9000) (hm : m ≤ 60) (kf : ∀ Z, GD B M S Z → J l K Γ Q 2 12 ([] ++ ro_W K A Z) 927 27 [(17, .int (iO (stand M o))), (15, .int (iN o)), (10, .int 1), (3, .long was), (0, .ref (A 4 0))] []) : J l K Γ Q 2 12 ([] ++ ro_W K A P) 835 27 [(17, .int (iO (stand M o))), (15, .int (iN o)), (10, .int 1), (6, .int (iN m)), (3, .long was), (0, .ref (A 4 0))] [] := by
  have hS := h.2
  have hI := hS.2.1
  have c10 := hI.1.c10
  have c2 := hI.1.c2
  have t3 := hI.2.1.1
  have hz := h.1
  have hm25 : m % 25 < 25 := Nat.mod_lt _ (by decide)
  obtain ⟨⟨b, hb1, hb20, eb, hbest⟩, hsc1⟩ := hS.bestSpeak (by omega) (m := m % 25) (by omega)
  have h1 := h.sc hsc1
  generalize hv : p_X9_bestSpeak P (iN (m % 25)) = pr at eb hsc1 h1
  obtain ⟨r, P1⟩ := pr
  have eb : r = iN b := eb
  subst eb
  have h1 : GD B M S P1 := h1
  obtain ⟨er, -⟩ := rdS_eq hI (m := m % 25) (s := b) hb1 hb20
  obtain ⟨P2, hv2, hsc2⟩ := h1.2.ifRule (by omega) (a := 0) (v := b) (m := m % 25) (w := 0) ⟨Or.inl ⟨rfl, hb20⟩, hb1⟩ (by omega) (by decide)
  rw [er] at hv2
  have h2 := h1.sc hsc2
  refine J_iload C 3 dL_would_835 rfl ?_
  refine J_bipush C (v := 25) dL_would_837 rfl ?_
  refine J_irem C dL_would_839 (by decide) ?_
  refine J_eqi (b := (iN (m % 25))) (iN_rem (b := 25) (by omega) (by decide)) ?_
  refine J_istore C (lv' := [(22, .int (iN (m % 25))), (17, .int (iO (stand M o))), (15, .int (iN o)), (10, .int 1), (6, .int (iN m)), (3, .long was), (0, .ref (A 4 0))]) dL_would_840 (by decide) rfl ?_
  refine J_aload_n C 6 dL_would_842 rfl ?_
  refine J_iload C 0 dL_would_843 rfl ?_
  refine x_bestSpeak C Yc (Nat.le_of_ble_eq_true rfl) (Nat.le_of_ble_eq_true rfl) [] (w := (iN b)) hv dL_would_845 (Nat.le_of_ble_eq_true rfl) (Nat.le_of_ble_eq_true rfl) ?_
  refine J_istore C (lv' := [(23, .int (iN b)), (22, .int (iN (m % 25))), (17, .int (iO (stand M o))), (15, .int (iN o)), (10, .int 1), (6, .int (iN m)), (3, .long was), (0, .ref (A 4 0))]) dL_would_848 (by decide) rfl ?_
  refine J_aload_n C 7 dL_would_850 rfl ?_
  refine J_iconst C (v := 0) dL_would_851 rfl ?_
  refine J_iload C 0 dL_would_852 rfl ?_
  refine J_iload C 1 dL_would_854 rfl ?_
  refine J_iconst C (v := 0) dL_would_856 rfl ?_
  refine x_ifRule C Yc (Nat.le_of_ble_eq_true rfl) (Nat.le_of_ble_eq_true rfl) [] (w := (iN (rdS M (m % 25) b))) hv2 dL_would_857 (Nat.le_of_ble_eq_true rfl) (Nat.le_of_ble_eq_true rfl) ?_
  refine J_istore C (lv' := [(24, .int (iN (rdS M (m % 25) b))), (23, .int (iN b)), (22, .int (iN (m % 25))), (17, .int (iO (stand M o))), (15, .int (iN o)), (10, .int 1), (6, .int (iN m)), (3, .long was), (0, .ref (A 4 0))]) dL_would_860 (by decide) rfl ?_
  refine J_iconst C (v := 1) dL_would_862 rfl ?_
  refine J_istore C (lv' := [(25, .int 1), (24, .int (iN (rdS M (m % 25) b))), (23, .int (iN b)), (22, .int (iN (m % 25))), (17, .int (iO (stand M o))), (15, .int (iN o)), (10, .int 1), (6, .int (iN m)), (3, .long was), (0, .ref (A 4 0))]) dL_would_863 (by decide) rfl ?_
  refine J_sub [0, 1, 2, 3, 4, 5, 6, 8, 9] (lv' := [(25, .int 1), (24, .int (iN (rdS M (m % 25) b))), (23, .int (iN b)), (22, .int (iN (m % 25))), (17, .int (iO (stand M o))), (15, .int (iN o)), (10, .int 1), (3, .long was), (0, .ref (A 4 0))]) rfl ?_
  exact wo_7l C Yc hB hb1 hb20 hbest kf 10 1 P2 (by decide) (by decide) h2
theorem wo_8 (C : Cx l K Γ RL cL_would 27 (some .boolean) 8) (Yc : Cy Γ 2 12) (h : GD B M S P) (hB : B ≤ 9000) (ho : o < M 18 2) (kf : ∀ Z, GD B M S Z → J l K Γ Q 2 12 ([] ++ ro_W K A Z) 1080 27 [(10, .int 1), (3, .long was), (0, .ref (A 4 0))] []) : J l K Γ Q 2 12 ([] ++ ro_W K A P) 927 27 [(17, .int (iO (stand M o))), (15, .int (iN o)), (10, .int 1), (3, .long was), (0, .ref (A 4 0))] [] := by
  have hS := h.2
  have hI := hS.2.1
  have c10 := hI.1.c10
  have c2 := hI.1.c2
  have t3 := hI.2.1.1
  have hz := h.1
  have hop := hI.1.op ho
  have hI5 := hI.2.2.2.1.2.2.2.2.1
  have h184 := hI.2.1.2.1
  refine J_aload_n C 4 dL_would_927 rfl ?_
  refine J_iload C 1 dL_would_928 rfl ?_
  refine J_iconst C (v := 2) dL_would_930 rfl ?_
  refine x_office C Yc (Nat.le_of_ble_eq_true rfl) (Nat.le_of_ble_eq_true rfl) [] (w := (iN (M 4 o))) (hS.off2 ho) dL_would_931 (Nat.le_of_ble_eq_true rfl) (Nat.le_of_ble_eq_true rfl) ?_
  refine J_iconst C (v := 1) dL_would_934 rfl ?_
  have kno : (M 4 o ≠ 1 ∧ p_X9_stray P (iN o) = (-4, P)) ∨ (M 4 o = 1 ∧ p_X9_stray P (iN o) = (-3, P)) → J l K Γ Q 2 12 ([] ++ ro_W K A P) 1042 27 [(17, .int (iO (stand M o))), (15, .int (iN o)), (10, .int 1), (3, .long was), (0, .ref (A 4 0))] [] := by
    rintro (⟨e4, hv⟩ | ⟨e4, hv⟩)
    · refine J_iload C 2 dL_would_1042 rfl ?_
      refine J_if_eq_n C 1077 (by decide) dL_would_1044 rfl ?_
      refine J_aload_n C 4 dL_would_1047 rfl ?_
      refine J_iload C 1 dL_would_1048 rfl ?_
      refine x_stray C Yc (Nat.le_of_ble_eq_true rfl) (Nat.le_of_ble_eq_true rfl) [] (w := (-4)) hv dL_would_1050 (Nat.le_of_ble_eq_true rfl) (Nat.le_of_ble_eq_true rfl) ?_
      refine J_aload_n C 4 dL_would_1053 rfl ?_
      refine J_iload C 1 dL_would_1054 rfl ?_
      refine J_iconst C (v := 2) dL_would_1056 rfl ?_
      refine x_office C Yc (Nat.le_of_ble_eq_true rfl) (Nat.le_of_ble_eq_true rfl) [] (w := (iN (M 4 o))) (hS.off2 ho) dL_would_1057 (Nat.le_of_ble_eq_true rfl) (Nat.le_of_ble_eq_true rfl) ?_
      refine J_if_ne_y C 1068 ((iN_0 (by omega)).mpr (by omega)) dL_would_1060 rfl ?_
      refine J_bipush C (v := -4) dL_would_1063 rfl ?_
      refine J_goto C 1070 dL_would_1065 rfl ?_
      refine J_icmp_ne_y C 1077 rfl dL_would_1070 rfl ?_
      refine J_iconst C (v := 1) dL_would_1073 rfl ?_
      refine J_goto C 1078 dL_would_1074 rfl ?_
      refine J_istore C (lv' := [(10, .int 1), (17, .int (iO (stand M o))), (15, .int (iN o)), (3, .long was), (0, .ref (A 4 0))]) dL_would_1078 (by decide) rfl ?_
      refine J_sub [0, 3, 4] (lv' := [(10, .int 1), (3, .long was), (0, .ref (A 4 0))]) rfl ?_
      exact kf P h
    · refine J_iload C 2 dL_would_1042 rfl ?_
      refine J_if_eq_n C 1077 (by decide) dL_would_1044 rfl ?_
      refine J_aload_n C 4 dL_would_1047 rfl ?_
      refine J_iload C 1 dL_would_1048 rfl ?_
      refine x_stray C Yc (Nat.le_of_ble_eq_true rfl) (Nat.le_of_ble_eq_true rfl) [] (w := (-3)) hv dL_would_1050 (Nat.le_of_ble_eq_true rfl) (Nat.le_of_ble_eq_true rfl) ?_
      refine J_aload_n C 4 dL_would_1053 rfl ?_
      refine J_iload C 1 dL_would_1054 rfl ?_
      refine J_iconst C (v := 2) dL_would_1056 rfl ?_
      refine x_office C Yc (Nat.le_of_ble_eq_true rfl) (Nat.le_of_ble_eq_true rfl) [] (w := (iN (M 4 o))) (hS.off2 ho) dL_would_1057 (Nat.le_of_ble_eq_true rfl) (Nat.le_of_ble_eq_true rfl) ?_
      refine J_if_ne_n C 1068 (by rw [e4]; decide) dL_would_1060 rfl ?_
      refine J_bipush C (v := -3) dL_would_1068 rfl ?_
      refine J_icmp_ne_y C 1077 rfl dL_would_1070 rfl ?_
      refine J_iconst C (v := 1) dL_would_1073 rfl ?_
      refine J_goto C 1078 dL_would_1074 rfl ?_
      refine J_istore C (lv' := [(10, .int 1), (17, .int (iO (stand M o))), (15, .int (iN o)), (3, .long was), (0, .ref (A 4 0))]) dL_would_1078 (by decide) rfl ?_
      refine J_sub [0, 3, 4] (lv' := [(10, .int 1), (3, .long was), (0, .ref (A 4 0))]) rfl ?_
      exact kf P h
  rcases hS.stray (by omega) ho with ⟨e4, hv⟩ | ⟨e4, e3, hv⟩ | ⟨e4, e3, P2, hv, h2, hU⟩
  · refine J_icmp_ne_n C 1042 (iN_ne' (b := 1) e4 (by omega) (by decide)) dL_would_935 rfl ?_
    exact kno (Or.inl ⟨e4, hv⟩)
  · refine J_icmp_ne_y C 1042 (by rw [e4]; rfl) dL_would_935 rfl ?_
    refine J_aload_n C 4 dL_would_938 rfl ?_
    refine J_bipush C (v := 6) dL_would_939 rfl ?_
    refine x_value C Yc (Nat.le_of_ble_eq_true rfl) (Nat.le_of_ble_eq_true rfl) [] (w := (iN (M 18 3))) hS.val6 dL_would_941 (Nat.le_of_ble_eq_true rfl) (Nat.le_of_ble_eq_true rfl) ?_
    refine J_iconst C (v := 3) dL_would_944 rfl ?_
    refine J_icmp_ge_n C 1042 (iN_nlt' (b := 3) (by omega) (by omega)) dL_would_945 rfl ?_
    exact kno (Or.inr ⟨e4, hv⟩)
  · rw [hz] at hU
    obtain ⟨s1, s2, s3, s4, s5⟩ := sx_facts (o := o) e3
    have ec2 : o < sxN M o 18 2 := by
      have e18 : sxN M o 18 2 = M 18 2 := by
        unfold sxN
        cases stand M o with
        | none => exact adN_18 2
        | some t => exact (drN_o (by omega) t).trans ((nP_r (by decide) 2).trans (adN_18 2))
      rw [e18]
      exact ho
    obtain ⟨t2, hs2⟩ := (opt_ways (stand (sxN M o) o)).resolve_left s1
    have ht2 := (stN_some _ hs2).1
    obtain ⟨un, Z, uv, u8, u0, us, -⟩ := hU
    refine J_icmp_ne_y C 1042 (by rw [e4]; rfl) dL_would_935 rfl ?_
    refine J_aload_n C 4 dL_would_938 rfl ?_
    refine J_bipush C (v := 6) dL_would_939 rfl ?_
    refine x_value C Yc (Nat.le_of_ble_eq_true rfl) (Nat.le_of_ble_eq_true rfl) [] (w := (iN (M 18 3))) hS.val6 dL_would_941 (Nat.le_of_ble_eq_true rfl) (Nat.le_of_ble_eq_true rfl) ?_
    refine J_iconst C (v := 3) dL_would_944 rfl ?_
    refine J_icmp_ge_y C 1042 (iN_ylt' (b := 3) e3 (by decide)) dL_would_945 rfl ?_
    refine J_aload_n C 4 dL_would_948 rfl ?_
    refine J_bipush C (v := 15) dL_would_949 rfl ?_
    refine x_value C Yc (Nat.le_of_ble_eq_true rfl) (Nat.le_of_ble_eq_true rfl) [] (w := (iN (M 1 5))) hS.val15 dL_would_951 (Nat.le_of_ble_eq_true rfl) (Nat.le_of_ble_eq_true rfl) ?_
    refine J_istore C (lv' := [(25, .int (iN (M 1 5))), (17, .int (iO (stand M o))), (15, .int (iN o)), (10, .int 1), (3, .long was), (0, .ref (A 4 0))]) dL_would_954 (by decide) rfl ?_
    refine J_aload_n C 5 dL_would_956 rfl ?_
    refine J_iload C 2 dL_would_957 rfl ?_
    refine x_stray C Yc (Nat.le_of_ble_eq_true rfl) (Nat.le_of_ble_eq_true rfl) [] (w := (iN (M 18 4 + 1))) hv dL_would_959 (Nat.le_of_ble_eq_true rfl) (Nat.le_of_ble_eq_true rfl) ?_
    refine J_istore C (lv' := [(26, .int (iN (M 18 4 + 1))), (25, .int (iN (M 1 5))), (17, .int (iO (stand M o))), (15, .int (iN o)), (10, .int 1), (3, .long was), (0, .ref (A 4 0))]) dL_would_962 (by decide) rfl ?_
    refine J_iload C 4 dL_would_964 rfl ?_
    refine J_if_eq_n C 1036 (by decide) dL_would_966 rfl ?_
    refine J_iload C 0 dL_would_969 rfl ?_
    refine J_if_le_y C 1036 ((iN_pos (by omega)).mpr (by omega)) dL_would_971 rfl ?_
    refine J_aload_n C 6 dL_would_974 rfl ?_
    refine J_iload C 3 dL_would_975 rfl ?_
    refine J_bipush C (v := 6) dL_would_977 rfl ?_
    refine x_office C Yc (Nat.le_of_ble_eq_true rfl) (Nat.le_of_ble_eq_true rfl) [] (w := (iN t2)) ((h2.off6 (by omega) ec2).trans (by rw [hs2]; rfl)) dL_would_979 (Nat.le_of_ble_eq_true rfl) (Nat.le_of_ble_eq_true rfl) ?_
    refine J_if_lt_n C 1036 (iN_neg (by omega)) dL_would_982 rfl ?_
    refine J_aload_n C 6 dL_would_985 rfl ?_
    refine J_aload_n C 6 dL_would_986 rfl ?_
    refine J_bipush C (v := 6) dL_would_987 rfl ?_
    refine x_value C Yc (Nat.le_of_ble_eq_true rfl) (Nat.le_of_ble_eq_true rfl) [] (w := (iN (sxN M o 18 3))) h2.val6 dL_would_989 (Nat.le_of_ble_eq_true rfl) (Nat.le_of_ble_eq_true rfl) ?_
    refine J_iconst C (v := 1) dL_would_992 rfl ?_
    refine J_isub C dL_would_993 ?_
    refine J_eqi (b := (iN (sxN M o 18 3 - 1))) (iN_1 s2) ?_
    refine J_iconst C (v := 0) dL_would_994 rfl ?_
    refine x_token C Yc (Nat.le_of_ble_eq_true rfl) (Nat.le_of_ble_eq_true rfl) [] (w := (iN (M 18 4 + 1))) ((h2.tok0 (by omega)).trans (by rw [s4])) dL_would_995 (Nat.le_of_ble_eq_true rfl) (Nat.le_of_ble_eq_true rfl) ?_
    refine J_iload C 0 dL_would_998 rfl ?_
    refine J_icmp_ne_y C 1036 rfl dL_would_1000 rfl ?_
    refine J_aload_n C 6 dL_would_1003 rfl ?_
    refine J_bipush C (v := 15) dL_would_1004 rfl ?_
    refine x_value C Yc (Nat.le_of_ble_eq_true rfl) (Nat.le_of_ble_eq_true rfl) [] (w := (iN (M 1 5 + lsN M o))) (h2.val15.trans (by rw [s5])) dL_would_1006 (Nat.le_of_ble_eq_true rfl) (Nat.le_of_ble_eq_true rfl) ?_
    refine J_iload C 1 dL_would_1009 rfl ?_
    refine J_iload C 2 dL_would_1011 rfl ?_
    have k1021 : J l K Γ Q 2 12 ([] ++ ro_W K A P2) 1021 27 [(26, .int (iN (M 18 4 + 1))), (25, .int (iN (M 1 5))), (17, .int (iO (stand M o))), (15, .int (iN o)), (10, .int 1), (3, .long was), (0, .ref (A 4 0))] [.int (iN (lsN M o)), .int (iN (M 1 5)), .int (iN (M 1 5 + lsN M o))] := by
      refine J_iadd C dL_would_1021 ?_
      refine J_eqi (b := (iN (M 1 5 + lsN M o))) (iN_add _ _) ?_
      refine J_icmp_ne_y C 1036 rfl dL_would_1022 rfl ?_
      refine J_aload_n C 6 dL_would_1025 rfl ?_
      refine x_undo C Yc (Nat.le_of_ble_eq_true rfl) (Nat.le_of_ble_eq_true rfl) [] (w := (iN un)) uv dL_would_1026 (Nat.le_of_ble_eq_true rfl) (Nat.le_of_ble_eq_true rfl) ?_
      refine J_if_lt_n C 1036 (iN_neg (by omega)) dL_would_1029 rfl ?_
      refine J_iconst C (v := 1) dL_would_1032 rfl ?_
      refine J_goto C 1037 dL_would_1033 rfl ?_
      refine J_istore C (lv' := [(10, .int 1), (26, .int (iN (M 18 4 + 1))), (25, .int (iN (M 1 5))), (17, .int (iO (stand M o))), (15, .int (iN o)), (3, .long was), (0, .ref (A 4 0))]) dL_would_1037 (by decide) rfl ?_
      refine J_goto C 1080 dL_would_1039 rfl ?_
      refine J_sub [0, 5, 6] (lv' := [(10, .int 1), (3, .long was), (0, .ref (A 4 0))]) rfl ?_
      exact kf Z ⟨u0, us⟩
    rcases opt_ways (stand M o) with hs | ⟨t, hs⟩
    · refine J_if_lt_y C 1020 (by rw [hs]; decide) dL_would_1013 rfl ?_
      refine J_iconst C (v := 0) dL_would_1020 rfl ?_
      exact J_eqi (by rw [lsN_none hs]; rfl) k1021
    · have hst := (stN_some _ hs).1
      refine J_if_lt_n C 1020 (by rw [hs]; exact iN_neg (by omega)) dL_would_1013 rfl ?_
      refine J_iconst C (v := 1) dL_would_1016 rfl ?_
      refine J_goto C 1021 dL_would_1017 rfl ?_
      exact J_eqi (by rw [lsN_some hs]; rfl) k1021
end LWOU
theorem kd_L_would : Cd yL_would cL_would 27 (some .boolean) 3 := ⟨uc_L_would, un_L, ⟨by decide, by decide, by decide⟩⟩
theorem c_L_would (l : Launch) (K : gK) (A : Nat → Nat → Nat) {B : Nat} {Y : RS} {M : NM} (hS : St B Y M) (hB : B ≤ 9000) {U V : Nat} (hU : U < 2147483648) (hV : V < 2147483648) : Cr l K yL_would cL_would 27 (some .boolean) 8 2 12 [.ref (A 4 0), .int (iN U), .int (iN V)] (ro_W K A Y) (fun u : {Z : RS // Z 0 = Y 0 ∧ St B Z M} => (some (.int 1), ro_W K A u.1)) := by
  have c10 := hS.2.1.1.c10
  have c2 := hS.2.1.1.c2
  refine Cr.of (own := RL) (by decide) rfl (Nat.le_of_ble_eq_true rfl) (fun Γ C Yc _ => ?_)
  refine J_aload_n C 0 dL_would_0 rfl ?_
  refine J_crS (as := [.ref (A 4 0)]) C Yc kd_L_state ut_L_state um_L_129 (Cr.right [] (c_L_state l K A hS)) dL_would_1 rfl rfl ⟨(Nat.le_of_ble_eq_true rfl), (Nat.le_of_ble_eq_true rfl)⟩ (Nat.le_of_ble_eq_true rfl) (Nat.le_of_ble_eq_true rfl) (Nat.le_of_ble_eq_true rfl) (fun _ => ?_)
  refine J_lstore_n C (lv' := [(3, .long (stL (Y 0) M)), (0, .ref (A 4 0)), (1, .int (iN U)), (2, .int (iN V))]) dL_would_4 (by decide) rfl ?_
  refine J_aload_n C 1 dL_would_5 rfl ?_
  refine J_iconst C (v := 4) dL_would_6 rfl ?_
  refine x_value C Yc (Nat.le_of_ble_eq_true rfl) (Nat.le_of_ble_eq_true rfl) [] (w := (iN (M 18 2))) hS.val4 dL_would_7 (Nat.le_of_ble_eq_true rfl) (Nat.le_of_ble_eq_true rfl) ?_
  refine J_istore C (lv' := [(5, .int (iN (M 18 2))), (3, .long (stL (Y 0) M)), (0, .ref (A 4 0)), (1, .int (iN U)), (2, .int (iN V))]) dL_would_10 (by decide) rfl ?_
  refine J_iconst C (v := 1) dL_would_12 rfl ?_
  refine J_iload_n C 3 dL_would_13 rfl ?_
  refine J_sipush C (v := 255) dL_would_14 rfl ?_
  refine J_iand C dL_would_17 ?_
  refine J_eqi (b := (iN (U % 256))) (m255_ U) ?_
  refine J_bipush C (v := 60) dL_would_18 rfl ?_
  refine J_irem C dL_would_20 (by decide) ?_
  refine J_eqi (b := (iN (U % 256 % 60))) (iN_rem (b := 60) (by omega) (by decide)) ?_
  refine J_iadd C dL_would_21 ?_
  refine J_eqi (b := (iN (1 + U % 256 % 60))) (iN_add 1 _) ?_
  refine J_istore C (lv' := [(6, .int (iN (1 + U % 256 % 60))), (5, .int (iN (M 18 2))), (3, .long (stL (Y 0) M)), (0, .ref (A 4 0)), (1, .int (iN U)), (2, .int (iN V))]) dL_would_22 (by decide) rfl ?_
  refine J_iload_n C 4 dL_would_24 rfl ?_
  refine J_bipush C (v := 6) dL_would_25 rfl ?_
  refine J_ishr C dL_would_27 rfl ?_
  refine J_eqi (b := (iN (U / 64))) (sr_ hU 6 (by decide)) ?_
  refine J_sipush C (v := 255) dL_would_28 rfl ?_
  refine J_iand C dL_would_31 ?_
  refine J_eqi (b := (iN (U / 64 % 256))) (m255_ _) ?_
  refine J_bipush C (v := 6) dL_would_32 rfl ?_
  refine J_irem C dL_would_34 (by decide) ?_
  refine J_eqi (b := (iN (U / 64 % 256 % 6))) (iN_rem (b := 6) (by omega) (by decide)) ?_
  refine J_istore C (lv' := [(7, .int (iN (U / 64 % 256 % 6))), (6, .int (iN (1 + U % 256 % 60))), (5, .int (iN (M 18 2))), (3, .long (stL (Y 0) M)), (0, .ref (A 4 0)), (1, .int (iN U)), (2, .int (iN V))]) dL_would_35 (by decide) rfl ?_
  refine J_sub [0, 1, 2, 3, 6, 5, 4] (lv' := [(7, .int (iN (U / 64 % 256 % 6))), (6, .int (iN (1 + U % 256 % 60))), (5, .int (iN (M 18 2))), (3, .long (stL (Y 0) M)), (2, .int (iN V)), (1, .int (iN U)), (0, .ref (A 4 0))]) rfl ?_
  refine wo_1 C Yc ⟨rfl, hS⟩ hB (by omega) (by omega) (by omega) (fun Z1 g1 => ?_)
  refine J_iload_n C 6 dL_would_213 rfl ?_
  refine J_bipush C (v := 9) dL_would_214 rfl ?_
  refine J_ishr C dL_would_216 rfl ?_
  refine J_eqi (b := (iN (U / 512))) (sr_ hU 9 (by decide)) ?_
  refine J_sipush C (v := 255) dL_would_217 rfl ?_
  refine J_iand C dL_would_220 ?_
  refine J_eqi (b := (iN (U / 512 % 256))) (m255_ _) ?_
  refine J_iconst C (v := 3) dL_would_221 rfl ?_
  refine J_irem C dL_would_222 (by decide) ?_
  refine J_eqi (b := (iN (U / 512 % 256 % 3))) (iN_rem (b := 3) (by omega) (by decide)) ?_
  refine J_istore C (lv' := [(12, .int (iN (U / 512 % 256 % 3))), (10, .int 1), (7, .int (iN (U / 64 % 256 % 6))), (6, .int (iN (1 + U % 256 % 60))), (5, .int (iN (M 18 2))), (3, .long (stL (Y 0) M)), (2, .int (iN V)), (1, .int (iN U)), (0, .ref (A 4 0))]) dL_would_223 (by decide) rfl ?_
  refine J_iconst C (v := 1) dL_would_225 rfl ?_
  refine J_iload_n C 7 dL_would_226 rfl ?_
  refine J_bipush C (v := 11) dL_would_227 rfl ?_
  refine J_ishr C dL_would_229 rfl ?_
  refine J_eqi (b := (iN (U / 2048))) (sr_ hU 11 (by decide)) ?_
  refine J_bipush C (v := 15) dL_would_230 rfl ?_
  refine J_iand C dL_would_232 ?_
  refine J_eqi (b := (iN (U / 2048 % 16))) (m15_ _) ?_
  refine J_iadd C dL_would_233 ?_
  refine J_eqi (b := (iN (1 + U / 2048 % 16))) (iN_add 1 _) ?_
  refine J_istore C (lv' := [(13, .int (iN (1 + U / 2048 % 16))), (12, .int (iN (U / 512 % 256 % 3))), (10, .int 1), (7, .int (iN (U / 64 % 256 % 6))), (6, .int (iN (1 + U % 256 % 60))), (5, .int (iN (M 18 2))), (3, .long (stL (Y 0) M)), (2, .int (iN V)), (1, .int (iN U)), (0, .ref (A 4 0))]) dL_would_234 (by decide) rfl ?_
  refine J_sub [0, 1, 2, 3, 4, 5, 6, 7, 9] (lv' := [(13, .int (iN (1 + U / 2048 % 16))), (12, .int (iN (U / 512 % 256 % 3))), (10, .int 1), (7, .int (iN (U / 64 % 256 % 6))), (6, .int (iN (1 + U % 256 % 60))), (5, .int (iN (M 18 2))), (3, .long (stL (Y 0) M)), (2, .int (iN V)), (0, .ref (A 4 0))]) rfl ?_
  refine wo_2 C Yc g1 hB (by omega) (by omega) ⟨by omega, by omega⟩ (fun Z2 g2 => ?_)
  have ho : V % 256 % M 18 2 < M 18 2 := Nat.mod_lt _ (by omega)
  refine J_iload_n C 5 dL_would_299 rfl ?_
  refine J_sipush C (v := 255) dL_would_300 rfl ?_
  refine J_iand C dL_would_303 ?_
  refine J_eqi (b := (iN (V % 256))) (m255_ V) ?_
  refine J_iload C 3 dL_would_304 rfl ?_
  refine J_irem C dL_would_306 (fun z => absurd ((iN_0 (by omega)).mp z) (by omega)) ?_
  refine J_eqi (b := (iN (V % 256 % M 18 2))) (iN_rem (by omega) (by omega)) ?_
  refine J_istore C (lv' := [(15, .int (iN (V % 256 % M 18 2))), (10, .int 1), (7, .int (iN (U / 64 % 256 % 6))), (6, .int (iN (1 + U % 256 % 60))), (5, .int (iN (M 18 2))), (3, .long (stL (Y 0) M)), (2, .int (iN V)), (0, .ref (A 4 0))]) dL_would_307 (by decide) rfl ?_
  refine J_sub [0, 1, 2, 3, 5, 7] (lv' := [(15, .int (iN (V % 256 % M 18 2))), (10, .int 1), (7, .int (iN (U / 64 % 256 % 6))), (6, .int (iN (1 + U % 256 % 60))), (3, .long (stL (Y 0) M)), (0, .ref (A 4 0))]) rfl ?_
  refine wo_3 C Yc g2 hB (by omega) (by omega) ho (fun Z3 g3 => ?_)
  refine wo_4 C Yc g3 hB ho (fun Z4 g4 => ?_)
  refine wo_5 C Yc g4 hB (fun Z5 r g5 hr => ?_)
  refine wo_6 C Yc g5 hB hr (fun Z6 g6 => ?_)
  refine wo_7 C Yc g6 hB (by omega) (fun Z7 g7 => ?_)
  refine wo_8 C Yc g7 hB ho (fun Z8 g8 => ?_)
  refine J_iload C 0 dL_would_1080 rfl ?_
  refine J_if_eq_n C 1098 (by decide) dL_would_1082 rfl ?_
  refine J_aload_n C 2 dL_would_1085 rfl ?_
  refine J_crS (as := [.ref (A 4 0)]) C Yc kd_L_state ut_L_state um_L_129 (Cr.right [] (c_L_state l K A g8.2)) dL_would_1086 rfl rfl ⟨(Nat.le_of_ble_eq_true rfl), (Nat.le_of_ble_eq_true rfl)⟩ (Nat.le_of_ble_eq_true rfl) (Nat.le_of_ble_eq_true rfl) (Nat.le_of_ble_eq_true rfl) (fun _ => ?_)
  refine J_lload_n C 1 dL_would_1089 rfl ?_
  refine J_lcmp0 C (by rw [g8.1]) dL_would_1090 ?_
  refine J_if_ne_y C 1098 rfl dL_would_1091 rfl ?_
  refine J_iconst C (v := 1) dL_would_1094 rfl ?_
  refine J_goto C 1099 dL_would_1095 rfl ?_
  exact J_rnret rfl C ⟨Z8, g8⟩ dL_would_1099 (Nat.le_of_ble_eq_true rfl) (Nat.le_of_ble_eq_true rfl) rfl
