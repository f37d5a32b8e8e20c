-- PART 75: the law
theorem RT.len {T : List Nat} (h : RT T) : T.length ≤ 1100 := by
  obtain ⟨a, b, q, os, ls, t, -, -, -, -, -, -, -, -, h, -⟩ := h
  exact h
theorem RT.asc {T : List Nat} (h : RT T) : ASC T := by
  obtain ⟨a, b, q, os, ls, t, -, -, -, -, -, -, -, -, -, h⟩ := h
  exact h
theorem pm_1 (a s X y : va_W) : ((a ++ (s ++ X)) ++ y).Perm ((a ++ X) ++ (s ++ y)) := by
  rw [List.append_assoc a (s ++ X) y, List.append_assoc a X (s ++ y), List.append_assoc s X y]
  exact List.Perm.append_left a (List.perm_append_comm_assoc _ _ _)
theorem pm_x (a X s y : va_W) : ((a ++ X ++ s) ++ y).Perm ((a ++ s ++ y) ++ X) := by
  rw [List.append_assoc a X s, List.append_assoc a (X ++ s) y, List.append_assoc X s y, List.append_assoc a s y, List.append_assoc a (s ++ y) X]
  exact List.Perm.append_left a List.perm_append_comm
theorem pm_s (a X s y : va_W) : ((a ++ X ++ s) ++ y).Perm (s ++ (a ++ X ++ y)) := by
  rw [List.append_assoc (a ++ X) s y]
  exact List.perm_append_comm_assoc _ _ _
section LAWW
variable {l : Launch} {K : gK} {Γ : gT} {Q : State → Prop} {cs ss CM CS : Nat} {rt : Option FieldType} {A : Nat → Nat → Nat} {b L q k B : Nat} {xs g : Nat → Int32} {Y : RS} {M : NM}
theorem lw_load (C : Cx l K Γ RL cL_law 9 rt 16) (Yc : Cy Γ CM CS) (hc : cs + 300 ≤ CM) (hs : ss + 351000 ≤ CS) (hg : ∀ i, i < 6 → ∃ w, w < 2147483648 ∧ g i = iN w) (hk : k + 1 < 6) (hS : St B Y M) (kf : ∀ Z M', St 1 Z M' → J l K Γ Q (cs + 220) (ss + 350300) ([cI K q 6 g] ++ ro_W K A Z) 204 9 [(4, .int (iN k)), (3, .int 1), (2, .ref (A 4 0)), (1, .ref q), (0, .ref b)] []) : J l K Γ Q cs ss ([cI K q 6 g] ++ ro_W K A Y) 154 9 [(4, .int (iN k)), (3, .int 1), (2, .ref (A 4 0)), (1, .ref q), (0, .ref b)] [] := by
  obtain ⟨w1, hw1, e1⟩ := hg k (by omega)
  obtain ⟨w2, hw2, e2⟩ := hg (k + 1) (by omega)
  refine J_aload_n C 2 dL_law_154 rfl ?_
  refine J_aload_n C 3 dL_law_155 rfl ?_
  refine J_iload C 0 dL_law_156 rfl ?_
  refine J_iaN C 0 k rfl (by omega) (by omega) rfl dL_law_158 ?_
  refine J_eqi (b := (iN w1)) e1 ?_
  refine J_aload_n C 3 dL_law_159 rfl ?_
  refine J_iload C 0 dL_law_160 rfl ?_
  refine J_iconst C (v := 1) dL_law_162 rfl ?_
  refine J_iadd C dL_law_163 ?_
  refine J_eqi (b := (iN (k + 1))) (iN_s _) ?_
  refine J_iaN C 0 (k + 1) rfl (by omega) (by omega) rfl dL_law_164 ?_
  refine J_eqi (b := (iN w2)) e2 ?_
  refine J_weq (List.nil_append _).symm ?_
  refine J_crS (as := [.int (iN w1), .int (iN w2)]) C Yc kd_L_ring ut_L_ring um_L_183 (Cr.left ([cI K q 6 g] ++ ro_W K A Y) (c_L_ring l K hw1 (iN w2))) dL_law_165 rfl rfl ⟨(Nat.le_of_ble_eq_true rfl), (Nat.le_of_ble_eq_true rfl)⟩ (Nat.le_of_ble_eq_true rfl) (by omega) (by omega) (fun z => ?_)
  obtain ⟨⟨T, s, f⟩, hRT, hf⟩ := z
  refine J_perm (ws' := [cI K q 6 g] ++ (stW K s T f ++ ro_W K A Y)) (List.perm_append_comm_assoc _ _ _) ?_
  have hRT2 : RT T := hRT
  refine J_crS (as := [.ref (A 4 0), .ref s]) C Yc kd_L_feeds ut_L_feeds um_L_187 (Cr.right [cI K q 6 g] (c_L_feeds l K A s (T := T) ⟨f, hf⟩ (by have := hRT2.len; omega) (fun i hi => hRT2.asc.at_ hi) hS.2.2.2.2)) dL_law_168 rfl rfl ⟨(Nat.le_of_ble_eq_true rfl), (Nat.le_of_ble_eq_true rfl)⟩ (Nat.le_of_ble_eq_true rfl) (by omega) (by omega) (fun z => ?_)
  obtain ⟨Z, hZ1, hZ2⟩ := z
  refine J_perm (ws' := stW K s T f ++ ([cI K q 6 g] ++ ro_W K A Z)) (List.perm_append_comm_assoc _ _ _) ?_
  refine J_drop ?_
  obtain ⟨n, Z', M', eL, hn, hS1, hu, he⟩ := v_loadR hRT2 hS hZ1 hZ2
  refine J_if_eq_n C 202 (by decide) dL_law_171 rfl ?_
  refine J_aload_n C 2 dL_law_174 rfl ?_
  refine x_load C Yc (by omega) (by omega) [cI K q 6 g] (w := (iN n)) eL dL_law_175 (Nat.le_of_ble_eq_true rfl) (Nat.le_of_ble_eq_true rfl) ?_
  refine J_if_lt_n C 202 (iN_neg (by omega)) dL_law_178 rfl ?_
  refine J_aload_n C 2 dL_law_181 rfl ?_
  refine x_errorPosition C Yc (by omega) (by omega) [cI K q 6 g] (w := (-2)) he dL_law_182 (Nat.le_of_ble_eq_true rfl) (Nat.le_of_ble_eq_true rfl) ?_
  refine J_bipush C (v := -2) dL_law_185 rfl ?_
  refine J_icmp_ne_y C 202 rfl dL_law_187 rfl ?_
  refine J_aload_n C 2 dL_law_190 rfl ?_
  refine x_undo C Yc (by omega) (by omega) [cI K q 6 g] (w := (-1)) hu dL_law_191 (Nat.le_of_ble_eq_true rfl) (Nat.le_of_ble_eq_true rfl) ?_
  refine J_iconst C (v := -1) dL_law_194 rfl ?_
  refine J_icmp_ne_y C 202 rfl dL_law_195 rfl ?_
  refine J_iconst C (v := 1) dL_law_198 rfl ?_
  refine J_goto C 203 dL_law_199 rfl ?_
  refine J_istore_n C (lv' := [(3, .int 1), (4, .int (iN k)), (2, .ref (A 4 0)), (1, .ref q), (0, .ref b)]) dL_law_203 (by decide) rfl ?_
  refine J_sub [1, 0, 2, 3, 4] (lv' := [(4, .int (iN k)), (3, .int 1), (2, .ref (A 4 0)), (1, .ref q), (0, .ref b)]) rfl ?_
  exact J_widen (by omega) (by omega) (kf Z' M' hS1)
theorem lw_part (C : Cx l K Γ RL cL_law 9 rt 16) (Yc : Cy Γ CM CS) (hc : cs + 20 ≤ CM) (hs : ss + 200 ≤ CS) (hg : ∀ i, i < 6 → ∃ w, w < 2147483648 ∧ g i = iN w) (hk : k + 1 < 6) (hS : St B Y M) (hB : B ≤ 4201) (kf : ∀ Z M', St (B + 4200) Z M' → J l K Γ Q (cs + 20) (ss + 200) ([cI K q 6 g] ++ ro_W K A Z) 324 9 [(4, .int (iN k)), (3, .int 1), (2, .ref (A 4 0)), (1, .ref q), (0, .ref b)] []) : J l K Γ Q cs ss ([cI K q 6 g] ++ ro_W K A Y) 204 9 [(4, .int (iN k)), (3, .int 1), (2, .ref (A 4 0)), (1, .ref q), (0, .ref b)] [] := by
  obtain ⟨w1, hw1, e1⟩ := hg k (by omega)
  obtain ⟨w2, hw2, e2⟩ := hg (k + 1) (by omega)
  have k207 : ∀ d j Y M, j + d = 7 → St (B + 600 * j) Y M → J l K Γ Q cs ss ([cI K q 6 g] ++ ro_W K A Y) 207 9 [(5, .int (iN j)), (4, .int (iN k)), (3, .int 1), (2, .ref (A 4 0)), (1, .ref q), (0, .ref b)] [] := by
    intro d
    induction d with
    | zero =>
      intro j Y M hj hS
      obtain rfl : j = 7 := by omega
      have hS : St (B + 4200) Y M := hS
      refine J_iload C 0 dL_law_207 rfl ?_
      refine J_bipush C (v := 7) dL_law_209 rfl ?_
      refine J_icmp_ge_n C 249 (show ¬ iN 7 < 7 by decide) dL_law_211 rfl ?_
      refine J_iload_n C 2 dL_law_249 rfl ?_
      refine J_if_eq_n C 260 (by decide) dL_law_250 rfl ?_
      refine J_aload_n C 3 dL_law_253 rfl ?_
      refine J_crS (as := [.ref (A 4 0)]) C Yc kd_L_state ut_L_state um_L_129 (Cr.right [cI K q 6 g] (c_L_state l K A hS)) dL_law_254 rfl rfl ⟨(Nat.le_of_ble_eq_true rfl), (Nat.le_of_ble_eq_true rfl)⟩ (Nat.le_of_ble_eq_true rfl) (by omega) (by omega) (fun _ => ?_)
      refine J_goto C 261 dL_law_257 rfl ?_
      refine J_lstore C (lv' := [(5, .long (stL (Y 0) M)), (4, .int (iN k)), (3, .int 1), (2, .ref (A 4 0)), (1, .ref q), (0, .ref b)]) dL_law_261 (by decide) rfl ?_
      refine J_iload_n C 2 dL_law_263 rfl ?_
      refine J_if_eq_n C 322 (by decide) dL_law_264 rfl ?_
      refine J_aload_n C 3 dL_law_267 rfl ?_
      refine J_crS (as := [.ref (A 4 0)]) C Yc kd_L_offices ut_L_offices um_L_176 (Cr.right [cI K q 6 g] (c_L_offices l K A hS (by omega))) dL_law_268 rfl rfl ⟨(Nat.le_of_ble_eq_true rfl), (Nat.le_of_ble_eq_true rfl)⟩ (Nat.le_of_ble_eq_true rfl) (by omega) (by omega) (fun _ => ?_)
      refine J_if_eq_n C 322 (by decide) dL_law_271 rfl ?_
      refine J_aload_n C 3 dL_law_274 rfl ?_
      refine J_crS (as := [.ref (A 4 0)]) C Yc kd_L_state ut_L_state um_L_129 (Cr.right [cI K q 6 g] (c_L_state l K A hS)) dL_law_275 rfl rfl ⟨(Nat.le_of_ble_eq_true rfl), (Nat.le_of_ble_eq_true rfl)⟩ (Nat.le_of_ble_eq_true rfl) (by omega) (by omega) (fun _ => ?_)
      refine J_lload C 0 dL_law_278 rfl ?_
      refine J_lcmp0 C rfl dL_law_280 ?_
      refine J_if_ne_y C 322 rfl dL_law_281 rfl ?_
      refine J_aload_n C 3 dL_law_284 rfl ?_
      refine J_crS (as := [.ref (A 4 0)]) C Yc kd_L_minutes ut_L_minutes um_L_180 (Cr.right [cI K q 6 g] (c_L_minutes l K A hS (by omega))) dL_law_285 rfl rfl ⟨(Nat.le_of_ble_eq_true rfl), (Nat.le_of_ble_eq_true rfl)⟩ (Nat.le_of_ble_eq_true rfl) (by omega) (by omega) (fun z => ?_)
      refine J_if_eq_n C 322 (by decide) dL_law_288 rfl ?_
      refine J_aload_n C 3 dL_law_291 rfl ?_
      refine J_crS (as := [.ref (A 4 0)]) C Yc kd_L_state ut_L_state um_L_129 (Cr.right [cI K q 6 g] (c_L_state l K A z.2.2)) dL_law_292 rfl rfl ⟨(Nat.le_of_ble_eq_true rfl), (Nat.le_of_ble_eq_true rfl)⟩ (Nat.le_of_ble_eq_true rfl) (by omega) (by omega) (fun _ => ?_)
      refine J_lload C 0 dL_law_295 rfl ?_
      refine J_lcmp0 C (by rw [z.2.1]) dL_law_297 ?_
      refine J_if_ne_y C 322 rfl dL_law_298 rfl ?_
      refine J_aload_n C 3 dL_law_301 rfl ?_
      refine J_aload_n C 4 dL_law_302 rfl ?_
      refine J_iload C 1 dL_law_303 rfl ?_
      refine J_iaN C 0 k rfl (by omega) (by omega) rfl dL_law_305 ?_
      refine J_eqi (b := (iN w1)) e1 ?_
      refine J_aload_n C 4 dL_law_306 rfl ?_
      refine J_iload C 1 dL_law_307 rfl ?_
      refine J_iconst C (v := 1) dL_law_309 rfl ?_
      refine J_iadd C dL_law_310 ?_
      refine J_eqi (b := (iN (k + 1))) (iN_s _) ?_
      refine J_iaN C 0 (k + 1) rfl (by omega) (by omega) rfl dL_law_311 ?_
      refine J_eqi (b := (iN w2)) e2 ?_
      refine J_crS (as := [.ref (A 4 0), .int (iN w1), .int (iN w2)]) C Yc kd_L_would ut_L_would um_L_201 (Cr.right [cI K q 6 g] (c_L_would l K A z.2.2 (by omega) hw1 hw2)) dL_law_312 rfl rfl ⟨(Nat.le_of_ble_eq_true rfl), (Nat.le_of_ble_eq_true rfl)⟩ (Nat.le_of_ble_eq_true rfl) (by omega) (by omega) (fun y => ?_)
      refine J_if_eq_n C 322 (by decide) dL_law_315 rfl ?_
      refine J_iconst C (v := 1) dL_law_318 rfl ?_
      refine J_goto C 323 dL_law_319 rfl ?_
      refine J_istore_n C (lv' := [(3, .int 1), (5, .long (stL (Y 0) M)), (4, .int (iN k)), (2, .ref (A 4 0)), (1, .ref q), (0, .ref b)]) dL_law_323 (by decide) rfl ?_
      refine J_sub [2, 0, 3, 4, 5] (lv' := [(4, .int (iN k)), (3, .int 1), (2, .ref (A 4 0)), (1, .ref q), (0, .ref b)]) rfl ?_
      exact J_widen (by omega) (by omega) (kf y.1 M y.2.2)
    | succ d ih =>
      intro j Y M hj hS
      refine J_iload C 0 dL_law_207 rfl ?_
      refine J_bipush C (v := 7) dL_law_209 rfl ?_
      refine J_icmp_ge_y C 249 (iN_ylt' (b := 7) (by omega) (by decide)) dL_law_211 rfl ?_
      refine J_iload_n C 2 dL_law_214 rfl ?_
      refine J_if_eq_n C 249 (by decide) dL_law_215 rfl ?_
      refine J_aload_n C 3 dL_law_218 rfl ?_
      refine J_aload_n C 4 dL_law_219 rfl ?_
      refine J_iload C 1 dL_law_220 rfl ?_
      refine J_iaN C 0 k rfl (by omega) (by omega) rfl dL_law_222 ?_
      refine J_eqi (b := (iN w1)) e1 ?_
      refine J_iconst C (v := 3) dL_law_223 rfl ?_
      refine J_iload C 0 dL_law_224 rfl ?_
      refine J_imul C dL_law_226 ?_
      refine J_eqi (b := (iN (3 * j))) (iN_mul 3 j) ?_
      refine J_ishr C dL_law_227 rfl ?_
      refine J_eqi (b := (iN (w1 / 2 ^ (3 * j)))) (sr_ hw1 (3 * j) (by omega)) ?_
      refine J_aload_n C 4 dL_law_228 rfl ?_
      refine J_iload C 1 dL_law_229 rfl ?_
      refine J_iconst C (v := 1) dL_law_231 rfl ?_
      refine J_iadd C dL_law_232 ?_
      refine J_eqi (b := (iN (k + 1))) (iN_s _) ?_
      refine J_iaN C 0 (k + 1) rfl (by omega) (by omega) rfl dL_law_233 ?_
      refine J_eqi (b := (iN w2)) e2 ?_
      refine J_iconst C (v := 2) dL_law_234 rfl ?_
      refine J_iload C 0 dL_law_235 rfl ?_
      refine J_imul C dL_law_237 ?_
      refine J_eqi (b := (iN (2 * j))) (iN_mul 2 j) ?_
      refine J_ishr C dL_law_238 rfl ?_
      refine J_eqi (b := (iN (w2 / 2 ^ (2 * j)))) (sr_ hw2 (2 * j) (by omega)) ?_
      refine J_crS (as := [.ref (A 4 0), .int (iN (w1 / 2 ^ (3 * j))), .int (iN (w2 / 2 ^ (2 * j)))]) C Yc kd_L_does ut_L_does um_L_197 (Cr.right [cI K q 6 g] (c_L_does l K A hS (by omega) (Nat.lt_of_le_of_lt (Nat.div_le_self _ _) hw1) (Nat.lt_of_le_of_lt (Nat.div_le_self _ _) hw2))) dL_law_239 rfl rfl ⟨(Nat.le_of_ble_eq_true rfl), (Nat.le_of_ble_eq_true rfl)⟩ (Nat.le_of_ble_eq_true rfl) (by omega) (by omega) (fun z => ?_)
      obtain ⟨M2, h2⟩ := z.2
      refine J_istore_n C (lv' := [(3, .int 1), (5, .int (iN j)), (4, .int (iN k)), (2, .ref (A 4 0)), (1, .ref q), (0, .ref b)]) dL_law_242 (by decide) rfl ?_
      refine J_iinc C 1 (w := (iN (j + 1))) (lv' := [(5, .int (iN (j + 1))), (3, .int 1), (4, .int (iN k)), (2, .ref (A 4 0)), (1, .ref q), (0, .ref b)]) dL_law_243 rfl (iN_add _ _) (by decide) rfl ?_
      refine J_goto C 207 dL_law_246 rfl ?_
      refine J_sub [0, 2, 1, 3, 4, 5] (lv' := [(5, .int (iN (j + 1))), (4, .int (iN k)), (3, .int 1), (2, .ref (A 4 0)), (1, .ref q), (0, .ref b)]) rfl ?_
      exact ih (j + 1) z.1 M2 (by omega) (h2.mono (by omega))
  refine J_iconst C (v := 0) dL_law_204 rfl ?_
  refine J_istore C (lv' := [(5, .int 0), (4, .int (iN k)), (3, .int 1), (2, .ref (A 4 0)), (1, .ref q), (0, .ref b)]) dL_law_205 (by decide) rfl ?_
  refine J_sub [0, 1, 2, 3, 4, 5] (lv' := [(5, .int 0), (4, .int (iN k)), (3, .int 1), (2, .ref (A 4 0)), (1, .ref q), (0, .ref b)]) rfl ?_
  exact k207 7 0 Y M rfl (hS.mono (by omega))
theorem lw_end (C : Cx l K Γ RL cL_law 9 rt 16) (Yc : Cy Γ CM CS) (hc : cs + 1500 ≤ CM) (hs : ss + 2410000 ≤ CS) (hS : St B Y M) (hB : B ≤ 9000) (kf : ∀ ws, J l K Γ Q (cs + 1500) (ss + 2410000) ws 450 9 [(4, .int (iN 4)), (3, .int 1), (2, .ref (A 4 0)), (1, .ref q), (0, .ref b)] []) : J l K Γ Q cs ss ([cI K q 6 g] ++ ro_W K A Y) 324 9 [(4, .int (iN 4)), (3, .int 1), (2, .ref (A 4 0)), (1, .ref q), (0, .ref b)] [] := by
  refine J_iload C 0 dL_law_324 rfl ?_
  refine J_iconst C (v := 4) dL_law_326 rfl ?_
  refine J_icmp_lt_n C 450 (show ¬ iN 4 < 4 by decide) dL_law_327 rfl ?_
  refine J_iload_n C 1 dL_law_330 rfl ?_
  refine J_if_ne_n C 337 (by decide) dL_law_331 rfl ?_
  refine J_aload_n C 2 dL_law_337 rfl ?_
  refine J_crS (as := [.ref (A 4 0)]) C Yc kd_L_setup ut_L_setup um_L_204 (Cr.right [cI K q 6 g] (c_L_setup l K A hS (by omega))) dL_law_338 rfl rfl ⟨(Nat.le_of_ble_eq_true rfl), (Nat.le_of_ble_eq_true rfl)⟩ (Nat.le_of_ble_eq_true rfl) (by omega) (by omega) (fun z => ?_)
  obtain ⟨⟨X, hX⟩, s, u⟩ := z
  have hSx : St B X M := hS.page hX
  have hw0 := v_write' hS (by omega) (fun _ _ => rfl)
  have hl : (txN M).length ≤ 985 := txN_len hS.2.1.1 (fun t ht => by
    have := (hS.TS (by omega)).2 t ht
    omega)
  refine J_astore C (lv' := [(7, .ref s), (4, .int (iN 4)), (3, .int 1), (2, .ref (A 4 0)), (1, .ref q), (0, .ref b)]) dL_law_341 (by decide) rfl ?_
  refine J_weq (ws' := [cI K q 6 g] ++ (stW K s (txN M) u.1 ++ ro_W K A X)) rfl ?_
  refine J_new C Yc 9 [.null, .null, .null, .null, .null, .null, .null, .int 0] tyX9 dL_law_343 inlX9 tyX9_ok ul_L_18 ua_X9 un_X9 rfl (fun j hj => by rcases (show j = 0 ∨ j = 1 ∨ j = 2 ∨ j = 3 ∨ j = 4 ∨ j = 5 ∨ j = 6 ∨ j = 7 by omega) with rfl | rfl | rfl | rfl | rfl | rfl | rfl | rfl <;> rfl) (by omega) (by omega) (fun q2 => ?_)
  refine J_dup C dL_law_346 rfl ?_
  refine J_callI (host := "") C Yc kd_X9_init rfl ui_X9_init um_L_175 (Ca.right _ (c_X9_init l K q2)) dL_law_347 rfl rfl (by decide) (Nat.le_of_ble_eq_true rfl) (by omega) (by omega) (fun v => ?_)
  obtain ⟨A2, hA2⟩ := v
  subst hA2
  refine J_perm (ws' := ([cI K q 6 g] ++ ro_W K A X) ++ (stW K s (txN M) u.1 ++ ro_W K A2 Y2)) (pm_1 _ _ _ _) ?_
  refine J_astore C (lv' := [(8, .ref (A2 4 0)), (7, .ref s), (4, .int (iN 4)), (3, .int 1), (2, .ref (A 4 0)), (1, .ref q), (0, .ref b)]) dL_law_350 (by decide) rfl ?_
  refine J_aload C 0 dL_law_352 rfl ?_
  refine J_aload C 1 dL_law_354 rfl ?_
  refine J_crS (as := [.ref (A2 4 0), .ref s]) C Yc kd_L_feeds ut_L_feeds um_L_187 (Cr.right ([cI K q 6 g] ++ ro_W K A X) (c_L_feeds l K A2 s (T := txN M) u (by omega) (fun i hi => hw0.2.2.2.1.at_ hi) St0.2.2.2.2)) dL_law_356 rfl rfl ⟨(Nat.le_of_ble_eq_true rfl), (Nat.le_of_ble_eq_true rfl)⟩ (Nat.le_of_ble_eq_true rfl) (by omega) (by omega) (fun z => ?_)
  obtain ⟨Z2, g1, g2⟩ := z
  obtain ⟨Z3, M3, e3, hS3, hY⟩ := v_loadS hS.2.1 St0 g1 g2
  have hw3 : WR Z3 (txN M) (s_X9_writeSetup Z3) := hY.text ▸ v_write' hS3 (by decide) (fun _ _ => rfl)
  have hS4 : St 1 (s_X9_writeSetup Z3) M3 := hS3.page hw3.1
  refine J_weq (ws' := (([cI K q 6 g] ++ ro_W K A X ++ stW K s (txN M) u.1) ++ ro_W K A2 Z2)) (List.append_assoc _ _ _).symm ?_
  refine J_if_eq_n C 448 (by decide) dL_law_359 rfl ?_
  refine J_aload C 0 dL_law_362 rfl ?_
  refine x_load C Yc (by omega) (by omega) ([cI K q 6 g] ++ ro_W K A X ++ stW K s (txN M) u.1) (w := (iN (M 18 2))) e3 dL_law_364 (Nat.le_of_ble_eq_true rfl) (Nat.le_of_ble_eq_true rfl) ?_
  refine J_perm (ws' := (([cI K q 6 g] ++ stW K s (txN M) u.1 ++ ro_W K A2 Z3) ++ ro_W K A X)) (pm_x _ _ _ _) ?_
  refine J_aload_n C 4 dL_law_367 rfl ?_
  refine J_iconst C (v := 4) dL_law_368 rfl ?_
  refine x_value C Yc (by omega) (by omega) ([cI K q 6 g] ++ stW K s (txN M) u.1 ++ ro_W K A2 Z3) (w := (iN (M 18 2))) hSx.val4 dL_law_369 (Nat.le_of_ble_eq_true rfl) (Nat.le_of_ble_eq_true rfl) ?_
  refine J_perm (ws' := (([cI K q 6 g] ++ ro_W K A X ++ stW K s (txN M) u.1) ++ ro_W K A2 Z3)) (pm_x _ _ _ _).symm ?_
  refine J_icmp_ne_y C 448 rfl dL_law_372 rfl ?_
  refine J_aload C 0 dL_law_375 rfl ?_
  refine x_setupLength C Yc (by omega) (by omega) ([cI K q 6 g] ++ ro_W K A X ++ stW K s (txN M) u.1) (w := (iN (txN M).length)) (show p_X9_setupLength Z3 = (iN (txN M).length, s_X9_writeSetup Z3) by unfold p_X9_setupLength p_X9_setupLength_L4; rw [hw3.2.2.1]) dL_law_377 (Nat.le_of_ble_eq_true rfl) (Nat.le_of_ble_eq_true rfl) ?_
  refine J_aload C 1 dL_law_380 rfl ?_
  refine J_perm (ws' := stW K s (txN M) u.1 ++ ([cI K q 6 g] ++ ro_W K A X ++ ro_W K A2 (s_X9_writeSetup Z3))) (pm_s _ _ _ _) ?_
  refine J_crV (as := []) (T := TJ0) (N := 4) C Yc 0 10 kj_J0_length_8abf5 ui_J0_length_8abf5 us_J0_length_8abf5 um_L_7 rfl rfl (Cr.left ([cI K q 6 g] ++ ro_W K A X ++ ro_W K A2 (s_X9_writeSetup Z3)) (cj_mlen l K s u)) dL_law_382 rfl rfl ⟨(Nat.le_of_ble_eq_true rfl), (Nat.le_of_ble_eq_true rfl)⟩ (Nat.le_of_ble_eq_true rfl) (by omega) (by omega) (fun _ => ?_)
  refine J_perm (ws' := (([cI K q 6 g] ++ ro_W K A X ++ stW K s (txN M) u.1) ++ ro_W K A2 (s_X9_writeSetup Z3))) (pm_s _ _ _ _).symm ?_
  refine J_icmp_ne_y C 448 rfl dL_law_385 rfl ?_
  refine J_aload C 0 dL_law_388 rfl ?_
  refine J_bipush C (v := 8) dL_law_390 rfl ?_
  refine x_value C Yc (by omega) (by omega) ([cI K q 6 g] ++ ro_W K A X ++ stW K s (txN M) u.1) (w := (iN (nsum (M 7) (M 18 2)))) (hS4.val8.trans (by rw [hY.1, hY.sums.1])) dL_law_392 (Nat.le_of_ble_eq_true rfl) (Nat.le_of_ble_eq_true rfl) ?_
  refine J_perm (ws' := (([cI K q 6 g] ++ stW K s (txN M) u.1 ++ ro_W K A2 (s_X9_writeSetup Z3)) ++ ro_W K A X)) (pm_x _ _ _ _) ?_
  refine J_aload_n C 4 dL_law_395 rfl ?_
  refine J_bipush C (v := 8) dL_law_396 rfl ?_
  refine x_value C Yc (by omega) (by omega) ([cI K q 6 g] ++ stW K s (txN M) u.1 ++ ro_W K A2 (s_X9_writeSetup Z3)) (w := (iN (nsum (M 7) (M 18 2)))) hSx.val8 dL_law_398 (Nat.le_of_ble_eq_true rfl) (Nat.le_of_ble_eq_true rfl) ?_
  refine J_perm (ws' := (([cI K q 6 g] ++ ro_W K A X ++ stW K s (txN M) u.1) ++ ro_W K A2 (s_X9_writeSetup Z3))) (pm_x _ _ _ _).symm ?_
  refine J_icmp_ne_y C 448 rfl dL_law_401 rfl ?_
  refine J_aload C 0 dL_law_404 rfl ?_
  refine J_bipush C (v := 9) dL_law_406 rfl ?_
  refine x_value C Yc (by omega) (by omega) ([cI K q 6 g] ++ ro_W K A X ++ stW K s (txN M) u.1) (w := (iN (nsum (lenQ M) (M 18 2)))) (hS4.val9.trans (by rw [hY.1, hY.sums.2.1])) dL_law_408 (Nat.le_of_ble_eq_true rfl) (Nat.le_of_ble_eq_true rfl) ?_
  refine J_perm (ws' := (([cI K q 6 g] ++ stW K s (txN M) u.1 ++ ro_W K A2 (s_X9_writeSetup Z3)) ++ ro_W K A X)) (pm_x _ _ _ _) ?_
  refine J_aload_n C 4 dL_law_411 rfl ?_
  refine J_bipush C (v := 9) dL_law_412 rfl ?_
  refine x_value C Yc (by omega) (by omega) ([cI K q 6 g] ++ stW K s (txN M) u.1 ++ ro_W K A2 (s_X9_writeSetup Z3)) (w := (iN (nsum (lenQ M) (M 18 2)))) hSx.val9 dL_law_414 (Nat.le_of_ble_eq_true rfl) (Nat.le_of_ble_eq_true rfl) ?_
  refine J_perm (ws' := (([cI K q 6 g] ++ ro_W K A X ++ stW K s (txN M) u.1) ++ ro_W K A2 (s_X9_writeSetup Z3))) (pm_x _ _ _ _).symm ?_
  refine J_icmp_ne_y C 448 rfl dL_law_417 rfl ?_
  refine J_aload C 0 dL_law_420 rfl ?_
  refine x_round C Yc (by omega) (by omega) ([cI K q 6 g] ++ ro_W K A X ++ stW K s (txN M) u.1) (w := (iN (nsum (M 2) (M 18 2)))) (hS4.round.trans (by rw [hY.1, hY.sums.2.2])) dL_law_422 (Nat.le_of_ble_eq_true rfl) (Nat.le_of_ble_eq_true rfl) ?_
  refine J_perm (ws' := (([cI K q 6 g] ++ stW K s (txN M) u.1 ++ ro_W K A2 (s_X9_writeSetup Z3)) ++ ro_W K A X)) (pm_x _ _ _ _) ?_
  refine J_aload_n C 4 dL_law_425 rfl ?_
  refine x_round C Yc (by omega) (by omega) ([cI K q 6 g] ++ stW K s (txN M) u.1 ++ ro_W K A2 (s_X9_writeSetup Z3)) (w := (iN (nsum (M 2) (M 18 2)))) hSx.round dL_law_426 (Nat.le_of_ble_eq_true rfl) (Nat.le_of_ble_eq_true rfl) ?_
  refine J_perm (ws' := (([cI K q 6 g] ++ ro_W K A X ++ stW K s (txN M) u.1) ++ ro_W K A2 (s_X9_writeSetup Z3))) (pm_x _ _ _ _).symm ?_
  refine J_icmp_ne_y C 448 rfl dL_law_429 rfl ?_
  refine J_aload C 0 dL_law_432 rfl ?_
  refine x_winner C Yc (by omega) (by omega) ([cI K q 6 g] ++ ro_W K A X ++ stW K s (txN M) u.1) (w := (iO (winN M (M 18 2)))) (hS4.winner.trans (by rw [hY.1, hY.win])) dL_law_434 (Nat.le_of_ble_eq_true rfl) (Nat.le_of_ble_eq_true rfl) ?_
  refine J_perm (ws' := (([cI K q 6 g] ++ stW K s (txN M) u.1 ++ ro_W K A2 (s_X9_writeSetup Z3)) ++ ro_W K A X)) (pm_x _ _ _ _) ?_
  refine J_aload_n C 4 dL_law_437 rfl ?_
  refine x_winner C Yc (by omega) (by omega) ([cI K q 6 g] ++ stW K s (txN M) u.1 ++ ro_W K A2 (s_X9_writeSetup Z3)) (w := (iO (winN M (M 18 2)))) hSx.winner dL_law_438 (Nat.le_of_ble_eq_true rfl) (Nat.le_of_ble_eq_true rfl) ?_
  refine J_perm (ws' := (([cI K q 6 g] ++ ro_W K A X ++ stW K s (txN M) u.1) ++ ro_W K A2 (s_X9_writeSetup Z3))) (pm_x _ _ _ _).symm ?_
  refine J_icmp_ne_y C 448 rfl dL_law_441 rfl ?_
  refine J_iconst C (v := 1) dL_law_444 rfl ?_
  refine J_goto C 449 dL_law_445 rfl ?_
  refine J_istore_n C (lv' := [(3, .int 1), (8, .ref (A2 4 0)), (7, .ref s), (4, .int (iN 4)), (2, .ref (A 4 0)), (1, .ref q), (0, .ref b)]) dL_law_449 (by decide) rfl ?_
  refine J_sub [3, 0, 4, 5, 6] (lv' := [(4, .int (iN 4)), (3, .int 1), (2, .ref (A 4 0)), (1, .ref q), (0, .ref b)]) rfl ?_
  exact J_widen (by omega) (by omega) (kf _)
end LAWW
section LAWX
variable {l : Launch} {K : gK} {Γ : gT} {Q : State → Prop} {CM CS : Nat} {rt : Option FieldType} {b L : Nat} {xs : Nat → Int32}
theorem lw_all (C : Cx l K Γ RL cL_law 9 rt 16) (Yc : Cy Γ CM CS) (hc : 10000 ≤ CM) (hs : 4000000 ≤ CS) (Xx : Lx Γ b L xs) (hL : L ≤ 260) (kf : ∀ ws lv, J l K Γ Q 10000 4000000 ws 457 9 lv [.int 1]) : J l K Γ Q 0 0 [] 0 9 [(0, .ref b)] [] := by
  have k135 : ∀ (A : Nat → Nat → Nat) q (g : Nat → Int32) Y M, (∀ i, i < 6 → ∃ w, w < 2147483648 ∧ g i = iN w) → St 1 Y M → J l K Γ Q 1000 100000 ([cI K q 6 g] ++ ro_W K A Y) 135 9 [(4, .int (iN 0)), (3, .int 1), (2, .ref (A 4 0)), (1, .ref q), (0, .ref b)] [] := by
    intro A q g Y M hg hS
    refine J_iload C 0 dL_law_135 rfl ?_
    refine J_iconst C (v := 1) dL_law_137 rfl ?_
    refine J_iadd C dL_law_138 ?_
    refine J_bipush C (v := 6) dL_law_139 rfl ?_
    refine J_icmp_ge_y C 456 (show iN 0 + 1 < 6 by decide) dL_law_141 rfl ?_
    refine J_iload_n C 1 dL_law_144 rfl ?_
    refine J_if_eq_n C 456 (by decide) dL_law_145 rfl ?_
    refine J_iload C 0 dL_law_148 rfl ?_
    refine J_iconst C (v := 2) dL_law_150 rfl ?_
    refine J_icmp_eq_n C 204 (show ¬ iN 0 = 2 by decide) dL_law_151 rfl ?_
    refine J_sub [0, 1, 2, 3, 4] (lv' := [(4, .int (iN 0)), (3, .int 1), (2, .ref (A 4 0)), (1, .ref q), (0, .ref b)]) rfl ?_
    refine lw_load C Yc (by omega) (by omega) hg (by decide) hS (fun Y1 M1 hS1 => ?_)
    refine lw_part C Yc (by omega) (by omega) hg (by decide) hS1 (by decide) (fun Y2 M2 hS2 => ?_)
    refine J_iload C 0 dL_law_324 rfl ?_
    refine J_iconst C (v := 4) dL_law_326 rfl ?_
    refine J_icmp_lt_y C 450 (show iN 0 < 4 by decide) dL_law_327 rfl ?_
    refine J_iinc C 0 (w := (iN 2)) (lv' := [(4, .int (iN 2)), (3, .int 1), (2, .ref (A 4 0)), (1, .ref q), (0, .ref b)]) dL_law_450 rfl rfl (by decide) rfl ?_
    refine J_goto C 135 dL_law_453 rfl ?_
    refine J_sub [0, 1, 2, 3, 4] (lv' := [(4, .int (iN 2)), (3, .int 1), (2, .ref (A 4 0)), (1, .ref q), (0, .ref b)]) rfl ?_
    refine J_iload C 0 dL_law_135 rfl ?_
    refine J_iconst C (v := 1) dL_law_137 rfl ?_
    refine J_iadd C dL_law_138 ?_
    refine J_bipush C (v := 6) dL_law_139 rfl ?_
    refine J_icmp_ge_y C 456 (show iN 2 + 1 < 6 by decide) dL_law_141 rfl ?_
    refine J_iload_n C 1 dL_law_144 rfl ?_
    refine J_if_eq_n C 456 (by decide) dL_law_145 rfl ?_
    refine J_iload C 0 dL_law_148 rfl ?_
    refine J_iconst C (v := 2) dL_law_150 rfl ?_
    refine J_icmp_eq_y C 204 rfl dL_law_151 rfl ?_
    refine J_sub [0, 1, 2, 3, 4] (lv' := [(4, .int (iN 2)), (3, .int 1), (2, .ref (A 4 0)), (1, .ref q), (0, .ref b)]) rfl ?_
    refine lw_part C Yc (by omega) (by omega) hg (by decide) hS2 (by decide) (fun Y3 M3 hS3 => ?_)
    refine J_iload C 0 dL_law_324 rfl ?_
    refine J_iconst C (v := 4) dL_law_326 rfl ?_
    refine J_icmp_lt_y C 450 (show iN 2 < 4 by decide) dL_law_327 rfl ?_
    refine J_iinc C 0 (w := (iN 4)) (lv' := [(4, .int (iN 4)), (3, .int 1), (2, .ref (A 4 0)), (1, .ref q), (0, .ref b)]) dL_law_450 rfl rfl (by decide) rfl ?_
    refine J_goto C 135 dL_law_453 rfl ?_
    refine J_sub [0, 1, 2, 3, 4] (lv' := [(4, .int (iN 4)), (3, .int 1), (2, .ref (A 4 0)), (1, .ref q), (0, .ref b)]) rfl ?_
    refine J_iload C 0 dL_law_135 rfl ?_
    refine J_iconst C (v := 1) dL_law_137 rfl ?_
    refine J_iadd C dL_law_138 ?_
    refine J_bipush C (v := 6) dL_law_139 rfl ?_
    refine J_icmp_ge_y C 456 (show iN 4 + 1 < 6 by decide) dL_law_141 rfl ?_
    refine J_iload_n C 1 dL_law_144 rfl ?_
    refine J_if_eq_n C 456 (by decide) dL_law_145 rfl ?_
    refine J_iload C 0 dL_law_148 rfl ?_
    refine J_iconst C (v := 2) dL_law_150 rfl ?_
    refine J_icmp_eq_n C 204 (show ¬ iN 4 = 2 by decide) dL_law_151 rfl ?_
    refine J_sub [0, 1, 2, 3, 4] (lv' := [(4, .int (iN 4)), (3, .int 1), (2, .ref (A 4 0)), (1, .ref q), (0, .ref b)]) rfl ?_
    refine lw_load C Yc (by omega) (by omega) hg (by decide) hS3 (fun Y4 M4 hS4 => ?_)
    refine lw_part C Yc (by omega) (by omega) hg (by decide) hS4 (by decide) (fun Y5 M5 hS5 => ?_)
    refine lw_end C Yc (by omega) (by omega) hS5 (by decide) (fun ws => ?_)
    refine J_iinc C 0 (w := (iN 6)) (lv' := [(4, .int (iN 6)), (3, .int 1), (2, .ref (A 4 0)), (1, .ref q), (0, .ref b)]) dL_law_450 rfl rfl (by decide) rfl ?_
    refine J_goto C 135 dL_law_453 rfl ?_
    refine J_iload C 0 dL_law_135 rfl ?_
    refine J_iconst C (v := 1) dL_law_137 rfl ?_
    refine J_iadd C dL_law_138 ?_
    refine J_bipush C (v := 6) dL_law_139 rfl ?_
    refine J_icmp_ge_n C 456 (show ¬ iN 6 + 1 < 6 by decide) dL_law_141 rfl ?_
    refine J_iload_n C 1 dL_law_456 rfl ?_
    exact J_widen (by omega) (by omega) (kf _ _)
  have k34 : ∀ q (g : Nat → Int32) i, (∀ i, i < 6 → ∃ w, w < 2147483648 ∧ g i = iN w) → J l K Γ Q 1 6 [cI K q 6 g] 34 9 [(2, .int (iN i)), (1, .ref q), (0, .ref b)] [] := by
    intro q g i hg
    refine J_new C Yc 9 [.null, .null, .null, .null, .null, .null, .null, .int 0] tyX9 dL_law_34 inlX9 tyX9_ok ul_L_18 ua_X9 un_X9 rfl (fun j hj => by rcases (show j = 0 ∨ j = 1 ∨ j = 2 ∨ j = 3 ∨ j = 4 ∨ j = 5 ∨ j = 6 ∨ j = 7 by omega) with rfl | rfl | rfl | rfl | rfl | rfl | rfl | rfl <;> rfl) (by omega) (by omega) (fun q2 => ?_)
    refine J_dup C dL_law_37 rfl ?_
    refine J_callI (host := "") C Yc kd_X9_init rfl ui_X9_init um_L_175 (Ca.right _ (c_X9_init l K q2)) dL_law_38 rfl rfl (by decide) (Nat.le_of_ble_eq_true rfl) (by omega) (by omega) (fun v => ?_)
    obtain ⟨A, hA⟩ := v
    subst hA
    obtain ⟨Y3, d1, h3⟩ := done0 St0 (by decide)
    obtain ⟨Y4, d2, h4⟩ := come0 h3 (by decide)
    refine J_astore_n C (lv' := [(2, .ref (A 4 0)), (1, .ref q), (0, .ref b)]) dL_law_41 (by decide) rfl ?_
    refine J_aload_n C 0 dL_law_42 rfl ?_
    refine x_undo C Yc (by omega) (by omega) [cI K q 6 g] (w := (-1)) undo0 dL_law_43 (Nat.le_of_ble_eq_true rfl) (Nat.le_of_ble_eq_true rfl) ?_
    refine J_iconst C (v := -1) dL_law_46 rfl ?_
    refine J_icmp_ne_y C 130 rfl dL_law_47 rfl ?_
    refine J_aload_n C 0 dL_law_50 rfl ?_
    refine J_iconst C (v := 0) dL_law_51 rfl ?_
    refine x_value C Yc (by omega) (by omega) [cI K q 6 g] (w := 6) val0_0 dL_law_52 (Nat.le_of_ble_eq_true rfl) (Nat.le_of_ble_eq_true rfl) ?_
    refine J_bipush C (v := 6) dL_law_55 rfl ?_
    refine J_icmp_ne_y C 130 rfl dL_law_57 rfl ?_
    refine J_aload_n C 0 dL_law_60 rfl ?_
    refine J_iconst C (v := 1) dL_law_61 rfl ?_
    refine x_value C Yc (by omega) (by omega) [cI K q 6 g] (w := 10) val0_1 dL_law_62 (Nat.le_of_ble_eq_true rfl) (Nat.le_of_ble_eq_true rfl) ?_
    refine J_bipush C (v := 10) dL_law_65 rfl ?_
    refine J_icmp_ne_y C 130 rfl dL_law_67 rfl ?_
    refine J_aload_n C 0 dL_law_70 rfl ?_
    refine J_iconst C (v := 2) dL_law_71 rfl ?_
    refine x_value C Yc (by omega) (by omega) [cI K q 6 g] (w := 30) val0_2 dL_law_72 (Nat.le_of_ble_eq_true rfl) (Nat.le_of_ble_eq_true rfl) ?_
    refine J_bipush C (v := 30) dL_law_75 rfl ?_
    refine J_icmp_ne_y C 130 rfl dL_law_77 rfl ?_
    refine J_aload_n C 0 dL_law_80 rfl ?_
    refine x_round C Yc (by omega) (by omega) [cI K q 6 g] (w := 6) rou0 dL_law_81 (Nat.le_of_ble_eq_true rfl) (Nat.le_of_ble_eq_true rfl) ?_
    refine J_bipush C (v := 6) dL_law_84 rfl ?_
    refine J_icmp_ne_y C 130 rfl dL_law_86 rfl ?_
    refine J_aload_n C 0 dL_law_89 rfl ?_
    refine x_winner C Yc (by omega) (by omega) [cI K q 6 g] (w := 1) win0 dL_law_90 (Nat.le_of_ble_eq_true rfl) (Nat.le_of_ble_eq_true rfl) ?_
    refine J_iconst C (v := 1) dL_law_93 rfl ?_
    refine J_icmp_ne_y C 130 rfl dL_law_94 rfl ?_
    refine J_aload_n C 0 dL_law_97 rfl ?_
    refine x_doneIn C Yc (by omega) (by omega) [cI K q 6 g] (w := 0) d1 dL_law_98 (Nat.le_of_ble_eq_true rfl) (Nat.le_of_ble_eq_true rfl) ?_
    refine J_if_ne_y C 130 rfl dL_law_101 rfl ?_
    refine J_aload_n C 0 dL_law_104 rfl ?_
    refine J_iconst C (v := 0) dL_law_105 rfl ?_
    refine x_comesIn C Yc (by omega) (by omega) [cI K q 6 g] (w := 0) d2 dL_law_106 (Nat.le_of_ble_eq_true rfl) (Nat.le_of_ble_eq_true rfl) ?_
    refine J_if_ne_y C 130 rfl dL_law_109 rfl ?_
    refine J_aload_n C 0 dL_law_112 rfl ?_
    refine J_crS (as := [.ref (A 4 0)]) C Yc kd_L_offices ut_L_offices um_L_176 (Cr.right [cI K q 6 g] (c_L_offices l K A h4 (by decide))) dL_law_113 rfl rfl ⟨(Nat.le_of_ble_eq_true rfl), (Nat.le_of_ble_eq_true rfl)⟩ (Nat.le_of_ble_eq_true rfl) (by omega) (by omega) (fun _ => ?_)
    refine J_if_eq_n C 130 (by decide) dL_law_116 rfl ?_
    refine J_aload_n C 0 dL_law_119 rfl ?_
    refine J_crS (as := [.ref (A 4 0)]) C Yc kd_L_minutes ut_L_minutes um_L_180 (Cr.right [cI K q 6 g] (c_L_minutes l K A h4 (by decide))) dL_law_120 rfl rfl ⟨(Nat.le_of_ble_eq_true rfl), (Nat.le_of_ble_eq_true rfl)⟩ (Nat.le_of_ble_eq_true rfl) (by omega) (by omega) (fun z => ?_)
    refine J_if_eq_n C 130 (by decide) dL_law_123 rfl ?_
    refine J_iconst C (v := 1) dL_law_126 rfl ?_
    refine J_goto C 131 dL_law_127 rfl ?_
    refine J_istore_n C (lv' := [(3, .int 1), (2, .ref (A 4 0)), (1, .ref q), (0, .ref b)]) dL_law_131 (by decide) rfl ?_
    refine J_iconst C (v := 0) dL_law_132 rfl ?_
    refine J_eqi (b := (iN 0)) rfl ?_
    refine J_istore C (lv' := [(4, .int (iN 0)), (3, .int 1), (2, .ref (A 4 0)), (1, .ref q), (0, .ref b)]) dL_law_133 (by decide) rfl ?_
    refine J_sub [0, 1, 2, 3, 4] (lv' := [(4, .int (iN 0)), (3, .int 1), (2, .ref (A 4 0)), (1, .ref q), (0, .ref b)]) rfl ?_
    exact J_widen (by omega) (by omega) (k135 A q g z.1 M0 hg z.2.2)
  have k7 : ∀ q d i (g : Nat → Int32), i + d = 6 → (∀ i, i < 6 → ∃ w, w < 2147483648 ∧ g i = iN w) → J l K Γ Q 1 6 [cI K q 6 g] 7 9 [(2, .int (iN i)), (1, .ref q), (0, .ref b)] [] := by
    intro q d
    induction d with
    | zero =>
      intro i g hi hg
      refine J_iload_n C 0 dL_law_7 rfl ?_
      refine J_bipush C (v := 6) dL_law_8 rfl ?_
      refine J_icmp_ge_n C 34 (iN_nlt' (b := 6) (by omega) (by omega)) dL_law_10 rfl ?_
      exact k34 q g i hg
    | succ d ih =>
      intro i g hi hg
      refine J_iload_n C 0 dL_law_7 rfl ?_
      refine J_bipush C (v := 6) dL_law_8 rfl ?_
      refine J_icmp_ge_y C 34 (iN_ylt' (b := 6) (by omega) (by decide)) dL_law_10 rfl ?_
      refine J_iload_n C 0 dL_law_13 rfl ?_
      refine J_aload_n C 2 dL_law_14 rfl ?_
      refine J_slen C Xx dL_law_15 ?_
      by_cases hl : i < L
      · obtain ⟨w, hw, ew⟩ := any_7f (xs i)
        refine J_icmp_ge_y C 34 (iN_ylt' hl (by omega)) dL_law_16 rfl ?_
        refine J_aload_n C 1 dL_law_19 rfl ?_
        refine J_iload_n C 0 dL_law_20 rfl ?_
        refine J_aload_n C 2 dL_law_21 rfl ?_
        refine J_iload_n C 0 dL_law_22 rfl ?_
        refine J_sld C Xx i rfl (by omega) hL dL_law_23 ?_
        refine J_ldc C (v := 2147483647) dL_law_24 uk_L_174 ?_
        refine J_iand C dL_law_26 ?_
        refine J_eqi (b := (iN w)) ew ?_
        refine J_isN C 0 i rfl (by omega) (by omega) (ws2 := [cI K q 6 (upd g i (iN w))]) rfl rfl dL_law_27 ?_
        refine J_iinc C 0 (w := (iN (i + 1))) (lv' := [(2, .int (iN (i + 1))), (1, .ref q), (0, .ref b)]) dL_law_28 rfl (iN_add _ _) (by decide) rfl ?_
        refine J_goto C 7 dL_law_31 rfl ?_
        refine J_sub [0, 1, 2] (lv' := [(2, .int (iN (i + 1))), (1, .ref q), (0, .ref b)]) rfl ?_
        refine ih (i + 1) (upd g i (iN w)) (by omega) (fun j hj => ?_)
        by_cases e : j = i
        · exact ⟨w, hw, by rw [e, upd_eq]⟩
        · rw [upd_ne e]
          exact hg j hj
      · refine J_icmp_ge_n C 34 (iN_nlt' (by omega) (by omega)) dL_law_16 rfl ?_
        exact k34 q g i hg
  refine J_bipush C (v := 6) dL_law_0 rfl ?_
  refine J_newI C Yc 6 dL_law_2 rfl (by decide) (by omega) (by omega) (fun q => ?_)
  refine J_astore_n C (lv' := [(1, .ref q), (0, .ref b)]) dL_law_4 (by decide) rfl ?_
  refine J_iconst C (v := 0) dL_law_5 rfl ?_
  refine J_eqi (b := (iN 0)) rfl ?_
  refine J_istore_n C (lv' := [(2, .int (iN 0)), (1, .ref q), (0, .ref b)]) dL_law_6 (by decide) rfl ?_
  refine J_sub [0, 1, 2] (lv' := [(2, .int (iN 0)), (1, .ref q), (0, .ref b)]) rfl ?_
  exact k7 q 6 0 (fun _ => 0) rfl (fun i _ => ⟨0, by decide, rfl⟩)
end LAWX
