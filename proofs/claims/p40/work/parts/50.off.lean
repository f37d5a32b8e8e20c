-- PART 50: the law's method offices
section LOFF
variable {l : Launch} {K : gK} {Γ : gT} {Q : State → Prop} {A : Nat → Nat → Nat} {B : Nat} {Y : RS} {M : NM}
theorem lo_tok {q : Nat} (C : Cx l K Γ RL cL_offices 18 (some .boolean) 13) (Yc : Cy Γ 1 10) (hS : St B Y M) (hB : B ≤ 1000000) (kf : J l K Γ Q 1 10 ([cI K q 10 (fun _ => 0)] ++ ro_W K A Y) 214 18 [(12, .int (iN (M 18 3))), (11, .int 1), (10, .int (iN (busN M (M 18 2 - 1)))), (9, .ref q), (8, .int 0), (7, .int (-2)), (6, .int 0), (5, .int 0), (4, .int 0), (3, .int 0), (2, .int (iN (M 18 3))), (1, .int (iN (M 18 2))), (0, .ref (A 4 0))] []) : ∀ d t, t + d = M 18 3 → J l K Γ Q 1 10 ([cI K q 10 (fun _ => 0)] ++ ro_W K A Y) 88 18 [(12, .int (iN (t))), (11, .int 1), (10, .int (iN (busN M (M 18 2 - 1)))), (9, .ref q), (8, .int 0), (7, .int (-2)), (6, .int 0), (5, .int 0), (4, .int 0), (3, .int 0), (2, .int (iN (M 18 3))), (1, .int (iN (M 18 2))), (0, .ref (A 4 0))] [] := by
  have c10 := hS.2.1.1.c10
  have c2 := hS.2.1.1.c2
  have t3 := hS.2.1.2.1.1
  intro d
  induction d with
  | zero =>
    intro t e
    rw [show t = M 18 3 by omega]
    refine J_iload C 0 dL_offices_88 rfl ?_
    refine J_iload_n C 10 dL_offices_90 rfl ?_
    refine J_icmp_ge_n C 214 (iN_nlt' (Nat.le_refl _) (by omega)) dL_offices_91 rfl ?_
    exact kf
  | succ d ih =>
    intro t e
    have ht : t < M 18 3 := by omega
    have TT := hS.2.1.2.1.2.2.1 t ht
    have hp : M 11 t < M 18 2 := TT.2.2.1
    have h12b : M 12 t ≤ 9 := TT.2.2.2.1
    have h13 := TT.2.2.2.2.1
    refine J_iload C 0 dL_offices_88 rfl ?_
    refine J_iload_n C 10 dL_offices_90 rfl ?_
    refine J_icmp_ge_y C 214 (iN_ylt' ht (by omega)) dL_offices_91 rfl ?_
    refine J_iload C 1 dL_offices_94 rfl ?_
    refine J_if_eq_n C 214 (by decide) dL_offices_96 rfl ?_
    refine J_aload_n C 12 dL_offices_99 rfl ?_
    refine J_iload C 0 dL_offices_100 rfl ?_
    refine J_iconst C (v := 1) dL_offices_102 rfl ?_
    refine x_token C Yc (Nat.le_of_ble_eq_true rfl) (Nat.le_of_ble_eq_true rfl) [cI K q 10 (fun _ => 0)] (w := (iN (M 11 t))) (hS.tok1 ht) dL_offices_103 (Nat.le_of_ble_eq_true rfl) (Nat.le_of_ble_eq_true rfl) ?_
    refine J_istore C (lv' := [(13, .int (iN (M 11 t))), (12, .int (iN (t))), (11, .int 1), (10, .int (iN (busN M (M 18 2 - 1)))), (9, .ref q), (8, .int 0), (7, .int (-2)), (6, .int 0), (5, .int 0), (4, .int 0), (3, .int 0), (2, .int (iN (M 18 3))), (1, .int (iN (M 18 2))), (0, .ref (A 4 0))]) dL_offices_106 (by decide) rfl ?_
    refine J_iload C 1 dL_offices_108 rfl ?_
    have k132 : J l K Γ Q 1 10 ([cI K q 10 (fun _ => 0)] ++ ro_W K A Y) 132 18 [(13, .int (iN (M 11 t))), (12, .int (iN (t))), (11, .int 1), (10, .int (iN (busN M (M 18 2 - 1)))), (9, .ref q), (8, .int 0), (7, .int (-2)), (6, .int 0), (5, .int 0), (4, .int 0), (3, .int 0), (2, .int (iN (M 18 3))), (1, .int (iN (M 18 2))), (0, .ref (A 4 0))] [] := by
      refine J_aload_n C 13 dL_offices_132 rfl ?_
      refine J_iload C 1 dL_offices_133 rfl ?_
      refine J_iconst C (v := 2) dL_offices_135 rfl ?_
      refine x_token C Yc (Nat.le_of_ble_eq_true rfl) (Nat.le_of_ble_eq_true rfl) [cI K q 10 (fun _ => 0)] (w := (iN (M 12 t))) (hS.tok2 ht) dL_offices_136 (Nat.le_of_ble_eq_true rfl) (Nat.le_of_ble_eq_true rfl) ?_
      have k189 : J l K Γ Q 1 10 ([cI K q 10 (fun _ => 0)] ++ ro_W K A Y) 189 18 [(13, .int (iN (M 11 t))), (12, .int (iN (t))), (11, .int 1), (10, .int (iN (busN M (M 18 2 - 1)))), (9, .ref q), (8, .int 0), (7, .int (-2)), (6, .int 0), (5, .int 0), (4, .int 0), (3, .int 0), (2, .int (iN (M 18 3))), (1, .int (iN (M 18 2))), (0, .ref (A 4 0))] [] := by
        refine J_aload_n C 13 dL_offices_189 rfl ?_
        refine J_iload C 1 dL_offices_190 rfl ?_
        refine J_iconst C (v := 4) dL_offices_192 rfl ?_
        refine x_token C Yc (Nat.le_of_ble_eq_true rfl) (Nat.le_of_ble_eq_true rfl) [cI K q 10 (fun _ => 0)] (w := (iN (M 14 t))) (hS.tok4 ht) dL_offices_193 (Nat.le_of_ble_eq_true rfl) (Nat.le_of_ble_eq_true rfl) ?_
        refine J_bipush C (v := 9) dL_offices_196 rfl ?_
        refine J_icmp_gt_n C 205 (iN_nlt' (a := 9) (b := M 14 t) TT.2.2.2.2.2.1 (by decide)) dL_offices_198 rfl ?_
        refine J_iconst C (v := 1) dL_offices_201 rfl ?_
        refine J_goto C 206 dL_offices_202 rfl ?_
        refine J_istore C (lv' := [(11, .int 1), (13, .int (iN (M 11 t))), (12, .int (iN (t))), (10, .int (iN (busN M (M 18 2 - 1)))), (9, .ref q), (8, .int 0), (7, .int (-2)), (6, .int 0), (5, .int 0), (4, .int 0), (3, .int 0), (2, .int (iN (M 18 3))), (1, .int (iN (M 18 2))), (0, .ref (A 4 0))]) dL_offices_206 (by decide) rfl ?_
        refine J_iinc C 2 (w := (iN ((t) + 1))) (lv' := [(12, .int (iN ((t) + 1))), (11, .int 1), (13, .int (iN (M 11 t))), (10, .int (iN (busN M (M 18 2 - 1)))), (9, .ref q), (8, .int 0), (7, .int (-2)), (6, .int 0), (5, .int 0), (4, .int 0), (3, .int 0), (2, .int (iN (M 18 3))), (1, .int (iN (M 18 2))), (0, .ref (A 4 0))]) dL_offices_208 rfl (iN_add _ _) (by decide) rfl ?_
        refine J_goto C 88 dL_offices_211 rfl ?_
        refine J_sub [0, 1, 3, 4, 5, 6, 7, 8, 9, 10, 11, 12, 13] (lv' := [(12, .int (iN ((t) + 1))), (11, .int 1), (10, .int (iN (busN M (M 18 2 - 1)))), (9, .ref q), (8, .int 0), (7, .int (-2)), (6, .int 0), (5, .int 0), (4, .int 0), (3, .int 0), (2, .int (iN (M 18 3))), (1, .int (iN (M 18 2))), (0, .ref (A 4 0))]) rfl ?_
        exact ih (t + 1) (by omega)
      by_cases h12 : M 12 t = 0
      · have h4 : M 4 (M 11 t) = 1 := TT.2.2.2.2.2.2.2.1 h12
        refine J_if_ne_y C 169 ((iN_0 (by omega)).mpr h12) dL_offices_139 rfl ?_
        refine J_aload_n C 13 dL_offices_142 rfl ?_
        refine J_iload C 0 dL_offices_143 rfl ?_
        refine J_bipush C (v := 6) dL_offices_145 rfl ?_
        refine x_office C Yc (Nat.le_of_ble_eq_true rfl) (Nat.le_of_ble_eq_true rfl) [cI K q 10 (fun _ => 0)] (w := (iN t)) ((hS.off6 hB hp).trans (by rw [stand_of hS.2.1.2.2.1 ht h12]; rfl)) dL_offices_147 (Nat.le_of_ble_eq_true rfl) (Nat.le_of_ble_eq_true rfl) ?_
        refine J_iload C 1 dL_offices_150 rfl ?_
        refine J_icmp_ne_y C 205 rfl dL_offices_152 rfl ?_
        refine J_aload_n C 13 dL_offices_155 rfl ?_
        refine J_iload C 0 dL_offices_156 rfl ?_
        refine J_iconst C (v := 2) dL_offices_158 rfl ?_
        refine x_office C Yc (Nat.le_of_ble_eq_true rfl) (Nat.le_of_ble_eq_true rfl) [cI K q 10 (fun _ => 0)] (w := 1) ((hS.off2 hp).trans (by rw [h4]; rfl)) dL_offices_159 (Nat.le_of_ble_eq_true rfl) (Nat.le_of_ble_eq_true rfl) ?_
        refine J_iconst C (v := 1) dL_offices_162 rfl ?_
        refine J_icmp_ne_y C 205 rfl dL_offices_163 rfl ?_
        refine J_goto C 189 dL_offices_166 rfl ?_
        exact k189
      · have hz := TT.2.2.2.2.2.2.1 h12
        refine J_if_ne_n C 169 (fun z => h12 ((iN_0 (by omega)).mp z)) dL_offices_139 rfl ?_
        refine J_aload_n C 13 dL_offices_169 rfl ?_
        refine J_iload C 1 dL_offices_170 rfl ?_
        refine J_iconst C (v := 3) dL_offices_172 rfl ?_
        refine x_token C Yc (Nat.le_of_ble_eq_true rfl) (Nat.le_of_ble_eq_true rfl) [cI K q 10 (fun _ => 0)] (w := 0) ((hS.tok3 ht).trans (by rw [hz.1]; rfl)) dL_offices_173 (Nat.le_of_ble_eq_true rfl) (Nat.le_of_ble_eq_true rfl) ?_
        refine J_if_ne_y C 205 rfl dL_offices_176 rfl ?_
        refine J_aload_n C 13 dL_offices_179 rfl ?_
        refine J_iload C 1 dL_offices_180 rfl ?_
        refine J_iconst C (v := 4) dL_offices_182 rfl ?_
        refine x_token C Yc (Nat.le_of_ble_eq_true rfl) (Nat.le_of_ble_eq_true rfl) [cI K q 10 (fun _ => 0)] (w := 0) ((hS.tok4 ht).trans (by rw [hz.2]; rfl)) dL_offices_183 (Nat.le_of_ble_eq_true rfl) (Nat.le_of_ble_eq_true rfl) ?_
        refine J_if_ne_y C 205 rfl dL_offices_186 rfl ?_
        exact k189
    rcases Nat.eq_zero_or_pos t with h0 | h0
    · refine J_if_eq_y C 132 ((iN_0 (by omega)).mpr h0) dL_offices_110 rfl ?_
      exact k132
    · refine J_if_eq_n C 132 (fun z => absurd ((iN_0 (by omega)).mp z) (by omega)) dL_offices_110 rfl ?_
      refine J_aload_n C 13 dL_offices_113 rfl ?_
      refine J_iload C 1 dL_offices_114 rfl ?_
      refine J_iconst C (v := 0) dL_offices_116 rfl ?_
      refine x_token C Yc (Nat.le_of_ble_eq_true rfl) (Nat.le_of_ble_eq_true rfl) [cI K q 10 (fun _ => 0)] (w := (iN (M 10 t))) (hS.tok0 ht) dL_offices_117 (Nat.le_of_ble_eq_true rfl) (Nat.le_of_ble_eq_true rfl) ?_
      refine J_aload_n C 13 dL_offices_120 rfl ?_
      refine J_iload C 1 dL_offices_121 rfl ?_
      refine J_iconst C (v := 1) dL_offices_123 rfl ?_
      refine J_isub C dL_offices_124 ?_
      refine J_eqi (b := (iN (t - 1))) (iN_1 h0) ?_
      refine J_iconst C (v := 0) dL_offices_125 rfl ?_
      refine x_token C Yc (Nat.le_of_ble_eq_true rfl) (Nat.le_of_ble_eq_true rfl) [cI K q 10 (fun _ => 0)] (w := (iN (M 10 (t - 1)))) (hS.tok0 (by omega)) dL_offices_126 (Nat.le_of_ble_eq_true rfl) (Nat.le_of_ble_eq_true rfl) ?_
      refine J_icmp_le_y C 205 (iN_ylt' (hS.2.1.2.1.2.2.2 (t - 1) t (by omega) ht) (by have := TT.2.1; have := hS.2.1.2.1.2.1; omega)) dL_offices_129 rfl ?_
      exact k132
theorem lo_que {q o : Nat} (C : Cx l K Γ RL cL_offices 18 (some .boolean) 13) (Yc : Cy Γ 1 10) (hS : St B Y M) (hB : B ≤ 1000000) (ho : o < M 18 2) (kf : J l K Γ Q 1 10 ([cI K q 10 (fun x => iN (toN M x (o + 1)))] ++ ro_W K A Y) 334 18 [(14, .int (iN (M 7 o))), (13, .int (iN (lenQ M o))), (12, .int (iN (o))), (11, .int 1), (10, .int (iN (busN M (M 18 2 - 1)))), (9, .ref q), (8, .int (iN (nsum (M 6) (o)))), (7, .int (iO (winN M (o)))), (6, .int (iN (nsum (M 2) (o)))), (5, .int (iN (nsum (lenQ M) (o)))), (4, .int (iN (nsum (M 7) (o)))), (3, .int (iN (nsum (M 4) (o)))), (2, .int (iN (M 18 3))), (1, .int (iN (M 18 2))), (0, .ref (A 4 0))] []) : ∀ d i, i + d = M 7 o → J l K Γ Q 1 10 ([cI K q 10 (fun x => iN (toN M x o + nsum (fun j => if M 8 (6 * o + j) = x then 1 else 0) (i)))] ++ ro_W K A Y) 234 18 [(14, .int (iN (i))), (13, .int (iN (nsum (fun j => M 9 (6 * o + j)) (i)))), (12, .int (iN (o))), (11, .int 1), (10, .int (iN (busN M (M 18 2 - 1)))), (9, .ref q), (8, .int (iN (nsum (M 6) (o)))), (7, .int (iO (winN M (o)))), (6, .int (iN (nsum (M 2) (o)))), (5, .int (iN (nsum (lenQ M) (o)))), (4, .int (iN (nsum (M 7) (o)))), (3, .int (iN (nsum (M 4) (o)))), (2, .int (iN (M 18 3))), (1, .int (iN (M 18 2))), (0, .ref (A 4 0))] [] := by
  have c10 := hS.2.1.1.c10
  have c2 := hS.2.1.1.c2
  have t3 := hS.2.1.2.1.1
  have w6 := hS.2.1.1.w6 ho
  intro d
  induction d with
  | zero =>
    intro i e
    rw [show i = M 7 o by omega]
    refine J_iload C 0 dL_offices_234 rfl ?_
    refine J_aload_n C 14 dL_offices_236 rfl ?_
    refine J_iload C 2 dL_offices_237 rfl ?_
    refine J_iconst C (v := 4) dL_offices_239 rfl ?_
    refine x_office C Yc (Nat.le_of_ble_eq_true rfl) (Nat.le_of_ble_eq_true rfl) [cI K q 10 (fun x => iN (toN M x o + nsum (fun j => if M 8 (6 * o + j) = x then 1 else 0) (M 7 o)))] (w := (iN (M 7 o))) (hS.off4 ho) dL_offices_240 (Nat.le_of_ble_eq_true rfl) (Nat.le_of_ble_eq_true rfl) ?_
    refine J_icmp_ge_n C 334 (iN_nlt' (Nat.le_refl _) (by omega)) dL_offices_243 rfl ?_
    exact kf
  | succ d ih =>
    intro i e
    have hi : i < M 7 o := by omega
    have hl := hS.2.1.1.let ho hi
    have hq := hS.que ho hi
    refine J_iload C 0 dL_offices_234 rfl ?_
    refine J_aload_n C 14 dL_offices_236 rfl ?_
    refine J_iload C 2 dL_offices_237 rfl ?_
    refine J_iconst C (v := 4) dL_offices_239 rfl ?_
    refine x_office C Yc (Nat.le_of_ble_eq_true rfl) (Nat.le_of_ble_eq_true rfl) [cI K q 10 (fun x => iN (toN M x o + nsum (fun j => if M 8 (6 * o + j) = x then 1 else 0) (i)))] (w := (iN (M 7 o))) (hS.off4 ho) dL_offices_240 (Nat.le_of_ble_eq_true rfl) (Nat.le_of_ble_eq_true rfl) ?_
    refine J_icmp_ge_y C 334 (iN_ylt' hi (by omega)) dL_offices_243 rfl ?_
    refine J_iload C 1 dL_offices_246 rfl ?_
    refine J_aload_n C 14 dL_offices_248 rfl ?_
    refine J_iload C 2 dL_offices_249 rfl ?_
    refine J_iload C 0 dL_offices_251 rfl ?_
    refine J_iconst C (v := 1) dL_offices_253 rfl ?_
    refine x_queue C Yc (Nat.le_of_ble_eq_true rfl) (Nat.le_of_ble_eq_true rfl) [cI K q 10 (fun x => iN (toN M x o + nsum (fun j => if M 8 (6 * o + j) = x then 1 else 0) (i)))] (w := (iN (M 9 (6 * o + i)))) hq.2 dL_offices_254 (Nat.le_of_ble_eq_true rfl) (Nat.le_of_ble_eq_true rfl) ?_
    refine J_iadd C dL_offices_257 ?_
    refine J_eqi (b := (iN (nsum (fun j => M 9 (6 * o + j)) (i + 1)))) (iN_add _ _) ?_
    refine J_istore C (lv' := [(13, .int (iN (nsum (fun j => M 9 (6 * o + j)) (i + 1)))), (14, .int (iN (i))), (12, .int (iN (o))), (11, .int 1), (10, .int (iN (busN M (M 18 2 - 1)))), (9, .ref q), (8, .int (iN (nsum (M 6) (o)))), (7, .int (iO (winN M (o)))), (6, .int (iN (nsum (M 2) (o)))), (5, .int (iN (nsum (lenQ M) (o)))), (4, .int (iN (nsum (M 7) (o)))), (3, .int (iN (nsum (M 4) (o)))), (2, .int (iN (M 18 3))), (1, .int (iN (M 18 2))), (0, .ref (A 4 0))]) dL_offices_258 (by decide) rfl ?_
    refine J_aload C 5 dL_offices_260 rfl ?_
    refine J_aload_n C 14 dL_offices_262 rfl ?_
    refine J_iload C 2 dL_offices_263 rfl ?_
    refine J_iload C 1 dL_offices_265 rfl ?_
    refine J_iconst C (v := 0) dL_offices_267 rfl ?_
    refine x_queue C Yc (Nat.le_of_ble_eq_true rfl) (Nat.le_of_ble_eq_true rfl) [cI K q 10 (fun x => iN (toN M x o + nsum (fun j => if M 8 (6 * o + j) = x then 1 else 0) (i)))] (w := (iN (M 8 (6 * o + i)))) hq.1 dL_offices_268 (Nat.le_of_ble_eq_true rfl) (Nat.le_of_ble_eq_true rfl) ?_
    refine J_dup2 C dL_offices_271 rfl rfl ?_
    refine J_iaN C 0 (M 8 (6 * o + i)) rfl (by omega) (by omega) rfl dL_offices_272 ?_
    refine J_eqi (b := (iN (toN M (M 8 (6 * o + i)) o + nsum (fun j => if M 8 (6 * o + j) = M 8 (6 * o + i) then 1 else 0) i))) rfl ?_
    refine J_iconst C (v := 1) dL_offices_273 rfl ?_
    refine J_iadd C dL_offices_274 ?_
    refine J_eqi (b := (iN (toN M (M 8 (6 * o + i)) o + nsum (fun j => if M 8 (6 * o + j) = M 8 (6 * o + i) then 1 else 0) i + 1))) (iN_s _) ?_
    refine J_isN C 0 (M 8 (6 * o + i)) rfl (by omega) (by omega) (ws2 := ([cI K q 10 (upd (fun x => iN (toN M x o + nsum (fun j => if M 8 (6 * o + j) = x then 1 else 0) (i))) (M 8 (6 * o + i)) (iN (toN M (M 8 (6 * o + i)) o + nsum (fun j => if M 8 (6 * o + j) = M 8 (6 * o + i) then 1 else 0) i + 1)))] ++ ro_W K A Y)) rfl rfl dL_offices_275 ?_
    refine J_fun (u := []) (v := ro_W K A Y) (g := fun x => iN (toN M x o + nsum (fun j => if M 8 (6 * o + j) = x then 1 else 0) (i + 1))) (fun x hx => ?_) ?_
    · show (if x = M 8 (6 * o + i) then _ else _) = iN (toN M x o + (nsum (fun j => if M 8 (6 * o + j) = x then 1 else 0) i + if M 8 (6 * o + i) = x then 1 else 0))
      by_cases hx2 : x = M 8 (6 * o + i)
      · rw [if_pos hx2, hx2, if_pos rfl]
        rfl
      · rw [if_neg hx2, if_neg (fun z => hx2 z.symm)]
        rfl
    refine J_iload C 3 dL_offices_276 rfl ?_
    refine J_if_eq_n C 325 (by decide) dL_offices_278 rfl ?_
    refine J_aload_n C 14 dL_offices_281 rfl ?_
    refine J_iload C 2 dL_offices_282 rfl ?_
    refine J_iload C 1 dL_offices_284 rfl ?_
    refine J_iconst C (v := 0) dL_offices_286 rfl ?_
    refine x_queue C Yc (Nat.le_of_ble_eq_true rfl) (Nat.le_of_ble_eq_true rfl) [cI K q 10 (fun x => iN (toN M x o + nsum (fun j => if M 8 (6 * o + j) = x then 1 else 0) (i + 1)))] (w := (iN (M 8 (6 * o + i)))) hq.1 dL_offices_287 (Nat.le_of_ble_eq_true rfl) (Nat.le_of_ble_eq_true rfl) ?_
    refine J_iload C 2 dL_offices_290 rfl ?_
    refine J_icmp_eq_n C 325 (iN_ne' hl.2.1 (by omega) (by omega)) dL_offices_292 rfl ?_
    refine J_iload C 1 dL_offices_295 rfl ?_
    have k321 : J l K Γ Q 1 10 ([cI K q 10 (fun x => iN (toN M x o + nsum (fun j => if M 8 (6 * o + j) = x then 1 else 0) (i + 1)))] ++ ro_W K A Y) 321 18 [(13, .int (iN (nsum (fun j => M 9 (6 * o + j)) (i + 1)))), (14, .int (iN (i))), (12, .int (iN (o))), (11, .int 1), (10, .int (iN (busN M (M 18 2 - 1)))), (9, .ref q), (8, .int (iN (nsum (M 6) (o)))), (7, .int (iO (winN M (o)))), (6, .int (iN (nsum (M 2) (o)))), (5, .int (iN (nsum (lenQ M) (o)))), (4, .int (iN (nsum (M 7) (o)))), (3, .int (iN (nsum (M 4) (o)))), (2, .int (iN (M 18 3))), (1, .int (iN (M 18 2))), (0, .ref (A 4 0))] [] := by
      refine J_iconst C (v := 1) dL_offices_321 rfl ?_
      refine J_goto C 326 dL_offices_322 rfl ?_
      refine J_istore C (lv' := [(11, .int 1), (13, .int (iN (nsum (fun j => M 9 (6 * o + j)) (i + 1)))), (14, .int (iN (i))), (12, .int (iN (o))), (10, .int (iN (busN M (M 18 2 - 1)))), (9, .ref q), (8, .int (iN (nsum (M 6) (o)))), (7, .int (iO (winN M (o)))), (6, .int (iN (nsum (M 2) (o)))), (5, .int (iN (nsum (lenQ M) (o)))), (4, .int (iN (nsum (M 7) (o)))), (3, .int (iN (nsum (M 4) (o)))), (2, .int (iN (M 18 3))), (1, .int (iN (M 18 2))), (0, .ref (A 4 0))]) dL_offices_326 (by decide) rfl ?_
      refine J_iinc C 2 (w := (iN ((i) + 1))) (lv' := [(14, .int (iN ((i) + 1))), (11, .int 1), (13, .int (iN (nsum (fun j => M 9 (6 * o + j)) (i + 1)))), (12, .int (iN (o))), (10, .int (iN (busN M (M 18 2 - 1)))), (9, .ref q), (8, .int (iN (nsum (M 6) (o)))), (7, .int (iO (winN M (o)))), (6, .int (iN (nsum (M 2) (o)))), (5, .int (iN (nsum (lenQ M) (o)))), (4, .int (iN (nsum (M 7) (o)))), (3, .int (iN (nsum (M 4) (o)))), (2, .int (iN (M 18 3))), (1, .int (iN (M 18 2))), (0, .ref (A 4 0))]) dL_offices_328 rfl (iN_add _ _) (by decide) rfl ?_
      refine J_goto C 234 dL_offices_331 rfl ?_
      refine J_sub [0, 2, 3, 1, 4, 5, 6, 7, 8, 9, 10, 11, 12, 13, 14] (lv' := [(14, .int (iN ((i) + 1))), (13, .int (iN (nsum (fun j => M 9 (6 * o + j)) (i + 1)))), (12, .int (iN (o))), (11, .int 1), (10, .int (iN (busN M (M 18 2 - 1)))), (9, .ref q), (8, .int (iN (nsum (M 6) (o)))), (7, .int (iO (winN M (o)))), (6, .int (iN (nsum (M 2) (o)))), (5, .int (iN (nsum (lenQ M) (o)))), (4, .int (iN (nsum (M 7) (o)))), (3, .int (iN (nsum (M 4) (o)))), (2, .int (iN (M 18 3))), (1, .int (iN (M 18 2))), (0, .ref (A 4 0))]) rfl ?_
      exact ih (i + 1) (by omega)
    rcases Nat.eq_zero_or_pos i with h0 | h0
    · refine J_if_eq_y C 321 ((iN_0 (by omega)).mpr h0) dL_offices_297 rfl ?_
      exact k321
    · refine J_if_eq_n C 321 (fun z => absurd ((iN_0 (by omega)).mp z) (by omega)) dL_offices_297 rfl ?_
      refine J_aload_n C 14 dL_offices_300 rfl ?_
      refine J_iload C 2 dL_offices_301 rfl ?_
      refine J_iload C 1 dL_offices_303 rfl ?_
      refine J_iconst C (v := 2) dL_offices_305 rfl ?_
      refine x_queue C Yc (Nat.le_of_ble_eq_true rfl) (Nat.le_of_ble_eq_true rfl) [cI K q 10 (fun x => iN (toN M x o + nsum (fun j => if M 8 (6 * o + j) = x then 1 else 0) (i + 1)))] (w := (iN (M 9 (6 * o + i)))) ((hS.que2 hB ho hi).trans (by rw [if_neg (by omega)])) dL_offices_306 (Nat.le_of_ble_eq_true rfl) (Nat.le_of_ble_eq_true rfl) ?_
      refine J_aload_n C 14 dL_offices_309 rfl ?_
      refine J_iload C 2 dL_offices_310 rfl ?_
      refine J_iload C 1 dL_offices_312 rfl ?_
      refine J_iconst C (v := 1) dL_offices_314 rfl ?_
      refine x_queue C Yc (Nat.le_of_ble_eq_true rfl) (Nat.le_of_ble_eq_true rfl) [cI K q 10 (fun x => iN (toN M x o + nsum (fun j => if M 8 (6 * o + j) = x then 1 else 0) (i + 1)))] (w := (iN (M 9 (6 * o + i)))) hq.2 dL_offices_315 (Nat.le_of_ble_eq_true rfl) (Nat.le_of_ble_eq_true rfl) ?_
      refine J_icmp_ne_y C 325 rfl dL_offices_318 rfl ?_
      exact k321
theorem lo_off {q : Nat} (C : Cx l K Γ RL cL_offices 18 (some .boolean) 13) (Yc : Cy Γ 1 10) (hS : St B Y M) (hB : B ≤ 1000000) (kf : J l K Γ Q 1 10 ([cI K q 10 (fun x => iN (toN M x (M 18 2)))] ++ ro_W K A Y) 702 18 [(12, .int (iN (M 18 2))), (11, .int 1), (10, .int (iN (busN M (M 18 2 - 1)))), (9, .ref q), (8, .int (iN (nsum (M 6) (M 18 2)))), (7, .int (iO (winN M (M 18 2)))), (6, .int (iN (nsum (M 2) (M 18 2)))), (5, .int (iN (nsum (lenQ M) (M 18 2)))), (4, .int (iN (nsum (M 7) (M 18 2)))), (3, .int (iN (nsum (M 4) (M 18 2)))), (2, .int (iN (M 18 3))), (1, .int (iN (M 18 2))), (0, .ref (A 4 0))] []) : ∀ d o, o + d = M 18 2 → J l K Γ Q 1 10 ([cI K q 10 (fun x => iN (toN M x (o)))] ++ ro_W K A Y) 217 18 [(12, .int (iN (o))), (11, .int 1), (10, .int (iN (busN M (M 18 2 - 1)))), (9, .ref q), (8, .int (iN (nsum (M 6) (o)))), (7, .int (iO (winN M (o)))), (6, .int (iN (nsum (M 2) (o)))), (5, .int (iN (nsum (lenQ M) (o)))), (4, .int (iN (nsum (M 7) (o)))), (3, .int (iN (nsum (M 4) (o)))), (2, .int (iN (M 18 3))), (1, .int (iN (M 18 2))), (0, .ref (A 4 0))] [] := by
  have c10 := hS.2.1.1.c10
  have c2 := hS.2.1.1.c2
  have t3 := hS.2.1.2.1.1
  obtain ⟨r1, r2, r3, r4, r5, r6⟩ := hS.2.1.2.2.2.2.2
  intro d
  induction d with
  | zero =>
    intro o e
    rw [show o = M 18 2 by omega]
    refine J_iload C 0 dL_offices_217 rfl ?_
    refine J_iload_n C 11 dL_offices_219 rfl ?_
    refine J_icmp_ge_n C 702 (iN_nlt' (Nat.le_refl _) (by omega)) dL_offices_220 rfl ?_
    exact kf
  | succ d ih =>
    intro o e
    have ho : o < M 18 2 := by omega
    have w6 := hS.2.1.1.w6 ho
    have l9 := left_lt (o := o) hS.2.1
    have hop := hS.2.1.1.op ho
    have b5 := hS.2.1.2.2.2.1.2.2.1 o ho
    have hlq := lenQ_le hS.2.1.1 ho
    have hbz := busN_le M (M 18 2 - 1)
    have hbm := busN_max M (M 18 2 - 1) o (by omega)
    have hbl := lenQ_le hS.2.1.1 (show busN M (M 18 2 - 1) < M 18 2 by omega)
    refine J_iload C 0 dL_offices_217 rfl ?_
    refine J_iload_n C 11 dL_offices_219 rfl ?_
    refine J_icmp_ge_y C 702 (iN_ylt' ho (by omega)) dL_offices_220 rfl ?_
    refine J_iload C 1 dL_offices_223 rfl ?_
    refine J_if_eq_n C 702 (by decide) dL_offices_225 rfl ?_
    refine J_iconst C (v := 0) dL_offices_228 rfl ?_
    refine J_istore C (lv' := [(13, .int 0), (12, .int (iN (o))), (11, .int 1), (10, .int (iN (busN M (M 18 2 - 1)))), (9, .ref q), (8, .int (iN (nsum (M 6) (o)))), (7, .int (iO (winN M (o)))), (6, .int (iN (nsum (M 2) (o)))), (5, .int (iN (nsum (lenQ M) (o)))), (4, .int (iN (nsum (M 7) (o)))), (3, .int (iN (nsum (M 4) (o)))), (2, .int (iN (M 18 3))), (1, .int (iN (M 18 2))), (0, .ref (A 4 0))]) dL_offices_229 (by decide) rfl ?_
    refine J_iconst C (v := 0) dL_offices_231 rfl ?_
    refine J_istore C (lv' := [(14, .int 0), (13, .int 0), (12, .int (iN (o))), (11, .int 1), (10, .int (iN (busN M (M 18 2 - 1)))), (9, .ref q), (8, .int (iN (nsum (M 6) (o)))), (7, .int (iO (winN M (o)))), (6, .int (iN (nsum (M 2) (o)))), (5, .int (iN (nsum (lenQ M) (o)))), (4, .int (iN (nsum (M 7) (o)))), (3, .int (iN (nsum (M 4) (o)))), (2, .int (iN (M 18 3))), (1, .int (iN (M 18 2))), (0, .ref (A 4 0))]) dL_offices_232 (by decide) rfl ?_
    refine J_sub [0, 1, 2, 3, 4, 5, 6, 7, 8, 9, 10, 11, 12, 13, 14] (lv' := [(14, .int 0), (13, .int 0), (12, .int (iN (o))), (11, .int 1), (10, .int (iN (busN M (M 18 2 - 1)))), (9, .ref q), (8, .int (iN (nsum (M 6) (o)))), (7, .int (iO (winN M (o)))), (6, .int (iN (nsum (M 2) (o)))), (5, .int (iN (nsum (lenQ M) (o)))), (4, .int (iN (nsum (M 7) (o)))), (3, .int (iN (nsum (M 4) (o)))), (2, .int (iN (M 18 3))), (1, .int (iN (M 18 2))), (0, .ref (A 4 0))]) rfl ?_
    refine lo_que C Yc hS hB ho ?_ (M 7 o) 0 (by omega)
    refine J_iload_n C 11 dL_offices_334 rfl ?_
    refine J_aload_n C 14 dL_offices_335 rfl ?_
    refine J_iload C 2 dL_offices_336 rfl ?_
    refine J_iconst C (v := 2) dL_offices_338 rfl ?_
    refine x_office C Yc (Nat.le_of_ble_eq_true rfl) (Nat.le_of_ble_eq_true rfl) [cI K q 10 (fun x => iN (toN M x (o + 1)))] (w := (iN (M 4 o))) (hS.off2 ho) dL_offices_339 (Nat.le_of_ble_eq_true rfl) (Nat.le_of_ble_eq_true rfl) ?_
    refine J_iadd C dL_offices_342 ?_
    refine J_eqi (b := (iN (nsum (M 4) (o + 1)))) (iN_add _ _) ?_
    refine J_istore_n C (lv' := [(3, .int (iN (nsum (M 4) (o + 1)))), (14, .int (iN (M 7 o))), (13, .int (iN (lenQ M o))), (12, .int (iN (o))), (11, .int 1), (10, .int (iN (busN M (M 18 2 - 1)))), (9, .ref q), (8, .int (iN (nsum (M 6) (o)))), (7, .int (iO (winN M (o)))), (6, .int (iN (nsum (M 2) (o)))), (5, .int (iN (nsum (lenQ M) (o)))), (4, .int (iN (nsum (M 7) (o)))), (2, .int (iN (M 18 3))), (1, .int (iN (M 18 2))), (0, .ref (A 4 0))]) dL_offices_343 (by decide) rfl ?_
    refine J_iload C 11 dL_offices_344 rfl ?_
    refine J_aload_n C 14 dL_offices_346 rfl ?_
    refine J_iload C 3 dL_offices_347 rfl ?_
    refine J_iconst C (v := 4) dL_offices_349 rfl ?_
    refine x_office C Yc (Nat.le_of_ble_eq_true rfl) (Nat.le_of_ble_eq_true rfl) [cI K q 10 (fun x => iN (toN M x (o + 1)))] (w := (iN (M 7 o))) (hS.off4 ho) dL_offices_350 (Nat.le_of_ble_eq_true rfl) (Nat.le_of_ble_eq_true rfl) ?_
    refine J_iadd C dL_offices_353 ?_
    refine J_eqi (b := (iN (nsum (M 7) (o + 1)))) (iN_add _ _) ?_
    refine J_istore C (lv' := [(4, .int (iN (nsum (M 7) (o + 1)))), (3, .int (iN (nsum (M 4) (o + 1)))), (14, .int (iN (M 7 o))), (13, .int (iN (lenQ M o))), (12, .int (iN (o))), (11, .int 1), (10, .int (iN (busN M (M 18 2 - 1)))), (9, .ref q), (8, .int (iN (nsum (M 6) (o)))), (7, .int (iO (winN M (o)))), (6, .int (iN (nsum (M 2) (o)))), (5, .int (iN (nsum (lenQ M) (o)))), (2, .int (iN (M 18 3))), (1, .int (iN (M 18 2))), (0, .ref (A 4 0))]) dL_offices_354 (by decide) rfl ?_
    refine J_iload C 11 dL_offices_356 rfl ?_
    refine J_iload C 3 dL_offices_358 rfl ?_
    refine J_iadd C dL_offices_360 ?_
    refine J_eqi (b := (iN (nsum (lenQ M) (o + 1)))) (iN_add _ _) ?_
    refine J_istore C (lv' := [(5, .int (iN (nsum (lenQ M) (o + 1)))), (4, .int (iN (nsum (M 7) (o + 1)))), (3, .int (iN (nsum (M 4) (o + 1)))), (14, .int (iN (M 7 o))), (13, .int (iN (lenQ M o))), (12, .int (iN (o))), (11, .int 1), (10, .int (iN (busN M (M 18 2 - 1)))), (9, .ref q), (8, .int (iN (nsum (M 6) (o)))), (7, .int (iO (winN M (o)))), (6, .int (iN (nsum (M 2) (o)))), (2, .int (iN (M 18 3))), (1, .int (iN (M 18 2))), (0, .ref (A 4 0))]) dL_offices_361 (by decide) rfl ?_
    refine J_iload C 11 dL_offices_363 rfl ?_
    refine J_aload_n C 14 dL_offices_365 rfl ?_
    refine J_iload C 5 dL_offices_366 rfl ?_
    refine J_iconst C (v := 0) dL_offices_368 rfl ?_
    refine x_office C Yc (Nat.le_of_ble_eq_true rfl) (Nat.le_of_ble_eq_true rfl) [cI K q 10 (fun x => iN (toN M x (o + 1)))] (w := (iN (M 2 o))) (hS.off0 ho) dL_offices_369 (Nat.le_of_ble_eq_true rfl) (Nat.le_of_ble_eq_true rfl) ?_
    refine J_iadd C dL_offices_372 ?_
    refine J_eqi (b := (iN (nsum (M 2) (o + 1)))) (iN_add _ _) ?_
    refine J_istore C (lv' := [(6, .int (iN (nsum (M 2) (o + 1)))), (5, .int (iN (nsum (lenQ M) (o + 1)))), (4, .int (iN (nsum (M 7) (o + 1)))), (3, .int (iN (nsum (M 4) (o + 1)))), (14, .int (iN (M 7 o))), (13, .int (iN (lenQ M o))), (12, .int (iN (o))), (11, .int 1), (10, .int (iN (busN M (M 18 2 - 1)))), (9, .ref q), (8, .int (iN (nsum (M 6) (o)))), (7, .int (iO (winN M (o)))), (2, .int (iN (M 18 3))), (1, .int (iN (M 18 2))), (0, .ref (A 4 0))]) dL_offices_373 (by decide) rfl ?_
    refine J_iload C 10 dL_offices_375 rfl ?_
    refine J_aload_n C 14 dL_offices_377 rfl ?_
    refine J_iload C 6 dL_offices_378 rfl ?_
    refine J_bipush C (v := 7) dL_offices_380 rfl ?_
    refine x_office C Yc (Nat.le_of_ble_eq_true rfl) (Nat.le_of_ble_eq_true rfl) [cI K q 10 (fun x => iN (toN M x (o + 1)))] (w := (iN (M 6 o))) (hS.off7 ho) dL_offices_382 (Nat.le_of_ble_eq_true rfl) (Nat.le_of_ble_eq_true rfl) ?_
    refine J_iadd C dL_offices_385 ?_
    refine J_eqi (b := (iN (nsum (M 6) (o + 1)))) (iN_add _ _) ?_
    refine J_istore C (lv' := [(8, .int (iN (nsum (M 6) (o + 1)))), (6, .int (iN (nsum (M 2) (o + 1)))), (5, .int (iN (nsum (lenQ M) (o + 1)))), (4, .int (iN (nsum (M 7) (o + 1)))), (3, .int (iN (nsum (M 4) (o + 1)))), (14, .int (iN (M 7 o))), (13, .int (iN (lenQ M o))), (12, .int (iN (o))), (11, .int 1), (10, .int (iN (busN M (M 18 2 - 1)))), (9, .ref q), (7, .int (iO (winN M (o)))), (2, .int (iN (M 18 3))), (1, .int (iN (M 18 2))), (0, .ref (A 4 0))]) dL_offices_386 (by decide) rfl ?_
    refine J_aload_n C 14 dL_offices_388 rfl ?_
    refine J_iload C 7 dL_offices_389 rfl ?_
    refine J_iconst C (v := 2) dL_offices_391 rfl ?_
    refine x_office C Yc (Nat.le_of_ble_eq_true rfl) (Nat.le_of_ble_eq_true rfl) [cI K q 10 (fun x => iN (toN M x (o + 1)))] (w := (iN (M 4 o))) (hS.off2 ho) dL_offices_392 (Nat.le_of_ble_eq_true rfl) (Nat.le_of_ble_eq_true rfl) ?_
    refine J_iconst C (v := 1) dL_offices_395 rfl ?_
    have k425 : J l K Γ Q 1 10 ([cI K q 10 (fun x => iN (toN M x (o + 1)))] ++ ro_W K A Y) 425 18 [(7, .int (iO (winN M (o + 1)))), (13, .int (iN (lenQ M o))), (12, .int (iN (o))), (11, .int 1), (10, .int (iN (busN M (M 18 2 - 1)))), (9, .ref q), (8, .int (iN (nsum (M 6) (o + 1)))), (6, .int (iN (nsum (M 2) (o + 1)))), (5, .int (iN (nsum (lenQ M) (o + 1)))), (4, .int (iN (nsum (M 7) (o + 1)))), (3, .int (iN (nsum (M 4) (o + 1)))), (2, .int (iN (M 18 3))), (1, .int (iN (M 18 2))), (0, .ref (A 4 0))] [] := by
      refine J_aload_n C 13 dL_offices_425 rfl ?_
      refine J_iload C 2 dL_offices_426 rfl ?_
      refine J_bipush C (v := 6) dL_offices_428 rfl ?_
      refine x_office C Yc (Nat.le_of_ble_eq_true rfl) (Nat.le_of_ble_eq_true rfl) [cI K q 10 (fun x => iN (toN M x (o + 1)))] (w := (iO (stand M o))) (hS.off6 hB ho) dL_offices_430 (Nat.le_of_ble_eq_true rfl) (Nat.le_of_ble_eq_true rfl) ?_
      refine J_istore C (lv' := [(14, .int (iO (stand M o))), (7, .int (iO (winN M (o + 1)))), (13, .int (iN (lenQ M o))), (12, .int (iN (o))), (11, .int 1), (10, .int (iN (busN M (M 18 2 - 1)))), (9, .ref q), (8, .int (iN (nsum (M 6) (o + 1)))), (6, .int (iN (nsum (M 2) (o + 1)))), (5, .int (iN (nsum (lenQ M) (o + 1)))), (4, .int (iN (nsum (M 7) (o + 1)))), (3, .int (iN (nsum (M 4) (o + 1)))), (2, .int (iN (M 18 3))), (1, .int (iN (M 18 2))), (0, .ref (A 4 0))]) dL_offices_433 (by decide) rfl ?_
      refine J_iload C 0 dL_offices_435 rfl ?_
      have k451 : J l K Γ Q 1 10 ([cI K q 10 (fun x => iN (toN M x (o + 1)))] ++ ro_W K A Y) 451 18 [(14, .int (iO (stand M o))), (7, .int (iO (winN M (o + 1)))), (13, .int (iN (lenQ M o))), (12, .int (iN (o))), (11, .int 1), (10, .int (iN (busN M (M 18 2 - 1)))), (9, .ref q), (8, .int (iN (nsum (M 6) (o + 1)))), (6, .int (iN (nsum (M 2) (o + 1)))), (5, .int (iN (nsum (lenQ M) (o + 1)))), (4, .int (iN (nsum (M 7) (o + 1)))), (3, .int (iN (nsum (M 4) (o + 1)))), (2, .int (iN (M 18 3))), (1, .int (iN (M 18 2))), (0, .ref (A 4 0))] [.int (iN (leftN M o))] := by
        refine J_istore C (lv' := [(15, .int (iN (leftN M o))), (14, .int (iO (stand M o))), (7, .int (iO (winN M (o + 1)))), (13, .int (iN (lenQ M o))), (12, .int (iN (o))), (11, .int 1), (10, .int (iN (busN M (M 18 2 - 1)))), (9, .ref q), (8, .int (iN (nsum (M 6) (o + 1)))), (6, .int (iN (nsum (M 2) (o + 1)))), (5, .int (iN (nsum (lenQ M) (o + 1)))), (4, .int (iN (nsum (M 7) (o + 1)))), (3, .int (iN (nsum (M 4) (o + 1)))), (2, .int (iN (M 18 3))), (1, .int (iN (M 18 2))), (0, .ref (A 4 0))]) dL_offices_451 (by decide) rfl ?_
        refine J_aload_n C 15 dL_offices_453 rfl ?_
        refine J_iload C 4 dL_offices_454 rfl ?_
        refine J_iconst C (v := 4) dL_offices_456 rfl ?_
        refine x_office C Yc (Nat.le_of_ble_eq_true rfl) (Nat.le_of_ble_eq_true rfl) [cI K q 10 (fun x => iN (toN M x (o + 1)))] (w := (iN (M 7 o))) (hS.off4 ho) dL_offices_457 (Nat.le_of_ble_eq_true rfl) (Nat.le_of_ble_eq_true rfl) ?_
        have k475 : J l K Γ Q 1 10 ([cI K q 10 (fun x => iN (toN M x (o + 1)))] ++ ro_W K A Y) 475 18 [(15, .int (iN (leftN M o))), (14, .int (iO (stand M o))), (7, .int (iO (winN M (o + 1)))), (13, .int (iN (lenQ M o))), (12, .int (iN (o))), (11, .int 1), (10, .int (iN (busN M (M 18 2 - 1)))), (9, .ref q), (8, .int (iN (nsum (M 6) (o + 1)))), (6, .int (iN (nsum (M 2) (o + 1)))), (5, .int (iN (nsum (lenQ M) (o + 1)))), (4, .int (iN (nsum (M 7) (o + 1)))), (3, .int (iN (nsum (M 4) (o + 1)))), (2, .int (iN (M 18 3))), (1, .int (iN (M 18 2))), (0, .ref (A 4 0))] [.int (iN (if M 7 o = 0 then 0 else M 9 (6 * o)))] := by
          refine J_istore C (lv' := [(16, .int (iN (if M 7 o = 0 then 0 else M 9 (6 * o)))), (15, .int (iN (leftN M o))), (14, .int (iO (stand M o))), (7, .int (iO (winN M (o + 1)))), (13, .int (iN (lenQ M o))), (12, .int (iN (o))), (11, .int 1), (10, .int (iN (busN M (M 18 2 - 1)))), (9, .ref q), (8, .int (iN (nsum (M 6) (o + 1)))), (6, .int (iN (nsum (M 2) (o + 1)))), (5, .int (iN (nsum (lenQ M) (o + 1)))), (4, .int (iN (nsum (M 7) (o + 1)))), (3, .int (iN (nsum (M 4) (o + 1)))), (2, .int (iN (M 18 3))), (1, .int (iN (M 18 2))), (0, .ref (A 4 0))]) dL_offices_475 (by decide) rfl ?_
          refine J_iload C 1 dL_offices_477 rfl ?_
          have k564 : J l K Γ Q 1 10 ([cI K q 10 (fun x => iN (toN M x (o + 1)))] ++ ro_W K A Y) 564 18 [(16, .int (iN (if M 7 o = 0 then 0 else M 9 (6 * o)))), (15, .int (iN (leftN M o))), (14, .int (iO (stand M o))), (7, .int (iO (winN M (o + 1)))), (13, .int (iN (lenQ M o))), (12, .int (iN (o))), (11, .int 1), (10, .int (iN (busN M (M 18 2 - 1)))), (9, .ref q), (8, .int (iN (nsum (M 6) (o + 1)))), (6, .int (iN (nsum (M 2) (o + 1)))), (5, .int (iN (nsum (lenQ M) (o + 1)))), (4, .int (iN (nsum (M 7) (o + 1)))), (3, .int (iN (nsum (M 4) (o + 1)))), (2, .int (iN (M 18 3))), (1, .int (iN (M 18 2))), (0, .ref (A 4 0))] [.int (iN (whN M o))] := by
            refine J_istore C (lv' := [(17, .int (iN (whN M o))), (16, .int (iN (if M 7 o = 0 then 0 else M 9 (6 * o)))), (15, .int (iN (leftN M o))), (14, .int (iO (stand M o))), (7, .int (iO (winN M (o + 1)))), (13, .int (iN (lenQ M o))), (12, .int (iN (o))), (11, .int 1), (10, .int (iN (busN M (M 18 2 - 1)))), (9, .ref q), (8, .int (iN (nsum (M 6) (o + 1)))), (6, .int (iN (nsum (M 2) (o + 1)))), (5, .int (iN (nsum (lenQ M) (o + 1)))), (4, .int (iN (nsum (M 7) (o + 1)))), (3, .int (iN (nsum (M 4) (o + 1)))), (2, .int (iN (M 18 3))), (1, .int (iN (M 18 2))), (0, .ref (A 4 0))]) dL_offices_564 (by decide) rfl ?_
            refine J_iload C 7 dL_offices_566 rfl ?_
            refine J_if_eq_n C 693 (by decide) dL_offices_568 rfl ?_
            refine J_iload C 5 dL_offices_571 rfl ?_
            refine J_aload_n C 17 dL_offices_573 rfl ?_
            refine J_iload C 6 dL_offices_574 rfl ?_
            refine J_iconst C (v := 5) dL_offices_576 rfl ?_
            refine x_office C Yc (Nat.le_of_ble_eq_true rfl) (Nat.le_of_ble_eq_true rfl) [cI K q 10 (fun x => iN (toN M x (o + 1)))] (w := (iN (lenQ M o))) (hS.off5 ho) dL_offices_577 (Nat.le_of_ble_eq_true rfl) (Nat.le_of_ble_eq_true rfl) ?_
            refine J_icmp_ne_y C 693 rfl dL_offices_580 rfl ?_
            refine J_iload C 5 dL_offices_583 rfl ?_
            refine J_aload_n C 17 dL_offices_585 rfl ?_
            refine J_iload C 8 dL_offices_586 rfl ?_
            refine J_iconst C (v := 5) dL_offices_588 rfl ?_
            refine x_office C Yc (Nat.le_of_ble_eq_true rfl) (Nat.le_of_ble_eq_true rfl) [cI K q 10 (fun x => iN (toN M x (o + 1)))] (w := (iN (lenQ M (busN M (M 18 2 - 1))))) (hS.off5 (by omega)) dL_offices_589 (Nat.le_of_ble_eq_true rfl) (Nat.le_of_ble_eq_true rfl) ?_
            refine J_icmp_gt_n C 693 (iN_nlt' hbm (by omega)) dL_offices_592 rfl ?_
            refine J_aload_n C 17 dL_offices_595 rfl ?_
            refine J_iload C 6 dL_offices_596 rfl ?_
            refine x_why C Yc (Nat.le_of_ble_eq_true rfl) (Nat.le_of_ble_eq_true rfl) [cI K q 10 (fun x => iN (toN M x (o + 1)))] (w := (iN (whN M o))) (hS.why hB ho) dL_offices_598 (Nat.le_of_ble_eq_true rfl) (Nat.le_of_ble_eq_true rfl) ?_
            refine J_iload C 0 dL_offices_601 rfl ?_
            refine J_icmp_ne_y C 693 rfl dL_offices_603 rfl ?_
            refine J_iload C 3 dL_offices_606 rfl ?_
            have k633 : J l K Γ Q 1 10 ([cI K q 10 (fun x => iN (toN M x (o + 1)))] ++ ro_W K A Y) 633 18 [(17, .int (iN (whN M o))), (16, .int (iN (if M 7 o = 0 then 0 else M 9 (6 * o)))), (15, .int (iN (leftN M o))), (14, .int (iO (stand M o))), (7, .int (iO (winN M (o + 1)))), (13, .int (iN (lenQ M o))), (12, .int (iN (o))), (11, .int 1), (10, .int (iN (busN M (M 18 2 - 1)))), (9, .ref q), (8, .int (iN (nsum (M 6) (o + 1)))), (6, .int (iN (nsum (M 2) (o + 1)))), (5, .int (iN (nsum (lenQ M) (o + 1)))), (4, .int (iN (nsum (M 7) (o + 1)))), (3, .int (iN (nsum (M 4) (o + 1)))), (2, .int (iN (M 18 3))), (1, .int (iN (M 18 2))), (0, .ref (A 4 0))] [] := by
              refine J_iload C 2 dL_offices_633 rfl ?_
              have k670 : J l K Γ Q 1 10 ([cI K q 10 (fun x => iN (toN M x (o + 1)))] ++ ro_W K A Y) 670 18 [(17, .int (iN (whN M o))), (16, .int (iN (if M 7 o = 0 then 0 else M 9 (6 * o)))), (15, .int (iN (leftN M o))), (14, .int (iO (stand M o))), (7, .int (iO (winN M (o + 1)))), (13, .int (iN (lenQ M o))), (12, .int (iN (o))), (11, .int 1), (10, .int (iN (busN M (M 18 2 - 1)))), (9, .ref q), (8, .int (iN (nsum (M 6) (o + 1)))), (6, .int (iN (nsum (M 2) (o + 1)))), (5, .int (iN (nsum (lenQ M) (o + 1)))), (4, .int (iN (nsum (M 7) (o + 1)))), (3, .int (iN (nsum (M 4) (o + 1)))), (2, .int (iN (M 18 3))), (1, .int (iN (M 18 2))), (0, .ref (A 4 0))] [] := by
                refine J_aload_n C 17 dL_offices_670 rfl ?_
                refine J_iload C 6 dL_offices_671 rfl ?_
                refine J_aload_n C 17 dL_offices_673 rfl ?_
                refine J_iload C 6 dL_offices_674 rfl ?_
                refine J_iconst C (v := 4) dL_offices_676 rfl ?_
                refine x_office C Yc (Nat.le_of_ble_eq_true rfl) (Nat.le_of_ble_eq_true rfl) [cI K q 10 (fun x => iN (toN M x (o + 1)))] (w := (iN (M 7 o))) (hS.off4 ho) dL_offices_677 (Nat.le_of_ble_eq_true rfl) (Nat.le_of_ble_eq_true rfl) ?_
                refine J_iconst C (v := 0) dL_offices_680 rfl ?_
                refine x_queue C Yc (Nat.le_of_ble_eq_true rfl) (Nat.le_of_ble_eq_true rfl) [cI K q 10 (fun x => iN (toN M x (o + 1)))] (w := (-2)) (hS.queN ho) dL_offices_681 (Nat.le_of_ble_eq_true rfl) (Nat.le_of_ble_eq_true rfl) ?_
                refine J_bipush C (v := -2) dL_offices_684 rfl ?_
                refine J_icmp_ne_y C 693 rfl dL_offices_686 rfl ?_
                refine J_iconst C (v := 1) dL_offices_689 rfl ?_
                refine J_goto C 694 dL_offices_690 rfl ?_
                refine J_istore C (lv' := [(11, .int 1), (17, .int (iN (whN M o))), (16, .int (iN (if M 7 o = 0 then 0 else M 9 (6 * o)))), (15, .int (iN (leftN M o))), (14, .int (iO (stand M o))), (7, .int (iO (winN M (o + 1)))), (13, .int (iN (lenQ M o))), (12, .int (iN (o))), (10, .int (iN (busN M (M 18 2 - 1)))), (9, .ref q), (8, .int (iN (nsum (M 6) (o + 1)))), (6, .int (iN (nsum (M 2) (o + 1)))), (5, .int (iN (nsum (lenQ M) (o + 1)))), (4, .int (iN (nsum (M 7) (o + 1)))), (3, .int (iN (nsum (M 4) (o + 1)))), (2, .int (iN (M 18 3))), (1, .int (iN (M 18 2))), (0, .ref (A 4 0))]) dL_offices_694 (by decide) rfl ?_
                refine J_iinc C 7 (w := (iN ((o) + 1))) (lv' := [(12, .int (iN ((o) + 1))), (11, .int 1), (17, .int (iN (whN M o))), (16, .int (iN (if M 7 o = 0 then 0 else M 9 (6 * o)))), (15, .int (iN (leftN M o))), (14, .int (iO (stand M o))), (7, .int (iO (winN M (o + 1)))), (13, .int (iN (lenQ M o))), (10, .int (iN (busN M (M 18 2 - 1)))), (9, .ref q), (8, .int (iN (nsum (M 6) (o + 1)))), (6, .int (iN (nsum (M 2) (o + 1)))), (5, .int (iN (nsum (lenQ M) (o + 1)))), (4, .int (iN (nsum (M 7) (o + 1)))), (3, .int (iN (nsum (M 4) (o + 1)))), (2, .int (iN (M 18 3))), (1, .int (iN (M 18 2))), (0, .ref (A 4 0))]) dL_offices_696 rfl (iN_add _ _) (by decide) rfl ?_
                refine J_goto C 217 dL_offices_699 rfl ?_
                refine J_sub [0, 1, 8, 9, 10, 6, 11, 12, 13, 14, 15, 16, 17] (lv' := [(12, .int (iN ((o) + 1))), (11, .int 1), (10, .int (iN (busN M (M 18 2 - 1)))), (9, .ref q), (8, .int (iN (nsum (M 6) (o + 1)))), (7, .int (iO (winN M (o + 1)))), (6, .int (iN (nsum (M 2) (o + 1)))), (5, .int (iN (nsum (lenQ M) (o + 1)))), (4, .int (iN (nsum (M 7) (o + 1)))), (3, .int (iN (nsum (M 4) (o + 1)))), (2, .int (iN (M 18 3))), (1, .int (iN (M 18 2))), (0, .ref (A 4 0))]) rfl ?_
                exact ih (o + 1) (by omega)
              rcases Nat.eq_zero_or_pos (leftN M o) with hl | hl
              · refine J_if_eq_y C 670 ((iN_0 (by omega)).mpr hl) dL_offices_635 rfl ?_
                exact k670
              · have hst : ∃ t, stand M o = some t ∧ leftN M o = M 14 t := by
                  unfold leftN at hl ⊢
                  cases hs : stand M o with
                  | none => rw [hs] at hl; exact absurd hl (Nat.lt_irrefl 0)
                  | some t => exact ⟨t, rfl, rfl⟩
                obtain ⟨t, hs, e14⟩ := hst
                obtain ⟨s1, s2, s3, -⟩ := stN_some _ hs
                have q14 := (hS.2.1.2.1.2.2.1 t s1).2.2.2.2.2.2.2.2 (by omega)
                rw [s3] at q14
                have hl0 := hS.2.1.1.let ho (i := 0) (by omega)
                rw [Nat.add_zero] at hl0
                refine J_if_eq_n C 670 (fun z => absurd ((iN_0 (by omega)).mp z) (by omega)) dL_offices_635 rfl ?_
                refine J_iload C 1 dL_offices_638 rfl ?_
                refine J_iload C 2 dL_offices_640 rfl ?_
                refine J_icmp_lt_n C 693 (by rw [if_neg q14.1]; exact iN_nlt' (by omega) (by omega)) dL_offices_642 rfl ?_
                refine J_aload_n C 17 dL_offices_645 rfl ?_
                refine J_iload C 6 dL_offices_646 rfl ?_
                refine J_iconst C (v := 0) dL_offices_648 rfl ?_
                refine J_iconst C (v := 2) dL_offices_649 rfl ?_
                refine x_queue C Yc (Nat.le_of_ble_eq_true rfl) (Nat.le_of_ble_eq_true rfl) [cI K q 10 (fun x => iN (toN M x (o + 1)))] (w := (iN (leftN M o))) ((hS.que2 hB ho (i := 0) (by omega)).trans (by rw [if_pos ⟨rfl, hl⟩])) dL_offices_650 (Nat.le_of_ble_eq_true rfl) (Nat.le_of_ble_eq_true rfl) ?_
                refine J_iload C 2 dL_offices_653 rfl ?_
                refine J_icmp_ne_y C 693 rfl dL_offices_655 rfl ?_
                refine J_aload_n C 17 dL_offices_658 rfl ?_
                refine J_iload C 6 dL_offices_659 rfl ?_
                refine J_iconst C (v := 0) dL_offices_661 rfl ?_
                refine x_cancel C Yc (Nat.le_of_ble_eq_true rfl) (Nat.le_of_ble_eq_true rfl) [cI K q 10 (fun x => iN (toN M x (o + 1)))] (w := (-4)) (hS.cancel4 hB ho hl (by omega)) dL_offices_662 (Nat.le_of_ble_eq_true rfl) (Nat.le_of_ble_eq_true rfl) ?_
                refine J_bipush C (v := -4) dL_offices_665 rfl ?_
                refine J_icmp_ne_y C 693 rfl dL_offices_667 rfl ?_
                exact k670
            rcases opt_ways (stand M o) with hs | ⟨t, hs⟩
            · have hs := hs
              refine J_if_lt_y C 633 (by rw [hs]; decide) dL_offices_608 rfl ?_
              exact k633
            · have hs := hs
              have hst := stN_some _ hs
              obtain ⟨s1, s2, s3, -⟩ := hst
              refine J_if_lt_n C 633 (by rw [hs]; exact iN_neg (by omega)) dL_offices_608 rfl ?_
              refine J_leq (lv' := [(17, .int (iN (whN M o))), (16, .int (iN (if M 7 o = 0 then 0 else M 9 (6 * o)))), (15, .int (iN (leftN M o))), (14, .int (iN t)), (7, .int (iO (winN M (o + 1)))), (13, .int (iN (lenQ M o))), (12, .int (iN (o))), (11, .int 1), (10, .int (iN (busN M (M 18 2 - 1)))), (9, .ref q), (8, .int (iN (nsum (M 6) (o + 1)))), (6, .int (iN (nsum (M 2) (o + 1)))), (5, .int (iN (nsum (lenQ M) (o + 1)))), (4, .int (iN (nsum (M 7) (o + 1)))), (3, .int (iN (nsum (M 4) (o + 1)))), (2, .int (iN (M 18 3))), (1, .int (iN (M 18 2))), (0, .ref (A 4 0))]) (by rw [hs]; rfl) ?_
              refine J_aload_n C 17 dL_offices_611 rfl ?_
              refine J_iload C 3 dL_offices_612 rfl ?_
              refine J_iconst C (v := 1) dL_offices_614 rfl ?_
              refine x_token C Yc (Nat.le_of_ble_eq_true rfl) (Nat.le_of_ble_eq_true rfl) [cI K q 10 (fun x => iN (toN M x (o + 1)))] (w := (iN o)) ((hS.tok1 s1).trans (by rw [s3])) dL_offices_615 (Nat.le_of_ble_eq_true rfl) (Nat.le_of_ble_eq_true rfl) ?_
              refine J_iload C 6 dL_offices_618 rfl ?_
              refine J_icmp_ne_y C 693 rfl dL_offices_620 rfl ?_
              refine J_aload_n C 17 dL_offices_623 rfl ?_
              refine J_iload C 3 dL_offices_624 rfl ?_
              refine J_iconst C (v := 2) dL_offices_626 rfl ?_
              refine x_token C Yc (Nat.le_of_ble_eq_true rfl) (Nat.le_of_ble_eq_true rfl) [cI K q 10 (fun x => iN (toN M x (o + 1)))] (w := 0) ((hS.tok2 s1).trans (by rw [s2]; rfl)) dL_offices_627 (Nat.le_of_ble_eq_true rfl) (Nat.le_of_ble_eq_true rfl) ?_
              refine J_if_ne_y C 693 rfl dL_offices_630 rfl ?_
              refine J_leq (lv' := [(17, .int (iN (whN M o))), (16, .int (iN (if M 7 o = 0 then 0 else M 9 (6 * o)))), (15, .int (iN (leftN M o))), (14, .int (iO (stand M o))), (7, .int (iO (winN M (o + 1)))), (13, .int (iN (lenQ M o))), (12, .int (iN (o))), (11, .int 1), (10, .int (iN (busN M (M 18 2 - 1)))), (9, .ref q), (8, .int (iN (nsum (M 6) (o + 1)))), (6, .int (iN (nsum (M 2) (o + 1)))), (5, .int (iN (nsum (lenQ M) (o + 1)))), (4, .int (iN (nsum (M 7) (o + 1)))), (3, .int (iN (nsum (M 4) (o + 1)))), (2, .int (iN (M 18 3))), (1, .int (iN (M 18 2))), (0, .ref (A 4 0))]) (by rw [hs]; rfl) ?_
              exact k633
          by_cases hl : 0 < leftN M o
          · have hw : whN M o = 0 := if_pos hl
            rw [hw] at k564
            refine J_if_le_y C 486 ((iN_pos (by omega)).mpr hl) dL_offices_479 rfl ?_
            refine J_iconst C (v := 0) dL_offices_482 rfl ?_
            refine J_goto C 564 dL_offices_483 rfl ?_
            exact k564
          · have hl0 := Nat.eq_zero_of_not_pos hl
            by_cases h4 : M 4 o = 1
            · rcases opt_ways (stand M o) with hs | ⟨t, hs⟩
              · have hs := hs
                have hw : whN M o = 2 := by
                  unfold whN
                  rw [if_neg hl, if_neg (fun z => z h4), hs]
                rw [hw] at k564
                refine J_if_le_n C 486 (fun z => hl ((iN_pos (by omega)).mp z)) dL_offices_479 rfl ?_
                refine J_aload_n C 16 dL_offices_486 rfl ?_
                refine J_iload C 5 dL_offices_487 rfl ?_
                refine J_iconst C (v := 2) dL_offices_489 rfl ?_
                refine x_office C Yc (Nat.le_of_ble_eq_true rfl) (Nat.le_of_ble_eq_true rfl) [cI K q 10 (fun x => iN (toN M x (o + 1)))] (w := (iN (M 4 o))) (hS.off2 ho) dL_offices_490 (Nat.le_of_ble_eq_true rfl) (Nat.le_of_ble_eq_true rfl) ?_
                refine J_if_ne_n C 500 (by rw [h4]; decide) dL_offices_493 rfl ?_
                refine J_iload C 2 dL_offices_500 rfl ?_
                refine J_if_ge_y C 509 (by rw [hs]; decide) dL_offices_502 rfl ?_
                refine J_iconst C (v := 2) dL_offices_505 rfl ?_
                refine J_goto C 564 dL_offices_506 rfl ?_
                exact k564
              · have hs := hs
                obtain ⟨s1, s2, s3, -⟩ := stN_some _ hs
                have h13 := (hS.2.1.2.1.2.2.1 t s1).2.2.2.2.1
                have hw : whN M o = if M 7 o = 0 then 3 else if ¬ M 9 (6 * o) + M 13 t ≤ M 0 0 then 4 else if ¬ M 9 (6 * o) + M 5 o ≤ M 0 2 then 5 else 6 := by
                  unfold whN
                  rw [if_neg hl, if_neg (fun z => z h4), hs]
                by_cases h7 : M 7 o = 0
                · have hw6 : whN M o = 3 := by rw [hw, if_pos h7]
                  rw [hw6] at k564
                  refine J_if_le_n C 486 (fun z => hl ((iN_pos (by omega)).mp z)) dL_offices_479 rfl ?_
                  refine J_aload_n C 16 dL_offices_486 rfl ?_
                  refine J_iload C 5 dL_offices_487 rfl ?_
                  refine J_iconst C (v := 2) dL_offices_489 rfl ?_
                  refine x_office C Yc (Nat.le_of_ble_eq_true rfl) (Nat.le_of_ble_eq_true rfl) [cI K q 10 (fun x => iN (toN M x (o + 1)))] (w := (iN (M 4 o))) (hS.off2 ho) dL_offices_490 (Nat.le_of_ble_eq_true rfl) (Nat.le_of_ble_eq_true rfl) ?_
                  refine J_if_ne_n C 500 (by rw [h4]; decide) dL_offices_493 rfl ?_
                  refine J_iload C 2 dL_offices_500 rfl ?_
                  refine J_if_ge_n C 509 (by rw [hs]; exact iN_neg (by omega)) dL_offices_502 rfl ?_
                  refine J_iload C 0 dL_offices_509 rfl ?_
                  refine J_if_ne_y C 518 (by rw [if_pos h7]; rfl) dL_offices_511 rfl ?_
                  refine J_iconst C (v := 3) dL_offices_514 rfl ?_
                  refine J_goto C 564 dL_offices_515 rfl ?_
                  exact k564
                · have hl1 := hS.2.1.1.let ho (i := 0) (by omega)
                  rw [Nat.add_zero] at hl1
                  by_cases x1 : M 9 (6 * o) + M 13 t ≤ M 0 0
                  · by_cases x2 : M 9 (6 * o) + M 5 o ≤ M 0 2
                    · have hw6 : whN M o = 6 := by rw [hw, if_neg h7, if_neg (fun z => z x1), if_neg (fun z => z x2)]
                      rw [hw6] at k564
                      refine J_if_le_n C 486 (fun z => hl ((iN_pos (by omega)).mp z)) dL_offices_479 rfl ?_
                      refine J_aload_n C 16 dL_offices_486 rfl ?_
                      refine J_iload C 5 dL_offices_487 rfl ?_
                      refine J_iconst C (v := 2) dL_offices_489 rfl ?_
                      refine x_office C Yc (Nat.le_of_ble_eq_true rfl) (Nat.le_of_ble_eq_true rfl) [cI K q 10 (fun x => iN (toN M x (o + 1)))] (w := (iN (M 4 o))) (hS.off2 ho) dL_offices_490 (Nat.le_of_ble_eq_true rfl) (Nat.le_of_ble_eq_true rfl) ?_
                      refine J_if_ne_n C 500 (by rw [h4]; decide) dL_offices_493 rfl ?_
                      refine J_iload C 2 dL_offices_500 rfl ?_
                      refine J_if_ge_n C 509 (by rw [hs]; exact iN_neg (by omega)) dL_offices_502 rfl ?_
                      refine J_iload C 0 dL_offices_509 rfl ?_
                      refine J_if_ne_n C 518 (by rw [if_neg h7]; exact fun z => absurd ((iN_0 (by omega)).mp z) (by omega)) dL_offices_511 rfl ?_
                      refine J_iload C 0 dL_offices_518 rfl ?_
                      refine J_aload_n C 16 dL_offices_520 rfl ?_
                      refine J_iconst C (v := 0) dL_offices_521 rfl ?_
                      refine x_value C Yc (Nat.le_of_ble_eq_true rfl) (Nat.le_of_ble_eq_true rfl) [cI K q 10 (fun x => iN (toN M x (o + 1)))] (w := (iN (M 0 0))) hS.val0 dL_offices_522 (Nat.le_of_ble_eq_true rfl) (Nat.le_of_ble_eq_true rfl) ?_
                      refine J_aload_n C 16 dL_offices_525 rfl ?_
                      refine J_iload C 2 dL_offices_526 rfl ?_
                      refine J_iconst C (v := 3) dL_offices_528 rfl ?_
                      refine x_token C Yc (Nat.le_of_ble_eq_true rfl) (Nat.le_of_ble_eq_true rfl) [cI K q 10 (fun x => iN (toN M x (o + 1)))] (w := (iN (M 13 t))) (by rw [hs]; exact hS.tok3 s1) dL_offices_529 (Nat.le_of_ble_eq_true rfl) (Nat.le_of_ble_eq_true rfl) ?_
                      refine J_isub C dL_offices_532 ?_
                      refine J_icmp_le_n C 540 (by rw [if_neg h7]; exact fun z => absurd ((iN_sublt (by omega) (by omega) (by omega)).mp z) (by omega)) dL_offices_533 rfl ?_
                      refine J_iload C 0 dL_offices_540 rfl ?_
                      refine J_aload_n C 16 dL_offices_542 rfl ?_
                      refine J_iconst C (v := 2) dL_offices_543 rfl ?_
                      refine x_value C Yc (Nat.le_of_ble_eq_true rfl) (Nat.le_of_ble_eq_true rfl) [cI K q 10 (fun x => iN (toN M x (o + 1)))] (w := (iN (M 0 2))) hS.val2 dL_offices_544 (Nat.le_of_ble_eq_true rfl) (Nat.le_of_ble_eq_true rfl) ?_
                      refine J_aload_n C 16 dL_offices_547 rfl ?_
                      refine J_iload C 5 dL_offices_548 rfl ?_
                      refine J_iconst C (v := 3) dL_offices_550 rfl ?_
                      refine x_office C Yc (Nat.le_of_ble_eq_true rfl) (Nat.le_of_ble_eq_true rfl) [cI K q 10 (fun x => iN (toN M x (o + 1)))] (w := (iN (M 5 o))) (hS.off3 ho) dL_offices_551 (Nat.le_of_ble_eq_true rfl) (Nat.le_of_ble_eq_true rfl) ?_
                      refine J_isub C dL_offices_554 ?_
                      refine J_icmp_le_n C 562 (by rw [if_neg h7]; exact fun z => absurd ((iN_sublt (by omega) (by omega) (by omega)).mp z) (by omega)) dL_offices_555 rfl ?_
                      refine J_bipush C (v := 6) dL_offices_562 rfl ?_
                      exact k564
                    · have hw6 : whN M o = 5 := by rw [hw, if_neg h7, if_neg (fun z => z x1), if_pos x2]
                      rw [hw6] at k564
                      refine J_if_le_n C 486 (fun z => hl ((iN_pos (by omega)).mp z)) dL_offices_479 rfl ?_
                      refine J_aload_n C 16 dL_offices_486 rfl ?_
                      refine J_iload C 5 dL_offices_487 rfl ?_
                      refine J_iconst C (v := 2) dL_offices_489 rfl ?_
                      refine x_office C Yc (Nat.le_of_ble_eq_true rfl) (Nat.le_of_ble_eq_true rfl) [cI K q 10 (fun x => iN (toN M x (o + 1)))] (w := (iN (M 4 o))) (hS.off2 ho) dL_offices_490 (Nat.le_of_ble_eq_true rfl) (Nat.le_of_ble_eq_true rfl) ?_
                      refine J_if_ne_n C 500 (by rw [h4]; decide) dL_offices_493 rfl ?_
                      refine J_iload C 2 dL_offices_500 rfl ?_
                      refine J_if_ge_n C 509 (by rw [hs]; exact iN_neg (by omega)) dL_offices_502 rfl ?_
                      refine J_iload C 0 dL_offices_509 rfl ?_
                      refine J_if_ne_n C 518 (by rw [if_neg h7]; exact fun z => absurd ((iN_0 (by omega)).mp z) (by omega)) dL_offices_511 rfl ?_
                      refine J_iload C 0 dL_offices_518 rfl ?_
                      refine J_aload_n C 16 dL_offices_520 rfl ?_
                      refine J_iconst C (v := 0) dL_offices_521 rfl ?_
                      refine x_value C Yc (Nat.le_of_ble_eq_true rfl) (Nat.le_of_ble_eq_true rfl) [cI K q 10 (fun x => iN (toN M x (o + 1)))] (w := (iN (M 0 0))) hS.val0 dL_offices_522 (Nat.le_of_ble_eq_true rfl) (Nat.le_of_ble_eq_true rfl) ?_
                      refine J_aload_n C 16 dL_offices_525 rfl ?_
                      refine J_iload C 2 dL_offices_526 rfl ?_
                      refine J_iconst C (v := 3) dL_offices_528 rfl ?_
                      refine x_token C Yc (Nat.le_of_ble_eq_true rfl) (Nat.le_of_ble_eq_true rfl) [cI K q 10 (fun x => iN (toN M x (o + 1)))] (w := (iN (M 13 t))) (by rw [hs]; exact hS.tok3 s1) dL_offices_529 (Nat.le_of_ble_eq_true rfl) (Nat.le_of_ble_eq_true rfl) ?_
                      refine J_isub C dL_offices_532 ?_
                      refine J_icmp_le_n C 540 (by rw [if_neg h7]; exact fun z => absurd ((iN_sublt (by omega) (by omega) (by omega)).mp z) (by omega)) dL_offices_533 rfl ?_
                      refine J_iload C 0 dL_offices_540 rfl ?_
                      refine J_aload_n C 16 dL_offices_542 rfl ?_
                      refine J_iconst C (v := 2) dL_offices_543 rfl ?_
                      refine x_value C Yc (Nat.le_of_ble_eq_true rfl) (Nat.le_of_ble_eq_true rfl) [cI K q 10 (fun x => iN (toN M x (o + 1)))] (w := (iN (M 0 2))) hS.val2 dL_offices_544 (Nat.le_of_ble_eq_true rfl) (Nat.le_of_ble_eq_true rfl) ?_
                      refine J_aload_n C 16 dL_offices_547 rfl ?_
                      refine J_iload C 5 dL_offices_548 rfl ?_
                      refine J_iconst C (v := 3) dL_offices_550 rfl ?_
                      refine x_office C Yc (Nat.le_of_ble_eq_true rfl) (Nat.le_of_ble_eq_true rfl) [cI K q 10 (fun x => iN (toN M x (o + 1)))] (w := (iN (M 5 o))) (hS.off3 ho) dL_offices_551 (Nat.le_of_ble_eq_true rfl) (Nat.le_of_ble_eq_true rfl) ?_
                      refine J_isub C dL_offices_554 ?_
                      refine J_icmp_le_y C 562 (by rw [if_neg h7]; exact (iN_sublt (by omega) (by omega) (by omega)).mpr (by omega)) dL_offices_555 rfl ?_
                      refine J_iconst C (v := 5) dL_offices_558 rfl ?_
                      refine J_goto C 564 dL_offices_559 rfl ?_
                      exact k564
                  · have hw6 : whN M o = 4 := by rw [hw, if_neg h7, if_pos x1]
                    rw [hw6] at k564
                    refine J_if_le_n C 486 (fun z => hl ((iN_pos (by omega)).mp z)) dL_offices_479 rfl ?_
                    refine J_aload_n C 16 dL_offices_486 rfl ?_
                    refine J_iload C 5 dL_offices_487 rfl ?_
                    refine J_iconst C (v := 2) dL_offices_489 rfl ?_
                    refine x_office C Yc (Nat.le_of_ble_eq_true rfl) (Nat.le_of_ble_eq_true rfl) [cI K q 10 (fun x => iN (toN M x (o + 1)))] (w := (iN (M 4 o))) (hS.off2 ho) dL_offices_490 (Nat.le_of_ble_eq_true rfl) (Nat.le_of_ble_eq_true rfl) ?_
                    refine J_if_ne_n C 500 (by rw [h4]; decide) dL_offices_493 rfl ?_
                    refine J_iload C 2 dL_offices_500 rfl ?_
                    refine J_if_ge_n C 509 (by rw [hs]; exact iN_neg (by omega)) dL_offices_502 rfl ?_
                    refine J_iload C 0 dL_offices_509 rfl ?_
                    refine J_if_ne_n C 518 (by rw [if_neg h7]; exact fun z => absurd ((iN_0 (by omega)).mp z) (by omega)) dL_offices_511 rfl ?_
                    refine J_iload C 0 dL_offices_518 rfl ?_
                    refine J_aload_n C 16 dL_offices_520 rfl ?_
                    refine J_iconst C (v := 0) dL_offices_521 rfl ?_
                    refine x_value C Yc (Nat.le_of_ble_eq_true rfl) (Nat.le_of_ble_eq_true rfl) [cI K q 10 (fun x => iN (toN M x (o + 1)))] (w := (iN (M 0 0))) hS.val0 dL_offices_522 (Nat.le_of_ble_eq_true rfl) (Nat.le_of_ble_eq_true rfl) ?_
                    refine J_aload_n C 16 dL_offices_525 rfl ?_
                    refine J_iload C 2 dL_offices_526 rfl ?_
                    refine J_iconst C (v := 3) dL_offices_528 rfl ?_
                    refine x_token C Yc (Nat.le_of_ble_eq_true rfl) (Nat.le_of_ble_eq_true rfl) [cI K q 10 (fun x => iN (toN M x (o + 1)))] (w := (iN (M 13 t))) (by rw [hs]; exact hS.tok3 s1) dL_offices_529 (Nat.le_of_ble_eq_true rfl) (Nat.le_of_ble_eq_true rfl) ?_
                    refine J_isub C dL_offices_532 ?_
                    refine J_icmp_le_y C 540 (by rw [if_neg h7]; exact (iN_sublt (by omega) (by omega) (by omega)).mpr (by omega)) dL_offices_533 rfl ?_
                    refine J_iconst C (v := 4) dL_offices_536 rfl ?_
                    refine J_goto C 564 dL_offices_537 rfl ?_
                    exact k564
            · have hw : whN M o = 1 := by
                unfold whN
                rw [if_neg hl, if_pos h4]
              rw [hw] at k564
              refine J_if_le_n C 486 (fun z => hl ((iN_pos (by omega)).mp z)) dL_offices_479 rfl ?_
              refine J_aload_n C 16 dL_offices_486 rfl ?_
              refine J_iload C 5 dL_offices_487 rfl ?_
              refine J_iconst C (v := 2) dL_offices_489 rfl ?_
              refine x_office C Yc (Nat.le_of_ble_eq_true rfl) (Nat.le_of_ble_eq_true rfl) [cI K q 10 (fun x => iN (toN M x (o + 1)))] (w := (iN (M 4 o))) (hS.off2 ho) dL_offices_490 (Nat.le_of_ble_eq_true rfl) (Nat.le_of_ble_eq_true rfl) ?_
              refine J_if_ne_y C 500 ((iN_0 (by omega)).mpr (by omega)) dL_offices_493 rfl ?_
              refine J_iconst C (v := 1) dL_offices_496 rfl ?_
              refine J_goto C 564 dL_offices_497 rfl ?_
              exact k564
        by_cases h7 : M 7 o = 0
        · rw [if_pos h7] at k475
          refine J_if_le_n C 474 (fun z => absurd ((iN_pos (by omega)).mp z) (by omega)) dL_offices_460 rfl ?_
          refine J_iconst C (v := 0) dL_offices_474 rfl ?_
          exact k475
        · rw [if_neg h7] at k475
          refine J_if_le_y C 474 ((iN_pos (by omega)).mpr (by omega)) dL_offices_460 rfl ?_
          refine J_aload_n C 15 dL_offices_463 rfl ?_
          refine J_iload C 4 dL_offices_464 rfl ?_
          refine J_iconst C (v := 0) dL_offices_466 rfl ?_
          refine J_iconst C (v := 1) dL_offices_467 rfl ?_
          refine x_queue C Yc (Nat.le_of_ble_eq_true rfl) (Nat.le_of_ble_eq_true rfl) [cI K q 10 (fun x => iN (toN M x (o + 1)))] (w := (iN (M 9 (6 * o)))) (hS.que ho (i := 0) (by omega)).2 dL_offices_468 (Nat.le_of_ble_eq_true rfl) (Nat.le_of_ble_eq_true rfl) ?_
          refine J_goto C 475 dL_offices_471 rfl ?_
          exact k475
      rcases opt_ways (stand M o) with hs | ⟨t, hs⟩
      · have hs := hs
        have hlz : leftN M o = 0 := by
          unfold leftN
          rw [hs]
        rw [hlz] at k451
        refine J_if_ge_y C 444 (by rw [hs]; decide) dL_offices_437 rfl ?_
        refine J_iconst C (v := 0) dL_offices_440 rfl ?_
        refine J_goto C 451 dL_offices_441 rfl ?_
        exact k451
      · have hs := hs
        have hlz : leftN M o = M 14 t := by
          unfold leftN
          rw [hs]
        rw [hlz] at k451
        have s1 := (stN_some _ hs).1
        refine J_if_ge_n C 444 (by rw [hs]; exact iN_neg (by omega)) dL_offices_437 rfl ?_
        refine J_aload_n C 14 dL_offices_444 rfl ?_
        refine J_iload C 0 dL_offices_445 rfl ?_
        refine J_iconst C (v := 4) dL_offices_447 rfl ?_
        refine x_token C Yc (Nat.le_of_ble_eq_true rfl) (Nat.le_of_ble_eq_true rfl) [cI K q 10 (fun x => iN (toN M x (o + 1)))] (w := (iN (M 14 t))) (by rw [hs]; exact hS.tok4 s1) dL_offices_448 (Nat.le_of_ble_eq_true rfl) (Nat.le_of_ble_eq_true rfl) ?_
        exact k451
    by_cases h4 : M 4 o = 1
    · rcases opt_ways (winN M o) with hs | ⟨p, hs⟩
      · have hs := hs
        have hw : winN M (o + 1) = some o := by
          rw [winN, hs]
          exact if_pos h4
        rw [hw] at k425
        refine J_icmp_ne_y C 425 (by rw [h4]; rfl) dL_offices_396 rfl ?_
        refine J_iload C 11 dL_offices_399 rfl ?_
        refine J_if_lt_y C 421 (by rw [hs]; decide) dL_offices_401 rfl ?_
        refine J_iload C 7 dL_offices_421 rfl ?_
        refine J_istore C (lv' := [(7, .int (iN (o))), (8, .int (iN (nsum (M 6) (o + 1)))), (6, .int (iN (nsum (M 2) (o + 1)))), (5, .int (iN (nsum (lenQ M) (o + 1)))), (4, .int (iN (nsum (M 7) (o + 1)))), (3, .int (iN (nsum (M 4) (o + 1)))), (14, .int (iN (M 7 o))), (13, .int (iN (lenQ M o))), (12, .int (iN (o))), (11, .int 1), (10, .int (iN (busN M (M 18 2 - 1)))), (9, .ref q), (2, .int (iN (M 18 3))), (1, .int (iN (M 18 2))), (0, .ref (A 4 0))]) dL_offices_423 (by decide) rfl ?_
        refine J_sub [0, 7, 8, 9, 10, 11, 1, 2, 3, 4, 5, 12, 13, 14] (lv' := [(7, .int (iN (o))), (13, .int (iN (lenQ M o))), (12, .int (iN (o))), (11, .int 1), (10, .int (iN (busN M (M 18 2 - 1)))), (9, .ref q), (8, .int (iN (nsum (M 6) (o + 1)))), (6, .int (iN (nsum (M 2) (o + 1)))), (5, .int (iN (nsum (lenQ M) (o + 1)))), (4, .int (iN (nsum (M 7) (o + 1)))), (3, .int (iN (nsum (M 4) (o + 1)))), (2, .int (iN (M 18 3))), (1, .int (iN (M 18 2))), (0, .ref (A 4 0))]) rfl ?_
        exact k425
      · have hs := hs
        obtain ⟨p1, p2⟩ := winN_some _ hs
        have n1 := hS.2.1.1.nm ho
        have n2 := hS.2.1.1.nm (show p < M 18 2 by omega)
        by_cases hpq : M 3 p < M 3 o
        · have hw : winN M (o + 1) = some o := by
            rw [winN, hs]
            exact if_pos ⟨h4, hpq⟩
          rw [hw] at k425
          refine J_icmp_ne_y C 425 (by rw [h4]; rfl) dL_offices_396 rfl ?_
          refine J_iload C 11 dL_offices_399 rfl ?_
          refine J_if_lt_n C 421 (by rw [hs]; exact iN_neg (by omega)) dL_offices_401 rfl ?_
          refine J_aload_n C 14 dL_offices_404 rfl ?_
          refine J_iload C 7 dL_offices_405 rfl ?_
          refine J_iconst C (v := 1) dL_offices_407 rfl ?_
          refine x_office C Yc (Nat.le_of_ble_eq_true rfl) (Nat.le_of_ble_eq_true rfl) [cI K q 10 (fun x => iN (toN M x (o + 1)))] (w := (iN (M 3 o))) (hS.off1 ho) dL_offices_408 (Nat.le_of_ble_eq_true rfl) (Nat.le_of_ble_eq_true rfl) ?_
          refine J_aload_n C 14 dL_offices_411 rfl ?_
          refine J_iload C 11 dL_offices_412 rfl ?_
          refine J_iconst C (v := 1) dL_offices_414 rfl ?_
          refine x_office C Yc (Nat.le_of_ble_eq_true rfl) (Nat.le_of_ble_eq_true rfl) [cI K q 10 (fun x => iN (toN M x (o + 1)))] (w := (iN (M 3 p))) (by rw [hs]; exact hS.off1 (by omega)) dL_offices_415 (Nat.le_of_ble_eq_true rfl) (Nat.le_of_ble_eq_true rfl) ?_
          refine J_icmp_le_y C 425 (iN_ylt' hpq (by omega)) dL_offices_418 rfl ?_
          refine J_iload C 7 dL_offices_421 rfl ?_
          refine J_istore C (lv' := [(7, .int (iN (o))), (8, .int (iN (nsum (M 6) (o + 1)))), (6, .int (iN (nsum (M 2) (o + 1)))), (5, .int (iN (nsum (lenQ M) (o + 1)))), (4, .int (iN (nsum (M 7) (o + 1)))), (3, .int (iN (nsum (M 4) (o + 1)))), (14, .int (iN (M 7 o))), (13, .int (iN (lenQ M o))), (12, .int (iN (o))), (11, .int 1), (10, .int (iN (busN M (M 18 2 - 1)))), (9, .ref q), (2, .int (iN (M 18 3))), (1, .int (iN (M 18 2))), (0, .ref (A 4 0))]) dL_offices_423 (by decide) rfl ?_
          refine J_sub [0, 7, 8, 9, 10, 11, 1, 2, 3, 4, 5, 12, 13, 14] (lv' := [(7, .int (iN (o))), (13, .int (iN (lenQ M o))), (12, .int (iN (o))), (11, .int 1), (10, .int (iN (busN M (M 18 2 - 1)))), (9, .ref q), (8, .int (iN (nsum (M 6) (o + 1)))), (6, .int (iN (nsum (M 2) (o + 1)))), (5, .int (iN (nsum (lenQ M) (o + 1)))), (4, .int (iN (nsum (M 7) (o + 1)))), (3, .int (iN (nsum (M 4) (o + 1)))), (2, .int (iN (M 18 3))), (1, .int (iN (M 18 2))), (0, .ref (A 4 0))]) rfl ?_
          exact k425
        · have hw : winN M (o + 1) = winN M o := by
            rw [winN, hs]
            exact if_neg (fun z => hpq z.2)
          rw [hw] at k425
          refine J_icmp_ne_y C 425 (by rw [h4]; rfl) dL_offices_396 rfl ?_
          refine J_iload C 11 dL_offices_399 rfl ?_
          refine J_if_lt_n C 421 (by rw [hs]; exact iN_neg (by omega)) dL_offices_401 rfl ?_
          refine J_aload_n C 14 dL_offices_404 rfl ?_
          refine J_iload C 7 dL_offices_405 rfl ?_
          refine J_iconst C (v := 1) dL_offices_407 rfl ?_
          refine x_office C Yc (Nat.le_of_ble_eq_true rfl) (Nat.le_of_ble_eq_true rfl) [cI K q 10 (fun x => iN (toN M x (o + 1)))] (w := (iN (M 3 o))) (hS.off1 ho) dL_offices_408 (Nat.le_of_ble_eq_true rfl) (Nat.le_of_ble_eq_true rfl) ?_
          refine J_aload_n C 14 dL_offices_411 rfl ?_
          refine J_iload C 11 dL_offices_412 rfl ?_
          refine J_iconst C (v := 1) dL_offices_414 rfl ?_
          refine x_office C Yc (Nat.le_of_ble_eq_true rfl) (Nat.le_of_ble_eq_true rfl) [cI K q 10 (fun x => iN (toN M x (o + 1)))] (w := (iN (M 3 p))) (by rw [hs]; exact hS.off1 (by omega)) dL_offices_415 (Nat.le_of_ble_eq_true rfl) (Nat.le_of_ble_eq_true rfl) ?_
          refine J_icmp_le_n C 425 (fun z => hpq ((iN_lt (by omega) (by omega)).mp z)) dL_offices_418 rfl ?_
          refine J_sub [11, 6, 7, 8, 9, 10, 0, 1, 2, 3, 4, 12, 13, 14] (lv' := [(7, .int (iO (winN M (o)))), (13, .int (iN (lenQ M o))), (12, .int (iN (o))), (11, .int 1), (10, .int (iN (busN M (M 18 2 - 1)))), (9, .ref q), (8, .int (iN (nsum (M 6) (o + 1)))), (6, .int (iN (nsum (M 2) (o + 1)))), (5, .int (iN (nsum (lenQ M) (o + 1)))), (4, .int (iN (nsum (M 7) (o + 1)))), (3, .int (iN (nsum (M 4) (o + 1)))), (2, .int (iN (M 18 3))), (1, .int (iN (M 18 2))), (0, .ref (A 4 0))]) rfl ?_
          exact k425
    · have hw : winN M (o + 1) = winN M o := by
        rw [winN]
        cases winN M o with
        | none => exact if_neg h4
        | some p => exact if_neg (fun z => h4 z.1)
      rw [hw] at k425
      refine J_icmp_ne_n C 425 (fun z => h4 ((iN_inj (b := 1) (by omega) (by decide)).mp z)) dL_offices_396 rfl ?_
      refine J_sub [11, 6, 7, 8, 9, 10, 0, 1, 2, 3, 4, 12, 13, 14] (lv' := [(7, .int (iO (winN M (o)))), (13, .int (iN (lenQ M o))), (12, .int (iN (o))), (11, .int 1), (10, .int (iN (busN M (M 18 2 - 1)))), (9, .ref q), (8, .int (iN (nsum (M 6) (o + 1)))), (6, .int (iN (nsum (M 2) (o + 1)))), (5, .int (iN (nsum (lenQ M) (o + 1)))), (4, .int (iN (nsum (M 7) (o + 1)))), (3, .int (iN (nsum (M 4) (o + 1)))), (2, .int (iN (M 18 3))), (1, .int (iN (M 18 2))), (0, .ref (A 4 0))]) rfl ?_
      exact k425
theorem lo_cnt {q : Nat} (C : Cx l K Γ RL cL_offices 18 (some .boolean) 13) (Yc : Cy Γ 1 10) (hS : St B Y M) (hB : B ≤ 1000000) (kf : J l K Γ Q 1 10 ([cI K q 10 (fun x => iN (toN M x (M 18 2)))] ++ ro_W K A Y) 745 18 [(12, .int (iN (M 18 2))), (11, .int 1), (10, .int (iN (busN M (M 18 2 - 1)))), (9, .ref q), (8, .int (iN (nsum (M 6) (M 18 2)))), (7, .int (iO (winN M (M 18 2)))), (6, .int (iN (nsum (M 2) (M 18 2)))), (5, .int (iN (nsum (lenQ M) (M 18 2)))), (4, .int (iN (nsum (M 7) (M 18 2)))), (3, .int (iN (nsum (M 4) (M 18 2)))), (2, .int (iN (M 18 3))), (1, .int (iN (M 18 2))), (0, .ref (A 4 0))] []) : ∀ d o, o + d = M 18 2 → J l K Γ Q 1 10 ([cI K q 10 (fun x => iN (toN M x (M 18 2)))] ++ ro_W K A Y) 705 18 [(12, .int (iN (o))), (11, .int 1), (10, .int (iN (busN M (M 18 2 - 1)))), (9, .ref q), (8, .int (iN (nsum (M 6) (M 18 2)))), (7, .int (iO (winN M (M 18 2)))), (6, .int (iN (nsum (M 2) (M 18 2)))), (5, .int (iN (nsum (lenQ M) (M 18 2)))), (4, .int (iN (nsum (M 7) (M 18 2)))), (3, .int (iN (nsum (M 4) (M 18 2)))), (2, .int (iN (M 18 3))), (1, .int (iN (M 18 2))), (0, .ref (A 4 0))] [] := by
  have c10 := hS.2.1.1.c10
  have c2 := hS.2.1.1.c2
  have t3 := hS.2.1.2.1.1
  intro d
  induction d with
  | zero =>
    intro o e
    rw [show o = M 18 2 by omega]
    refine J_iload C 0 dL_offices_705 rfl ?_
    refine J_iload_n C 11 dL_offices_707 rfl ?_
    refine J_icmp_ge_n C 745 (iN_nlt' (Nat.le_refl _) (by omega)) dL_offices_708 rfl ?_
    exact kf
  | succ d ih =>
    intro o e
    have ho : o < M 18 2 := by omega
    refine J_iload C 0 dL_offices_705 rfl ?_
    refine J_iload_n C 11 dL_offices_707 rfl ?_
    refine J_icmp_ge_y C 745 (iN_ylt' ho (by omega)) dL_offices_708 rfl ?_
    refine J_iload C 1 dL_offices_711 rfl ?_
    refine J_if_eq_n C 745 (by decide) dL_offices_713 rfl ?_
    refine J_aload_n C 12 dL_offices_716 rfl ?_
    refine J_iload C 0 dL_offices_717 rfl ?_
    refine J_bipush C (v := 8) dL_offices_719 rfl ?_
    refine x_office C Yc (Nat.le_of_ble_eq_true rfl) (Nat.le_of_ble_eq_true rfl) [cI K q 10 (fun x => iN (toN M x (M 18 2)))] (w := (iN (toN M o (M 18 2)))) (hS.off8 ho) dL_offices_721 (Nat.le_of_ble_eq_true rfl) (Nat.le_of_ble_eq_true rfl) ?_
    refine J_aload C 3 dL_offices_724 rfl ?_
    refine J_iload C 0 dL_offices_726 rfl ?_
    refine J_iaN C 0 o rfl (by omega) (by omega) rfl dL_offices_728 ?_
    refine J_eqi (b := (iN (toN M o (M 18 2)))) rfl ?_
    refine J_icmp_ne_y C 736 rfl dL_offices_729 rfl ?_
    refine J_iconst C (v := 1) dL_offices_732 rfl ?_
    refine J_goto C 737 dL_offices_733 rfl ?_
    refine J_istore C (lv' := [(11, .int 1), (12, .int (iN (o))), (10, .int (iN (busN M (M 18 2 - 1)))), (9, .ref q), (8, .int (iN (nsum (M 6) (M 18 2)))), (7, .int (iO (winN M (M 18 2)))), (6, .int (iN (nsum (M 2) (M 18 2)))), (5, .int (iN (nsum (lenQ M) (M 18 2)))), (4, .int (iN (nsum (M 7) (M 18 2)))), (3, .int (iN (nsum (M 4) (M 18 2)))), (2, .int (iN (M 18 3))), (1, .int (iN (M 18 2))), (0, .ref (A 4 0))]) dL_offices_737 (by decide) rfl ?_
    refine J_iinc C 1 (w := (iN ((o) + 1))) (lv' := [(12, .int (iN ((o) + 1))), (11, .int 1), (10, .int (iN (busN M (M 18 2 - 1)))), (9, .ref q), (8, .int (iN (nsum (M 6) (M 18 2)))), (7, .int (iO (winN M (M 18 2)))), (6, .int (iN (nsum (M 2) (M 18 2)))), (5, .int (iN (nsum (lenQ M) (M 18 2)))), (4, .int (iN (nsum (M 7) (M 18 2)))), (3, .int (iN (nsum (M 4) (M 18 2)))), (2, .int (iN (M 18 3))), (1, .int (iN (M 18 2))), (0, .ref (A 4 0))]) dL_offices_739 rfl (iN_add _ _) (by decide) rfl ?_
    refine J_goto C 705 dL_offices_742 rfl ?_
    refine J_sub [0, 1, 2, 3, 4, 5, 6, 7, 8, 9, 10, 11, 12] (lv' := [(12, .int (iN ((o) + 1))), (11, .int 1), (10, .int (iN (busN M (M 18 2 - 1)))), (9, .ref q), (8, .int (iN (nsum (M 6) (M 18 2)))), (7, .int (iO (winN M (M 18 2)))), (6, .int (iN (nsum (M 2) (M 18 2)))), (5, .int (iN (nsum (lenQ M) (M 18 2)))), (4, .int (iN (nsum (M 7) (M 18 2)))), (3, .int (iN (nsum (M 4) (M 18 2)))), (2, .int (iN (M 18 3))), (1, .int (iN (M 18 2))), (0, .ref (A 4 0))]) rfl ?_
    exact ih (o + 1) (by omega)
theorem lo_end {q : Nat} (C : Cx l K Γ RL cL_offices 18 (some .boolean) 13) (Yc : Cy Γ 1 10) (hS : St B Y M) (hB : B ≤ 1000000) : J l K Γ (Jz K Γ (fun _ : Unit => (some (.int 1), ro_W K A Y)) 1 10) 1 10 ([cI K q 10 (fun x => iN (toN M x (M 18 2)))] ++ ro_W K A Y) 745 18 [(12, .int (iN (M 18 2))), (11, .int 1), (10, .int (iN (busN M (M 18 2 - 1)))), (9, .ref q), (8, .int (iN (nsum (M 6) (M 18 2)))), (7, .int (iO (winN M (M 18 2)))), (6, .int (iN (nsum (M 2) (M 18 2)))), (5, .int (iN (nsum (lenQ M) (M 18 2)))), (4, .int (iN (nsum (M 7) (M 18 2)))), (3, .int (iN (nsum (M 4) (M 18 2)))), (2, .int (iN (M 18 3))), (1, .int (iN (M 18 2))), (0, .ref (A 4 0))] [] := by
  have c10 := hS.2.1.1.c10
  have c2 := hS.2.1.1.c2
  have t3 := hS.2.1.2.1.1
  have hC := hS.2.1.2.2.2.2.1
  have e18 : at_ 9 (Y 0 1) 8 = iN (M 1 8) := (at_in (i := 8) (by decide) (by decide)).trans (hS.1.a (by decide) 8)
  have e3 : Y 0 18 0 = iN (M 18 0) := hS.1.2 0 (by decide) (by decide)
  have el : v_X2_lengthInAll (Y 0) = iN (nsum (lenQ M) (M 18 2)) := hS.1.lenAll hS.2.1.1
  have em : v_X2_lettersInAll (Y 0) = iN (nsum (M 7) (M 18 2)) := hS.1.letAll c10
  have hT0 := hS.2.1.2.2.2.1.1
  have s7 := nsum_le (f := M 7) (a := 6) (M 18 2) (fun i hi => hS.2.1.1.w6 hi)
  refine J_iload C 1 dL_offices_745 rfl ?_
  refine J_if_eq_n C 904 (by decide) dL_offices_747 rfl ?_
  refine J_iload_n C 9 dL_offices_750 rfl ?_
  refine J_aload_n C 12 dL_offices_751 rfl ?_
  refine J_iconst C (v := 5) dL_offices_752 rfl ?_
  refine x_value C Yc (Nat.le_of_ble_eq_true rfl) (Nat.le_of_ble_eq_true rfl) [cI K q 10 (fun x => iN (toN M x (M 18 2)))] (w := (iN (nsum (M 4) (M 18 2)))) hS.val5 dL_offices_753 (Nat.le_of_ble_eq_true rfl) (Nat.le_of_ble_eq_true rfl) ?_
  refine J_icmp_ne_y C 904 rfl dL_offices_756 rfl ?_
  refine J_iload C 8 dL_offices_759 rfl ?_
  refine J_aload_n C 12 dL_offices_761 rfl ?_
  refine J_bipush C (v := 8) dL_offices_762 rfl ?_
  refine x_value C Yc (Nat.le_of_ble_eq_true rfl) (Nat.le_of_ble_eq_true rfl) [cI K q 10 (fun x => iN (toN M x (M 18 2)))] (w := (iN (nsum (M 7) (M 18 2)))) hS.val8 dL_offices_764 (Nat.le_of_ble_eq_true rfl) (Nat.le_of_ble_eq_true rfl) ?_
  refine J_icmp_ne_y C 904 rfl dL_offices_767 rfl ?_
  refine J_iload C 7 dL_offices_770 rfl ?_
  refine J_aload_n C 12 dL_offices_772 rfl ?_
  refine J_bipush C (v := 9) dL_offices_773 rfl ?_
  refine x_value C Yc (Nat.le_of_ble_eq_true rfl) (Nat.le_of_ble_eq_true rfl) [cI K q 10 (fun x => iN (toN M x (M 18 2)))] (w := (iN (nsum (lenQ M) (M 18 2)))) hS.val9 dL_offices_775 (Nat.le_of_ble_eq_true rfl) (Nat.le_of_ble_eq_true rfl) ?_
  refine J_icmp_ne_y C 904 rfl dL_offices_778 rfl ?_
  refine J_iload C 6 dL_offices_781 rfl ?_
  refine J_aload_n C 12 dL_offices_783 rfl ?_
  refine x_round C Yc (Nat.le_of_ble_eq_true rfl) (Nat.le_of_ble_eq_true rfl) [cI K q 10 (fun x => iN (toN M x (M 18 2)))] (w := (iN (nsum (M 2) (M 18 2)))) hS.round dL_offices_784 (Nat.le_of_ble_eq_true rfl) (Nat.le_of_ble_eq_true rfl) ?_
  refine J_icmp_ne_y C 904 rfl dL_offices_787 rfl ?_
  refine J_iload C 5 dL_offices_790 rfl ?_
  refine J_aload_n C 12 dL_offices_792 rfl ?_
  refine x_winner C Yc (Nat.le_of_ble_eq_true rfl) (Nat.le_of_ble_eq_true rfl) [cI K q 10 (fun x => iN (toN M x (M 18 2)))] (w := (iO (winN M (M 18 2)))) hS.winner dL_offices_793 (Nat.le_of_ble_eq_true rfl) (Nat.le_of_ble_eq_true rfl) ?_
  refine J_icmp_ne_y C 904 rfl dL_offices_796 rfl ?_
  refine J_iload C 4 dL_offices_799 rfl ?_
  refine J_aload_n C 12 dL_offices_801 rfl ?_
  refine J_bipush C (v := 11) dL_offices_802 rfl ?_
  refine x_value C Yc (Nat.le_of_ble_eq_true rfl) (Nat.le_of_ble_eq_true rfl) [cI K q 10 (fun x => iN (toN M x (M 18 2)))] (w := (iN (M 1 1))) hS.val11 dL_offices_804 (Nat.le_of_ble_eq_true rfl) (Nat.le_of_ble_eq_true rfl) ?_
  refine J_icmp_ne_y C 904 (by rw [hC.2]) dL_offices_807 rfl ?_
  refine J_aload_n C 12 dL_offices_810 rfl ?_
  refine J_bipush C (v := 10) dL_offices_811 rfl ?_
  refine x_value C Yc (Nat.le_of_ble_eq_true rfl) (Nat.le_of_ble_eq_true rfl) [cI K q 10 (fun x => iN (toN M x (M 18 2)))] (w := (iN (M 1 0))) hS.val10 dL_offices_813 (Nat.le_of_ble_eq_true rfl) (Nat.le_of_ble_eq_true rfl) ?_
  refine J_iload C 8 dL_offices_816 rfl ?_
  refine J_aload_n C 12 dL_offices_818 rfl ?_
  refine J_bipush C (v := 11) dL_offices_819 rfl ?_
  refine x_value C Yc (Nat.le_of_ble_eq_true rfl) (Nat.le_of_ble_eq_true rfl) [cI K q 10 (fun x => iN (toN M x (M 18 2)))] (w := (iN (M 1 1))) hS.val11 dL_offices_821 (Nat.le_of_ble_eq_true rfl) (Nat.le_of_ble_eq_true rfl) ?_
  refine J_iadd C dL_offices_824 ?_
  refine J_aload_n C 12 dL_offices_825 rfl ?_
  refine J_bipush C (v := 12) dL_offices_826 rfl ?_
  refine x_value C Yc (Nat.le_of_ble_eq_true rfl) (Nat.le_of_ble_eq_true rfl) [cI K q 10 (fun x => iN (toN M x (M 18 2)))] (w := (iN (M 1 2))) hS.val12 dL_offices_828 (Nat.le_of_ble_eq_true rfl) (Nat.le_of_ble_eq_true rfl) ?_
  refine J_iadd C dL_offices_831 ?_
  refine J_aload_n C 12 dL_offices_832 rfl ?_
  refine J_bipush C (v := 13) dL_offices_833 rfl ?_
  refine x_value C Yc (Nat.le_of_ble_eq_true rfl) (Nat.le_of_ble_eq_true rfl) [cI K q 10 (fun x => iN (toN M x (M 18 2)))] (w := (iN (M 1 3))) hS.val13 dL_offices_835 (Nat.le_of_ble_eq_true rfl) (Nat.le_of_ble_eq_true rfl) ?_
  refine J_iadd C dL_offices_838 ?_
  refine J_icmp_ne_y C 904 (by rw [hC.1, iN_add, iN_add, iN_add]) dL_offices_839 rfl ?_
  refine J_aload_n C 12 dL_offices_842 rfl ?_
  refine x_spoken C Yc (Nat.le_of_ble_eq_true rfl) (Nat.le_of_ble_eq_true rfl) [cI K q 10 (fun x => iN (toN M x (M 18 2)))] (w := (f_spoken (iN (M 1 8)) (iN (M 18 0)))) (by rw [e18, e3]) dL_offices_843 (Nat.le_of_ble_eq_true rfl) (Nat.le_of_ble_eq_true rfl) ?_
  refine J_aload_n C 12 dL_offices_846 rfl ?_
  refine J_iconst C (v := 3) dL_offices_847 rfl ?_
  refine x_value C Yc (Nat.le_of_ble_eq_true rfl) (Nat.le_of_ble_eq_true rfl) [cI K q 10 (fun x => iN (toN M x (M 18 2)))] (w := (iN (M 18 0))) hS.val3 dL_offices_848 (Nat.le_of_ble_eq_true rfl) (Nat.le_of_ble_eq_true rfl) ?_
  have k872 : J l K Γ (Jz K Γ (fun _ : Unit => (some (.int 1), ro_W K A Y)) 1 10) 1 10 ([cI K q 10 (fun x => iN (toN M x (M 18 2)))] ++ ro_W K A Y) 872 18 [(12, .int (iN (M 18 2))), (11, .int 1), (10, .int (iN (busN M (M 18 2 - 1)))), (9, .ref q), (8, .int (iN (nsum (M 6) (M 18 2)))), (7, .int (iO (winN M (M 18 2)))), (6, .int (iN (nsum (M 2) (M 18 2)))), (5, .int (iN (nsum (lenQ M) (M 18 2)))), (4, .int (iN (nsum (M 7) (M 18 2)))), (3, .int (iN (nsum (M 4) (M 18 2)))), (2, .int (iN (M 18 3))), (1, .int (iN (M 18 2))), (0, .ref (A 4 0))] [.float (f_spoken (iN (M 1 8)) (iN (M 18 0))), .float (f_spoken (iN (M 1 8)) (iN (M 18 0)))] := by
    refine J_fcmp0 C rfl (f_spoken_nn _ _) dL_offices_872 ?_
    refine J_if_ne_y C 904 rfl dL_offices_873 rfl ?_
    refine J_aload_n C 12 dL_offices_876 rfl ?_
    refine x_meanLength C Yc (Nat.le_of_ble_eq_true rfl) (Nat.le_of_ble_eq_true rfl) [cI K q 10 (fun x => iN (toN M x (M 18 2)))] (w := (f_mean (iN (nsum (lenQ M) (M 18 2))) (iN (nsum (M 7) (M 18 2))))) (by rw [el, em]) dL_offices_877 (Nat.le_of_ble_eq_true rfl) (Nat.le_of_ble_eq_true rfl) ?_
    refine J_iload C 8 dL_offices_880 rfl ?_
    have k896 : J l K Γ (Jz K Γ (fun _ : Unit => (some (.int 1), ro_W K A Y)) 1 10) 1 10 ([cI K q 10 (fun x => iN (toN M x (M 18 2)))] ++ ro_W K A Y) 896 18 [(12, .int (iN (M 18 2))), (11, .int 1), (10, .int (iN (busN M (M 18 2 - 1)))), (9, .ref q), (8, .int (iN (nsum (M 6) (M 18 2)))), (7, .int (iO (winN M (M 18 2)))), (6, .int (iN (nsum (M 2) (M 18 2)))), (5, .int (iN (nsum (lenQ M) (M 18 2)))), (4, .int (iN (nsum (M 7) (M 18 2)))), (3, .int (iN (nsum (M 4) (M 18 2)))), (2, .int (iN (M 18 3))), (1, .int (iN (M 18 2))), (0, .ref (A 4 0))] [.double (f_mean (iN (nsum (lenQ M) (M 18 2))) (iN (nsum (M 7) (M 18 2)))), .double (f_mean (iN (nsum (lenQ M) (M 18 2))) (iN (nsum (M 7) (M 18 2))))] := by
      refine J_dcmp0 C rfl (f_mean_nn _ _) dL_offices_896 ?_
      refine J_if_ne_y C 904 rfl dL_offices_897 rfl ?_
      refine J_iconst C (v := 1) dL_offices_900 rfl ?_
      refine J_goto C 905 dL_offices_901 rfl ?_
      refine J_drop (u := [cI K q 10 (fun x => iN (toN M x (M 18 2)))]) ?_
      exact J_rnret rfl C () dL_offices_905 (Nat.le_of_ble_eq_true rfl) (Nat.le_of_ble_eq_true rfl) rfl
    by_cases h7 : nsum (M 7) (M 18 2) = 0
    · refine J_if_ne_y C 889 ((iN_0 (by omega)).mpr h7) dL_offices_882 rfl ?_
      refine J_dconst0 C dL_offices_885 ?_
      refine J_goto C 896 dL_offices_886 rfl ?_
      exact J_eqv (congrArg Value.double (if_pos ((iN_0 (by omega)).mpr h7)).symm) k896
    · have h70 : ¬ iN (nsum (M 7) (M 18 2)) = 0 := fun z => h7 ((iN_0 (by omega)).mp z)
      refine J_if_ne_n C 889 h70 dL_offices_882 rfl ?_
      refine J_iload C 7 dL_offices_889 rfl ?_
      refine J_i2d C dL_offices_891 ?_
      refine J_iload C 8 dL_offices_892 rfl ?_
      refine J_i2d C dL_offices_894 ?_
      refine J_ddiv C dL_offices_895 (fp_n64 (fp_ddiv _ h70)) ?_
      exact J_eqv (congrArg Value.double (if_neg h70).symm) k896
  by_cases h3 : M 18 0 = 0
  · refine J_if_ne_y C 858 ((iN_0 (by omega)).mpr h3) dL_offices_851 rfl ?_
    refine J_fconst0 C dL_offices_854 ?_
    refine J_goto C 872 dL_offices_855 rfl ?_
    exact J_eqv (congrArg Value.float (if_pos ((iN_0 (by omega)).mpr h3)).symm) k872
  · have h30 : ¬ iN (M 18 0) = 0 := fun z => h3 ((iN_0 (by omega)).mp z)
    refine J_if_ne_n C 858 h30 dL_offices_851 rfl ?_
    refine J_aload_n C 12 dL_offices_858 rfl ?_
    refine J_bipush C (v := 18) dL_offices_859 rfl ?_
    refine x_value C Yc (Nat.le_of_ble_eq_true rfl) (Nat.le_of_ble_eq_true rfl) [cI K q 10 (fun x => iN (toN M x (M 18 2)))] (w := (iN (M 1 8))) hS.val18 dL_offices_861 (Nat.le_of_ble_eq_true rfl) (Nat.le_of_ble_eq_true rfl) ?_
    refine J_i2f C dL_offices_864 ?_
    refine J_aload_n C 12 dL_offices_865 rfl ?_
    refine J_iconst C (v := 3) dL_offices_866 rfl ?_
    refine x_value C Yc (Nat.le_of_ble_eq_true rfl) (Nat.le_of_ble_eq_true rfl) [cI K q 10 (fun x => iN (toN M x (M 18 2)))] (w := (iN (M 18 0))) hS.val3 dL_offices_867 (Nat.le_of_ble_eq_true rfl) (Nat.le_of_ble_eq_true rfl) ?_
    refine J_i2f C dL_offices_870 ?_
    refine J_fdiv C dL_offices_871 (fp_n32 (fp_fdiv _ h30)) ?_
    exact J_eqv (congrArg Value.float (if_neg h30).symm) k872
end LOFF
theorem kd_L_offices : Cd yL_offices cL_offices 18 (some .boolean) 1 := ⟨uc_L_offices, un_L, ⟨by decide, by decide, by decide⟩⟩
theorem c_L_offices (l : Launch) (K : gK) (A : Nat → Nat → Nat) {B : Nat} {Y : RS} {M : NM} (hS : St B Y M) (hB : B ≤ 1000000) : Cr l K yL_offices cL_offices 18 (some .boolean) 13 1 10 [.ref (A 4 0)] (ro_W K A Y) (fun _ : Unit => (some (.int 1), ro_W K A Y)) := by
  have c10 := hS.2.1.1.c10
  have c2 := hS.2.1.1.c2
  have t3 := hS.2.1.2.1.1
  refine Cr.of (own := RL) (by decide) rfl (Nat.le_of_ble_eq_true rfl) (fun Γ C Yc _ => ?_)
  refine J_aload_n C 0 dL_offices_0 rfl ?_
  refine J_iconst C (v := 4) dL_offices_1 rfl ?_
  refine x_value C Yc (Nat.le_of_ble_eq_true rfl) (Nat.le_of_ble_eq_true rfl) [] (w := (iN (M 18 2))) hS.val4 dL_offices_2 (Nat.le_of_ble_eq_true rfl) (Nat.le_of_ble_eq_true rfl) ?_
  refine J_istore_n C (lv' := [(1, .int (iN (M 18 2))), (0, .ref (A 4 0))]) dL_offices_5 (by decide) rfl ?_
  refine J_aload_n C 1 dL_offices_6 rfl ?_
  refine J_bipush C (v := 6) dL_offices_7 rfl ?_
  refine x_value C Yc (Nat.le_of_ble_eq_true rfl) (Nat.le_of_ble_eq_true rfl) [] (w := (iN (M 18 3))) hS.val6 dL_offices_9 (Nat.le_of_ble_eq_true rfl) (Nat.le_of_ble_eq_true rfl) ?_
  refine J_istore_n C (lv' := [(2, .int (iN (M 18 3))), (1, .int (iN (M 18 2))), (0, .ref (A 4 0))]) dL_offices_12 (by decide) rfl ?_
  refine J_iconst C (v := 0) dL_offices_13 rfl ?_
  refine J_istore_n C (lv' := [(3, .int 0), (2, .int (iN (M 18 3))), (1, .int (iN (M 18 2))), (0, .ref (A 4 0))]) dL_offices_14 (by decide) rfl ?_
  refine J_iconst C (v := 0) dL_offices_15 rfl ?_
  refine J_istore C (lv' := [(4, .int 0), (3, .int 0), (2, .int (iN (M 18 3))), (1, .int (iN (M 18 2))), (0, .ref (A 4 0))]) dL_offices_16 (by decide) rfl ?_
  refine J_iconst C (v := 0) dL_offices_18 rfl ?_
  refine J_istore C (lv' := [(5, .int 0), (4, .int 0), (3, .int 0), (2, .int (iN (M 18 3))), (1, .int (iN (M 18 2))), (0, .ref (A 4 0))]) dL_offices_19 (by decide) rfl ?_
  refine J_iconst C (v := 0) dL_offices_21 rfl ?_
  refine J_istore C (lv' := [(6, .int 0), (5, .int 0), (4, .int 0), (3, .int 0), (2, .int (iN (M 18 3))), (1, .int (iN (M 18 2))), (0, .ref (A 4 0))]) dL_offices_22 (by decide) rfl ?_
  refine J_bipush C (v := -2) dL_offices_24 rfl ?_
  refine J_istore C (lv' := [(7, .int (-2)), (6, .int 0), (5, .int 0), (4, .int 0), (3, .int 0), (2, .int (iN (M 18 3))), (1, .int (iN (M 18 2))), (0, .ref (A 4 0))]) dL_offices_26 (by decide) rfl ?_
  refine J_iconst C (v := 0) dL_offices_28 rfl ?_
  refine J_istore C (lv' := [(8, .int 0), (7, .int (-2)), (6, .int 0), (5, .int 0), (4, .int 0), (3, .int 0), (2, .int (iN (M 18 3))), (1, .int (iN (M 18 2))), (0, .ref (A 4 0))]) dL_offices_29 (by decide) rfl ?_
  refine J_bipush C (v := 10) dL_offices_31 rfl ?_
  refine J_newI C Yc 10 dL_offices_33 rfl (by decide) (Nat.le_of_ble_eq_true rfl) (Nat.le_of_ble_eq_true rfl) (fun q => ?_)
  refine J_astore C (lv' := [(9, .ref q), (8, .int 0), (7, .int (-2)), (6, .int 0), (5, .int 0), (4, .int 0), (3, .int 0), (2, .int (iN (M 18 3))), (1, .int (iN (M 18 2))), (0, .ref (A 4 0))]) dL_offices_35 (by decide) rfl ?_
  refine J_aload_n C 9 dL_offices_37 rfl ?_
  refine x_busiest C Yc (Nat.le_of_ble_eq_true rfl) (Nat.le_of_ble_eq_true rfl) [cI K q 10 (fun _ => 0)] (w := (iN (busN M (M 18 2 - 1)))) hS.busiest dL_offices_38 (Nat.le_of_ble_eq_true rfl) (Nat.le_of_ble_eq_true rfl) ?_
  refine J_istore C (lv' := [(10, .int (iN (busN M (M 18 2 - 1)))), (9, .ref q), (8, .int 0), (7, .int (-2)), (6, .int 0), (5, .int 0), (4, .int 0), (3, .int 0), (2, .int (iN (M 18 3))), (1, .int (iN (M 18 2))), (0, .ref (A 4 0))]) dL_offices_41 (by decide) rfl ?_
  refine J_aload_n C 10 dL_offices_43 rfl ?_
  refine J_iload_n C 9 dL_offices_44 rfl ?_
  refine J_iconst C (v := 0) dL_offices_45 rfl ?_
  refine x_office C Yc (Nat.le_of_ble_eq_true rfl) (Nat.le_of_ble_eq_true rfl) [cI K q 10 (fun _ => 0)] (w := (-1)) (hS.offN _) dL_offices_46 (Nat.le_of_ble_eq_true rfl) (Nat.le_of_ble_eq_true rfl) ?_
  refine J_iconst C (v := -1) dL_offices_49 rfl ?_
  refine J_icmp_ne_y C 82 rfl dL_offices_50 rfl ?_
  refine J_aload_n C 10 dL_offices_53 rfl ?_
  refine J_iload_n C 8 dL_offices_54 rfl ?_
  refine J_iconst C (v := 0) dL_offices_55 rfl ?_
  refine x_token C Yc (Nat.le_of_ble_eq_true rfl) (Nat.le_of_ble_eq_true rfl) [cI K q 10 (fun _ => 0)] (w := (-1)) (hS.tokN _) dL_offices_56 (Nat.le_of_ble_eq_true rfl) (Nat.le_of_ble_eq_true rfl) ?_
  refine J_iconst C (v := -1) dL_offices_59 rfl ?_
  refine J_icmp_ne_y C 82 rfl dL_offices_60 rfl ?_
  refine J_aload_n C 10 dL_offices_63 rfl ?_
  refine J_bipush C (v := 21) dL_offices_64 rfl ?_
  refine x_value C Yc (Nat.le_of_ble_eq_true rfl) (Nat.le_of_ble_eq_true rfl) [cI K q 10 (fun _ => 0)] (w := (-1)) hS.val21 dL_offices_66 (Nat.le_of_ble_eq_true rfl) (Nat.le_of_ble_eq_true rfl) ?_
  refine J_iconst C (v := -1) dL_offices_69 rfl ?_
  refine J_icmp_ne_y C 82 rfl dL_offices_70 rfl ?_
  refine J_iload_n C 8 dL_offices_73 rfl ?_
  refine J_iconst C (v := 3) dL_offices_74 rfl ?_
  refine J_icmp_gt_n C 82 (iN_nlt' (a := 3) t3 (by decide)) dL_offices_75 rfl ?_
  refine J_iconst C (v := 1) dL_offices_78 rfl ?_
  refine J_goto C 83 dL_offices_79 rfl ?_
  refine J_istore C (lv' := [(11, .int 1), (10, .int (iN (busN M (M 18 2 - 1)))), (9, .ref q), (8, .int 0), (7, .int (-2)), (6, .int 0), (5, .int 0), (4, .int 0), (3, .int 0), (2, .int (iN (M 18 3))), (1, .int (iN (M 18 2))), (0, .ref (A 4 0))]) dL_offices_83 (by decide) rfl ?_
  refine J_iconst C (v := 0) dL_offices_85 rfl ?_
  refine J_istore C (lv' := [(12, .int 0), (11, .int 1), (10, .int (iN (busN M (M 18 2 - 1)))), (9, .ref q), (8, .int 0), (7, .int (-2)), (6, .int 0), (5, .int 0), (4, .int 0), (3, .int 0), (2, .int (iN (M 18 3))), (1, .int (iN (M 18 2))), (0, .ref (A 4 0))]) dL_offices_86 (by decide) rfl ?_
  refine J_sub [0, 1, 2, 3, 4, 5, 6, 7, 8, 9, 10, 11, 12] (lv' := [(12, .int 0), (11, .int 1), (10, .int (iN (busN M (M 18 2 - 1)))), (9, .ref q), (8, .int 0), (7, .int (-2)), (6, .int 0), (5, .int 0), (4, .int 0), (3, .int 0), (2, .int (iN (M 18 3))), (1, .int (iN (M 18 2))), (0, .ref (A 4 0))]) rfl ?_
  refine lo_tok C Yc hS hB ?_ (M 18 3) 0 (by omega)
  refine J_iconst C (v := 0) dL_offices_214 rfl ?_
  refine J_istore C (lv' := [(12, .int 0), (11, .int 1), (10, .int (iN (busN M (M 18 2 - 1)))), (9, .ref q), (8, .int 0), (7, .int (-2)), (6, .int 0), (5, .int 0), (4, .int 0), (3, .int 0), (2, .int (iN (M 18 3))), (1, .int (iN (M 18 2))), (0, .ref (A 4 0))]) dL_offices_215 (by decide) rfl ?_
  refine J_sub [0, 1, 2, 3, 4, 5, 6, 7, 8, 9, 10, 11, 12] (lv' := [(12, .int 0), (11, .int 1), (10, .int (iN (busN M (M 18 2 - 1)))), (9, .ref q), (8, .int 0), (7, .int (-2)), (6, .int 0), (5, .int 0), (4, .int 0), (3, .int 0), (2, .int (iN (M 18 3))), (1, .int (iN (M 18 2))), (0, .ref (A 4 0))]) rfl ?_
  refine lo_off C Yc hS hB ?_ (M 18 2) 0 (by omega)
  refine J_iconst C (v := 0) dL_offices_702 rfl ?_
  refine J_istore C (lv' := [(12, .int 0), (11, .int 1), (10, .int (iN (busN M (M 18 2 - 1)))), (9, .ref q), (8, .int (iN (nsum (M 6) (M 18 2)))), (7, .int (iO (winN M (M 18 2)))), (6, .int (iN (nsum (M 2) (M 18 2)))), (5, .int (iN (nsum (lenQ M) (M 18 2)))), (4, .int (iN (nsum (M 7) (M 18 2)))), (3, .int (iN (nsum (M 4) (M 18 2)))), (2, .int (iN (M 18 3))), (1, .int (iN (M 18 2))), (0, .ref (A 4 0))]) dL_offices_703 (by decide) rfl ?_
  refine J_sub [0, 1, 2, 3, 4, 5, 6, 7, 8, 9, 10, 11, 12] (lv' := [(12, .int 0), (11, .int 1), (10, .int (iN (busN M (M 18 2 - 1)))), (9, .ref q), (8, .int (iN (nsum (M 6) (M 18 2)))), (7, .int (iO (winN M (M 18 2)))), (6, .int (iN (nsum (M 2) (M 18 2)))), (5, .int (iN (nsum (lenQ M) (M 18 2)))), (4, .int (iN (nsum (M 7) (M 18 2)))), (3, .int (iN (nsum (M 4) (M 18 2)))), (2, .int (iN (M 18 3))), (1, .int (iN (M 18 2))), (0, .ref (A 4 0))]) rfl ?_
  exact lo_cnt C Yc hS hB (lo_end C Yc hS hB) (M 18 2) 0 (by omega)
