-- PART 54: the law's method minutes
section LMIN
variable {l : Launch} {K : gK} {Γ : gT} {Q : State → Prop} {A : Nat → Nat → Nat} {B : Nat} {Y P : RS} {M N : NM} {a3 a4 a5 a6 a7 a8 a9 a11 : Nat}
theorem mm_fill (C : Cx l K Γ RL cL_minutes 17 (some .boolean) 9) (Yc : Cy Γ 8 39) (hS : St B Y M) (hB : B ≤ 9000) (kf : J l K Γ Q 6 25 ([cI K a8 (M 18 2) (fA (fun i => iN (whN M i)) (0)), cI K a7 (M 18 3) (fA (fun i => iN (M 14 i)) (M 18 3)), cI K a6 (M 18 3) (fA (fun i => iN (M 13 i)) (M 18 3)), cI K a5 (M 18 3) (fA (fun i => iN (M 12 i)) (M 18 3)), cI K a4 (M 18 3) (fA (fun i => iN (M 11 i)) (M 18 3)), cI K a3 (M 18 3) (fA (fun i => iN (M 10 i)) (M 18 3))] ++ ro_W K A Y) 116 17 [(9, .int (iN (M 18 3))), (8, .ref a8), (7, .ref a7), (6, .ref a6), (5, .ref a5), (4, .ref a4), (3, .ref a3), (2, .int (iN (M 18 3))), (1, .int (iN (M 18 2))), (0, .ref (A 4 0))] []) : ∀ d t, t + d = M 18 3 → J l K Γ Q 6 25 ([cI K a8 (M 18 2) (fA (fun i => iN (whN M i)) (0)), cI K a7 (M 18 3) (fA (fun i => iN (M 14 i)) (t)), cI K a6 (M 18 3) (fA (fun i => iN (M 13 i)) (t)), cI K a5 (M 18 3) (fA (fun i => iN (M 12 i)) (t)), cI K a4 (M 18 3) (fA (fun i => iN (M 11 i)) (t)), cI K a3 (M 18 3) (fA (fun i => iN (M 10 i)) (t))] ++ ro_W K A Y) 45 17 [(9, .int (iN (t))), (8, .ref a8), (7, .ref a7), (6, .ref a6), (5, .ref a5), (4, .ref a4), (3, .ref a3), (2, .int (iN (M 18 3))), (1, .int (iN (M 18 2))), (0, .ref (A 4 0))] [] := by
  have c10 := hS.2.1.1.c10
  have c2 := hS.2.1.1.c2
  have t3 := hS.2.1.2.1.1
  intro d
  induction d with
  | zero =>
    intro t e
    rw [show t = M 18 3 by omega]
    refine J_iload C 0 dL_minutes_45 rfl ?_
    refine J_iload_n C 7 dL_minutes_47 rfl ?_
    refine J_icmp_ge_n C 116 (iN_nlt' (Nat.le_refl _) (by omega)) dL_minutes_48 rfl ?_
    exact kf
  | succ d ih =>
    intro t e
    have hd : t < M 18 3 := by omega
    refine J_iload C 0 dL_minutes_45 rfl ?_
    refine J_iload_n C 7 dL_minutes_47 rfl ?_
    refine J_icmp_ge_y C 116 (iN_ylt' hd (by omega)) dL_minutes_48 rfl ?_
    refine J_aload_n C 6 dL_minutes_51 rfl ?_
    refine J_iload C 0 dL_minutes_52 rfl ?_
    refine J_aload_n C 9 dL_minutes_54 rfl ?_
    refine J_iload C 0 dL_minutes_55 rfl ?_
    refine J_iconst C (v := 0) dL_minutes_57 rfl ?_
    refine x_token C Yc (Nat.le_of_ble_eq_true rfl) (Nat.le_of_ble_eq_true rfl) [cI K a8 (M 18 2) (fA (fun i => iN (whN M i)) (0)), cI K a7 (M 18 3) (fA (fun i => iN (M 14 i)) (t)), cI K a6 (M 18 3) (fA (fun i => iN (M 13 i)) (t)), cI K a5 (M 18 3) (fA (fun i => iN (M 12 i)) (t)), cI K a4 (M 18 3) (fA (fun i => iN (M 11 i)) (t)), cI K a3 (M 18 3) (fA (fun i => iN (M 10 i)) (t))] (w := (iN (M 10 t))) (hS.tok0 hd) dL_minutes_58 (Nat.le_of_ble_eq_true rfl) (Nat.le_of_ble_eq_true rfl) ?_
    refine J_isN C 5 t rfl hd (by omega) (ws2 := ([cI K a8 (M 18 2) (fA (fun i => iN (whN M i)) (0)), cI K a7 (M 18 3) (fA (fun i => iN (M 14 i)) (t)), cI K a6 (M 18 3) (fA (fun i => iN (M 13 i)) (t)), cI K a5 (M 18 3) (fA (fun i => iN (M 12 i)) (t)), cI K a4 (M 18 3) (fA (fun i => iN (M 11 i)) (t)), cI K a3 (M 18 3) (fA (fun i => iN (M 10 i)) (t + 1))] ++ ro_W K A Y)) rfl (by rw [fA_upd] <;> rfl) dL_minutes_61 ?_
    refine J_aload C 5 dL_minutes_62 rfl ?_
    refine J_iload C 0 dL_minutes_64 rfl ?_
    refine J_aload_n C 9 dL_minutes_66 rfl ?_
    refine J_iload C 0 dL_minutes_67 rfl ?_
    refine J_iconst C (v := 1) dL_minutes_69 rfl ?_
    refine x_token C Yc (Nat.le_of_ble_eq_true rfl) (Nat.le_of_ble_eq_true rfl) [cI K a8 (M 18 2) (fA (fun i => iN (whN M i)) (0)), cI K a7 (M 18 3) (fA (fun i => iN (M 14 i)) (t)), cI K a6 (M 18 3) (fA (fun i => iN (M 13 i)) (t)), cI K a5 (M 18 3) (fA (fun i => iN (M 12 i)) (t)), cI K a4 (M 18 3) (fA (fun i => iN (M 11 i)) (t)), cI K a3 (M 18 3) (fA (fun i => iN (M 10 i)) (t + 1))] (w := (iN (M 11 t))) (hS.tok1 hd) dL_minutes_70 (Nat.le_of_ble_eq_true rfl) (Nat.le_of_ble_eq_true rfl) ?_
    refine J_isN C 4 t rfl hd (by omega) (ws2 := ([cI K a8 (M 18 2) (fA (fun i => iN (whN M i)) (0)), cI K a7 (M 18 3) (fA (fun i => iN (M 14 i)) (t)), cI K a6 (M 18 3) (fA (fun i => iN (M 13 i)) (t)), cI K a5 (M 18 3) (fA (fun i => iN (M 12 i)) (t)), cI K a4 (M 18 3) (fA (fun i => iN (M 11 i)) (t + 1)), cI K a3 (M 18 3) (fA (fun i => iN (M 10 i)) (t + 1))] ++ ro_W K A Y)) rfl (by rw [fA_upd] <;> rfl) dL_minutes_73 ?_
    refine J_aload C 4 dL_minutes_74 rfl ?_
    refine J_iload C 0 dL_minutes_76 rfl ?_
    refine J_aload_n C 9 dL_minutes_78 rfl ?_
    refine J_iload C 0 dL_minutes_79 rfl ?_
    refine J_iconst C (v := 2) dL_minutes_81 rfl ?_
    refine x_token C Yc (Nat.le_of_ble_eq_true rfl) (Nat.le_of_ble_eq_true rfl) [cI K a8 (M 18 2) (fA (fun i => iN (whN M i)) (0)), cI K a7 (M 18 3) (fA (fun i => iN (M 14 i)) (t)), cI K a6 (M 18 3) (fA (fun i => iN (M 13 i)) (t)), cI K a5 (M 18 3) (fA (fun i => iN (M 12 i)) (t)), cI K a4 (M 18 3) (fA (fun i => iN (M 11 i)) (t + 1)), cI K a3 (M 18 3) (fA (fun i => iN (M 10 i)) (t + 1))] (w := (iN (M 12 t))) (hS.tok2 hd) dL_minutes_82 (Nat.le_of_ble_eq_true rfl) (Nat.le_of_ble_eq_true rfl) ?_
    refine J_isN C 3 t rfl hd (by omega) (ws2 := ([cI K a8 (M 18 2) (fA (fun i => iN (whN M i)) (0)), cI K a7 (M 18 3) (fA (fun i => iN (M 14 i)) (t)), cI K a6 (M 18 3) (fA (fun i => iN (M 13 i)) (t)), cI K a5 (M 18 3) (fA (fun i => iN (M 12 i)) (t + 1)), cI K a4 (M 18 3) (fA (fun i => iN (M 11 i)) (t + 1)), cI K a3 (M 18 3) (fA (fun i => iN (M 10 i)) (t + 1))] ++ ro_W K A Y)) rfl (by rw [fA_upd] <;> rfl) dL_minutes_85 ?_
    refine J_aload C 3 dL_minutes_86 rfl ?_
    refine J_iload C 0 dL_minutes_88 rfl ?_
    refine J_aload_n C 9 dL_minutes_90 rfl ?_
    refine J_iload C 0 dL_minutes_91 rfl ?_
    refine J_iconst C (v := 3) dL_minutes_93 rfl ?_
    refine x_token C Yc (Nat.le_of_ble_eq_true rfl) (Nat.le_of_ble_eq_true rfl) [cI K a8 (M 18 2) (fA (fun i => iN (whN M i)) (0)), cI K a7 (M 18 3) (fA (fun i => iN (M 14 i)) (t)), cI K a6 (M 18 3) (fA (fun i => iN (M 13 i)) (t)), cI K a5 (M 18 3) (fA (fun i => iN (M 12 i)) (t + 1)), cI K a4 (M 18 3) (fA (fun i => iN (M 11 i)) (t + 1)), cI K a3 (M 18 3) (fA (fun i => iN (M 10 i)) (t + 1))] (w := (iN (M 13 t))) (hS.tok3 hd) dL_minutes_94 (Nat.le_of_ble_eq_true rfl) (Nat.le_of_ble_eq_true rfl) ?_
    refine J_isN C 2 t rfl hd (by omega) (ws2 := ([cI K a8 (M 18 2) (fA (fun i => iN (whN M i)) (0)), cI K a7 (M 18 3) (fA (fun i => iN (M 14 i)) (t)), cI K a6 (M 18 3) (fA (fun i => iN (M 13 i)) (t + 1)), cI K a5 (M 18 3) (fA (fun i => iN (M 12 i)) (t + 1)), cI K a4 (M 18 3) (fA (fun i => iN (M 11 i)) (t + 1)), cI K a3 (M 18 3) (fA (fun i => iN (M 10 i)) (t + 1))] ++ ro_W K A Y)) rfl (by rw [fA_upd] <;> rfl) dL_minutes_97 ?_
    refine J_aload C 2 dL_minutes_98 rfl ?_
    refine J_iload C 0 dL_minutes_100 rfl ?_
    refine J_aload_n C 9 dL_minutes_102 rfl ?_
    refine J_iload C 0 dL_minutes_103 rfl ?_
    refine J_iconst C (v := 4) dL_minutes_105 rfl ?_
    refine x_token C Yc (Nat.le_of_ble_eq_true rfl) (Nat.le_of_ble_eq_true rfl) [cI K a8 (M 18 2) (fA (fun i => iN (whN M i)) (0)), cI K a7 (M 18 3) (fA (fun i => iN (M 14 i)) (t)), cI K a6 (M 18 3) (fA (fun i => iN (M 13 i)) (t + 1)), cI K a5 (M 18 3) (fA (fun i => iN (M 12 i)) (t + 1)), cI K a4 (M 18 3) (fA (fun i => iN (M 11 i)) (t + 1)), cI K a3 (M 18 3) (fA (fun i => iN (M 10 i)) (t + 1))] (w := (iN (M 14 t))) (hS.tok4 hd) dL_minutes_106 (Nat.le_of_ble_eq_true rfl) (Nat.le_of_ble_eq_true rfl) ?_
    refine J_isN C 1 t rfl hd (by omega) (ws2 := ([cI K a8 (M 18 2) (fA (fun i => iN (whN M i)) (0)), cI K a7 (M 18 3) (fA (fun i => iN (M 14 i)) (t + 1)), cI K a6 (M 18 3) (fA (fun i => iN (M 13 i)) (t + 1)), cI K a5 (M 18 3) (fA (fun i => iN (M 12 i)) (t + 1)), cI K a4 (M 18 3) (fA (fun i => iN (M 11 i)) (t + 1)), cI K a3 (M 18 3) (fA (fun i => iN (M 10 i)) (t + 1))] ++ ro_W K A Y)) rfl (by rw [fA_upd] <;> rfl) dL_minutes_109 ?_
    refine J_iinc C 0 (w := (iN ((t) + 1))) (lv' := [(9, .int (iN ((t) + 1))), (8, .ref a8), (7, .ref a7), (6, .ref a6), (5, .ref a5), (4, .ref a4), (3, .ref a3), (2, .int (iN (M 18 3))), (1, .int (iN (M 18 2))), (0, .ref (A 4 0))]) dL_minutes_110 rfl (iN_add _ _) (by decide) rfl ?_
    refine J_goto C 45 dL_minutes_113 rfl ?_
    refine J_sub [0, 1, 2, 3, 4, 5, 6, 7, 8, 9] (lv' := [(9, .int (iN ((t) + 1))), (8, .ref a8), (7, .ref a7), (6, .ref a6), (5, .ref a5), (4, .ref a4), (3, .ref a3), (2, .int (iN (M 18 3))), (1, .int (iN (M 18 2))), (0, .ref (A 4 0))]) rfl ?_
    exact ih (t + 1) (by omega)
theorem mm_why (C : Cx l K Γ RL cL_minutes 17 (some .boolean) 9) (Yc : Cy Γ 8 39) (hS : St B Y M) (hB : B ≤ 9000) (kf : J l K Γ Q 6 25 ([cI K a8 (M 18 2) (fA (fun i => iN (whN M i)) (M 18 2)), cI K a7 (M 18 3) (fA (fun i => iN (M 14 i)) (M 18 3)), cI K a6 (M 18 3) (fA (fun i => iN (M 13 i)) (M 18 3)), cI K a5 (M 18 3) (fA (fun i => iN (M 12 i)) (M 18 3)), cI K a4 (M 18 3) (fA (fun i => iN (M 11 i)) (M 18 3)), cI K a3 (M 18 3) (fA (fun i => iN (M 10 i)) (M 18 3))] ++ ro_W K A Y) 142 17 [(9, .int (iN (M 18 2))), (8, .ref a8), (7, .ref a7), (6, .ref a6), (5, .ref a5), (4, .ref a4), (3, .ref a3), (2, .int (iN (M 18 3))), (1, .int (iN (M 18 2))), (0, .ref (A 4 0))] []) : ∀ d o, o + d = M 18 2 → J l K Γ Q 6 25 ([cI K a8 (M 18 2) (fA (fun i => iN (whN M i)) (o)), cI K a7 (M 18 3) (fA (fun i => iN (M 14 i)) (M 18 3)), cI K a6 (M 18 3) (fA (fun i => iN (M 13 i)) (M 18 3)), cI K a5 (M 18 3) (fA (fun i => iN (M 12 i)) (M 18 3)), cI K a4 (M 18 3) (fA (fun i => iN (M 11 i)) (M 18 3)), cI K a3 (M 18 3) (fA (fun i => iN (M 10 i)) (M 18 3))] ++ ro_W K A Y) 119 17 [(9, .int (iN (o))), (8, .ref a8), (7, .ref a7), (6, .ref a6), (5, .ref a5), (4, .ref a4), (3, .ref a3), (2, .int (iN (M 18 3))), (1, .int (iN (M 18 2))), (0, .ref (A 4 0))] [] := by
  have c10 := hS.2.1.1.c10
  have c2 := hS.2.1.1.c2
  have t3 := hS.2.1.2.1.1
  intro d
  induction d with
  | zero =>
    intro o e
    rw [show o = M 18 2 by omega]
    refine J_iload C 0 dL_minutes_119 rfl ?_
    refine J_iload_n C 8 dL_minutes_121 rfl ?_
    refine J_icmp_ge_n C 142 (iN_nlt' (Nat.le_refl _) (by omega)) dL_minutes_122 rfl ?_
    exact kf
  | succ d ih =>
    intro o e
    have hd : o < M 18 2 := by omega
    refine J_iload C 0 dL_minutes_119 rfl ?_
    refine J_iload_n C 8 dL_minutes_121 rfl ?_
    refine J_icmp_ge_y C 142 (iN_ylt' hd (by omega)) dL_minutes_122 rfl ?_
    refine J_aload C 1 dL_minutes_125 rfl ?_
    refine J_iload C 0 dL_minutes_127 rfl ?_
    refine J_aload_n C 9 dL_minutes_129 rfl ?_
    refine J_iload C 0 dL_minutes_130 rfl ?_
    refine x_why C Yc (Nat.le_of_ble_eq_true rfl) (Nat.le_of_ble_eq_true rfl) [cI K a8 (M 18 2) (fA (fun i => iN (whN M i)) (o)), cI K a7 (M 18 3) (fA (fun i => iN (M 14 i)) (M 18 3)), cI K a6 (M 18 3) (fA (fun i => iN (M 13 i)) (M 18 3)), cI K a5 (M 18 3) (fA (fun i => iN (M 12 i)) (M 18 3)), cI K a4 (M 18 3) (fA (fun i => iN (M 11 i)) (M 18 3)), cI K a3 (M 18 3) (fA (fun i => iN (M 10 i)) (M 18 3))] (w := (iN (whN M o))) (hS.why (by omega) hd) dL_minutes_132 (Nat.le_of_ble_eq_true rfl) (Nat.le_of_ble_eq_true rfl) ?_
    refine J_isN C 0 o rfl hd (by omega) (ws2 := ([cI K a8 (M 18 2) (fA (fun i => iN (whN M i)) (o + 1)), cI K a7 (M 18 3) (fA (fun i => iN (M 14 i)) (M 18 3)), cI K a6 (M 18 3) (fA (fun i => iN (M 13 i)) (M 18 3)), cI K a5 (M 18 3) (fA (fun i => iN (M 12 i)) (M 18 3)), cI K a4 (M 18 3) (fA (fun i => iN (M 11 i)) (M 18 3)), cI K a3 (M 18 3) (fA (fun i => iN (M 10 i)) (M 18 3))] ++ ro_W K A Y)) rfl (by rw [fA_upd] <;> rfl) dL_minutes_135 ?_
    refine J_iinc C 0 (w := (iN ((o) + 1))) (lv' := [(9, .int (iN ((o) + 1))), (8, .ref a8), (7, .ref a7), (6, .ref a6), (5, .ref a5), (4, .ref a4), (3, .ref a3), (2, .int (iN (M 18 3))), (1, .int (iN (M 18 2))), (0, .ref (A 4 0))]) dL_minutes_136 rfl (iN_add _ _) (by decide) rfl ?_
    refine J_goto C 119 dL_minutes_139 rfl ?_
    refine J_sub [0, 1, 2, 3, 4, 5, 6, 7, 8, 9] (lv' := [(9, .int (iN ((o) + 1))), (8, .ref a8), (7, .ref a7), (6, .ref a6), (5, .ref a5), (4, .ref a4), (3, .ref a3), (2, .int (iN (M 18 3))), (1, .int (iN (M 18 2))), (0, .ref (A 4 0))]) rfl ?_
    exact ih (o + 1) (by omega)
theorem mm_told (C : Cx l K Γ RL cL_minutes 17 (some .boolean) 9) (Yc : Cy Γ 8 39) (hS : St B Y M) (hB : B ≤ 9000) (kf : ∀ Yk, SC Y Yk → J l K Γ Q 8 39 ([cI K a11 (6) (fA (fun i => toN5 M M 1 i) (6)), cI K a9 (8) (fA (fun i => iN (hadN M i)) (8)), cI K a8 (M 18 2) (fA (fun i => iN (whN M i)) (M 18 2)), cI K a7 (M 18 3) (fA (fun i => iN (M 14 i)) (M 18 3)), cI K a6 (M 18 3) (fA (fun i => iN (M 13 i)) (M 18 3)), cI K a5 (M 18 3) (fA (fun i => iN (M 12 i)) (M 18 3)), cI K a4 (M 18 3) (fA (fun i => iN (M 11 i)) (M 18 3)), cI K a3 (M 18 3) (fA (fun i => iN (M 10 i)) (M 18 3))] ++ ro_W K A Yk) 272 17 [(12, .int (iN (6))), (11, .ref a11), (10, .int 1), (9, .ref a9), (8, .ref a8), (7, .ref a7), (6, .ref a6), (5, .ref a5), (4, .ref a4), (3, .ref a3), (2, .int (iN (M 18 3))), (1, .int (iN (M 18 2))), (0, .ref (A 4 0))] []) : ∀ d k Yk, k + d = 6 → SC Y Yk → J l K Γ Q 8 39 ([cI K a11 (6) (fA (fun i => toN5 M M 1 i) (k)), cI K a9 (8) (fA (fun i => iN (hadN M i)) (8)), cI K a8 (M 18 2) (fA (fun i => iN (whN M i)) (M 18 2)), cI K a7 (M 18 3) (fA (fun i => iN (M 14 i)) (M 18 3)), cI K a6 (M 18 3) (fA (fun i => iN (M 13 i)) (M 18 3)), cI K a5 (M 18 3) (fA (fun i => iN (M 12 i)) (M 18 3)), cI K a4 (M 18 3) (fA (fun i => iN (M 11 i)) (M 18 3)), cI K a3 (M 18 3) (fA (fun i => iN (M 10 i)) (M 18 3))] ++ ro_W K A Yk) 247 17 [(12, .int (iN (k))), (11, .ref a11), (10, .int 1), (9, .ref a9), (8, .ref a8), (7, .ref a7), (6, .ref a6), (5, .ref a5), (4, .ref a4), (3, .ref a3), (2, .int (iN (M 18 3))), (1, .int (iN (M 18 2))), (0, .ref (A 4 0))] [] := by
  have c10 := hS.2.1.1.c10
  have c2 := hS.2.1.1.c2
  have t3 := hS.2.1.2.1.1
  intro d
  induction d with
  | zero =>
    intro k Yk e hsc
    rw [show k = 6 by omega]
    refine J_iload C 0 dL_minutes_247 rfl ?_
    refine J_bipush C (v := 6) dL_minutes_249 rfl ?_
    refine J_icmp_ge_n C 272 (iN_nlt' (a := 6) (b := 6) (Nat.le_refl _) (by decide)) dL_minutes_251 rfl ?_
    exact kf Yk hsc
  | succ d ih =>
    intro k Yk e hsc
    have hd : k < 6 := by omega
    obtain ⟨Y2, hv, hsc2⟩ := (SC.st hS hsc).ifPassed (by omega) (m := 1) (w := k) (by decide) (by omega)
    refine J_iload C 0 dL_minutes_247 rfl ?_
    refine J_bipush C (v := 6) dL_minutes_249 rfl ?_
    refine J_icmp_ge_y C 272 (iN_ylt' (b := 6) hd (by decide)) dL_minutes_251 rfl ?_
    refine J_aload C 1 dL_minutes_254 rfl ?_
    refine J_iload C 0 dL_minutes_256 rfl ?_
    refine J_aload_n C 12 dL_minutes_258 rfl ?_
    refine J_iconst C (v := 1) dL_minutes_259 rfl ?_
    refine J_iload C 0 dL_minutes_260 rfl ?_
    refine x_ifPassed C Yc (Nat.le_of_ble_eq_true rfl) (Nat.le_of_ble_eq_true rfl) [cI K a11 (6) (fA (fun i => toN5 M M 1 i) (k)), cI K a9 (8) (fA (fun i => iN (hadN M i)) (8)), cI K a8 (M 18 2) (fA (fun i => iN (whN M i)) (M 18 2)), cI K a7 (M 18 3) (fA (fun i => iN (M 14 i)) (M 18 3)), cI K a6 (M 18 3) (fA (fun i => iN (M 13 i)) (M 18 3)), cI K a5 (M 18 3) (fA (fun i => iN (M 12 i)) (M 18 3)), cI K a4 (M 18 3) (fA (fun i => iN (M 11 i)) (M 18 3)), cI K a3 (M 18 3) (fA (fun i => iN (M 10 i)) (M 18 3))] (w := (toN5 M M 1 k)) hv dL_minutes_262 (Nat.le_of_ble_eq_true rfl) (Nat.le_of_ble_eq_true rfl) ?_
    refine J_isN C 0 k rfl hd (by omega) (ws2 := ([cI K a11 (6) (fA (fun i => toN5 M M 1 i) (k + 1)), cI K a9 (8) (fA (fun i => iN (hadN M i)) (8)), cI K a8 (M 18 2) (fA (fun i => iN (whN M i)) (M 18 2)), cI K a7 (M 18 3) (fA (fun i => iN (M 14 i)) (M 18 3)), cI K a6 (M 18 3) (fA (fun i => iN (M 13 i)) (M 18 3)), cI K a5 (M 18 3) (fA (fun i => iN (M 12 i)) (M 18 3)), cI K a4 (M 18 3) (fA (fun i => iN (M 11 i)) (M 18 3)), cI K a3 (M 18 3) (fA (fun i => iN (M 10 i)) (M 18 3))] ++ ro_W K A Y2)) rfl (by rw [fA_upd] <;> rfl) dL_minutes_265 ?_
    refine J_iinc C 0 (w := (iN ((k) + 1))) (lv' := [(12, .int (iN ((k) + 1))), (11, .ref a11), (10, .int 1), (9, .ref a9), (8, .ref a8), (7, .ref a7), (6, .ref a6), (5, .ref a5), (4, .ref a4), (3, .ref a3), (2, .int (iN (M 18 3))), (1, .int (iN (M 18 2))), (0, .ref (A 4 0))]) dL_minutes_266 rfl (iN_add _ _) (by decide) rfl ?_
    refine J_goto C 247 dL_minutes_269 rfl ?_
    refine J_sub [0, 1, 2, 3, 4, 5, 6, 7, 8, 9, 10, 11, 12] (lv' := [(12, .int (iN ((k) + 1))), (11, .ref a11), (10, .int 1), (9, .ref a9), (8, .ref a8), (7, .ref a7), (6, .ref a6), (5, .ref a5), (4, .ref a4), (3, .ref a3), (2, .int (iN (M 18 3))), (1, .int (iN (M 18 2))), (0, .ref (A 4 0))]) rfl ?_
    exact ih (k + 1) Y2 (by omega) (hsc.tr hsc2)
theorem mm_look {t : Nat} {sp : Int32} (C : Cx l K Γ RL cL_minutes 17 (some .boolean) 9) (Yc : Cy Γ 8 39) (hS : St B Y M) (hB : B ≤ 9000) (hP : St (B + 5) P N) (ht : t < M 18 3) (kf : J l K Γ Q 8 39 ([cI K a11 (6) (fA (fun i => toN5 M M 1 i) (6)), cI K a9 (8) (fA (fun i => iN (hadN M i)) (8)), cI K a8 (M 18 2) (fA (fun i => iN (whN M i)) (M 18 2)), cI K a7 (M 18 3) (fA (fun i => iN (M 14 i)) (M 18 3)), cI K a6 (M 18 3) (fA (fun i => iN (M 13 i)) (M 18 3)), cI K a5 (M 18 3) (fA (fun i => iN (M 12 i)) (M 18 3)), cI K a4 (M 18 3) (fA (fun i => iN (M 11 i)) (M 18 3)), cI K a3 (M 18 3) (fA (fun i => iN (M 10 i)) (M 18 3))] ++ ro_W K A P) 406 17 [(16, .int (iN (N 18 3))), (15, .int (iP (lookN N (M 10 t) (N 18 3)))), (14, .int (iN (t))), (13, .int sp), (12, .int (dayN M)), (11, .ref a11), (10, .int 1), (9, .ref a9), (8, .ref a8), (7, .ref a7), (6, .ref a6), (5, .ref a5), (4, .ref a4), (3, .ref a3), (2, .int (iN (M 18 3))), (1, .int (iN (M 18 2))), (0, .ref (A 4 0))] []) : ∀ d q, q + d = N 18 3 → J l K Γ Q 8 39 ([cI K a11 (6) (fA (fun i => toN5 M M 1 i) (6)), cI K a9 (8) (fA (fun i => iN (hadN M i)) (8)), cI K a8 (M 18 2) (fA (fun i => iN (whN M i)) (M 18 2)), cI K a7 (M 18 3) (fA (fun i => iN (M 14 i)) (M 18 3)), cI K a6 (M 18 3) (fA (fun i => iN (M 13 i)) (M 18 3)), cI K a5 (M 18 3) (fA (fun i => iN (M 12 i)) (M 18 3)), cI K a4 (M 18 3) (fA (fun i => iN (M 11 i)) (M 18 3)), cI K a3 (M 18 3) (fA (fun i => iN (M 10 i)) (M 18 3))] ++ ro_W K A P) 371 17 [(16, .int (iN (q))), (15, .int (iP (lookN N (M 10 t) (q)))), (14, .int (iN (t))), (13, .int sp), (12, .int (dayN M)), (11, .ref a11), (10, .int 1), (9, .ref a9), (8, .ref a8), (7, .ref a7), (6, .ref a6), (5, .ref a5), (4, .ref a4), (3, .ref a3), (2, .int (iN (M 18 3))), (1, .int (iN (M 18 2))), (0, .ref (A 4 0))] [] := by
  have c10 := hS.2.1.1.c10
  have c2 := hS.2.1.1.c2
  have t3 := hS.2.1.2.1.1
  have t3n := hP.2.1.2.1.1
  intro d
  induction d with
  | zero =>
    intro q e
    rw [show q = N 18 3 by omega]
    refine J_iload C 0 dL_minutes_371 rfl ?_
    refine J_aload_n C 16 dL_minutes_373 rfl ?_
    refine J_bipush C (v := 6) dL_minutes_374 rfl ?_
    refine x_value C Yc (Nat.le_of_ble_eq_true rfl) (Nat.le_of_ble_eq_true rfl) [cI K a11 (6) (fA (fun i => toN5 M M 1 i) (6)), cI K a9 (8) (fA (fun i => iN (hadN M i)) (8)), cI K a8 (M 18 2) (fA (fun i => iN (whN M i)) (M 18 2)), cI K a7 (M 18 3) (fA (fun i => iN (M 14 i)) (M 18 3)), cI K a6 (M 18 3) (fA (fun i => iN (M 13 i)) (M 18 3)), cI K a5 (M 18 3) (fA (fun i => iN (M 12 i)) (M 18 3)), cI K a4 (M 18 3) (fA (fun i => iN (M 11 i)) (M 18 3)), cI K a3 (M 18 3) (fA (fun i => iN (M 10 i)) (M 18 3))] (w := (iN (N 18 3))) hP.val6 dL_minutes_376 (Nat.le_of_ble_eq_true rfl) (Nat.le_of_ble_eq_true rfl) ?_
    refine J_icmp_ge_n C 406 (iN_nlt' (Nat.le_refl _) (by omega)) dL_minutes_379 rfl ?_
    exact kf
  | succ d ih =>
    intro q e
    have hd : q < N 18 3 := by omega
    have b1 := (hP.2.1.2.1.2.2.1 q hd).2.1
    have b2 := hP.2.1.2.1.2.1
    have b3 := (hS.2.1.2.1.2.2.1 t ht).2.1
    have b4 := hS.2.1.2.1.2.1
    refine J_iload C 0 dL_minutes_371 rfl ?_
    refine J_aload_n C 16 dL_minutes_373 rfl ?_
    refine J_bipush C (v := 6) dL_minutes_374 rfl ?_
    refine x_value C Yc (Nat.le_of_ble_eq_true rfl) (Nat.le_of_ble_eq_true rfl) [cI K a11 (6) (fA (fun i => toN5 M M 1 i) (6)), cI K a9 (8) (fA (fun i => iN (hadN M i)) (8)), cI K a8 (M 18 2) (fA (fun i => iN (whN M i)) (M 18 2)), cI K a7 (M 18 3) (fA (fun i => iN (M 14 i)) (M 18 3)), cI K a6 (M 18 3) (fA (fun i => iN (M 13 i)) (M 18 3)), cI K a5 (M 18 3) (fA (fun i => iN (M 12 i)) (M 18 3)), cI K a4 (M 18 3) (fA (fun i => iN (M 11 i)) (M 18 3)), cI K a3 (M 18 3) (fA (fun i => iN (M 10 i)) (M 18 3))] (w := (iN (N 18 3))) hP.val6 dL_minutes_376 (Nat.le_of_ble_eq_true rfl) (Nat.le_of_ble_eq_true rfl) ?_
    refine J_icmp_ge_y C 406 (iN_ylt' hd (by omega)) dL_minutes_379 rfl ?_
    refine J_aload_n C 16 dL_minutes_382 rfl ?_
    refine J_iload C 0 dL_minutes_383 rfl ?_
    refine J_iconst C (v := 0) dL_minutes_385 rfl ?_
    refine x_token C Yc (Nat.le_of_ble_eq_true rfl) (Nat.le_of_ble_eq_true rfl) [cI K a11 (6) (fA (fun i => toN5 M M 1 i) (6)), cI K a9 (8) (fA (fun i => iN (hadN M i)) (8)), cI K a8 (M 18 2) (fA (fun i => iN (whN M i)) (M 18 2)), cI K a7 (M 18 3) (fA (fun i => iN (M 14 i)) (M 18 3)), cI K a6 (M 18 3) (fA (fun i => iN (M 13 i)) (M 18 3)), cI K a5 (M 18 3) (fA (fun i => iN (M 12 i)) (M 18 3)), cI K a4 (M 18 3) (fA (fun i => iN (M 11 i)) (M 18 3)), cI K a3 (M 18 3) (fA (fun i => iN (M 10 i)) (M 18 3))] (w := (iN (N 10 q))) (hP.tok0 hd) dL_minutes_386 (Nat.le_of_ble_eq_true rfl) (Nat.le_of_ble_eq_true rfl) ?_
    refine J_aload_n C 13 dL_minutes_389 rfl ?_
    refine J_iload C 2 dL_minutes_390 rfl ?_
    refine J_iaN C 7 t rfl ht (by omega) rfl dL_minutes_392 ?_
    refine J_eqi (b := (iN (M 10 t))) (fA_get ht) ?_
    by_cases hv : N 10 q = M 10 t
    · have hl : lookN N (M 10 t) (q + 1) = some q := if_pos hv
      have ih := ih (q + 1) (by omega)
      rw [hl] at ih
      refine J_icmp_ne_y C 400 (by rw [hv]) dL_minutes_393 rfl ?_
      refine J_iload C 0 dL_minutes_396 rfl ?_
      refine J_istore C (lv' := [(15, .int (iN (q))), (16, .int (iN (q))), (14, .int (iN (t))), (13, .int sp), (12, .int (dayN M)), (11, .ref a11), (10, .int 1), (9, .ref a9), (8, .ref a8), (7, .ref a7), (6, .ref a6), (5, .ref a5), (4, .ref a4), (3, .ref a3), (2, .int (iN (M 18 3))), (1, .int (iN (M 18 2))), (0, .ref (A 4 0))]) dL_minutes_398 (by decide) rfl ?_
      refine J_iinc C 1 (w := (iN ((q) + 1))) (lv' := [(16, .int (iN ((q) + 1))), (15, .int (iN (q))), (14, .int (iN (t))), (13, .int sp), (12, .int (dayN M)), (11, .ref a11), (10, .int 1), (9, .ref a9), (8, .ref a8), (7, .ref a7), (6, .ref a6), (5, .ref a5), (4, .ref a4), (3, .ref a3), (2, .int (iN (M 18 3))), (1, .int (iN (M 18 2))), (0, .ref (A 4 0))]) dL_minutes_400 rfl (iN_add _ _) (by decide) rfl ?_
      refine J_goto C 371 dL_minutes_403 rfl ?_
      refine J_sub [0, 1, 2, 3, 4, 5, 6, 7, 8, 9, 10, 11, 12, 13, 14, 15, 16] (lv' := [(16, .int (iN ((q) + 1))), (15, .int (iN (q))), (14, .int (iN (t))), (13, .int sp), (12, .int (dayN M)), (11, .ref a11), (10, .int 1), (9, .ref a9), (8, .ref a8), (7, .ref a7), (6, .ref a6), (5, .ref a5), (4, .ref a4), (3, .ref a3), (2, .int (iN (M 18 3))), (1, .int (iN (M 18 2))), (0, .ref (A 4 0))]) rfl ?_
      exact ih
    · have hl : lookN N (M 10 t) (q + 1) = lookN N (M 10 t) q := if_neg hv
      have ih := ih (q + 1) (by omega)
      rw [hl] at ih
      refine J_icmp_ne_n C 400 (iN_ne' hv (by omega) (by omega)) dL_minutes_393 rfl ?_
      refine J_iinc C 0 (w := (iN ((q) + 1))) (lv' := [(16, .int (iN ((q) + 1))), (15, .int (iP (lookN N (M 10 t) (q)))), (14, .int (iN (t))), (13, .int sp), (12, .int (dayN M)), (11, .ref a11), (10, .int 1), (9, .ref a9), (8, .ref a8), (7, .ref a7), (6, .ref a6), (5, .ref a5), (4, .ref a4), (3, .ref a3), (2, .int (iN (M 18 3))), (1, .int (iN (M 18 2))), (0, .ref (A 4 0))]) dL_minutes_400 rfl (iN_add _ _) (by decide) rfl ?_
      refine J_goto C 371 dL_minutes_403 rfl ?_
      refine J_sub [0, 1, 2, 3, 4, 5, 6, 7, 8, 9, 10, 11, 12, 13, 14, 15, 16] (lv' := [(16, .int (iN ((q) + 1))), (15, .int (iP (lookN N (M 10 t) (q)))), (14, .int (iN (t))), (13, .int sp), (12, .int (dayN M)), (11, .ref a11), (10, .int 1), (9, .ref a9), (8, .ref a8), (7, .ref a7), (6, .ref a6), (5, .ref a5), (4, .ref a4), (3, .ref a3), (2, .int (iN (M 18 3))), (1, .int (iN (M 18 2))), (0, .ref (A 4 0))]) rfl ?_
      exact ih
theorem mm_tok (C : Cx l K Γ RL cL_minutes 17 (some .boolean) 9) (Yc : Cy Γ 8 39) (hS : St B Y M) (hB : B ≤ 9000) (hP : St (B + 5) P N) (hM : MS M N) (kf : J l K Γ Q 8 39 ([cI K a11 (6) (fA (fun i => toN5 M M 1 i) (6)), cI K a9 (8) (fA (fun i => iN (hadN M i)) (8)), cI K a8 (M 18 2) (fA (fun i => iN (whN M i)) (M 18 2)), cI K a7 (M 18 3) (fA (fun i => iN (M 14 i)) (M 18 3)), cI K a6 (M 18 3) (fA (fun i => iN (M 13 i)) (M 18 3)), cI K a5 (M 18 3) (fA (fun i => iN (M 12 i)) (M 18 3)), cI K a4 (M 18 3) (fA (fun i => iN (M 11 i)) (M 18 3)), cI K a3 (M 18 3) (fA (fun i => iN (M 10 i)) (M 18 3))] ++ ro_W K A P) 831 17 [(14, .int (iN (M 18 3))), (13, .int (iN (nsum (rdC M) (M 18 3)))), (12, .int (dayN M)), (11, .ref a11), (10, .int 1), (9, .ref a9), (8, .ref a8), (7, .ref a7), (6, .ref a6), (5, .ref a5), (4, .ref a4), (3, .ref a3), (2, .int (iN (M 18 3))), (1, .int (iN (M 18 2))), (0, .ref (A 4 0))] []) : ∀ d t, t + d = M 18 3 → J l K Γ Q 8 39 ([cI K a11 (6) (fA (fun i => toN5 M M 1 i) (6)), cI K a9 (8) (fA (fun i => iN (hadN M i)) (8)), cI K a8 (M 18 2) (fA (fun i => iN (whN M i)) (M 18 2)), cI K a7 (M 18 3) (fA (fun i => iN (M 14 i)) (M 18 3)), cI K a6 (M 18 3) (fA (fun i => iN (M 13 i)) (M 18 3)), cI K a5 (M 18 3) (fA (fun i => iN (M 12 i)) (M 18 3)), cI K a4 (M 18 3) (fA (fun i => iN (M 11 i)) (M 18 3)), cI K a3 (M 18 3) (fA (fun i => iN (M 10 i)) (M 18 3))] ++ ro_W K A P) 354 17 [(14, .int (iN (t))), (13, .int (iN (nsum (rdC M) (t)))), (12, .int (dayN M)), (11, .ref a11), (10, .int 1), (9, .ref a9), (8, .ref a8), (7, .ref a7), (6, .ref a6), (5, .ref a5), (4, .ref a4), (3, .ref a3), (2, .int (iN (M 18 3))), (1, .int (iN (M 18 2))), (0, .ref (A 4 0))] [] := by
  have c10 := hS.2.1.1.c10
  have c2 := hS.2.1.1.c2
  have t3 := hS.2.1.2.1.1
  have r15 := hS.2.1.2.2.2.1.2.2.2.2.1
  have s15 := hP.2.1.2.2.2.1.2.2.2.2.1
  have ec := hM.2.1
  intro d
  induction d with
  | zero =>
    intro t e
    rw [show t = M 18 3 by omega]
    refine J_iload C 0 dL_minutes_354 rfl ?_
    refine J_iload_n C 12 dL_minutes_356 rfl ?_
    refine J_icmp_ge_n C 831 (iN_nlt' (Nat.le_refl _) (by omega)) dL_minutes_357 rfl ?_
    exact kf
  | succ d ih =>
    intro t e
    have hd : t < M 18 3 := by omega
    have TT := hS.2.1.2.1.2.2.1 t hd
    have hp : M 11 t < M 18 2 := TT.2.2.1
    have h12b : M 12 t ≤ 9 := TT.2.2.2.1
    have h13b := TT.2.2.2.2.1
    have h14b := TT.2.2.2.2.2.1
    refine J_iload C 0 dL_minutes_354 rfl ?_
    refine J_iload_n C 12 dL_minutes_356 rfl ?_
    refine J_icmp_ge_y C 831 (iN_ylt' hd (by omega)) dL_minutes_357 rfl ?_
    refine J_iload C 4 dL_minutes_360 rfl ?_
    refine J_if_eq_n C 831 (by decide) dL_minutes_362 rfl ?_
    refine J_iconst C (v := -1) dL_minutes_365 rfl ?_
    refine J_istore C (lv' := [(15, .int (-1)), (14, .int (iN (t))), (13, .int (iN (nsum (rdC M) (t)))), (12, .int (dayN M)), (11, .ref a11), (10, .int 1), (9, .ref a9), (8, .ref a8), (7, .ref a7), (6, .ref a6), (5, .ref a5), (4, .ref a4), (3, .ref a3), (2, .int (iN (M 18 3))), (1, .int (iN (M 18 2))), (0, .ref (A 4 0))]) dL_minutes_366 (by decide) rfl ?_
    refine J_iconst C (v := 0) dL_minutes_368 rfl ?_
    refine J_istore C (lv' := [(16, .int 0), (15, .int (-1)), (14, .int (iN (t))), (13, .int (iN (nsum (rdC M) (t)))), (12, .int (dayN M)), (11, .ref a11), (10, .int 1), (9, .ref a9), (8, .ref a8), (7, .ref a7), (6, .ref a6), (5, .ref a5), (4, .ref a4), (3, .ref a3), (2, .int (iN (M 18 3))), (1, .int (iN (M 18 2))), (0, .ref (A 4 0))]) dL_minutes_369 (by decide) rfl ?_
    refine J_sub [0, 1, 2, 3, 4, 5, 6, 7, 8, 9, 10, 11, 12, 13, 14, 15, 16] (lv' := [(16, .int 0), (15, .int (-1)), (14, .int (iN (t))), (13, .int (iN (nsum (rdC M) (t)))), (12, .int (dayN M)), (11, .ref a11), (10, .int 1), (9, .ref a9), (8, .ref a8), (7, .ref a7), (6, .ref a6), (5, .ref a5), (4, .ref a4), (3, .ref a3), (2, .int (iN (M 18 3))), (1, .int (iN (M 18 2))), (0, .ref (A 4 0))]) rfl ?_
    refine mm_look C Yc hS hB hP hd ?_ (N 18 3) 0 (by omega)
    have k825 : J l K Γ Q 8 39 ([cI K a11 (6) (fA (fun i => toN5 M M 1 i) (6)), cI K a9 (8) (fA (fun i => iN (hadN M i)) (8)), cI K a8 (M 18 2) (fA (fun i => iN (whN M i)) (M 18 2)), cI K a7 (M 18 3) (fA (fun i => iN (M 14 i)) (M 18 3)), cI K a6 (M 18 3) (fA (fun i => iN (M 13 i)) (M 18 3)), cI K a5 (M 18 3) (fA (fun i => iN (M 12 i)) (M 18 3)), cI K a4 (M 18 3) (fA (fun i => iN (M 11 i)) (M 18 3)), cI K a3 (M 18 3) (fA (fun i => iN (M 10 i)) (M 18 3))] ++ ro_W K A P) 825 17 [(13, .int (iN (nsum (rdC M) (t + 1)))), (14, .int (iN (t))), (12, .int (dayN M)), (11, .ref a11), (10, .int 1), (9, .ref a9), (8, .ref a8), (7, .ref a7), (6, .ref a6), (5, .ref a5), (4, .ref a4), (3, .ref a3), (2, .int (iN (M 18 3))), (1, .int (iN (M 18 2))), (0, .ref (A 4 0))] [] := by
      refine J_iinc C 1 (w := (iN ((t) + 1))) (lv' := [(14, .int (iN ((t) + 1))), (13, .int (iN (nsum (rdC M) (t + 1)))), (12, .int (dayN M)), (11, .ref a11), (10, .int 1), (9, .ref a9), (8, .ref a8), (7, .ref a7), (6, .ref a6), (5, .ref a5), (4, .ref a4), (3, .ref a3), (2, .int (iN (M 18 3))), (1, .int (iN (M 18 2))), (0, .ref (A 4 0))]) dL_minutes_825 rfl (iN_add _ _) (by decide) rfl ?_
      refine J_goto C 354 dL_minutes_828 rfl ?_
      refine J_sub [0, 1, 2, 3, 4, 5, 6, 7, 8, 9, 10, 11, 12, 13, 14] (lv' := [(14, .int (iN ((t) + 1))), (13, .int (iN (nsum (rdC M) (t + 1)))), (12, .int (dayN M)), (11, .ref a11), (10, .int 1), (9, .ref a9), (8, .ref a8), (7, .ref a7), (6, .ref a6), (5, .ref a5), (4, .ref a4), (3, .ref a3), (2, .int (iN (M 18 3))), (1, .int (iN (M 18 2))), (0, .ref (A 4 0))]) rfl ?_
      exact ih (t + 1) (by omega)
    have k425 : J l K Γ Q 8 39 ([cI K a11 (6) (fA (fun i => toN5 M M 1 i) (6)), cI K a9 (8) (fA (fun i => iN (hadN M i)) (8)), cI K a8 (M 18 2) (fA (fun i => iN (whN M i)) (M 18 2)), cI K a7 (M 18 3) (fA (fun i => iN (M 14 i)) (M 18 3)), cI K a6 (M 18 3) (fA (fun i => iN (M 13 i)) (M 18 3)), cI K a5 (M 18 3) (fA (fun i => iN (M 12 i)) (M 18 3)), cI K a4 (M 18 3) (fA (fun i => iN (M 11 i)) (M 18 3)), cI K a3 (M 18 3) (fA (fun i => iN (M 10 i)) (M 18 3))] ++ ro_W K A P) 425 17 [(13, .int (iN (nsum (rdC M) (t + 1)))), (16, .int (iN (N 18 3))), (15, .int (iP (lookN N (M 10 t) (N 18 3)))), (14, .int (iN (t))), (12, .int (dayN M)), (11, .ref a11), (10, .int 1), (9, .ref a9), (8, .ref a8), (7, .ref a7), (6, .ref a6), (5, .ref a5), (4, .ref a4), (3, .ref a3), (2, .int (iN (M 18 3))), (1, .int (iN (M 18 2))), (0, .ref (A 4 0))] [] := by
      rcases opt_ways (lookN N (M 10 t) (N 18 3)) with hl | ⟨q, hl⟩
      · have hg := mi_gone hS.2.1 hM hd hl
        refine J_iload C 2 dL_minutes_425 rfl ?_
        refine J_if_ge_y C 453 (by rw [hl]; decide) dL_minutes_427 rfl ?_
        refine J_aload_n C 16 dL_minutes_430 rfl ?_
        refine J_bipush C (v := 15) dL_minutes_431 rfl ?_
        refine x_value C Yc (Nat.le_of_ble_eq_true rfl) (Nat.le_of_ble_eq_true rfl) [cI K a11 (6) (fA (fun i => toN5 M M 1 i) (6)), cI K a9 (8) (fA (fun i => iN (hadN M i)) (8)), cI K a8 (M 18 2) (fA (fun i => iN (whN M i)) (M 18 2)), cI K a7 (M 18 3) (fA (fun i => iN (M 14 i)) (M 18 3)), cI K a6 (M 18 3) (fA (fun i => iN (M 13 i)) (M 18 3)), cI K a5 (M 18 3) (fA (fun i => iN (M 12 i)) (M 18 3)), cI K a4 (M 18 3) (fA (fun i => iN (M 11 i)) (M 18 3)), cI K a3 (M 18 3) (fA (fun i => iN (M 10 i)) (M 18 3))] (w := (iN (N 1 5))) hP.val15 dL_minutes_433 (Nat.le_of_ble_eq_true rfl) (Nat.le_of_ble_eq_true rfl) ?_
        refine J_aload C 7 dL_minutes_436 rfl ?_
        refine J_iconst C (v := 5) dL_minutes_438 rfl ?_
        refine J_iaN C 1 5 rfl (by decide) (by omega) rfl dL_minutes_439 ?_
        refine J_eqi (b := (iN (M 1 5))) (fA_get (by decide)) ?_
        refine J_icmp_le_y C 447 (iN_ylt' hg (by omega)) dL_minutes_440 rfl ?_
        refine J_iconst C (v := 1) dL_minutes_443 rfl ?_
        refine J_goto C 448 dL_minutes_444 rfl ?_
        refine J_istore C (lv' := [(10, .int 1), (13, .int (iN (nsum (rdC M) (t + 1)))), (16, .int (iN (N 18 3))), (15, .int (iP (lookN N (M 10 t) (N 18 3)))), (14, .int (iN (t))), (12, .int (dayN M)), (11, .ref a11), (9, .ref a9), (8, .ref a8), (7, .ref a7), (6, .ref a6), (5, .ref a5), (4, .ref a4), (3, .ref a3), (2, .int (iN (M 18 3))), (1, .int (iN (M 18 2))), (0, .ref (A 4 0))]) dL_minutes_448 (by decide) rfl ?_
        refine J_goto C 825 dL_minutes_450 rfl ?_
        refine J_sub [1, 4, 5, 6, 0, 7, 8, 9, 10, 11, 12, 13, 14, 15, 16] (lv' := [(13, .int (iN (nsum (rdC M) (t + 1)))), (14, .int (iN (t))), (12, .int (dayN M)), (11, .ref a11), (10, .int 1), (9, .ref a9), (8, .ref a8), (7, .ref a7), (6, .ref a6), (5, .ref a5), (4, .ref a4), (3, .ref a3), (2, .int (iN (M 18 3))), (1, .int (iN (M 18 2))), (0, .ref (A 4 0))]) rfl ?_
        exact k825
      · obtain ⟨hq, ways⟩ := mi_ways hS.2.1 hM hd hl
        have q3 := hP.2.1.2.1.1
        refine J_leq (lv' := [(13, .int (iN (nsum (rdC M) (t + 1)))), (16, .int (iN (N 18 3))), (15, .int (iN q)), (14, .int (iN (t))), (12, .int (dayN M)), (11, .ref a11), (10, .int 1), (9, .ref a9), (8, .ref a8), (7, .ref a7), (6, .ref a6), (5, .ref a5), (4, .ref a4), (3, .ref a3), (2, .int (iN (M 18 3))), (1, .int (iN (M 18 2))), (0, .ref (A 4 0))]) (by rw [hl]; rfl) ?_
        refine J_iload C 2 dL_minutes_425 rfl ?_
        refine J_if_ge_n C 453 (iN_neg (by omega)) dL_minutes_427 rfl ?_
        refine J_aload C 12 dL_minutes_453 rfl ?_
        refine J_iload C 3 dL_minutes_455 rfl ?_
        refine J_iaN C 6 t rfl hd (by omega) rfl dL_minutes_457 ?_
        refine J_eqi (b := (iN (M 11 t))) (fA_get hd) ?_
        refine J_iconst C (v := 1) dL_minutes_458 rfl ?_
        refine J_iadd C dL_minutes_459 ?_
        refine J_eqi (b := (iN (M 11 t + 1))) (iN_s _) ?_
        refine J_iload_n C 15 dL_minutes_460 rfl ?_
        refine J_irem C dL_minutes_461 (fun z => absurd ((iN_0 (by omega)).mp z) (by omega)) ?_
        refine J_eqi (b := (iN (nxt (M 18 2) (M 11 t)))) (by rw [iN_rem (by omega) (by omega), nxt_mod hp]) ?_
        refine J_istore C (lv' := [(16, .int (iN (nxt (M 18 2) (M 11 t)))), (13, .int (iN (nsum (rdC M) (t + 1)))), (15, .int (iN q)), (14, .int (iN (t))), (12, .int (dayN M)), (11, .ref a11), (10, .int 1), (9, .ref a9), (8, .ref a8), (7, .ref a7), (6, .ref a6), (5, .ref a5), (4, .ref a4), (3, .ref a3), (2, .int (iN (M 18 3))), (1, .int (iN (M 18 2))), (0, .ref (A 4 0))]) dL_minutes_462 (by decide) rfl ?_
        refine J_aload C 11 dL_minutes_464 rfl ?_
        refine J_iload C 3 dL_minutes_466 rfl ?_
        refine J_iaN C 5 t rfl hd (by omega) rfl dL_minutes_468 ?_
        refine J_eqi (b := (iN (M 12 t))) (fA_get hd) ?_
        refine J_iconst C (v := 1) dL_minutes_469 rfl ?_
        rcases ways with ⟨w1, w2, w3⟩ | ⟨w1, w2, w3, w4, w5, w6⟩ | ⟨w1, w2, w3, w4⟩ | ⟨w1, w2, w3, w4, w5, w6⟩ | ⟨w1, w2, w3, w4, w5, w6⟩ | ⟨w1, w2, w3, w4, w5⟩ | ⟨w1, w2, w3, w4, w5, w6⟩
        · refine J_icmp_le_y C 515 (iN_ylt' (a := 1) w1 (by omega)) dL_minutes_470 rfl ?_
          refine J_aload_n C 16 dL_minutes_473 rfl ?_
          refine J_iload C 2 dL_minutes_474 rfl ?_
          refine J_iconst C (v := 1) dL_minutes_476 rfl ?_
          refine x_token C Yc (Nat.le_of_ble_eq_true rfl) (Nat.le_of_ble_eq_true rfl) [cI K a11 (6) (fA (fun i => toN5 M M 1 i) (6)), cI K a9 (8) (fA (fun i => iN (hadN M i)) (8)), cI K a8 (M 18 2) (fA (fun i => iN (whN M i)) (M 18 2)), cI K a7 (M 18 3) (fA (fun i => iN (M 14 i)) (M 18 3)), cI K a6 (M 18 3) (fA (fun i => iN (M 13 i)) (M 18 3)), cI K a5 (M 18 3) (fA (fun i => iN (M 12 i)) (M 18 3)), cI K a4 (M 18 3) (fA (fun i => iN (M 11 i)) (M 18 3)), cI K a3 (M 18 3) (fA (fun i => iN (M 10 i)) (M 18 3))] (w := (iN (M 11 t))) ((hP.tok1 hq).trans (by rw [w2])) dL_minutes_477 (Nat.le_of_ble_eq_true rfl) (Nat.le_of_ble_eq_true rfl) ?_
          refine J_aload C 12 dL_minutes_480 rfl ?_
          refine J_iload C 3 dL_minutes_482 rfl ?_
          refine J_iaN C 6 t rfl hd (by omega) rfl dL_minutes_484 ?_
          refine J_eqi (b := (iN (M 11 t))) (fA_get hd) ?_
          refine J_icmp_ne_y C 509 rfl dL_minutes_485 rfl ?_
          refine J_aload_n C 16 dL_minutes_488 rfl ?_
          refine J_iload C 2 dL_minutes_489 rfl ?_
          refine J_iconst C (v := 2) dL_minutes_491 rfl ?_
          refine x_token C Yc (Nat.le_of_ble_eq_true rfl) (Nat.le_of_ble_eq_true rfl) [cI K a11 (6) (fA (fun i => toN5 M M 1 i) (6)), cI K a9 (8) (fA (fun i => iN (hadN M i)) (8)), cI K a8 (M 18 2) (fA (fun i => iN (whN M i)) (M 18 2)), cI K a7 (M 18 3) (fA (fun i => iN (M 14 i)) (M 18 3)), cI K a6 (M 18 3) (fA (fun i => iN (M 13 i)) (M 18 3)), cI K a5 (M 18 3) (fA (fun i => iN (M 12 i)) (M 18 3)), cI K a4 (M 18 3) (fA (fun i => iN (M 11 i)) (M 18 3)), cI K a3 (M 18 3) (fA (fun i => iN (M 10 i)) (M 18 3))] (w := (iN (M 12 t - 1))) ((hP.tok2 hq).trans (by rw [w3])) dL_minutes_492 (Nat.le_of_ble_eq_true rfl) (Nat.le_of_ble_eq_true rfl) ?_
          refine J_aload C 11 dL_minutes_495 rfl ?_
          refine J_iload C 3 dL_minutes_497 rfl ?_
          refine J_iaN C 5 t rfl hd (by omega) rfl dL_minutes_499 ?_
          refine J_eqi (b := (iN (M 12 t))) (fA_get hd) ?_
          refine J_iconst C (v := 1) dL_minutes_500 rfl ?_
          refine J_isub C dL_minutes_501 ?_
          refine J_eqi (b := (iN (M 12 t - 1))) (iN_1 (by omega)) ?_
          refine J_icmp_ne_y C 509 rfl dL_minutes_502 rfl ?_
          refine J_iconst C (v := 1) dL_minutes_505 rfl ?_
          refine J_goto C 510 dL_minutes_506 rfl ?_
          refine J_istore C (lv' := [(10, .int 1), (16, .int (iN (nxt (M 18 2) (M 11 t)))), (13, .int (iN (nsum (rdC M) (t + 1)))), (15, .int (iN q)), (14, .int (iN (t))), (12, .int (dayN M)), (11, .ref a11), (9, .ref a9), (8, .ref a8), (7, .ref a7), (6, .ref a6), (5, .ref a5), (4, .ref a4), (3, .ref a3), (2, .int (iN (M 18 3))), (1, .int (iN (M 18 2))), (0, .ref (A 4 0))]) dL_minutes_510 (by decide) rfl ?_
          refine J_goto C 825 dL_minutes_512 rfl ?_
          refine J_sub [2, 4, 5, 6, 0, 7, 8, 9, 10, 11, 12, 13, 14, 15, 16] (lv' := [(13, .int (iN (nsum (rdC M) (t + 1)))), (14, .int (iN (t))), (12, .int (dayN M)), (11, .ref a11), (10, .int 1), (9, .ref a9), (8, .ref a8), (7, .ref a7), (6, .ref a6), (5, .ref a5), (4, .ref a4), (3, .ref a3), (2, .int (iN (M 18 3))), (1, .int (iN (M 18 2))), (0, .ref (A 4 0))]) rfl ?_
          exact k825
        · refine J_icmp_le_n C 515 (iN_nlt' (a := 1) (b := M 12 t) (by omega) (by decide)) dL_minutes_470 rfl ?_
          refine J_aload C 11 dL_minutes_515 rfl ?_
          refine J_iload C 3 dL_minutes_517 rfl ?_
          refine J_iaN C 5 t rfl hd (by omega) rfl dL_minutes_519 ?_
          refine J_eqi (b := (iN (M 12 t))) (fA_get hd) ?_
          refine J_iconst C (v := 1) dL_minutes_520 rfl ?_
          refine J_icmp_ne_y C 633 (by rw [w1]; rfl) dL_minutes_521 rfl ?_
          refine J_aload_n C 16 dL_minutes_524 rfl ?_
          refine J_aload C 12 dL_minutes_525 rfl ?_
          refine J_iload C 3 dL_minutes_527 rfl ?_
          refine J_iaN C 6 t rfl hd (by omega) rfl dL_minutes_529 ?_
          refine J_eqi (b := (iN (M 11 t))) (fA_get hd) ?_
          refine J_iconst C (v := 2) dL_minutes_530 rfl ?_
          refine x_office C Yc (Nat.le_of_ble_eq_true rfl) (Nat.le_of_ble_eq_true rfl) [cI K a11 (6) (fA (fun i => toN5 M M 1 i) (6)), cI K a9 (8) (fA (fun i => iN (hadN M i)) (8)), cI K a8 (M 18 2) (fA (fun i => iN (whN M i)) (M 18 2)), cI K a7 (M 18 3) (fA (fun i => iN (M 14 i)) (M 18 3)), cI K a6 (M 18 3) (fA (fun i => iN (M 13 i)) (M 18 3)), cI K a5 (M 18 3) (fA (fun i => iN (M 12 i)) (M 18 3)), cI K a4 (M 18 3) (fA (fun i => iN (M 11 i)) (M 18 3)), cI K a3 (M 18 3) (fA (fun i => iN (M 10 i)) (M 18 3))] (w := 1) ((hP.off2 (by omega)).trans (by rw [hM.1 4 _ (by decide), w2]; rfl)) dL_minutes_531 (Nat.le_of_ble_eq_true rfl) (Nat.le_of_ble_eq_true rfl) ?_
          refine J_iconst C (v := 1) dL_minutes_534 rfl ?_
          refine J_icmp_ne_y C 591 rfl dL_minutes_535 rfl ?_
          refine J_aload_n C 16 dL_minutes_538 rfl ?_
          refine J_iload C 2 dL_minutes_539 rfl ?_
          refine J_iconst C (v := 1) dL_minutes_541 rfl ?_
          refine x_token C Yc (Nat.le_of_ble_eq_true rfl) (Nat.le_of_ble_eq_true rfl) [cI K a11 (6) (fA (fun i => toN5 M M 1 i) (6)), cI K a9 (8) (fA (fun i => iN (hadN M i)) (8)), cI K a8 (M 18 2) (fA (fun i => iN (whN M i)) (M 18 2)), cI K a7 (M 18 3) (fA (fun i => iN (M 14 i)) (M 18 3)), cI K a6 (M 18 3) (fA (fun i => iN (M 13 i)) (M 18 3)), cI K a5 (M 18 3) (fA (fun i => iN (M 12 i)) (M 18 3)), cI K a4 (M 18 3) (fA (fun i => iN (M 11 i)) (M 18 3)), cI K a3 (M 18 3) (fA (fun i => iN (M 10 i)) (M 18 3))] (w := (iN (M 11 t))) ((hP.tok1 hq).trans (by rw [w3])) dL_minutes_542 (Nat.le_of_ble_eq_true rfl) (Nat.le_of_ble_eq_true rfl) ?_
          refine J_aload C 12 dL_minutes_545 rfl ?_
          refine J_iload C 3 dL_minutes_547 rfl ?_
          refine J_iaN C 6 t rfl hd (by omega) rfl dL_minutes_549 ?_
          refine J_eqi (b := (iN (M 11 t))) (fA_get hd) ?_
          refine J_icmp_ne_y C 587 rfl dL_minutes_550 rfl ?_
          refine J_aload_n C 16 dL_minutes_553 rfl ?_
          refine J_iload C 2 dL_minutes_554 rfl ?_
          refine J_iconst C (v := 2) dL_minutes_556 rfl ?_
          refine x_token C Yc (Nat.le_of_ble_eq_true rfl) (Nat.le_of_ble_eq_true rfl) [cI K a11 (6) (fA (fun i => toN5 M M 1 i) (6)), cI K a9 (8) (fA (fun i => iN (hadN M i)) (8)), cI K a8 (M 18 2) (fA (fun i => iN (whN M i)) (M 18 2)), cI K a7 (M 18 3) (fA (fun i => iN (M 14 i)) (M 18 3)), cI K a6 (M 18 3) (fA (fun i => iN (M 13 i)) (M 18 3)), cI K a5 (M 18 3) (fA (fun i => iN (M 12 i)) (M 18 3)), cI K a4 (M 18 3) (fA (fun i => iN (M 11 i)) (M 18 3)), cI K a3 (M 18 3) (fA (fun i => iN (M 10 i)) (M 18 3))] (w := 0) ((hP.tok2 hq).trans (by rw [w4]; rfl)) dL_minutes_557 (Nat.le_of_ble_eq_true rfl) (Nat.le_of_ble_eq_true rfl) ?_
          refine J_if_ne_y C 587 rfl dL_minutes_560 rfl ?_
          refine J_aload_n C 16 dL_minutes_563 rfl ?_
          refine J_iload C 2 dL_minutes_564 rfl ?_
          refine J_iconst C (v := 3) dL_minutes_566 rfl ?_
          refine x_token C Yc (Nat.le_of_ble_eq_true rfl) (Nat.le_of_ble_eq_true rfl) [cI K a11 (6) (fA (fun i => toN5 M M 1 i) (6)), cI K a9 (8) (fA (fun i => iN (hadN M i)) (8)), cI K a8 (M 18 2) (fA (fun i => iN (whN M i)) (M 18 2)), cI K a7 (M 18 3) (fA (fun i => iN (M 14 i)) (M 18 3)), cI K a6 (M 18 3) (fA (fun i => iN (M 13 i)) (M 18 3)), cI K a5 (M 18 3) (fA (fun i => iN (M 12 i)) (M 18 3)), cI K a4 (M 18 3) (fA (fun i => iN (M 11 i)) (M 18 3)), cI K a3 (M 18 3) (fA (fun i => iN (M 10 i)) (M 18 3))] (w := 0) ((hP.tok3 hq).trans (by rw [w5]; rfl)) dL_minutes_567 (Nat.le_of_ble_eq_true rfl) (Nat.le_of_ble_eq_true rfl) ?_
          refine J_if_ne_y C 587 rfl dL_minutes_570 rfl ?_
          refine J_aload_n C 16 dL_minutes_573 rfl ?_
          refine J_iload C 2 dL_minutes_574 rfl ?_
          refine J_iconst C (v := 4) dL_minutes_576 rfl ?_
          refine x_token C Yc (Nat.le_of_ble_eq_true rfl) (Nat.le_of_ble_eq_true rfl) [cI K a11 (6) (fA (fun i => toN5 M M 1 i) (6)), cI K a9 (8) (fA (fun i => iN (hadN M i)) (8)), cI K a8 (M 18 2) (fA (fun i => iN (whN M i)) (M 18 2)), cI K a7 (M 18 3) (fA (fun i => iN (M 14 i)) (M 18 3)), cI K a6 (M 18 3) (fA (fun i => iN (M 13 i)) (M 18 3)), cI K a5 (M 18 3) (fA (fun i => iN (M 12 i)) (M 18 3)), cI K a4 (M 18 3) (fA (fun i => iN (M 11 i)) (M 18 3)), cI K a3 (M 18 3) (fA (fun i => iN (M 10 i)) (M 18 3))] (w := 0) ((hP.tok4 hq).trans (by rw [w6]; rfl)) dL_minutes_577 (Nat.le_of_ble_eq_true rfl) (Nat.le_of_ble_eq_true rfl) ?_
          refine J_if_ne_y C 587 rfl dL_minutes_580 rfl ?_
          refine J_iconst C (v := 1) dL_minutes_583 rfl ?_
          refine J_goto C 628 dL_minutes_584 rfl ?_
          refine J_istore C (lv' := [(10, .int 1), (16, .int (iN (nxt (M 18 2) (M 11 t)))), (13, .int (iN (nsum (rdC M) (t + 1)))), (15, .int (iN q)), (14, .int (iN (t))), (12, .int (dayN M)), (11, .ref a11), (9, .ref a9), (8, .ref a8), (7, .ref a7), (6, .ref a6), (5, .ref a5), (4, .ref a4), (3, .ref a3), (2, .int (iN (M 18 3))), (1, .int (iN (M 18 2))), (0, .ref (A 4 0))]) dL_minutes_628 (by decide) rfl ?_
          refine J_goto C 825 dL_minutes_630 rfl ?_
          refine J_sub [2, 4, 5, 6, 0, 7, 8, 9, 10, 11, 12, 13, 14, 15, 16] (lv' := [(13, .int (iN (nsum (rdC M) (t + 1)))), (14, .int (iN (t))), (12, .int (dayN M)), (11, .ref a11), (10, .int 1), (9, .ref a9), (8, .ref a8), (7, .ref a7), (6, .ref a6), (5, .ref a5), (4, .ref a4), (3, .ref a3), (2, .int (iN (M 18 3))), (1, .int (iN (M 18 2))), (0, .ref (A 4 0))]) rfl ?_
          exact k825
        · refine J_icmp_le_n C 515 (iN_nlt' (a := 1) (b := M 12 t) (by omega) (by decide)) dL_minutes_470 rfl ?_
          refine J_aload C 11 dL_minutes_515 rfl ?_
          refine J_iload C 3 dL_minutes_517 rfl ?_
          refine J_iaN C 5 t rfl hd (by omega) rfl dL_minutes_519 ?_
          refine J_eqi (b := (iN (M 12 t))) (fA_get hd) ?_
          refine J_iconst C (v := 1) dL_minutes_520 rfl ?_
          refine J_icmp_ne_y C 633 (by rw [w1]; rfl) dL_minutes_521 rfl ?_
          refine J_aload_n C 16 dL_minutes_524 rfl ?_
          refine J_aload C 12 dL_minutes_525 rfl ?_
          refine J_iload C 3 dL_minutes_527 rfl ?_
          refine J_iaN C 6 t rfl hd (by omega) rfl dL_minutes_529 ?_
          refine J_eqi (b := (iN (M 11 t))) (fA_get hd) ?_
          refine J_iconst C (v := 2) dL_minutes_530 rfl ?_
          refine x_office C Yc (Nat.le_of_ble_eq_true rfl) (Nat.le_of_ble_eq_true rfl) [cI K a11 (6) (fA (fun i => toN5 M M 1 i) (6)), cI K a9 (8) (fA (fun i => iN (hadN M i)) (8)), cI K a8 (M 18 2) (fA (fun i => iN (whN M i)) (M 18 2)), cI K a7 (M 18 3) (fA (fun i => iN (M 14 i)) (M 18 3)), cI K a6 (M 18 3) (fA (fun i => iN (M 13 i)) (M 18 3)), cI K a5 (M 18 3) (fA (fun i => iN (M 12 i)) (M 18 3)), cI K a4 (M 18 3) (fA (fun i => iN (M 11 i)) (M 18 3)), cI K a3 (M 18 3) (fA (fun i => iN (M 10 i)) (M 18 3))] (w := (iN (M 4 (M 11 t)))) ((hP.off2 (by omega)).trans (by rw [hM.1 4 _ (by decide)])) dL_minutes_531 (Nat.le_of_ble_eq_true rfl) (Nat.le_of_ble_eq_true rfl) ?_
          refine J_iconst C (v := 1) dL_minutes_534 rfl ?_
          refine J_icmp_ne_n C 591 (iN_ne' (b := 1) w2 (by have := hS.2.1.1.op hp; omega) (by decide)) dL_minutes_535 rfl ?_
          refine J_aload_n C 16 dL_minutes_591 rfl ?_
          refine J_iload C 2 dL_minutes_592 rfl ?_
          refine J_iconst C (v := 1) dL_minutes_594 rfl ?_
          refine x_token C Yc (Nat.le_of_ble_eq_true rfl) (Nat.le_of_ble_eq_true rfl) [cI K a11 (6) (fA (fun i => toN5 M M 1 i) (6)), cI K a9 (8) (fA (fun i => iN (hadN M i)) (8)), cI K a8 (M 18 2) (fA (fun i => iN (whN M i)) (M 18 2)), cI K a7 (M 18 3) (fA (fun i => iN (M 14 i)) (M 18 3)), cI K a6 (M 18 3) (fA (fun i => iN (M 13 i)) (M 18 3)), cI K a5 (M 18 3) (fA (fun i => iN (M 12 i)) (M 18 3)), cI K a4 (M 18 3) (fA (fun i => iN (M 11 i)) (M 18 3)), cI K a3 (M 18 3) (fA (fun i => iN (M 10 i)) (M 18 3))] (w := (iN (nxt (M 18 2) (M 11 t)))) ((hP.tok1 hq).trans (by rw [w3])) dL_minutes_595 (Nat.le_of_ble_eq_true rfl) (Nat.le_of_ble_eq_true rfl) ?_
          refine J_iload C 0 dL_minutes_598 rfl ?_
          refine J_icmp_ne_y C 627 rfl dL_minutes_600 rfl ?_
          refine J_aload_n C 16 dL_minutes_603 rfl ?_
          refine J_iload C 2 dL_minutes_604 rfl ?_
          refine J_iconst C (v := 2) dL_minutes_606 rfl ?_
          refine x_token C Yc (Nat.le_of_ble_eq_true rfl) (Nat.le_of_ble_eq_true rfl) [cI K a11 (6) (fA (fun i => toN5 M M 1 i) (6)), cI K a9 (8) (fA (fun i => iN (hadN M i)) (8)), cI K a8 (M 18 2) (fA (fun i => iN (whN M i)) (M 18 2)), cI K a7 (M 18 3) (fA (fun i => iN (M 14 i)) (M 18 3)), cI K a6 (M 18 3) (fA (fun i => iN (M 13 i)) (M 18 3)), cI K a5 (M 18 3) (fA (fun i => iN (M 12 i)) (M 18 3)), cI K a4 (M 18 3) (fA (fun i => iN (M 11 i)) (M 18 3)), cI K a3 (M 18 3) (fA (fun i => iN (M 10 i)) (M 18 3))] (w := (iN (M 2 (M 11 t)))) ((hP.tok2 hq).trans (by rw [w4])) dL_minutes_607 (Nat.le_of_ble_eq_true rfl) (Nat.le_of_ble_eq_true rfl) ?_
          refine J_aload_n C 16 dL_minutes_610 rfl ?_
          refine J_aload C 12 dL_minutes_611 rfl ?_
          refine J_iload C 3 dL_minutes_613 rfl ?_
          refine J_iaN C 6 t rfl hd (by omega) rfl dL_minutes_615 ?_
          refine J_eqi (b := (iN (M 11 t))) (fA_get hd) ?_
          refine J_iconst C (v := 0) dL_minutes_616 rfl ?_
          refine x_office C Yc (Nat.le_of_ble_eq_true rfl) (Nat.le_of_ble_eq_true rfl) [cI K a11 (6) (fA (fun i => toN5 M M 1 i) (6)), cI K a9 (8) (fA (fun i => iN (hadN M i)) (8)), cI K a8 (M 18 2) (fA (fun i => iN (whN M i)) (M 18 2)), cI K a7 (M 18 3) (fA (fun i => iN (M 14 i)) (M 18 3)), cI K a6 (M 18 3) (fA (fun i => iN (M 13 i)) (M 18 3)), cI K a5 (M 18 3) (fA (fun i => iN (M 12 i)) (M 18 3)), cI K a4 (M 18 3) (fA (fun i => iN (M 11 i)) (M 18 3)), cI K a3 (M 18 3) (fA (fun i => iN (M 10 i)) (M 18 3))] (w := (iN (M 2 (M 11 t)))) ((hP.off0 (by omega)).trans (by rw [hM.1 2 _ (by decide)])) dL_minutes_617 (Nat.le_of_ble_eq_true rfl) (Nat.le_of_ble_eq_true rfl) ?_
          refine J_icmp_ne_y C 627 rfl dL_minutes_620 rfl ?_
          refine J_iconst C (v := 1) dL_minutes_623 rfl ?_
          refine J_goto C 628 dL_minutes_624 rfl ?_
          refine J_istore C (lv' := [(10, .int 1), (16, .int (iN (nxt (M 18 2) (M 11 t)))), (13, .int (iN (nsum (rdC M) (t + 1)))), (15, .int (iN q)), (14, .int (iN (t))), (12, .int (dayN M)), (11, .ref a11), (9, .ref a9), (8, .ref a8), (7, .ref a7), (6, .ref a6), (5, .ref a5), (4, .ref a4), (3, .ref a3), (2, .int (iN (M 18 3))), (1, .int (iN (M 18 2))), (0, .ref (A 4 0))]) dL_minutes_628 (by decide) rfl ?_
          refine J_goto C 825 dL_minutes_630 rfl ?_
          refine J_sub [2, 4, 5, 6, 0, 7, 8, 9, 10, 11, 12, 13, 14, 15, 16] (lv' := [(13, .int (iN (nsum (rdC M) (t + 1)))), (14, .int (iN (t))), (12, .int (dayN M)), (11, .ref a11), (10, .int 1), (9, .ref a9), (8, .ref a8), (7, .ref a7), (6, .ref a6), (5, .ref a5), (4, .ref a4), (3, .ref a3), (2, .int (iN (M 18 3))), (1, .int (iN (M 18 2))), (0, .ref (A 4 0))]) rfl ?_
          exact k825
        · refine J_icmp_le_n C 515 (iN_nlt' (a := 1) (b := M 12 t) (by omega) (by decide)) dL_minutes_470 rfl ?_
          refine J_aload C 11 dL_minutes_515 rfl ?_
          refine J_iload C 3 dL_minutes_517 rfl ?_
          refine J_iaN C 5 t rfl hd (by omega) rfl dL_minutes_519 ?_
          refine J_eqi (b := (iN (M 12 t))) (fA_get hd) ?_
          refine J_iconst C (v := 1) dL_minutes_520 rfl ?_
          refine J_icmp_ne_n C 633 (iN_ne' (b := 1) (by omega) (by omega) (by decide)) dL_minutes_521 rfl ?_
          refine J_aload C 9 dL_minutes_633 rfl ?_
          refine J_iload C 3 dL_minutes_635 rfl ?_
          refine J_iaN C 3 t rfl hd (by omega) rfl dL_minutes_637 ?_
          refine J_eqi (b := (iN (M 14 t))) (fA_get hd) ?_
          refine J_if_le_y C 710 ((iN_pos (by omega)).mpr w2) dL_minutes_638 rfl ?_
          refine J_aload_n C 16 dL_minutes_641 rfl ?_
          refine J_iload C 2 dL_minutes_642 rfl ?_
          refine J_iconst C (v := 1) dL_minutes_644 rfl ?_
          refine x_token C Yc (Nat.le_of_ble_eq_true rfl) (Nat.le_of_ble_eq_true rfl) [cI K a11 (6) (fA (fun i => toN5 M M 1 i) (6)), cI K a9 (8) (fA (fun i => iN (hadN M i)) (8)), cI K a8 (M 18 2) (fA (fun i => iN (whN M i)) (M 18 2)), cI K a7 (M 18 3) (fA (fun i => iN (M 14 i)) (M 18 3)), cI K a6 (M 18 3) (fA (fun i => iN (M 13 i)) (M 18 3)), cI K a5 (M 18 3) (fA (fun i => iN (M 12 i)) (M 18 3)), cI K a4 (M 18 3) (fA (fun i => iN (M 11 i)) (M 18 3)), cI K a3 (M 18 3) (fA (fun i => iN (M 10 i)) (M 18 3))] (w := (iN (M 11 t))) ((hP.tok1 hq).trans (by rw [w3])) dL_minutes_645 (Nat.le_of_ble_eq_true rfl) (Nat.le_of_ble_eq_true rfl) ?_
          refine J_aload C 12 dL_minutes_648 rfl ?_
          refine J_iload C 3 dL_minutes_650 rfl ?_
          refine J_iaN C 6 t rfl hd (by omega) rfl dL_minutes_652 ?_
          refine J_eqi (b := (iN (M 11 t))) (fA_get hd) ?_
          refine J_icmp_ne_y C 704 rfl dL_minutes_653 rfl ?_
          refine J_aload_n C 16 dL_minutes_656 rfl ?_
          refine J_iload C 2 dL_minutes_657 rfl ?_
          refine J_iconst C (v := 2) dL_minutes_659 rfl ?_
          refine x_token C Yc (Nat.le_of_ble_eq_true rfl) (Nat.le_of_ble_eq_true rfl) [cI K a11 (6) (fA (fun i => toN5 M M 1 i) (6)), cI K a9 (8) (fA (fun i => iN (hadN M i)) (8)), cI K a8 (M 18 2) (fA (fun i => iN (whN M i)) (M 18 2)), cI K a7 (M 18 3) (fA (fun i => iN (M 14 i)) (M 18 3)), cI K a6 (M 18 3) (fA (fun i => iN (M 13 i)) (M 18 3)), cI K a5 (M 18 3) (fA (fun i => iN (M 12 i)) (M 18 3)), cI K a4 (M 18 3) (fA (fun i => iN (M 11 i)) (M 18 3)), cI K a3 (M 18 3) (fA (fun i => iN (M 10 i)) (M 18 3))] (w := 0) ((hP.tok2 hq).trans (by rw [w4]; rfl)) dL_minutes_660 (Nat.le_of_ble_eq_true rfl) (Nat.le_of_ble_eq_true rfl) ?_
          refine J_if_ne_y C 704 rfl dL_minutes_663 rfl ?_
          refine J_aload_n C 16 dL_minutes_666 rfl ?_
          refine J_iload C 2 dL_minutes_667 rfl ?_
          refine J_iconst C (v := 3) dL_minutes_669 rfl ?_
          refine x_token C Yc (Nat.le_of_ble_eq_true rfl) (Nat.le_of_ble_eq_true rfl) [cI K a11 (6) (fA (fun i => toN5 M M 1 i) (6)), cI K a9 (8) (fA (fun i => iN (hadN M i)) (8)), cI K a8 (M 18 2) (fA (fun i => iN (whN M i)) (M 18 2)), cI K a7 (M 18 3) (fA (fun i => iN (M 14 i)) (M 18 3)), cI K a6 (M 18 3) (fA (fun i => iN (M 13 i)) (M 18 3)), cI K a5 (M 18 3) (fA (fun i => iN (M 12 i)) (M 18 3)), cI K a4 (M 18 3) (fA (fun i => iN (M 11 i)) (M 18 3)), cI K a3 (M 18 3) (fA (fun i => iN (M 10 i)) (M 18 3))] (w := (iN (M 13 t + 1))) ((hP.tok3 hq).trans (by rw [w5])) dL_minutes_670 (Nat.le_of_ble_eq_true rfl) (Nat.le_of_ble_eq_true rfl) ?_
          refine J_aload C 10 dL_minutes_673 rfl ?_
          refine J_iload C 3 dL_minutes_675 rfl ?_
          refine J_iaN C 4 t rfl hd (by omega) rfl dL_minutes_677 ?_
          refine J_eqi (b := (iN (M 13 t))) (fA_get hd) ?_
          refine J_iconst C (v := 1) dL_minutes_678 rfl ?_
          refine J_iadd C dL_minutes_679 ?_
          refine J_eqi (b := (iN (M 13 t + 1))) (iN_s _) ?_
          refine J_icmp_ne_y C 704 rfl dL_minutes_680 rfl ?_
          refine J_aload_n C 16 dL_minutes_683 rfl ?_
          refine J_iload C 2 dL_minutes_684 rfl ?_
          refine J_iconst C (v := 4) dL_minutes_686 rfl ?_
          refine x_token C Yc (Nat.le_of_ble_eq_true rfl) (Nat.le_of_ble_eq_true rfl) [cI K a11 (6) (fA (fun i => toN5 M M 1 i) (6)), cI K a9 (8) (fA (fun i => iN (hadN M i)) (8)), cI K a8 (M 18 2) (fA (fun i => iN (whN M i)) (M 18 2)), cI K a7 (M 18 3) (fA (fun i => iN (M 14 i)) (M 18 3)), cI K a6 (M 18 3) (fA (fun i => iN (M 13 i)) (M 18 3)), cI K a5 (M 18 3) (fA (fun i => iN (M 12 i)) (M 18 3)), cI K a4 (M 18 3) (fA (fun i => iN (M 11 i)) (M 18 3)), cI K a3 (M 18 3) (fA (fun i => iN (M 10 i)) (M 18 3))] (w := (iN (M 14 t - 1))) ((hP.tok4 hq).trans (by rw [w6])) dL_minutes_687 (Nat.le_of_ble_eq_true rfl) (Nat.le_of_ble_eq_true rfl) ?_
          refine J_aload C 9 dL_minutes_690 rfl ?_
          refine J_iload C 3 dL_minutes_692 rfl ?_
          refine J_iaN C 3 t rfl hd (by omega) rfl dL_minutes_694 ?_
          refine J_eqi (b := (iN (M 14 t))) (fA_get hd) ?_
          refine J_iconst C (v := 1) dL_minutes_695 rfl ?_
          refine J_isub C dL_minutes_696 ?_
          refine J_eqi (b := (iN (M 14 t - 1))) (iN_1 (by omega)) ?_
          refine J_icmp_ne_y C 704 rfl dL_minutes_697 rfl ?_
          refine J_iconst C (v := 1) dL_minutes_700 rfl ?_
          refine J_goto C 705 dL_minutes_701 rfl ?_
          refine J_istore C (lv' := [(10, .int 1), (16, .int (iN (nxt (M 18 2) (M 11 t)))), (13, .int (iN (nsum (rdC M) (t + 1)))), (15, .int (iN q)), (14, .int (iN (t))), (12, .int (dayN M)), (11, .ref a11), (9, .ref a9), (8, .ref a8), (7, .ref a7), (6, .ref a6), (5, .ref a5), (4, .ref a4), (3, .ref a3), (2, .int (iN (M 18 3))), (1, .int (iN (M 18 2))), (0, .ref (A 4 0))]) dL_minutes_705 (by decide) rfl ?_
          refine J_goto C 825 dL_minutes_707 rfl ?_
          refine J_sub [2, 4, 5, 6, 0, 7, 8, 9, 10, 11, 12, 13, 14, 15, 16] (lv' := [(13, .int (iN (nsum (rdC M) (t + 1)))), (14, .int (iN (t))), (12, .int (dayN M)), (11, .ref a11), (10, .int 1), (9, .ref a9), (8, .ref a8), (7, .ref a7), (6, .ref a6), (5, .ref a5), (4, .ref a4), (3, .ref a3), (2, .int (iN (M 18 3))), (1, .int (iN (M 18 2))), (0, .ref (A 4 0))]) rfl ?_
          exact k825
        · refine J_icmp_le_n C 515 (iN_nlt' (a := 1) (b := M 12 t) (by omega) (by decide)) dL_minutes_470 rfl ?_
          refine J_aload C 11 dL_minutes_515 rfl ?_
          refine J_iload C 3 dL_minutes_517 rfl ?_
          refine J_iaN C 5 t rfl hd (by omega) rfl dL_minutes_519 ?_
          refine J_eqi (b := (iN (M 12 t))) (fA_get hd) ?_
          refine J_iconst C (v := 1) dL_minutes_520 rfl ?_
          refine J_icmp_ne_n C 633 (iN_ne' (b := 1) (by omega) (by omega) (by decide)) dL_minutes_521 rfl ?_
          refine J_aload C 9 dL_minutes_633 rfl ?_
          refine J_iload C 3 dL_minutes_635 rfl ?_
          refine J_iaN C 3 t rfl hd (by omega) rfl dL_minutes_637 ?_
          refine J_eqi (b := (iN (M 14 t))) (fA_get hd) ?_
          refine J_if_le_n C 710 (fun z => absurd ((iN_pos (by omega)).mp z) (by omega)) dL_minutes_638 rfl ?_
          refine J_aload C 8 dL_minutes_710 rfl ?_
          refine J_aload C 12 dL_minutes_712 rfl ?_
          refine J_iload C 3 dL_minutes_714 rfl ?_
          refine J_iaN C 6 t rfl hd (by omega) rfl dL_minutes_716 ?_
          refine J_eqi (b := (iN (M 11 t))) (fA_get hd) ?_
          refine J_iaN C 2 (M 11 t) rfl hp (by omega) rfl dL_minutes_717 ?_
          refine J_eqi (b := (iN (whN M (M 11 t)))) (fA_get hp) ?_
          refine J_bipush C (v := 6) dL_minutes_718 rfl ?_
          refine J_icmp_ne_y C 769 (by rw [w3]; rfl) dL_minutes_720 rfl ?_
          refine J_aload_n C 16 dL_minutes_723 rfl ?_
          refine J_iload C 2 dL_minutes_724 rfl ?_
          refine J_iconst C (v := 4) dL_minutes_726 rfl ?_
          refine x_token C Yc (Nat.le_of_ble_eq_true rfl) (Nat.le_of_ble_eq_true rfl) [cI K a11 (6) (fA (fun i => toN5 M M 1 i) (6)), cI K a9 (8) (fA (fun i => iN (hadN M i)) (8)), cI K a8 (M 18 2) (fA (fun i => iN (whN M i)) (M 18 2)), cI K a7 (M 18 3) (fA (fun i => iN (M 14 i)) (M 18 3)), cI K a6 (M 18 3) (fA (fun i => iN (M 13 i)) (M 18 3)), cI K a5 (M 18 3) (fA (fun i => iN (M 12 i)) (M 18 3)), cI K a4 (M 18 3) (fA (fun i => iN (M 11 i)) (M 18 3)), cI K a3 (M 18 3) (fA (fun i => iN (M 10 i)) (M 18 3))] (w := (iN (N 9 (6 * M 11 t)))) ((hP.tok4 hq).trans (by rw [w4])) dL_minutes_727 (Nat.le_of_ble_eq_true rfl) (Nat.le_of_ble_eq_true rfl) ?_
          refine J_aload_n C 16 dL_minutes_730 rfl ?_
          refine J_aload C 12 dL_minutes_731 rfl ?_
          refine J_iload C 3 dL_minutes_733 rfl ?_
          refine J_iaN C 6 t rfl hd (by omega) rfl dL_minutes_735 ?_
          refine J_eqi (b := (iN (M 11 t))) (fA_get hd) ?_
          refine J_iconst C (v := 0) dL_minutes_736 rfl ?_
          refine J_iconst C (v := 1) dL_minutes_737 rfl ?_
          refine x_queue C Yc (Nat.le_of_ble_eq_true rfl) (Nat.le_of_ble_eq_true rfl) [cI K a11 (6) (fA (fun i => toN5 M M 1 i) (6)), cI K a9 (8) (fA (fun i => iN (hadN M i)) (8)), cI K a8 (M 18 2) (fA (fun i => iN (whN M i)) (M 18 2)), cI K a7 (M 18 3) (fA (fun i => iN (M 14 i)) (M 18 3)), cI K a6 (M 18 3) (fA (fun i => iN (M 13 i)) (M 18 3)), cI K a5 (M 18 3) (fA (fun i => iN (M 12 i)) (M 18 3)), cI K a4 (M 18 3) (fA (fun i => iN (M 11 i)) (M 18 3)), cI K a3 (M 18 3) (fA (fun i => iN (M 10 i)) (M 18 3))] (w := (iN (N 9 (6 * M 11 t)))) (hP.que (by omega) w5).2 dL_minutes_738 (Nat.le_of_ble_eq_true rfl) (Nat.le_of_ble_eq_true rfl) ?_
          refine J_icmp_ne_y C 763 rfl dL_minutes_741 rfl ?_
          refine J_aload_n C 16 dL_minutes_744 rfl ?_
          refine J_iload C 2 dL_minutes_745 rfl ?_
          refine J_iconst C (v := 3) dL_minutes_747 rfl ?_
          refine x_token C Yc (Nat.le_of_ble_eq_true rfl) (Nat.le_of_ble_eq_true rfl) [cI K a11 (6) (fA (fun i => toN5 M M 1 i) (6)), cI K a9 (8) (fA (fun i => iN (hadN M i)) (8)), cI K a8 (M 18 2) (fA (fun i => iN (whN M i)) (M 18 2)), cI K a7 (M 18 3) (fA (fun i => iN (M 14 i)) (M 18 3)), cI K a6 (M 18 3) (fA (fun i => iN (M 13 i)) (M 18 3)), cI K a5 (M 18 3) (fA (fun i => iN (M 12 i)) (M 18 3)), cI K a4 (M 18 3) (fA (fun i => iN (M 11 i)) (M 18 3)), cI K a3 (M 18 3) (fA (fun i => iN (M 10 i)) (M 18 3))] (w := (iN (M 13 t))) ((hP.tok3 hq).trans (by rw [w6])) dL_minutes_748 (Nat.le_of_ble_eq_true rfl) (Nat.le_of_ble_eq_true rfl) ?_
          refine J_aload C 10 dL_minutes_751 rfl ?_
          refine J_iload C 3 dL_minutes_753 rfl ?_
          refine J_iaN C 4 t rfl hd (by omega) rfl dL_minutes_755 ?_
          refine J_eqi (b := (iN (M 13 t))) (fA_get hd) ?_
          refine J_icmp_ne_y C 763 rfl dL_minutes_756 rfl ?_
          refine J_iconst C (v := 1) dL_minutes_759 rfl ?_
          refine J_goto C 764 dL_minutes_760 rfl ?_
          refine J_istore C (lv' := [(10, .int 1), (16, .int (iN (nxt (M 18 2) (M 11 t)))), (13, .int (iN (nsum (rdC M) (t + 1)))), (15, .int (iN q)), (14, .int (iN (t))), (12, .int (dayN M)), (11, .ref a11), (9, .ref a9), (8, .ref a8), (7, .ref a7), (6, .ref a6), (5, .ref a5), (4, .ref a4), (3, .ref a3), (2, .int (iN (M 18 3))), (1, .int (iN (M 18 2))), (0, .ref (A 4 0))]) dL_minutes_764 (by decide) rfl ?_
          refine J_goto C 825 dL_minutes_766 rfl ?_
          refine J_sub [2, 4, 5, 6, 0, 7, 8, 9, 10, 11, 12, 13, 14, 15, 16] (lv' := [(13, .int (iN (nsum (rdC M) (t + 1)))), (14, .int (iN (t))), (12, .int (dayN M)), (11, .ref a11), (10, .int 1), (9, .ref a9), (8, .ref a8), (7, .ref a7), (6, .ref a6), (5, .ref a5), (4, .ref a4), (3, .ref a3), (2, .int (iN (M 18 3))), (1, .int (iN (M 18 2))), (0, .ref (A 4 0))]) rfl ?_
          exact k825
        · have hwb : whN M (M 11 t) ≤ 6 := by
            have hw := wh_at hS.2.1 hd w1 w2
            rw [hw]
            split
            · decide
            · split
              · decide
              · split <;> decide
          refine J_icmp_le_n C 515 (iN_nlt' (a := 1) (b := M 12 t) (by omega) (by decide)) dL_minutes_470 rfl ?_
          refine J_aload C 11 dL_minutes_515 rfl ?_
          refine J_iload C 3 dL_minutes_517 rfl ?_
          refine J_iaN C 5 t rfl hd (by omega) rfl dL_minutes_519 ?_
          refine J_eqi (b := (iN (M 12 t))) (fA_get hd) ?_
          refine J_iconst C (v := 1) dL_minutes_520 rfl ?_
          refine J_icmp_ne_n C 633 (iN_ne' (b := 1) (by omega) (by omega) (by decide)) dL_minutes_521 rfl ?_
          refine J_aload C 9 dL_minutes_633 rfl ?_
          refine J_iload C 3 dL_minutes_635 rfl ?_
          refine J_iaN C 3 t rfl hd (by omega) rfl dL_minutes_637 ?_
          refine J_eqi (b := (iN (M 14 t))) (fA_get hd) ?_
          refine J_if_le_n C 710 (fun z => absurd ((iN_pos (by omega)).mp z) (by omega)) dL_minutes_638 rfl ?_
          refine J_aload C 8 dL_minutes_710 rfl ?_
          refine J_aload C 12 dL_minutes_712 rfl ?_
          refine J_iload C 3 dL_minutes_714 rfl ?_
          refine J_iaN C 6 t rfl hd (by omega) rfl dL_minutes_716 ?_
          refine J_eqi (b := (iN (M 11 t))) (fA_get hd) ?_
          refine J_iaN C 2 (M 11 t) rfl hp (by omega) rfl dL_minutes_717 ?_
          refine J_eqi (b := (iN (whN M (M 11 t)))) (fA_get hp) ?_
          refine J_bipush C (v := 6) dL_minutes_718 rfl ?_
          refine J_icmp_ne_n C 769 (iN_ne' (b := 6) w3 (by omega) (by decide)) dL_minutes_720 rfl ?_
          refine J_iload C 4 dL_minutes_769 rfl ?_
          refine J_if_eq_n C 786 (by unfold dayN; rw [if_pos w4]; decide) dL_minutes_771 rfl ?_
          refine J_aload C 8 dL_minutes_774 rfl ?_
          refine J_aload C 12 dL_minutes_776 rfl ?_
          refine J_iload C 3 dL_minutes_778 rfl ?_
          refine J_iaN C 6 t rfl hd (by omega) rfl dL_minutes_780 ?_
          refine J_eqi (b := (iN (M 11 t))) (fA_get hd) ?_
          refine J_iaN C 2 (M 11 t) rfl hp (by omega) rfl dL_minutes_781 ?_
          refine J_eqi (b := (iN (whN M (M 11 t)))) (fA_get hp) ?_
          refine J_iconst C (v := 5) dL_minutes_782 rfl ?_
          refine J_icmp_eq_y C 818 (by rw [w5]; rfl) dL_minutes_783 rfl ?_
          refine J_iconst C (v := 1) dL_minutes_818 rfl ?_
          refine J_goto C 823 dL_minutes_819 rfl ?_
          refine J_istore C (lv' := [(10, .int 1), (16, .int (iN (nxt (M 18 2) (M 11 t)))), (13, .int (iN (nsum (rdC M) (t + 1)))), (15, .int (iN q)), (14, .int (iN (t))), (12, .int (dayN M)), (11, .ref a11), (9, .ref a9), (8, .ref a8), (7, .ref a7), (6, .ref a6), (5, .ref a5), (4, .ref a4), (3, .ref a3), (2, .int (iN (M 18 3))), (1, .int (iN (M 18 2))), (0, .ref (A 4 0))]) dL_minutes_823 (by decide) rfl ?_
          refine J_sub [2, 4, 5, 6, 0, 7, 8, 9, 10, 11, 12, 13, 14, 15, 16] (lv' := [(13, .int (iN (nsum (rdC M) (t + 1)))), (14, .int (iN (t))), (12, .int (dayN M)), (11, .ref a11), (10, .int 1), (9, .ref a9), (8, .ref a8), (7, .ref a7), (6, .ref a6), (5, .ref a5), (4, .ref a4), (3, .ref a3), (2, .int (iN (M 18 3))), (1, .int (iN (M 18 2))), (0, .ref (A 4 0))]) rfl ?_
          exact k825
        · have hwb : whN M (M 11 t) ≤ 6 := by
            have hw := wh_at hS.2.1 hd w1 w2
            rw [hw]
            split
            · decide
            · split
              · decide
              · split <;> decide
          refine J_icmp_le_n C 515 (iN_nlt' (a := 1) (b := M 12 t) (by omega) (by decide)) dL_minutes_470 rfl ?_
          refine J_aload C 11 dL_minutes_515 rfl ?_
          refine J_iload C 3 dL_minutes_517 rfl ?_
          refine J_iaN C 5 t rfl hd (by omega) rfl dL_minutes_519 ?_
          refine J_eqi (b := (iN (M 12 t))) (fA_get hd) ?_
          refine J_iconst C (v := 1) dL_minutes_520 rfl ?_
          refine J_icmp_ne_n C 633 (iN_ne' (b := 1) (by omega) (by omega) (by decide)) dL_minutes_521 rfl ?_
          refine J_aload C 9 dL_minutes_633 rfl ?_
          refine J_iload C 3 dL_minutes_635 rfl ?_
          refine J_iaN C 3 t rfl hd (by omega) rfl dL_minutes_637 ?_
          refine J_eqi (b := (iN (M 14 t))) (fA_get hd) ?_
          refine J_if_le_n C 710 (fun z => absurd ((iN_pos (by omega)).mp z) (by omega)) dL_minutes_638 rfl ?_
          refine J_aload C 8 dL_minutes_710 rfl ?_
          refine J_aload C 12 dL_minutes_712 rfl ?_
          refine J_iload C 3 dL_minutes_714 rfl ?_
          refine J_iaN C 6 t rfl hd (by omega) rfl dL_minutes_716 ?_
          refine J_eqi (b := (iN (M 11 t))) (fA_get hd) ?_
          refine J_iaN C 2 (M 11 t) rfl hp (by omega) rfl dL_minutes_717 ?_
          refine J_eqi (b := (iN (whN M (M 11 t)))) (fA_get hp) ?_
          refine J_bipush C (v := 6) dL_minutes_718 rfl ?_
          refine J_icmp_ne_n C 769 (iN_ne' (b := 6) w3 (by omega) (by decide)) dL_minutes_720 rfl ?_
          have k786 : J l K Γ Q 8 39 ([cI K a11 (6) (fA (fun i => toN5 M M 1 i) (6)), cI K a9 (8) (fA (fun i => iN (hadN M i)) (8)), cI K a8 (M 18 2) (fA (fun i => iN (whN M i)) (M 18 2)), cI K a7 (M 18 3) (fA (fun i => iN (M 14 i)) (M 18 3)), cI K a6 (M 18 3) (fA (fun i => iN (M 13 i)) (M 18 3)), cI K a5 (M 18 3) (fA (fun i => iN (M 12 i)) (M 18 3)), cI K a4 (M 18 3) (fA (fun i => iN (M 11 i)) (M 18 3)), cI K a3 (M 18 3) (fA (fun i => iN (M 10 i)) (M 18 3))] ++ ro_W K A P) 786 17 [(16, .int (iN (nxt (M 18 2) (M 11 t)))), (13, .int (iN (nsum (rdC M) (t + 1)))), (15, .int (iN q)), (14, .int (iN (t))), (12, .int (dayN M)), (11, .ref a11), (10, .int 1), (9, .ref a9), (8, .ref a8), (7, .ref a7), (6, .ref a6), (5, .ref a5), (4, .ref a4), (3, .ref a3), (2, .int (iN (M 18 3))), (1, .int (iN (M 18 2))), (0, .ref (A 4 0))] [] := by
            refine J_aload_n C 16 dL_minutes_786 rfl ?_
            refine J_iload C 2 dL_minutes_787 rfl ?_
            refine J_iconst C (v := 1) dL_minutes_789 rfl ?_
            refine x_token C Yc (Nat.le_of_ble_eq_true rfl) (Nat.le_of_ble_eq_true rfl) [cI K a11 (6) (fA (fun i => toN5 M M 1 i) (6)), cI K a9 (8) (fA (fun i => iN (hadN M i)) (8)), cI K a8 (M 18 2) (fA (fun i => iN (whN M i)) (M 18 2)), cI K a7 (M 18 3) (fA (fun i => iN (M 14 i)) (M 18 3)), cI K a6 (M 18 3) (fA (fun i => iN (M 13 i)) (M 18 3)), cI K a5 (M 18 3) (fA (fun i => iN (M 12 i)) (M 18 3)), cI K a4 (M 18 3) (fA (fun i => iN (M 11 i)) (M 18 3)), cI K a3 (M 18 3) (fA (fun i => iN (M 10 i)) (M 18 3))] (w := (iN (nxt (M 18 2) (M 11 t)))) ((hP.tok1 hq).trans (by rw [w5])) dL_minutes_790 (Nat.le_of_ble_eq_true rfl) (Nat.le_of_ble_eq_true rfl) ?_
            refine J_iload C 0 dL_minutes_793 rfl ?_
            refine J_icmp_ne_y C 822 rfl dL_minutes_795 rfl ?_
            refine J_aload_n C 16 dL_minutes_798 rfl ?_
            refine J_iload C 2 dL_minutes_799 rfl ?_
            refine J_iconst C (v := 2) dL_minutes_801 rfl ?_
            refine x_token C Yc (Nat.le_of_ble_eq_true rfl) (Nat.le_of_ble_eq_true rfl) [cI K a11 (6) (fA (fun i => toN5 M M 1 i) (6)), cI K a9 (8) (fA (fun i => iN (hadN M i)) (8)), cI K a8 (M 18 2) (fA (fun i => iN (whN M i)) (M 18 2)), cI K a7 (M 18 3) (fA (fun i => iN (M 14 i)) (M 18 3)), cI K a6 (M 18 3) (fA (fun i => iN (M 13 i)) (M 18 3)), cI K a5 (M 18 3) (fA (fun i => iN (M 12 i)) (M 18 3)), cI K a4 (M 18 3) (fA (fun i => iN (M 11 i)) (M 18 3)), cI K a3 (M 18 3) (fA (fun i => iN (M 10 i)) (M 18 3))] (w := (iN (M 2 (M 11 t)))) ((hP.tok2 hq).trans (by rw [w6])) dL_minutes_802 (Nat.le_of_ble_eq_true rfl) (Nat.le_of_ble_eq_true rfl) ?_
            refine J_aload_n C 16 dL_minutes_805 rfl ?_
            refine J_aload C 12 dL_minutes_806 rfl ?_
            refine J_iload C 3 dL_minutes_808 rfl ?_
            refine J_iaN C 6 t rfl hd (by omega) rfl dL_minutes_810 ?_
            refine J_eqi (b := (iN (M 11 t))) (fA_get hd) ?_
            refine J_iconst C (v := 0) dL_minutes_811 rfl ?_
            refine x_office C Yc (Nat.le_of_ble_eq_true rfl) (Nat.le_of_ble_eq_true rfl) [cI K a11 (6) (fA (fun i => toN5 M M 1 i) (6)), cI K a9 (8) (fA (fun i => iN (hadN M i)) (8)), cI K a8 (M 18 2) (fA (fun i => iN (whN M i)) (M 18 2)), cI K a7 (M 18 3) (fA (fun i => iN (M 14 i)) (M 18 3)), cI K a6 (M 18 3) (fA (fun i => iN (M 13 i)) (M 18 3)), cI K a5 (M 18 3) (fA (fun i => iN (M 12 i)) (M 18 3)), cI K a4 (M 18 3) (fA (fun i => iN (M 11 i)) (M 18 3)), cI K a3 (M 18 3) (fA (fun i => iN (M 10 i)) (M 18 3))] (w := (iN (M 2 (M 11 t)))) ((hP.off0 (by omega)).trans (by rw [hM.1 2 _ (by decide)])) dL_minutes_812 (Nat.le_of_ble_eq_true rfl) (Nat.le_of_ble_eq_true rfl) ?_
            refine J_icmp_ne_y C 822 rfl dL_minutes_815 rfl ?_
            refine J_iconst C (v := 1) dL_minutes_818 rfl ?_
            refine J_goto C 823 dL_minutes_819 rfl ?_
            refine J_istore C (lv' := [(10, .int 1), (16, .int (iN (nxt (M 18 2) (M 11 t)))), (13, .int (iN (nsum (rdC M) (t + 1)))), (15, .int (iN q)), (14, .int (iN (t))), (12, .int (dayN M)), (11, .ref a11), (9, .ref a9), (8, .ref a8), (7, .ref a7), (6, .ref a6), (5, .ref a5), (4, .ref a4), (3, .ref a3), (2, .int (iN (M 18 3))), (1, .int (iN (M 18 2))), (0, .ref (A 4 0))]) dL_minutes_823 (by decide) rfl ?_
            refine J_sub [2, 4, 5, 6, 0, 7, 8, 9, 10, 11, 12, 13, 14, 15, 16] (lv' := [(13, .int (iN (nsum (rdC M) (t + 1)))), (14, .int (iN (t))), (12, .int (dayN M)), (11, .ref a11), (10, .int 1), (9, .ref a9), (8, .ref a8), (7, .ref a7), (6, .ref a6), (5, .ref a5), (4, .ref a4), (3, .ref a3), (2, .int (iN (M 18 3))), (1, .int (iN (M 18 2))), (0, .ref (A 4 0))]) rfl ?_
            exact k825
          by_cases hday : (M 18 0 + 1) % 60 = 0
          · have h5 := w4.resolve_left (fun z => z hday)
            refine J_iload C 4 dL_minutes_769 rfl ?_
            refine J_if_eq_n C 786 (by unfold dayN; rw [if_pos hday]; decide) dL_minutes_771 rfl ?_
            refine J_aload C 8 dL_minutes_774 rfl ?_
            refine J_aload C 12 dL_minutes_776 rfl ?_
            refine J_iload C 3 dL_minutes_778 rfl ?_
            refine J_iaN C 6 t rfl hd (by omega) rfl dL_minutes_780 ?_
            refine J_eqi (b := (iN (M 11 t))) (fA_get hd) ?_
            refine J_iaN C 2 (M 11 t) rfl hp (by omega) rfl dL_minutes_781 ?_
            refine J_eqi (b := (iN (whN M (M 11 t)))) (fA_get hp) ?_
            refine J_iconst C (v := 5) dL_minutes_782 rfl ?_
            refine J_icmp_eq_n C 818 (iN_ne' (b := 5) h5 (by omega) (by decide)) dL_minutes_783 rfl ?_
            exact k786
          · refine J_iload C 4 dL_minutes_769 rfl ?_
            refine J_if_eq_y C 786 (by unfold dayN; exact if_neg hday) dL_minutes_771 rfl ?_
            exact k786
    refine J_aload C 11 dL_minutes_406 rfl ?_
    refine J_iload C 2 dL_minutes_408 rfl ?_
    refine J_iaN C 5 t rfl hd (by omega) rfl dL_minutes_410 ?_
    refine J_eqi (b := (iN (M 12 t))) (fA_get hd) ?_
    by_cases h12 : M 12 t = 0
    · refine J_if_ne_y C 425 ((iN_0 (by omega)).mpr h12) dL_minutes_411 rfl ?_
      refine J_aload C 9 dL_minutes_414 rfl ?_
      refine J_iload C 2 dL_minutes_416 rfl ?_
      refine J_iaN C 3 t rfl hd (by omega) rfl dL_minutes_418 ?_
      refine J_eqi (b := (iN (M 14 t))) (fA_get hd) ?_
      by_cases h14 : 0 < M 14 t
      · refine J_if_le_y C 425 ((iN_pos (by omega)).mpr h14) dL_minutes_419 rfl ?_
        refine J_iinc C 3 (w := (iN (nsum (rdC M) (t + 1)))) (lv' := [(13, .int (iN (nsum (rdC M) (t + 1)))), (16, .int (iN (N 18 3))), (15, .int (iP (lookN N (M 10 t) (N 18 3)))), (14, .int (iN (t))), (12, .int (dayN M)), (11, .ref a11), (10, .int 1), (9, .ref a9), (8, .ref a8), (7, .ref a7), (6, .ref a6), (5, .ref a5), (4, .ref a4), (3, .ref a3), (2, .int (iN (M 18 3))), (1, .int (iN (M 18 2))), (0, .ref (A 4 0))]) dL_minutes_422 rfl (by show iN _ + 1 = iN (nsum (rdC M) t + rdC M t); rw [rdC_y ⟨h12, by omega⟩]; exact iN_s _) (by decide) rfl ?_
        exact k425
      · have hz : nsum (rdC M) (t + 1) = nsum (rdC M) t := by
          show nsum (rdC M) t + rdC M t = nsum (rdC M) t
          rw [rdC_n (fun z => h14 (by have := z.2; omega))]
          rfl
        rw [hz] at k425
        refine J_if_le_n C 425 (fun z => h14 ((iN_pos (by omega)).mp z)) dL_minutes_419 rfl ?_
        refine J_sub [3, 0, 1, 2, 4, 5, 6, 7, 8, 9, 10, 11, 12, 13, 14, 15, 16] (lv' := [(13, .int (iN (nsum (rdC M) (t)))), (16, .int (iN (N 18 3))), (15, .int (iP (lookN N (M 10 t) (N 18 3)))), (14, .int (iN (t))), (12, .int (dayN M)), (11, .ref a11), (10, .int 1), (9, .ref a9), (8, .ref a8), (7, .ref a7), (6, .ref a6), (5, .ref a5), (4, .ref a4), (3, .ref a3), (2, .int (iN (M 18 3))), (1, .int (iN (M 18 2))), (0, .ref (A 4 0))]) rfl ?_
        exact k425
    · have hz : nsum (rdC M) (t + 1) = nsum (rdC M) t := by
        show nsum (rdC M) t + rdC M t = nsum (rdC M) t
        rw [rdC_n (fun z => h12 z.1)]
        rfl
      rw [hz] at k425
      refine J_if_ne_n C 425 (fun z => h12 ((iN_0 (by omega)).mp z)) dL_minutes_411 rfl ?_
      refine J_sub [3, 0, 1, 2, 4, 5, 6, 7, 8, 9, 10, 11, 12, 13, 14, 15, 16] (lv' := [(13, .int (iN (nsum (rdC M) (t)))), (16, .int (iN (N 18 3))), (15, .int (iP (lookN N (M 10 t) (N 18 3)))), (14, .int (iN (t))), (12, .int (dayN M)), (11, .ref a11), (10, .int 1), (9, .ref a9), (8, .ref a8), (7, .ref a7), (6, .ref a6), (5, .ref a5), (4, .ref a4), (3, .ref a3), (2, .int (iN (M 18 3))), (1, .int (iN (M 18 2))), (0, .ref (A 4 0))]) rfl ?_
      exact k425
theorem mm_end (C : Cx l K Γ RL cL_minutes 17 (some .boolean) 9) (Yc : Cy Γ 8 39) (hS : St B Y M) (hB : B ≤ 9000) (hP : St (B + 5) P N) (hM : MS M N) (hN : N = miI M 1) (hU : UN B P (Y 0) M) : J l K Γ (Jz K Γ (fun u : {Z : RS // Z 0 = Y 0 ∧ St B Z M} => (some (.int 1), ro_W K A u.1)) 8 39) 8 39 ([cI K a11 (6) (fA (fun i => toN5 M M 1 i) (6)), cI K a9 (8) (fA (fun i => iN (hadN M i)) (8)), cI K a8 (M 18 2) (fA (fun i => iN (whN M i)) (M 18 2)), cI K a7 (M 18 3) (fA (fun i => iN (M 14 i)) (M 18 3)), cI K a6 (M 18 3) (fA (fun i => iN (M 13 i)) (M 18 3)), cI K a5 (M 18 3) (fA (fun i => iN (M 12 i)) (M 18 3)), cI K a4 (M 18 3) (fA (fun i => iN (M 11 i)) (M 18 3)), cI K a3 (M 18 3) (fA (fun i => iN (M 10 i)) (M 18 3))] ++ ro_W K A P) 831 17 [(14, .int (iN (M 18 3))), (13, .int (iN (nsum (rdC M) (M 18 3)))), (12, .int (dayN M)), (11, .ref a11), (10, .int 1), (9, .ref a9), (8, .ref a8), (7, .ref a7), (6, .ref a6), (5, .ref a5), (4, .ref a4), (3, .ref a3), (2, .int (iN (M 18 3))), (1, .int (iN (M 18 2))), (0, .ref (A 4 0))] [] := by
  have c10 := hS.2.1.1.c10
  have c2 := hS.2.1.1.c2
  have t3 := hS.2.1.2.1.1
  obtain ⟨n, Z, hu, hn8, hz0, hz, -⟩ := hU
  obtain ⟨m1, ec, m0, mA, mB, mC, m8, m11, m7, -⟩ := hM
  have g0 : toN5 M M 1 0 = iN (N 1 1) - iN (M 1 1) := by rw [hN]; rfl
  have g1 : toN5 M M 1 1 = iN (N 1 2) - iN (M 1 2) := by rw [hN]; rfl
  have g2 : toN5 M M 1 2 = iN (N 1 8) - iN (M 1 8) := by rw [hN]; rfl
  have g3 : toN5 M M 1 3 = iN (N 18 3) := by rw [hN]; rfl
  have g4 : toN5 M M 1 4 = iN (N 1 7) - iN (M 1 7) := by rw [hN]; rfl
  have g5 : toN5 M M 1 5 = iN (N 1 4) - iN (M 1 4) := by rw [hN]; rfl
  have ew : winN N (N 18 2) = winN M (M 18 2) := by rw [ec]; exact winN_cong (fun b => m1 3 b (by decide)) (fun b => m1 4 b (by decide)) _
  have s1 := hS.2.1.2.2.2.1.2.1
  obtain ⟨r1, r2, r3, r4, r5, r6⟩ := hS.2.1.2.2.2.2.2
  have q3 := hP.2.1.2.1.1
  have q2 := hP.2.1.1.c2
  have q10 := hP.2.1.1.c10
  refine J_iload C 4 dL_minutes_831 rfl ?_
  refine J_if_eq_n C 963 (by decide) dL_minutes_833 rfl ?_
  refine J_aload_n C 14 dL_minutes_836 rfl ?_
  refine J_bipush C (v := 18) dL_minutes_837 rfl ?_
  refine x_value C Yc (Nat.le_of_ble_eq_true rfl) (Nat.le_of_ble_eq_true rfl) [cI K a11 (6) (fA (fun i => toN5 M M 1 i) (6)), cI K a9 (8) (fA (fun i => iN (hadN M i)) (8)), cI K a8 (M 18 2) (fA (fun i => iN (whN M i)) (M 18 2)), cI K a7 (M 18 3) (fA (fun i => iN (M 14 i)) (M 18 3)), cI K a6 (M 18 3) (fA (fun i => iN (M 13 i)) (M 18 3)), cI K a5 (M 18 3) (fA (fun i => iN (M 12 i)) (M 18 3)), cI K a4 (M 18 3) (fA (fun i => iN (M 11 i)) (M 18 3)), cI K a3 (M 18 3) (fA (fun i => iN (M 10 i)) (M 18 3))] (w := (iN (N 1 8))) hP.val18 dL_minutes_839 (Nat.le_of_ble_eq_true rfl) (Nat.le_of_ble_eq_true rfl) ?_
  refine J_aload C 5 dL_minutes_842 rfl ?_
  refine J_iconst C (v := 3) dL_minutes_844 rfl ?_
  refine J_iaN C 1 3 rfl (by decide) (by omega) rfl dL_minutes_845 ?_
  refine J_eqi (b := (iN (M 1 8))) (fA_get (by decide)) ?_
  refine J_iload C 1 dL_minutes_846 rfl ?_
  refine J_iadd C dL_minutes_848 ?_
  refine J_icmp_ne_y C 963 (by rw [m8, iN_add]) dL_minutes_849 rfl ?_
  refine J_aload_n C 14 dL_minutes_852 rfl ?_
  refine J_bipush C (v := 11) dL_minutes_853 rfl ?_
  refine x_value C Yc (Nat.le_of_ble_eq_true rfl) (Nat.le_of_ble_eq_true rfl) [cI K a11 (6) (fA (fun i => toN5 M M 1 i) (6)), cI K a9 (8) (fA (fun i => iN (hadN M i)) (8)), cI K a8 (M 18 2) (fA (fun i => iN (whN M i)) (M 18 2)), cI K a7 (M 18 3) (fA (fun i => iN (M 14 i)) (M 18 3)), cI K a6 (M 18 3) (fA (fun i => iN (M 13 i)) (M 18 3)), cI K a5 (M 18 3) (fA (fun i => iN (M 12 i)) (M 18 3)), cI K a4 (M 18 3) (fA (fun i => iN (M 11 i)) (M 18 3)), cI K a3 (M 18 3) (fA (fun i => iN (M 10 i)) (M 18 3))] (w := (iN (N 1 1))) hP.val11 dL_minutes_855 (Nat.le_of_ble_eq_true rfl) (Nat.le_of_ble_eq_true rfl) ?_
  refine J_aload C 5 dL_minutes_858 rfl ?_
  refine J_iconst C (v := 1) dL_minutes_860 rfl ?_
  refine J_iaN C 1 1 rfl (by decide) (by omega) rfl dL_minutes_861 ?_
  refine J_eqi (b := (iN (M 1 1))) (fA_get (by decide)) ?_
  refine J_aload C 3 dL_minutes_862 rfl ?_
  refine J_iconst C (v := 0) dL_minutes_864 rfl ?_
  refine J_iaN C 0 0 rfl (by decide) (by omega) rfl dL_minutes_865 ?_
  refine J_eqi (b := (toN5 M M 1 0)) (fA_get (by decide)) ?_
  refine J_iadd C dL_minutes_866 ?_
  refine J_icmp_ne_y C 963 (by rw [g0, i32_as]) dL_minutes_867 rfl ?_
  refine J_aload_n C 14 dL_minutes_870 rfl ?_
  refine J_bipush C (v := 12) dL_minutes_871 rfl ?_
  refine x_value C Yc (Nat.le_of_ble_eq_true rfl) (Nat.le_of_ble_eq_true rfl) [cI K a11 (6) (fA (fun i => toN5 M M 1 i) (6)), cI K a9 (8) (fA (fun i => iN (hadN M i)) (8)), cI K a8 (M 18 2) (fA (fun i => iN (whN M i)) (M 18 2)), cI K a7 (M 18 3) (fA (fun i => iN (M 14 i)) (M 18 3)), cI K a6 (M 18 3) (fA (fun i => iN (M 13 i)) (M 18 3)), cI K a5 (M 18 3) (fA (fun i => iN (M 12 i)) (M 18 3)), cI K a4 (M 18 3) (fA (fun i => iN (M 11 i)) (M 18 3)), cI K a3 (M 18 3) (fA (fun i => iN (M 10 i)) (M 18 3))] (w := (iN (N 1 2))) hP.val12 dL_minutes_873 (Nat.le_of_ble_eq_true rfl) (Nat.le_of_ble_eq_true rfl) ?_
  refine J_aload C 5 dL_minutes_876 rfl ?_
  refine J_iconst C (v := 2) dL_minutes_878 rfl ?_
  refine J_iaN C 1 2 rfl (by decide) (by omega) rfl dL_minutes_879 ?_
  refine J_eqi (b := (iN (M 1 2))) (fA_get (by decide)) ?_
  refine J_aload C 3 dL_minutes_880 rfl ?_
  refine J_iconst C (v := 1) dL_minutes_882 rfl ?_
  refine J_iaN C 0 1 rfl (by decide) (by omega) rfl dL_minutes_883 ?_
  refine J_eqi (b := (toN5 M M 1 1)) (fA_get (by decide)) ?_
  refine J_iadd C dL_minutes_884 ?_
  refine J_icmp_ne_y C 963 (by rw [g1, i32_as]) dL_minutes_885 rfl ?_
  refine J_aload C 3 dL_minutes_888 rfl ?_
  refine J_iconst C (v := 2) dL_minutes_890 rfl ?_
  refine J_iaN C 0 2 rfl (by decide) (by omega) rfl dL_minutes_891 ?_
  refine J_eqi (b := (toN5 M M 1 2)) (fA_get (by decide)) ?_
  refine J_iload C 1 dL_minutes_892 rfl ?_
  refine J_icmp_ne_y C 963 (by rw [g2, m8, iN_sub (by omega), show M 1 8 + nsum (rdC M) (M 18 3) - M 1 8 = nsum (rdC M) (M 18 3) by omega]) dL_minutes_894 rfl ?_
  refine J_aload C 3 dL_minutes_897 rfl ?_
  refine J_iconst C (v := 3) dL_minutes_899 rfl ?_
  refine J_iaN C 0 3 rfl (by decide) (by omega) rfl dL_minutes_900 ?_
  refine J_eqi (b := (toN5 M M 1 3)) (fA_get (by decide)) ?_
  refine J_aload_n C 14 dL_minutes_901 rfl ?_
  refine J_bipush C (v := 6) dL_minutes_902 rfl ?_
  refine x_value C Yc (Nat.le_of_ble_eq_true rfl) (Nat.le_of_ble_eq_true rfl) [cI K a11 (6) (fA (fun i => toN5 M M 1 i) (6)), cI K a9 (8) (fA (fun i => iN (hadN M i)) (8)), cI K a8 (M 18 2) (fA (fun i => iN (whN M i)) (M 18 2)), cI K a7 (M 18 3) (fA (fun i => iN (M 14 i)) (M 18 3)), cI K a6 (M 18 3) (fA (fun i => iN (M 13 i)) (M 18 3)), cI K a5 (M 18 3) (fA (fun i => iN (M 12 i)) (M 18 3)), cI K a4 (M 18 3) (fA (fun i => iN (M 11 i)) (M 18 3)), cI K a3 (M 18 3) (fA (fun i => iN (M 10 i)) (M 18 3))] (w := (iN (N 18 3))) hP.val6 dL_minutes_904 (Nat.le_of_ble_eq_true rfl) (Nat.le_of_ble_eq_true rfl) ?_
  refine J_icmp_ne_y C 963 g3 dL_minutes_907 rfl ?_
  refine J_aload_n C 14 dL_minutes_910 rfl ?_
  refine J_bipush C (v := 17) dL_minutes_911 rfl ?_
  refine x_value C Yc (Nat.le_of_ble_eq_true rfl) (Nat.le_of_ble_eq_true rfl) [cI K a11 (6) (fA (fun i => toN5 M M 1 i) (6)), cI K a9 (8) (fA (fun i => iN (hadN M i)) (8)), cI K a8 (M 18 2) (fA (fun i => iN (whN M i)) (M 18 2)), cI K a7 (M 18 3) (fA (fun i => iN (M 14 i)) (M 18 3)), cI K a6 (M 18 3) (fA (fun i => iN (M 13 i)) (M 18 3)), cI K a5 (M 18 3) (fA (fun i => iN (M 12 i)) (M 18 3)), cI K a4 (M 18 3) (fA (fun i => iN (M 11 i)) (M 18 3)), cI K a3 (M 18 3) (fA (fun i => iN (M 10 i)) (M 18 3))] (w := (iN (N 1 7))) hP.val17 dL_minutes_913 (Nat.le_of_ble_eq_true rfl) (Nat.le_of_ble_eq_true rfl) ?_
  refine J_aload C 5 dL_minutes_916 rfl ?_
  refine J_bipush C (v := 6) dL_minutes_918 rfl ?_
  refine J_iaN C 1 6 rfl (by decide) (by omega) rfl dL_minutes_920 ?_
  refine J_eqi (b := (iN (M 1 7))) (fA_get (by decide)) ?_
  refine J_aload C 3 dL_minutes_921 rfl ?_
  refine J_iconst C (v := 4) dL_minutes_923 rfl ?_
  refine J_iaN C 0 4 rfl (by decide) (by omega) rfl dL_minutes_924 ?_
  refine J_eqi (b := (toN5 M M 1 4)) (fA_get (by decide)) ?_
  refine J_iadd C dL_minutes_925 ?_
  refine J_icmp_ne_y C 963 (by rw [g4, i32_as]) dL_minutes_926 rfl ?_
  refine J_aload_n C 14 dL_minutes_929 rfl ?_
  refine J_bipush C (v := 14) dL_minutes_930 rfl ?_
  refine x_value C Yc (Nat.le_of_ble_eq_true rfl) (Nat.le_of_ble_eq_true rfl) [cI K a11 (6) (fA (fun i => toN5 M M 1 i) (6)), cI K a9 (8) (fA (fun i => iN (hadN M i)) (8)), cI K a8 (M 18 2) (fA (fun i => iN (whN M i)) (M 18 2)), cI K a7 (M 18 3) (fA (fun i => iN (M 14 i)) (M 18 3)), cI K a6 (M 18 3) (fA (fun i => iN (M 13 i)) (M 18 3)), cI K a5 (M 18 3) (fA (fun i => iN (M 12 i)) (M 18 3)), cI K a4 (M 18 3) (fA (fun i => iN (M 11 i)) (M 18 3)), cI K a3 (M 18 3) (fA (fun i => iN (M 10 i)) (M 18 3))] (w := (iN (N 1 4))) hP.val14 dL_minutes_932 (Nat.le_of_ble_eq_true rfl) (Nat.le_of_ble_eq_true rfl) ?_
  refine J_aload C 5 dL_minutes_935 rfl ?_
  refine J_iconst C (v := 4) dL_minutes_937 rfl ?_
  refine J_iaN C 1 4 rfl (by decide) (by omega) rfl dL_minutes_938 ?_
  refine J_eqi (b := (iN (M 1 4))) (fA_get (by decide)) ?_
  refine J_aload C 3 dL_minutes_939 rfl ?_
  refine J_iconst C (v := 5) dL_minutes_941 rfl ?_
  refine J_iaN C 0 5 rfl (by decide) (by omega) rfl dL_minutes_942 ?_
  refine J_eqi (b := (toN5 M M 1 5)) (fA_get (by decide)) ?_
  refine J_iadd C dL_minutes_943 ?_
  refine J_icmp_ne_y C 963 (by rw [g5, i32_as]) dL_minutes_944 rfl ?_
  refine J_iload_n C 12 dL_minutes_947 rfl ?_
  refine J_iconst C (v := 1) dL_minutes_948 rfl ?_
  have k964 : J l K Γ (Jz K Γ (fun u : {Z : RS // Z 0 = Y 0 ∧ St B Z M} => (some (.int 1), ro_W K A u.1)) 8 39) 8 39 ([cI K a11 (6) (fA (fun i => toN5 M M 1 i) (6)), cI K a9 (8) (fA (fun i => iN (hadN M i)) (8)), cI K a8 (M 18 2) (fA (fun i => iN (whN M i)) (M 18 2)), cI K a7 (M 18 3) (fA (fun i => iN (M 14 i)) (M 18 3)), cI K a6 (M 18 3) (fA (fun i => iN (M 13 i)) (M 18 3)), cI K a5 (M 18 3) (fA (fun i => iN (M 12 i)) (M 18 3)), cI K a4 (M 18 3) (fA (fun i => iN (M 11 i)) (M 18 3)), cI K a3 (M 18 3) (fA (fun i => iN (M 10 i)) (M 18 3))] ++ ro_W K A P) 964 17 [(14, .int (iN (M 18 3))), (13, .int (iN (nsum (rdC M) (M 18 3)))), (12, .int (dayN M)), (11, .ref a11), (10, .int 1), (9, .ref a9), (8, .ref a8), (7, .ref a7), (6, .ref a6), (5, .ref a5), (4, .ref a4), (3, .ref a3), (2, .int (iN (M 18 3))), (1, .int (iN (M 18 2))), (0, .ref (A 4 0))] [.int 1] := by
    refine J_istore C (lv' := [(10, .int 1), (14, .int (iN (M 18 3))), (13, .int (iN (nsum (rdC M) (M 18 3)))), (12, .int (dayN M)), (11, .ref a11), (9, .ref a9), (8, .ref a8), (7, .ref a7), (6, .ref a6), (5, .ref a5), (4, .ref a4), (3, .ref a3), (2, .int (iN (M 18 3))), (1, .int (iN (M 18 2))), (0, .ref (A 4 0))]) dL_minutes_964 (by decide) rfl ?_
    refine J_iload_n C 12 dL_minutes_966 rfl ?_
    refine J_sub [0, 1, 2, 3, 4, 5, 6, 7, 8, 9, 10, 11, 12, 13, 14] (lv' := [(10, .int 1), (14, .int (iN (M 18 3))), (13, .int (iN (nsum (rdC M) (M 18 3)))), (12, .int (dayN M)), (11, .ref a11), (9, .ref a9), (8, .ref a8), (7, .ref a7), (6, .ref a6), (5, .ref a5), (4, .ref a4), (3, .ref a3), (2, .int (iN (M 18 3))), (1, .int (iN (M 18 2))), (0, .ref (A 4 0))]) rfl ?_
    have k1122 : J l K Γ (Jz K Γ (fun u : {Z : RS // Z 0 = Y 0 ∧ St B Z M} => (some (.int 1), ro_W K A u.1)) 8 39) 8 39 ([cI K a11 (6) (fA (fun i => toN5 M M 1 i) (6)), cI K a9 (8) (fA (fun i => iN (hadN M i)) (8)), cI K a8 (M 18 2) (fA (fun i => iN (whN M i)) (M 18 2)), cI K a7 (M 18 3) (fA (fun i => iN (M 14 i)) (M 18 3)), cI K a6 (M 18 3) (fA (fun i => iN (M 13 i)) (M 18 3)), cI K a5 (M 18 3) (fA (fun i => iN (M 12 i)) (M 18 3)), cI K a4 (M 18 3) (fA (fun i => iN (M 11 i)) (M 18 3)), cI K a3 (M 18 3) (fA (fun i => iN (M 10 i)) (M 18 3))] ++ ro_W K A P) 1122 17 [(10, .int 1), (14, .int (iN (M 18 3))), (13, .int (iN (nsum (rdC M) (M 18 3)))), (12, .int (dayN M)), (11, .ref a11), (9, .ref a9), (8, .ref a8), (7, .ref a7), (6, .ref a6), (5, .ref a5), (4, .ref a4), (3, .ref a3), (2, .int (iN (M 18 3))), (1, .int (iN (M 18 2))), (0, .ref (A 4 0))] [] := by
      refine J_iload C 0 dL_minutes_1122 rfl ?_
      refine J_if_eq_n C 1138 (by decide) dL_minutes_1124 rfl ?_
      refine J_aload_n C 14 dL_minutes_1127 rfl ?_
      refine x_undo C Yc (Nat.le_of_ble_eq_true rfl) (Nat.le_of_ble_eq_true rfl) [cI K a11 (6) (fA (fun i => toN5 M M 1 i) (6)), cI K a9 (8) (fA (fun i => iN (hadN M i)) (8)), cI K a8 (M 18 2) (fA (fun i => iN (whN M i)) (M 18 2)), cI K a7 (M 18 3) (fA (fun i => iN (M 14 i)) (M 18 3)), cI K a6 (M 18 3) (fA (fun i => iN (M 13 i)) (M 18 3)), cI K a5 (M 18 3) (fA (fun i => iN (M 12 i)) (M 18 3)), cI K a4 (M 18 3) (fA (fun i => iN (M 11 i)) (M 18 3)), cI K a3 (M 18 3) (fA (fun i => iN (M 10 i)) (M 18 3))] (w := (iN n)) hu dL_minutes_1128 (Nat.le_of_ble_eq_true rfl) (Nat.le_of_ble_eq_true rfl) ?_
      refine J_if_lt_n C 1138 (iN_neg (by omega)) dL_minutes_1131 rfl ?_
      refine J_iconst C (v := 1) dL_minutes_1134 rfl ?_
      refine J_goto C 1139 dL_minutes_1135 rfl ?_
      refine J_drop (u := [cI K a11 (6) (fA (fun i => toN5 M M 1 i) (6)), cI K a9 (8) (fA (fun i => iN (hadN M i)) (8)), cI K a8 (M 18 2) (fA (fun i => iN (whN M i)) (M 18 2)), cI K a7 (M 18 3) (fA (fun i => iN (M 14 i)) (M 18 3)), cI K a6 (M 18 3) (fA (fun i => iN (M 13 i)) (M 18 3)), cI K a5 (M 18 3) (fA (fun i => iN (M 12 i)) (M 18 3)), cI K a4 (M 18 3) (fA (fun i => iN (M 11 i)) (M 18 3)), cI K a3 (M 18 3) (fA (fun i => iN (M 10 i)) (M 18 3))]) ?_
      exact J_rnret rfl C ⟨Z, hz0, hz⟩ dL_minutes_1139 (Nat.le_of_ble_eq_true rfl) (Nat.le_of_ble_eq_true rfl) rfl
    by_cases h0 : M 18 3 = 0
    · refine J_if_ne_y C 1094 ((iN_0 (by omega)).mpr h0) dL_minutes_967 rfl ?_
      refine J_aload C 5 dL_minutes_970 rfl ?_
      refine J_bipush C (v := 7) dL_minutes_972 rfl ?_
      refine J_iaN C 1 7 rfl (by decide) (by omega) rfl dL_minutes_974 ?_
      refine J_eqi (b := (iN (M 18 1))) (fA_get (by decide)) ?_
      refine J_iconst C (v := 1) dL_minutes_975 rfl ?_
      refine J_iadd C dL_minutes_976 ?_
      refine J_eqi (b := (iN (M 18 1 + 1))) (iN_s _) ?_
      refine J_aload_n C 14 dL_minutes_977 rfl ?_
      refine J_iconst C (v := 1) dL_minutes_978 rfl ?_
      refine x_value C Yc (Nat.le_of_ble_eq_true rfl) (Nat.le_of_ble_eq_true rfl) [cI K a11 (6) (fA (fun i => toN5 M M 1 i) (6)), cI K a9 (8) (fA (fun i => iN (hadN M i)) (8)), cI K a8 (M 18 2) (fA (fun i => iN (whN M i)) (M 18 2)), cI K a7 (M 18 3) (fA (fun i => iN (M 14 i)) (M 18 3)), cI K a6 (M 18 3) (fA (fun i => iN (M 13 i)) (M 18 3)), cI K a5 (M 18 3) (fA (fun i => iN (M 12 i)) (M 18 3)), cI K a4 (M 18 3) (fA (fun i => iN (M 11 i)) (M 18 3)), cI K a3 (M 18 3) (fA (fun i => iN (M 10 i)) (M 18 3))] (w := (iN (M 0 1))) (hP.val1.trans (by rw [m1 0 1 (by decide)])) dL_minutes_979 (Nat.le_of_ble_eq_true rfl) (Nat.le_of_ble_eq_true rfl) ?_
      have k1056 : (M 18 1 + 1 < M 0 1 ∨ winN M (M 18 2) = none) → J l K Γ (Jz K Γ (fun u : {Z : RS // Z 0 = Y 0 ∧ St B Z M} => (some (.int 1), ro_W K A u.1)) 8 39) 8 39 ([cI K a11 (6) (fA (fun i => toN5 M M 1 i) (6)), cI K a9 (8) (fA (fun i => iN (hadN M i)) (8)), cI K a8 (M 18 2) (fA (fun i => iN (whN M i)) (M 18 2)), cI K a7 (M 18 3) (fA (fun i => iN (M 14 i)) (M 18 3)), cI K a6 (M 18 3) (fA (fun i => iN (M 13 i)) (M 18 3)), cI K a5 (M 18 3) (fA (fun i => iN (M 12 i)) (M 18 3)), cI K a4 (M 18 3) (fA (fun i => iN (M 11 i)) (M 18 3)), cI K a3 (M 18 3) (fA (fun i => iN (M 10 i)) (M 18 3))] ++ ro_W K A P) 1056 17 [(10, .int 1), (14, .int (iN (M 18 3))), (13, .int (iN (nsum (rdC M) (M 18 3)))), (12, .int (dayN M)), (11, .ref a11), (9, .ref a9), (8, .ref a8), (7, .ref a7), (6, .ref a6), (5, .ref a5), (4, .ref a4), (3, .ref a3), (2, .int (iN (M 18 3))), (1, .int (iN (M 18 2))), (0, .ref (A 4 0))] [] := by
        intro hno
        obtain ⟨n3, n4, n1⟩ := mB h0 hno
        refine J_iload C 0 dL_minutes_1056 rfl ?_
        refine J_if_eq_n C 1088 (by decide) dL_minutes_1058 rfl ?_
        refine J_aload C 4 dL_minutes_1061 rfl ?_
        refine J_iconst C (v := 5) dL_minutes_1063 rfl ?_
        refine J_iaN C 0 5 rfl (by decide) (by omega) rfl dL_minutes_1064 ?_
        refine J_eqi (b := (toN5 M M 1 5)) (fA_get (by decide)) ?_
        refine J_if_ne_y C 1088 (by rw [g5, n4, Int32.sub_self]) dL_minutes_1065 rfl ?_
        refine J_aload_n C 14 dL_minutes_1068 rfl ?_
        refine J_bipush C (v := 7) dL_minutes_1069 rfl ?_
        refine x_value C Yc (Nat.le_of_ble_eq_true rfl) (Nat.le_of_ble_eq_true rfl) [cI K a11 (6) (fA (fun i => toN5 M M 1 i) (6)), cI K a9 (8) (fA (fun i => iN (hadN M i)) (8)), cI K a8 (M 18 2) (fA (fun i => iN (whN M i)) (M 18 2)), cI K a7 (M 18 3) (fA (fun i => iN (M 14 i)) (M 18 3)), cI K a6 (M 18 3) (fA (fun i => iN (M 13 i)) (M 18 3)), cI K a5 (M 18 3) (fA (fun i => iN (M 12 i)) (M 18 3)), cI K a4 (M 18 3) (fA (fun i => iN (M 11 i)) (M 18 3)), cI K a3 (M 18 3) (fA (fun i => iN (M 10 i)) (M 18 3))] (w := (iN (M 18 1 + 1))) (hP.val7.trans (by rw [n1])) dL_minutes_1071 (Nat.le_of_ble_eq_true rfl) (Nat.le_of_ble_eq_true rfl) ?_
        refine J_aload C 5 dL_minutes_1074 rfl ?_
        refine J_bipush C (v := 7) dL_minutes_1076 rfl ?_
        refine J_iaN C 1 7 rfl (by decide) (by omega) rfl dL_minutes_1078 ?_
        refine J_eqi (b := (iN (M 18 1))) (fA_get (by decide)) ?_
        refine J_iconst C (v := 1) dL_minutes_1079 rfl ?_
        refine J_iadd C dL_minutes_1080 ?_
        refine J_eqi (b := (iN (M 18 1 + 1))) (iN_s _) ?_
        refine J_icmp_ne_y C 1088 rfl dL_minutes_1081 rfl ?_
        refine J_iconst C (v := 1) dL_minutes_1084 rfl ?_
        refine J_goto C 1089 dL_minutes_1085 rfl ?_
        refine J_istore C (lv' := [(10, .int 1), (14, .int (iN (M 18 3))), (13, .int (iN (nsum (rdC M) (M 18 3)))), (12, .int (dayN M)), (11, .ref a11), (9, .ref a9), (8, .ref a8), (7, .ref a7), (6, .ref a6), (5, .ref a5), (4, .ref a4), (3, .ref a3), (2, .int (iN (M 18 3))), (1, .int (iN (M 18 2))), (0, .ref (A 4 0))]) dL_minutes_1089 (by decide) rfl ?_
        refine J_goto C 1122 dL_minutes_1091 rfl ?_
        refine J_sub [0, 1, 2, 3, 4, 5, 6, 7, 8, 9, 10, 11, 12, 13, 14] (lv' := [(10, .int 1), (14, .int (iN (M 18 3))), (13, .int (iN (nsum (rdC M) (M 18 3)))), (12, .int (dayN M)), (11, .ref a11), (9, .ref a9), (8, .ref a8), (7, .ref a7), (6, .ref a6), (5, .ref a5), (4, .ref a4), (3, .ref a3), (2, .int (iN (M 18 3))), (1, .int (iN (M 18 2))), (0, .ref (A 4 0))]) rfl ?_
        exact k1122
      by_cases hq : M 18 1 + 1 < M 0 1
      · refine J_icmp_lt_y C 1056 (iN_ylt' hq (by omega)) dL_minutes_982 rfl ?_
        exact k1056 (Or.inl hq)
      · refine J_icmp_lt_n C 1056 (fun z => hq ((iN_lt (by omega) (by omega)).mp z)) dL_minutes_982 rfl ?_
        refine J_aload_n C 14 dL_minutes_985 rfl ?_
        refine x_winner C Yc (Nat.le_of_ble_eq_true rfl) (Nat.le_of_ble_eq_true rfl) [cI K a11 (6) (fA (fun i => toN5 M M 1 i) (6)), cI K a9 (8) (fA (fun i => iN (hadN M i)) (8)), cI K a8 (M 18 2) (fA (fun i => iN (whN M i)) (M 18 2)), cI K a7 (M 18 3) (fA (fun i => iN (M 14 i)) (M 18 3)), cI K a6 (M 18 3) (fA (fun i => iN (M 13 i)) (M 18 3)), cI K a5 (M 18 3) (fA (fun i => iN (M 12 i)) (M 18 3)), cI K a4 (M 18 3) (fA (fun i => iN (M 11 i)) (M 18 3)), cI K a3 (M 18 3) (fA (fun i => iN (M 10 i)) (M 18 3))] (w := (iO (winN M (M 18 2)))) (hP.winner.trans (by rw [ew])) dL_minutes_986 (Nat.le_of_ble_eq_true rfl) (Nat.le_of_ble_eq_true rfl) ?_
        rcases opt_ways (winN M (M 18 2)) with hw | ⟨p, hw⟩
        · refine J_if_lt_y C 1056 (by rw [hw]; decide) dL_minutes_989 rfl ?_
          exact k1056 (Or.inr hw)
        · obtain ⟨n3, n11, n12, n1, n4⟩ := mC h0 p hq hw
          have hp := (winN_some _ hw).1
          refine J_if_lt_n C 1056 (by rw [hw]; exact iN_neg (by omega)) dL_minutes_989 rfl ?_
          refine J_iload C 0 dL_minutes_992 rfl ?_
          refine J_if_eq_n C 1050 (by decide) dL_minutes_994 rfl ?_
          refine J_aload C 4 dL_minutes_997 rfl ?_
          refine J_iconst C (v := 5) dL_minutes_999 rfl ?_
          refine J_iaN C 0 5 rfl (by decide) (by omega) rfl dL_minutes_1000 ?_
          refine J_eqi (b := (toN5 M M 1 5)) (fA_get (by decide)) ?_
          refine J_iconst C (v := 1) dL_minutes_1001 rfl ?_
          refine J_icmp_ne_y C 1050 (by rw [g5, n4, iN_sub (by omega), show M 1 4 + 1 - M 1 4 = 1 by omega]; rfl) dL_minutes_1002 rfl ?_
          refine J_aload_n C 14 dL_minutes_1005 rfl ?_
          refine J_bipush C (v := 6) dL_minutes_1006 rfl ?_
          refine x_value C Yc (Nat.le_of_ble_eq_true rfl) (Nat.le_of_ble_eq_true rfl) [cI K a11 (6) (fA (fun i => toN5 M M 1 i) (6)), cI K a9 (8) (fA (fun i => iN (hadN M i)) (8)), cI K a8 (M 18 2) (fA (fun i => iN (whN M i)) (M 18 2)), cI K a7 (M 18 3) (fA (fun i => iN (M 14 i)) (M 18 3)), cI K a6 (M 18 3) (fA (fun i => iN (M 13 i)) (M 18 3)), cI K a5 (M 18 3) (fA (fun i => iN (M 12 i)) (M 18 3)), cI K a4 (M 18 3) (fA (fun i => iN (M 11 i)) (M 18 3)), cI K a3 (M 18 3) (fA (fun i => iN (M 10 i)) (M 18 3))] (w := 1) (hP.val6.trans (by rw [n3]; rfl)) dL_minutes_1008 (Nat.le_of_ble_eq_true rfl) (Nat.le_of_ble_eq_true rfl) ?_
          refine J_iconst C (v := 1) dL_minutes_1011 rfl ?_
          refine J_icmp_ne_y C 1050 rfl dL_minutes_1012 rfl ?_
          refine J_aload_n C 14 dL_minutes_1015 rfl ?_
          refine J_iconst C (v := 0) dL_minutes_1016 rfl ?_
          refine J_iconst C (v := 1) dL_minutes_1017 rfl ?_
          refine x_token C Yc (Nat.le_of_ble_eq_true rfl) (Nat.le_of_ble_eq_true rfl) [cI K a11 (6) (fA (fun i => toN5 M M 1 i) (6)), cI K a9 (8) (fA (fun i => iN (hadN M i)) (8)), cI K a8 (M 18 2) (fA (fun i => iN (whN M i)) (M 18 2)), cI K a7 (M 18 3) (fA (fun i => iN (M 14 i)) (M 18 3)), cI K a6 (M 18 3) (fA (fun i => iN (M 13 i)) (M 18 3)), cI K a5 (M 18 3) (fA (fun i => iN (M 12 i)) (M 18 3)), cI K a4 (M 18 3) (fA (fun i => iN (M 11 i)) (M 18 3)), cI K a3 (M 18 3) (fA (fun i => iN (M 10 i)) (M 18 3))] (w := (iN p)) ((hP.tok1 (t := 0) (by omega)).trans (by rw [n11])) dL_minutes_1018 (Nat.le_of_ble_eq_true rfl) (Nat.le_of_ble_eq_true rfl) ?_
          refine J_aload_n C 14 dL_minutes_1021 rfl ?_
          refine x_winner C Yc (Nat.le_of_ble_eq_true rfl) (Nat.le_of_ble_eq_true rfl) [cI K a11 (6) (fA (fun i => toN5 M M 1 i) (6)), cI K a9 (8) (fA (fun i => iN (hadN M i)) (8)), cI K a8 (M 18 2) (fA (fun i => iN (whN M i)) (M 18 2)), cI K a7 (M 18 3) (fA (fun i => iN (M 14 i)) (M 18 3)), cI K a6 (M 18 3) (fA (fun i => iN (M 13 i)) (M 18 3)), cI K a5 (M 18 3) (fA (fun i => iN (M 12 i)) (M 18 3)), cI K a4 (M 18 3) (fA (fun i => iN (M 11 i)) (M 18 3)), cI K a3 (M 18 3) (fA (fun i => iN (M 10 i)) (M 18 3))] (w := (iN p)) (hP.winner.trans (by rw [ew, hw]; rfl)) dL_minutes_1022 (Nat.le_of_ble_eq_true rfl) (Nat.le_of_ble_eq_true rfl) ?_
          refine J_icmp_ne_y C 1050 rfl dL_minutes_1025 rfl ?_
          refine J_aload_n C 14 dL_minutes_1028 rfl ?_
          refine J_iconst C (v := 0) dL_minutes_1029 rfl ?_
          refine J_iconst C (v := 2) dL_minutes_1030 rfl ?_
          refine x_token C Yc (Nat.le_of_ble_eq_true rfl) (Nat.le_of_ble_eq_true rfl) [cI K a11 (6) (fA (fun i => toN5 M M 1 i) (6)), cI K a9 (8) (fA (fun i => iN (hadN M i)) (8)), cI K a8 (M 18 2) (fA (fun i => iN (whN M i)) (M 18 2)), cI K a7 (M 18 3) (fA (fun i => iN (M 14 i)) (M 18 3)), cI K a6 (M 18 3) (fA (fun i => iN (M 13 i)) (M 18 3)), cI K a5 (M 18 3) (fA (fun i => iN (M 12 i)) (M 18 3)), cI K a4 (M 18 3) (fA (fun i => iN (M 11 i)) (M 18 3)), cI K a3 (M 18 3) (fA (fun i => iN (M 10 i)) (M 18 3))] (w := 0) ((hP.tok2 (t := 0) (by omega)).trans (by rw [n12]; rfl)) dL_minutes_1031 (Nat.le_of_ble_eq_true rfl) (Nat.le_of_ble_eq_true rfl) ?_
          refine J_if_ne_y C 1050 rfl dL_minutes_1034 rfl ?_
          refine J_aload_n C 14 dL_minutes_1037 rfl ?_
          refine J_bipush C (v := 7) dL_minutes_1038 rfl ?_
          refine x_value C Yc (Nat.le_of_ble_eq_true rfl) (Nat.le_of_ble_eq_true rfl) [cI K a11 (6) (fA (fun i => toN5 M M 1 i) (6)), cI K a9 (8) (fA (fun i => iN (hadN M i)) (8)), cI K a8 (M 18 2) (fA (fun i => iN (whN M i)) (M 18 2)), cI K a7 (M 18 3) (fA (fun i => iN (M 14 i)) (M 18 3)), cI K a6 (M 18 3) (fA (fun i => iN (M 13 i)) (M 18 3)), cI K a5 (M 18 3) (fA (fun i => iN (M 12 i)) (M 18 3)), cI K a4 (M 18 3) (fA (fun i => iN (M 11 i)) (M 18 3)), cI K a3 (M 18 3) (fA (fun i => iN (M 10 i)) (M 18 3))] (w := 0) (hP.val7.trans (by rw [n1]; rfl)) dL_minutes_1040 (Nat.le_of_ble_eq_true rfl) (Nat.le_of_ble_eq_true rfl) ?_
          refine J_if_ne_y C 1050 rfl dL_minutes_1043 rfl ?_
          refine J_iconst C (v := 1) dL_minutes_1046 rfl ?_
          refine J_goto C 1051 dL_minutes_1047 rfl ?_
          refine J_istore C (lv' := [(10, .int 1), (14, .int (iN (M 18 3))), (13, .int (iN (nsum (rdC M) (M 18 3)))), (12, .int (dayN M)), (11, .ref a11), (9, .ref a9), (8, .ref a8), (7, .ref a7), (6, .ref a6), (5, .ref a5), (4, .ref a4), (3, .ref a3), (2, .int (iN (M 18 3))), (1, .int (iN (M 18 2))), (0, .ref (A 4 0))]) dL_minutes_1051 (by decide) rfl ?_
          refine J_goto C 1122 dL_minutes_1053 rfl ?_
          refine J_sub [0, 1, 2, 3, 4, 5, 6, 7, 8, 9, 10, 11, 12, 13, 14] (lv' := [(10, .int 1), (14, .int (iN (M 18 3))), (13, .int (iN (nsum (rdC M) (M 18 3)))), (12, .int (dayN M)), (11, .ref a11), (9, .ref a9), (8, .ref a8), (7, .ref a7), (6, .ref a6), (5, .ref a5), (4, .ref a4), (3, .ref a3), (2, .int (iN (M 18 3))), (1, .int (iN (M 18 2))), (0, .ref (A 4 0))]) rfl ?_
          exact k1122
    · obtain ⟨-, -, n1, n4⟩ := mA (by omega)
      refine J_if_ne_n C 1094 (fun z => h0 ((iN_0 (by omega)).mp z)) dL_minutes_967 rfl ?_
      refine J_iload C 0 dL_minutes_1094 rfl ?_
      refine J_if_eq_n C 1119 (by decide) dL_minutes_1096 rfl ?_
      refine J_aload_n C 14 dL_minutes_1099 rfl ?_
      refine J_bipush C (v := 7) dL_minutes_1100 rfl ?_
      refine x_value C Yc (Nat.le_of_ble_eq_true rfl) (Nat.le_of_ble_eq_true rfl) [cI K a11 (6) (fA (fun i => toN5 M M 1 i) (6)), cI K a9 (8) (fA (fun i => iN (hadN M i)) (8)), cI K a8 (M 18 2) (fA (fun i => iN (whN M i)) (M 18 2)), cI K a7 (M 18 3) (fA (fun i => iN (M 14 i)) (M 18 3)), cI K a6 (M 18 3) (fA (fun i => iN (M 13 i)) (M 18 3)), cI K a5 (M 18 3) (fA (fun i => iN (M 12 i)) (M 18 3)), cI K a4 (M 18 3) (fA (fun i => iN (M 11 i)) (M 18 3)), cI K a3 (M 18 3) (fA (fun i => iN (M 10 i)) (M 18 3))] (w := 0) (hP.val7.trans (by rw [n1]; rfl)) dL_minutes_1102 (Nat.le_of_ble_eq_true rfl) (Nat.le_of_ble_eq_true rfl) ?_
      refine J_if_ne_y C 1119 rfl dL_minutes_1105 rfl ?_
      refine J_aload C 4 dL_minutes_1108 rfl ?_
      refine J_iconst C (v := 5) dL_minutes_1110 rfl ?_
      refine J_iaN C 0 5 rfl (by decide) (by omega) rfl dL_minutes_1111 ?_
      refine J_eqi (b := (toN5 M M 1 5)) (fA_get (by decide)) ?_
      refine J_if_ne_y C 1119 (by rw [g5, n4, Int32.sub_self]) dL_minutes_1112 rfl ?_
      refine J_iconst C (v := 1) dL_minutes_1115 rfl ?_
      refine J_goto C 1120 dL_minutes_1116 rfl ?_
      refine J_istore C (lv' := [(10, .int 1), (14, .int (iN (M 18 3))), (13, .int (iN (nsum (rdC M) (M 18 3)))), (12, .int (dayN M)), (11, .ref a11), (9, .ref a9), (8, .ref a8), (7, .ref a7), (6, .ref a6), (5, .ref a5), (4, .ref a4), (3, .ref a3), (2, .int (iN (M 18 3))), (1, .int (iN (M 18 2))), (0, .ref (A 4 0))]) dL_minutes_1120 (by decide) rfl ?_
      refine J_sub [0, 1, 2, 3, 4, 5, 6, 7, 8, 9, 10, 11, 12, 13, 14] (lv' := [(10, .int 1), (14, .int (iN (M 18 3))), (13, .int (iN (nsum (rdC M) (M 18 3)))), (12, .int (dayN M)), (11, .ref a11), (9, .ref a9), (8, .ref a8), (7, .ref a7), (6, .ref a6), (5, .ref a5), (4, .ref a4), (3, .ref a3), (2, .int (iN (M 18 3))), (1, .int (iN (M 18 2))), (0, .ref (A 4 0))]) rfl ?_
      exact k1122
  by_cases h1 : M 18 3 = 1
  · refine J_icmp_ne_y C 959 (by rw [h1]; rfl) dL_minutes_949 rfl ?_
    refine J_aload C 3 dL_minutes_952 rfl ?_
    refine J_iconst C (v := 4) dL_minutes_954 rfl ?_
    refine J_iaN C 0 4 rfl (by decide) (by omega) rfl dL_minutes_955 ?_
    refine J_eqi (b := (toN5 M M 1 4)) (fA_get (by decide)) ?_
    refine J_if_ne_y C 963 (by rw [g4, m7 (by omega), Int32.sub_self]) dL_minutes_956 rfl ?_
    refine J_iconst C (v := 1) dL_minutes_959 rfl ?_
    refine J_goto C 964 dL_minutes_960 rfl ?_
    exact k964
  · refine J_icmp_ne_n C 959 (iN_ne' (b := 1) h1 (by omega) (by decide)) dL_minutes_949 rfl ?_
    refine J_iconst C (v := 1) dL_minutes_959 rfl ?_
    refine J_goto C 964 dL_minutes_960 rfl ?_
    exact k964
end LMIN
theorem kd_L_minutes : Cd yL_minutes cL_minutes 17 (some .boolean) 1 := ⟨uc_L_minutes, un_L, ⟨by decide, by decide, by decide⟩⟩
theorem c_L_minutes (l : Launch) (K : gK) (A : Nat → Nat → Nat) {B : Nat} {Y : RS} {M : NM} (hS : St B Y M) (hB : B ≤ 9000) : Cr l K yL_minutes cL_minutes 17 (some .boolean) 9 8 39 [.ref (A 4 0)] (ro_W K A Y) (fun u : {Z : RS // Z 0 = Y 0 ∧ St B Z M} => (some (.int 1), ro_W K A u.1)) := by
  have c10 := hS.2.1.1.c10
  have c2 := hS.2.1.1.c2
  have t3 := hS.2.1.2.1.1
  obtain ⟨r1, r2, r3, r4, r5, r6⟩ := hS.2.1.2.2.2.2.2
  refine Cr.of (own := RL) (by decide) rfl (Nat.le_of_ble_eq_true rfl) (fun Γ C Yc _ => ?_)
  refine J_aload_n C 0 dL_minutes_0 rfl ?_
  refine J_iconst C (v := 4) dL_minutes_1 rfl ?_
  refine x_value C Yc (Nat.le_of_ble_eq_true rfl) (Nat.le_of_ble_eq_true rfl) [] (w := (iN (M 18 2))) hS.val4 dL_minutes_2 (Nat.le_of_ble_eq_true rfl) (Nat.le_of_ble_eq_true rfl) ?_
  refine J_istore_n C (lv' := [(1, .int (iN (M 18 2))), (0, .ref (A 4 0))]) dL_minutes_5 (by decide) rfl ?_
  refine J_aload_n C 1 dL_minutes_6 rfl ?_
  refine J_bipush C (v := 6) dL_minutes_7 rfl ?_
  refine x_value C Yc (Nat.le_of_ble_eq_true rfl) (Nat.le_of_ble_eq_true rfl) [] (w := (iN (M 18 3))) hS.val6 dL_minutes_9 (Nat.le_of_ble_eq_true rfl) (Nat.le_of_ble_eq_true rfl) ?_
  refine J_istore_n C (lv' := [(2, .int (iN (M 18 3))), (1, .int (iN (M 18 2))), (0, .ref (A 4 0))]) dL_minutes_12 (by decide) rfl ?_
  refine J_iload_n C 0 dL_minutes_13 rfl ?_
  refine J_newI C Yc (M 18 3) dL_minutes_14 rfl (by omega) (Nat.le_of_ble_eq_true rfl) (by omega) (fun a3 => ?_)
  refine J_widen (k := 1) (n := 3) (Nat.le_refl _) (by omega) ?_
  refine J_astore_n C (lv' := [(3, .ref a3), (2, .int (iN (M 18 3))), (1, .int (iN (M 18 2))), (0, .ref (A 4 0))]) dL_minutes_16 (by decide) rfl ?_
  refine J_iload_n C 1 dL_minutes_17 rfl ?_
  refine J_newI C Yc (M 18 3) dL_minutes_18 rfl (by omega) (Nat.le_of_ble_eq_true rfl) (by omega) (fun a4 => ?_)
  refine J_widen (k := 2) (n := 6) (Nat.le_refl _) (by omega) ?_
  refine J_astore C (lv' := [(4, .ref a4), (3, .ref a3), (2, .int (iN (M 18 3))), (1, .int (iN (M 18 2))), (0, .ref (A 4 0))]) dL_minutes_20 (by decide) rfl ?_
  refine J_iload_n C 2 dL_minutes_22 rfl ?_
  refine J_newI C Yc (M 18 3) dL_minutes_23 rfl (by omega) (Nat.le_of_ble_eq_true rfl) (by omega) (fun a5 => ?_)
  refine J_widen (k := 3) (n := 9) (Nat.le_refl _) (by omega) ?_
  refine J_astore C (lv' := [(5, .ref a5), (4, .ref a4), (3, .ref a3), (2, .int (iN (M 18 3))), (1, .int (iN (M 18 2))), (0, .ref (A 4 0))]) dL_minutes_25 (by decide) rfl ?_
  refine J_iload_n C 3 dL_minutes_27 rfl ?_
  refine J_newI C Yc (M 18 3) dL_minutes_28 rfl (by omega) (Nat.le_of_ble_eq_true rfl) (by omega) (fun a6 => ?_)
  refine J_widen (k := 4) (n := 12) (Nat.le_refl _) (by omega) ?_
  refine J_astore C (lv' := [(6, .ref a6), (5, .ref a5), (4, .ref a4), (3, .ref a3), (2, .int (iN (M 18 3))), (1, .int (iN (M 18 2))), (0, .ref (A 4 0))]) dL_minutes_30 (by decide) rfl ?_
  refine J_iload_n C 4 dL_minutes_32 rfl ?_
  refine J_newI C Yc (M 18 3) dL_minutes_33 rfl (by omega) (Nat.le_of_ble_eq_true rfl) (by omega) (fun a7 => ?_)
  refine J_widen (k := 5) (n := 15) (Nat.le_refl _) (by omega) ?_
  refine J_astore C (lv' := [(7, .ref a7), (6, .ref a6), (5, .ref a5), (4, .ref a4), (3, .ref a3), (2, .int (iN (M 18 3))), (1, .int (iN (M 18 2))), (0, .ref (A 4 0))]) dL_minutes_35 (by decide) rfl ?_
  refine J_iload_n C 6 dL_minutes_37 rfl ?_
  refine J_newI C Yc (M 18 2) dL_minutes_38 rfl (by omega) (Nat.le_of_ble_eq_true rfl) (by omega) (fun a8 => ?_)
  refine J_widen (k := 6) (n := 25) (Nat.le_refl _) (by omega) ?_
  refine J_astore C (lv' := [(8, .ref a8), (7, .ref a7), (6, .ref a6), (5, .ref a5), (4, .ref a4), (3, .ref a3), (2, .int (iN (M 18 3))), (1, .int (iN (M 18 2))), (0, .ref (A 4 0))]) dL_minutes_40 (by decide) rfl ?_
  refine J_iconst C (v := 0) dL_minutes_42 rfl ?_
  refine J_istore C (lv' := [(9, .int 0), (8, .ref a8), (7, .ref a7), (6, .ref a6), (5, .ref a5), (4, .ref a4), (3, .ref a3), (2, .int (iN (M 18 3))), (1, .int (iN (M 18 2))), (0, .ref (A 4 0))]) dL_minutes_43 (by decide) rfl ?_
  refine J_sub [0, 1, 2, 3, 4, 5, 6, 7, 8, 9] (lv' := [(9, .int 0), (8, .ref a8), (7, .ref a7), (6, .ref a6), (5, .ref a5), (4, .ref a4), (3, .ref a3), (2, .int (iN (M 18 3))), (1, .int (iN (M 18 2))), (0, .ref (A 4 0))]) rfl ?_
  refine J_weq (ws' := ([cI K a8 (M 18 2) (fA (fun i => iN (whN M i)) (0)), cI K a7 (M 18 3) (fA (fun i => iN (M 14 i)) (0)), cI K a6 (M 18 3) (fA (fun i => iN (M 13 i)) (0)), cI K a5 (M 18 3) (fA (fun i => iN (M 12 i)) (0)), cI K a4 (M 18 3) (fA (fun i => iN (M 11 i)) (0)), cI K a3 (M 18 3) (fA (fun i => iN (M 10 i)) (0))] ++ ro_W K A Y)) (by simp only [fA_0] <;> rfl) ?_
  refine mm_fill C Yc hS hB ?_ (M 18 3) 0 (by omega)
  refine J_iconst C (v := 0) dL_minutes_116 rfl ?_
  refine J_istore C (lv' := [(9, .int 0), (8, .ref a8), (7, .ref a7), (6, .ref a6), (5, .ref a5), (4, .ref a4), (3, .ref a3), (2, .int (iN (M 18 3))), (1, .int (iN (M 18 2))), (0, .ref (A 4 0))]) dL_minutes_117 (by decide) rfl ?_
  refine J_sub [0, 1, 2, 3, 4, 5, 6, 7, 8, 9] (lv' := [(9, .int 0), (8, .ref a8), (7, .ref a7), (6, .ref a6), (5, .ref a5), (4, .ref a4), (3, .ref a3), (2, .int (iN (M 18 3))), (1, .int (iN (M 18 2))), (0, .ref (A 4 0))]) rfl ?_
  refine mm_why C Yc hS hB ?_ (M 18 2) 0 (by omega)
  refine J_bipush C (v := 8) dL_minutes_142 rfl ?_
  refine J_newI C Yc 8 dL_minutes_144 rfl (by decide) (Nat.le_of_ble_eq_true rfl) (Nat.le_of_ble_eq_true rfl) (fun a9 => ?_)
  refine J_weq (ws' := ([cI K a9 (8) (fA (fun i => iN (hadN M i)) (0)), cI K a8 (M 18 2) (fA (fun i => iN (whN M i)) (M 18 2)), cI K a7 (M 18 3) (fA (fun i => iN (M 14 i)) (M 18 3)), cI K a6 (M 18 3) (fA (fun i => iN (M 13 i)) (M 18 3)), cI K a5 (M 18 3) (fA (fun i => iN (M 12 i)) (M 18 3)), cI K a4 (M 18 3) (fA (fun i => iN (M 11 i)) (M 18 3)), cI K a3 (M 18 3) (fA (fun i => iN (M 10 i)) (M 18 3))] ++ ro_W K A Y)) (by simp only [fA_0] <;> rfl) ?_
  obtain ⟨Y1, hv1, hsc1⟩ := hS.ifPassed (by omega) (m := 0) (w := 3) (by decide) (by decide)
  refine J_dup C dL_minutes_146 rfl ?_
  refine J_iconst C (v := 0) dL_minutes_147 rfl ?_
  refine J_aload_n C 9 dL_minutes_148 rfl ?_
  refine J_iconst C (v := 3) dL_minutes_149 rfl ?_
  refine x_value C Yc (Nat.le_of_ble_eq_true rfl) (Nat.le_of_ble_eq_true rfl) [cI K a9 (8) (fA (fun i => iN (hadN M i)) (0)), cI K a8 (M 18 2) (fA (fun i => iN (whN M i)) (M 18 2)), cI K a7 (M 18 3) (fA (fun i => iN (M 14 i)) (M 18 3)), cI K a6 (M 18 3) (fA (fun i => iN (M 13 i)) (M 18 3)), cI K a5 (M 18 3) (fA (fun i => iN (M 12 i)) (M 18 3)), cI K a4 (M 18 3) (fA (fun i => iN (M 11 i)) (M 18 3)), cI K a3 (M 18 3) (fA (fun i => iN (M 10 i)) (M 18 3))] (w := (iN (hadN M 0))) hS.val3 dL_minutes_150 (Nat.le_of_ble_eq_true rfl) (Nat.le_of_ble_eq_true rfl) ?_
  refine J_isN C 0 0 rfl (by decide) (by omega) (ws2 := ([cI K a9 (8) (fA (fun i => iN (hadN M i)) (1)), cI K a8 (M 18 2) (fA (fun i => iN (whN M i)) (M 18 2)), cI K a7 (M 18 3) (fA (fun i => iN (M 14 i)) (M 18 3)), cI K a6 (M 18 3) (fA (fun i => iN (M 13 i)) (M 18 3)), cI K a5 (M 18 3) (fA (fun i => iN (M 12 i)) (M 18 3)), cI K a4 (M 18 3) (fA (fun i => iN (M 11 i)) (M 18 3)), cI K a3 (M 18 3) (fA (fun i => iN (M 10 i)) (M 18 3))] ++ ro_W K A Y)) rfl (by rw [fA_upd] <;> rfl) dL_minutes_153 ?_
  refine J_dup C dL_minutes_154 rfl ?_
  refine J_iconst C (v := 1) dL_minutes_155 rfl ?_
  refine J_aload_n C 9 dL_minutes_156 rfl ?_
  refine J_bipush C (v := 11) dL_minutes_157 rfl ?_
  refine x_value C Yc (Nat.le_of_ble_eq_true rfl) (Nat.le_of_ble_eq_true rfl) [cI K a9 (8) (fA (fun i => iN (hadN M i)) (1)), cI K a8 (M 18 2) (fA (fun i => iN (whN M i)) (M 18 2)), cI K a7 (M 18 3) (fA (fun i => iN (M 14 i)) (M 18 3)), cI K a6 (M 18 3) (fA (fun i => iN (M 13 i)) (M 18 3)), cI K a5 (M 18 3) (fA (fun i => iN (M 12 i)) (M 18 3)), cI K a4 (M 18 3) (fA (fun i => iN (M 11 i)) (M 18 3)), cI K a3 (M 18 3) (fA (fun i => iN (M 10 i)) (M 18 3))] (w := (iN (hadN M 1))) hS.val11 dL_minutes_159 (Nat.le_of_ble_eq_true rfl) (Nat.le_of_ble_eq_true rfl) ?_
  refine J_isN C 0 1 rfl (by decide) (by omega) (ws2 := ([cI K a9 (8) (fA (fun i => iN (hadN M i)) (2)), cI K a8 (M 18 2) (fA (fun i => iN (whN M i)) (M 18 2)), cI K a7 (M 18 3) (fA (fun i => iN (M 14 i)) (M 18 3)), cI K a6 (M 18 3) (fA (fun i => iN (M 13 i)) (M 18 3)), cI K a5 (M 18 3) (fA (fun i => iN (M 12 i)) (M 18 3)), cI K a4 (M 18 3) (fA (fun i => iN (M 11 i)) (M 18 3)), cI K a3 (M 18 3) (fA (fun i => iN (M 10 i)) (M 18 3))] ++ ro_W K A Y)) rfl (by rw [fA_upd] <;> rfl) dL_minutes_162 ?_
  refine J_dup C dL_minutes_163 rfl ?_
  refine J_iconst C (v := 2) dL_minutes_164 rfl ?_
  refine J_aload_n C 9 dL_minutes_165 rfl ?_
  refine J_bipush C (v := 12) dL_minutes_166 rfl ?_
  refine x_value C Yc (Nat.le_of_ble_eq_true rfl) (Nat.le_of_ble_eq_true rfl) [cI K a9 (8) (fA (fun i => iN (hadN M i)) (2)), cI K a8 (M 18 2) (fA (fun i => iN (whN M i)) (M 18 2)), cI K a7 (M 18 3) (fA (fun i => iN (M 14 i)) (M 18 3)), cI K a6 (M 18 3) (fA (fun i => iN (M 13 i)) (M 18 3)), cI K a5 (M 18 3) (fA (fun i => iN (M 12 i)) (M 18 3)), cI K a4 (M 18 3) (fA (fun i => iN (M 11 i)) (M 18 3)), cI K a3 (M 18 3) (fA (fun i => iN (M 10 i)) (M 18 3))] (w := (iN (hadN M 2))) hS.val12 dL_minutes_168 (Nat.le_of_ble_eq_true rfl) (Nat.le_of_ble_eq_true rfl) ?_
  refine J_isN C 0 2 rfl (by decide) (by omega) (ws2 := ([cI K a9 (8) (fA (fun i => iN (hadN M i)) (3)), cI K a8 (M 18 2) (fA (fun i => iN (whN M i)) (M 18 2)), cI K a7 (M 18 3) (fA (fun i => iN (M 14 i)) (M 18 3)), cI K a6 (M 18 3) (fA (fun i => iN (M 13 i)) (M 18 3)), cI K a5 (M 18 3) (fA (fun i => iN (M 12 i)) (M 18 3)), cI K a4 (M 18 3) (fA (fun i => iN (M 11 i)) (M 18 3)), cI K a3 (M 18 3) (fA (fun i => iN (M 10 i)) (M 18 3))] ++ ro_W K A Y)) rfl (by rw [fA_upd] <;> rfl) dL_minutes_171 ?_
  refine J_dup C dL_minutes_172 rfl ?_
  refine J_iconst C (v := 3) dL_minutes_173 rfl ?_
  refine J_aload_n C 9 dL_minutes_174 rfl ?_
  refine J_bipush C (v := 18) dL_minutes_175 rfl ?_
  refine x_value C Yc (Nat.le_of_ble_eq_true rfl) (Nat.le_of_ble_eq_true rfl) [cI K a9 (8) (fA (fun i => iN (hadN M i)) (3)), cI K a8 (M 18 2) (fA (fun i => iN (whN M i)) (M 18 2)), cI K a7 (M 18 3) (fA (fun i => iN (M 14 i)) (M 18 3)), cI K a6 (M 18 3) (fA (fun i => iN (M 13 i)) (M 18 3)), cI K a5 (M 18 3) (fA (fun i => iN (M 12 i)) (M 18 3)), cI K a4 (M 18 3) (fA (fun i => iN (M 11 i)) (M 18 3)), cI K a3 (M 18 3) (fA (fun i => iN (M 10 i)) (M 18 3))] (w := (iN (hadN M 3))) hS.val18 dL_minutes_177 (Nat.le_of_ble_eq_true rfl) (Nat.le_of_ble_eq_true rfl) ?_
  refine J_isN C 0 3 rfl (by decide) (by omega) (ws2 := ([cI K a9 (8) (fA (fun i => iN (hadN M i)) (4)), cI K a8 (M 18 2) (fA (fun i => iN (whN M i)) (M 18 2)), cI K a7 (M 18 3) (fA (fun i => iN (M 14 i)) (M 18 3)), cI K a6 (M 18 3) (fA (fun i => iN (M 13 i)) (M 18 3)), cI K a5 (M 18 3) (fA (fun i => iN (M 12 i)) (M 18 3)), cI K a4 (M 18 3) (fA (fun i => iN (M 11 i)) (M 18 3)), cI K a3 (M 18 3) (fA (fun i => iN (M 10 i)) (M 18 3))] ++ ro_W K A Y)) rfl (by rw [fA_upd] <;> rfl) dL_minutes_180 ?_
  refine J_dup C dL_minutes_181 rfl ?_
  refine J_iconst C (v := 4) dL_minutes_182 rfl ?_
  refine J_aload_n C 9 dL_minutes_183 rfl ?_
  refine J_bipush C (v := 14) dL_minutes_184 rfl ?_
  refine x_value C Yc (Nat.le_of_ble_eq_true rfl) (Nat.le_of_ble_eq_true rfl) [cI K a9 (8) (fA (fun i => iN (hadN M i)) (4)), cI K a8 (M 18 2) (fA (fun i => iN (whN M i)) (M 18 2)), cI K a7 (M 18 3) (fA (fun i => iN (M 14 i)) (M 18 3)), cI K a6 (M 18 3) (fA (fun i => iN (M 13 i)) (M 18 3)), cI K a5 (M 18 3) (fA (fun i => iN (M 12 i)) (M 18 3)), cI K a4 (M 18 3) (fA (fun i => iN (M 11 i)) (M 18 3)), cI K a3 (M 18 3) (fA (fun i => iN (M 10 i)) (M 18 3))] (w := (iN (hadN M 4))) hS.val14 dL_minutes_186 (Nat.le_of_ble_eq_true rfl) (Nat.le_of_ble_eq_true rfl) ?_
  refine J_isN C 0 4 rfl (by decide) (by omega) (ws2 := ([cI K a9 (8) (fA (fun i => iN (hadN M i)) (5)), cI K a8 (M 18 2) (fA (fun i => iN (whN M i)) (M 18 2)), cI K a7 (M 18 3) (fA (fun i => iN (M 14 i)) (M 18 3)), cI K a6 (M 18 3) (fA (fun i => iN (M 13 i)) (M 18 3)), cI K a5 (M 18 3) (fA (fun i => iN (M 12 i)) (M 18 3)), cI K a4 (M 18 3) (fA (fun i => iN (M 11 i)) (M 18 3)), cI K a3 (M 18 3) (fA (fun i => iN (M 10 i)) (M 18 3))] ++ ro_W K A Y)) rfl (by rw [fA_upd] <;> rfl) dL_minutes_189 ?_
  refine J_dup C dL_minutes_190 rfl ?_
  refine J_iconst C (v := 5) dL_minutes_191 rfl ?_
  refine J_aload_n C 9 dL_minutes_192 rfl ?_
  refine J_bipush C (v := 15) dL_minutes_193 rfl ?_
  refine x_value C Yc (Nat.le_of_ble_eq_true rfl) (Nat.le_of_ble_eq_true rfl) [cI K a9 (8) (fA (fun i => iN (hadN M i)) (5)), cI K a8 (M 18 2) (fA (fun i => iN (whN M i)) (M 18 2)), cI K a7 (M 18 3) (fA (fun i => iN (M 14 i)) (M 18 3)), cI K a6 (M 18 3) (fA (fun i => iN (M 13 i)) (M 18 3)), cI K a5 (M 18 3) (fA (fun i => iN (M 12 i)) (M 18 3)), cI K a4 (M 18 3) (fA (fun i => iN (M 11 i)) (M 18 3)), cI K a3 (M 18 3) (fA (fun i => iN (M 10 i)) (M 18 3))] (w := (iN (hadN M 5))) hS.val15 dL_minutes_195 (Nat.le_of_ble_eq_true rfl) (Nat.le_of_ble_eq_true rfl) ?_
  refine J_isN C 0 5 rfl (by decide) (by omega) (ws2 := ([cI K a9 (8) (fA (fun i => iN (hadN M i)) (6)), cI K a8 (M 18 2) (fA (fun i => iN (whN M i)) (M 18 2)), cI K a7 (M 18 3) (fA (fun i => iN (M 14 i)) (M 18 3)), cI K a6 (M 18 3) (fA (fun i => iN (M 13 i)) (M 18 3)), cI K a5 (M 18 3) (fA (fun i => iN (M 12 i)) (M 18 3)), cI K a4 (M 18 3) (fA (fun i => iN (M 11 i)) (M 18 3)), cI K a3 (M 18 3) (fA (fun i => iN (M 10 i)) (M 18 3))] ++ ro_W K A Y)) rfl (by rw [fA_upd] <;> rfl) dL_minutes_198 ?_
  refine J_dup C dL_minutes_199 rfl ?_
  refine J_bipush C (v := 6) dL_minutes_200 rfl ?_
  refine J_aload_n C 9 dL_minutes_202 rfl ?_
  refine J_bipush C (v := 17) dL_minutes_203 rfl ?_
  refine x_value C Yc (Nat.le_of_ble_eq_true rfl) (Nat.le_of_ble_eq_true rfl) [cI K a9 (8) (fA (fun i => iN (hadN M i)) (6)), cI K a8 (M 18 2) (fA (fun i => iN (whN M i)) (M 18 2)), cI K a7 (M 18 3) (fA (fun i => iN (M 14 i)) (M 18 3)), cI K a6 (M 18 3) (fA (fun i => iN (M 13 i)) (M 18 3)), cI K a5 (M 18 3) (fA (fun i => iN (M 12 i)) (M 18 3)), cI K a4 (M 18 3) (fA (fun i => iN (M 11 i)) (M 18 3)), cI K a3 (M 18 3) (fA (fun i => iN (M 10 i)) (M 18 3))] (w := (iN (hadN M 6))) hS.val17 dL_minutes_205 (Nat.le_of_ble_eq_true rfl) (Nat.le_of_ble_eq_true rfl) ?_
  refine J_isN C 0 6 rfl (by decide) (by omega) (ws2 := ([cI K a9 (8) (fA (fun i => iN (hadN M i)) (7)), cI K a8 (M 18 2) (fA (fun i => iN (whN M i)) (M 18 2)), cI K a7 (M 18 3) (fA (fun i => iN (M 14 i)) (M 18 3)), cI K a6 (M 18 3) (fA (fun i => iN (M 13 i)) (M 18 3)), cI K a5 (M 18 3) (fA (fun i => iN (M 12 i)) (M 18 3)), cI K a4 (M 18 3) (fA (fun i => iN (M 11 i)) (M 18 3)), cI K a3 (M 18 3) (fA (fun i => iN (M 10 i)) (M 18 3))] ++ ro_W K A Y)) rfl (by rw [fA_upd] <;> rfl) dL_minutes_208 ?_
  refine J_dup C dL_minutes_209 rfl ?_
  refine J_bipush C (v := 7) dL_minutes_210 rfl ?_
  refine J_aload_n C 9 dL_minutes_212 rfl ?_
  refine J_bipush C (v := 7) dL_minutes_213 rfl ?_
  refine x_value C Yc (Nat.le_of_ble_eq_true rfl) (Nat.le_of_ble_eq_true rfl) [cI K a9 (8) (fA (fun i => iN (hadN M i)) (7)), cI K a8 (M 18 2) (fA (fun i => iN (whN M i)) (M 18 2)), cI K a7 (M 18 3) (fA (fun i => iN (M 14 i)) (M 18 3)), cI K a6 (M 18 3) (fA (fun i => iN (M 13 i)) (M 18 3)), cI K a5 (M 18 3) (fA (fun i => iN (M 12 i)) (M 18 3)), cI K a4 (M 18 3) (fA (fun i => iN (M 11 i)) (M 18 3)), cI K a3 (M 18 3) (fA (fun i => iN (M 10 i)) (M 18 3))] (w := (iN (hadN M 7))) hS.val7 dL_minutes_215 (Nat.le_of_ble_eq_true rfl) (Nat.le_of_ble_eq_true rfl) ?_
  refine J_isN C 0 7 rfl (by decide) (by omega) (ws2 := ([cI K a9 (8) (fA (fun i => iN (hadN M i)) (8)), cI K a8 (M 18 2) (fA (fun i => iN (whN M i)) (M 18 2)), cI K a7 (M 18 3) (fA (fun i => iN (M 14 i)) (M 18 3)), cI K a6 (M 18 3) (fA (fun i => iN (M 13 i)) (M 18 3)), cI K a5 (M 18 3) (fA (fun i => iN (M 12 i)) (M 18 3)), cI K a4 (M 18 3) (fA (fun i => iN (M 11 i)) (M 18 3)), cI K a3 (M 18 3) (fA (fun i => iN (M 10 i)) (M 18 3))] ++ ro_W K A Y)) rfl (by rw [fA_upd] <;> rfl) dL_minutes_218 ?_
  refine J_astore C (lv' := [(9, .ref a9), (8, .ref a8), (7, .ref a7), (6, .ref a6), (5, .ref a5), (4, .ref a4), (3, .ref a3), (2, .int (iN (M 18 3))), (1, .int (iN (M 18 2))), (0, .ref (A 4 0))]) dL_minutes_219 (by decide) rfl ?_
  refine J_aload_n C 9 dL_minutes_221 rfl ?_
  refine J_iconst C (v := 0) dL_minutes_222 rfl ?_
  refine J_iconst C (v := 3) dL_minutes_223 rfl ?_
  refine x_ifPassed C Yc (Nat.le_of_ble_eq_true rfl) (Nat.le_of_ble_eq_true rfl) [cI K a9 (8) (fA (fun i => iN (hadN M i)) (8)), cI K a8 (M 18 2) (fA (fun i => iN (whN M i)) (M 18 2)), cI K a7 (M 18 3) (fA (fun i => iN (M 14 i)) (M 18 3)), cI K a6 (M 18 3) (fA (fun i => iN (M 13 i)) (M 18 3)), cI K a5 (M 18 3) (fA (fun i => iN (M 12 i)) (M 18 3)), cI K a4 (M 18 3) (fA (fun i => iN (M 11 i)) (M 18 3)), cI K a3 (M 18 3) (fA (fun i => iN (M 10 i)) (M 18 3))] (w := (iN (M 18 3))) hv1 dL_minutes_224 (Nat.le_of_ble_eq_true rfl) (Nat.le_of_ble_eq_true rfl) ?_
  refine J_iload_n C 7 dL_minutes_227 rfl ?_
  refine J_icmp_ne_y C 235 rfl dL_minutes_228 rfl ?_
  refine J_iconst C (v := 1) dL_minutes_231 rfl ?_
  refine J_goto C 236 dL_minutes_232 rfl ?_
  refine J_istore C (lv' := [(10, .int 1), (9, .ref a9), (8, .ref a8), (7, .ref a7), (6, .ref a6), (5, .ref a5), (4, .ref a4), (3, .ref a3), (2, .int (iN (M 18 3))), (1, .int (iN (M 18 2))), (0, .ref (A 4 0))]) dL_minutes_236 (by decide) rfl ?_
  refine J_bipush C (v := 6) dL_minutes_238 rfl ?_
  refine J_newI C Yc 6 dL_minutes_240 rfl (by decide) (Nat.le_of_ble_eq_true rfl) (Nat.le_of_ble_eq_true rfl) (fun a11 => ?_)
  refine J_astore C (lv' := [(11, .ref a11), (10, .int 1), (9, .ref a9), (8, .ref a8), (7, .ref a7), (6, .ref a6), (5, .ref a5), (4, .ref a4), (3, .ref a3), (2, .int (iN (M 18 3))), (1, .int (iN (M 18 2))), (0, .ref (A 4 0))]) dL_minutes_242 (by decide) rfl ?_
  refine J_iconst C (v := 0) dL_minutes_244 rfl ?_
  refine J_istore C (lv' := [(12, .int 0), (11, .ref a11), (10, .int 1), (9, .ref a9), (8, .ref a8), (7, .ref a7), (6, .ref a6), (5, .ref a5), (4, .ref a4), (3, .ref a3), (2, .int (iN (M 18 3))), (1, .int (iN (M 18 2))), (0, .ref (A 4 0))]) dL_minutes_245 (by decide) rfl ?_
  refine J_weq (ws' := ([cI K a11 (6) (fA (fun i => toN5 M M 1 i) (0)), cI K a9 (8) (fA (fun i => iN (hadN M i)) (8)), cI K a8 (M 18 2) (fA (fun i => iN (whN M i)) (M 18 2)), cI K a7 (M 18 3) (fA (fun i => iN (M 14 i)) (M 18 3)), cI K a6 (M 18 3) (fA (fun i => iN (M 13 i)) (M 18 3)), cI K a5 (M 18 3) (fA (fun i => iN (M 12 i)) (M 18 3)), cI K a4 (M 18 3) (fA (fun i => iN (M 11 i)) (M 18 3)), cI K a3 (M 18 3) (fA (fun i => iN (M 10 i)) (M 18 3))] ++ ro_W K A Y1)) (by simp only [fA_0] <;> rfl) ?_
  refine J_sub [0, 1, 2, 3, 4, 5, 6, 7, 8, 9, 10, 11, 12] (lv' := [(12, .int 0), (11, .ref a11), (10, .int 1), (9, .ref a9), (8, .ref a8), (7, .ref a7), (6, .ref a6), (5, .ref a5), (4, .ref a4), (3, .ref a3), (2, .int (iN (M 18 3))), (1, .int (iN (M 18 2))), (0, .ref (A 4 0))]) rfl ?_
  refine mm_told C Yc hS hB (fun Y2 hsc2 => ?_) 6 0 Y1 (by decide) hsc1
  have hS2 := SC.st hS hsc2
  obtain ⟨Y3, hv3, hsc3⟩ := hS2.ifRule (by omega) (a := 0) (v := M 0 0) (m := 1) (w := 0) ⟨Or.inl ⟨rfl, r2⟩, r1⟩ (by decide) (by decide)
  rw [nP_self] at hv3
  have hS3 := SC.st hS2 hsc3
  obtain ⟨P, hvP, hP0, hP, hU⟩ := hS3.minute hB (m := 1) (by decide) (by decide)
  have e30 : Y3 0 = Y 0 := (hsc2.tr hsc3) 0 (by decide)
  rw [e30] at hU
  have hMS : MS M (miI M 1) := mi_MS hS.2.1
  have hle := hMS.2.2.2.2.2.2.2.1
  have ht0 := hMS.2.2.1
  have hT0 := hS.2.1.2.2.2.1.1
  refine J_iload C 2 dL_minutes_272 rfl ?_
  refine J_if_eq_n C 326 (by decide) dL_minutes_274 rfl ?_
  refine J_aload_n C 12 dL_minutes_277 rfl ?_
  refine J_iconst C (v := 0) dL_minutes_278 rfl ?_
  refine J_aload_n C 12 dL_minutes_279 rfl ?_
  refine J_iconst C (v := 0) dL_minutes_280 rfl ?_
  refine x_value C Yc (Nat.le_of_ble_eq_true rfl) (Nat.le_of_ble_eq_true rfl) [cI K a11 (6) (fA (fun i => toN5 M M 1 i) (6)), cI K a9 (8) (fA (fun i => iN (hadN M i)) (8)), cI K a8 (M 18 2) (fA (fun i => iN (whN M i)) (M 18 2)), cI K a7 (M 18 3) (fA (fun i => iN (M 14 i)) (M 18 3)), cI K a6 (M 18 3) (fA (fun i => iN (M 13 i)) (M 18 3)), cI K a5 (M 18 3) (fA (fun i => iN (M 12 i)) (M 18 3)), cI K a4 (M 18 3) (fA (fun i => iN (M 11 i)) (M 18 3)), cI K a3 (M 18 3) (fA (fun i => iN (M 10 i)) (M 18 3))] (w := (iN (M 0 0))) hS2.val0 dL_minutes_281 (Nat.le_of_ble_eq_true rfl) (Nat.le_of_ble_eq_true rfl) ?_
  refine J_iconst C (v := 1) dL_minutes_284 rfl ?_
  refine J_iconst C (v := 0) dL_minutes_285 rfl ?_
  refine x_ifRule C Yc (Nat.le_of_ble_eq_true rfl) (Nat.le_of_ble_eq_true rfl) [cI K a11 (6) (fA (fun i => toN5 M M 1 i) (6)), cI K a9 (8) (fA (fun i => iN (hadN M i)) (8)), cI K a8 (M 18 2) (fA (fun i => iN (whN M i)) (M 18 2)), cI K a7 (M 18 3) (fA (fun i => iN (M 14 i)) (M 18 3)), cI K a6 (M 18 3) (fA (fun i => iN (M 13 i)) (M 18 3)), cI K a5 (M 18 3) (fA (fun i => iN (M 12 i)) (M 18 3)), cI K a4 (M 18 3) (fA (fun i => iN (M 11 i)) (M 18 3)), cI K a3 (M 18 3) (fA (fun i => iN (M 10 i)) (M 18 3))] (w := (toN5 M M 1 0)) hv3 dL_minutes_286 (Nat.le_of_ble_eq_true rfl) (Nat.le_of_ble_eq_true rfl) ?_
  refine J_aload C 1 dL_minutes_289 rfl ?_
  refine J_iconst C (v := 0) dL_minutes_291 rfl ?_
  refine J_iaN C 0 0 rfl (by decide) (by omega) rfl dL_minutes_292 ?_
  refine J_eqi (b := (toN5 M M 1 0)) (fA_get (by decide)) ?_
  refine J_icmp_ne_y C 326 rfl dL_minutes_293 rfl ?_
  refine J_aload_n C 12 dL_minutes_296 rfl ?_
  refine J_iconst C (v := 1) dL_minutes_297 rfl ?_
  refine x_minute C Yc (Nat.le_of_ble_eq_true rfl) (Nat.le_of_ble_eq_true rfl) [cI K a11 (6) (fA (fun i => toN5 M M 1 i) (6)), cI K a9 (8) (fA (fun i => iN (hadN M i)) (8)), cI K a8 (M 18 2) (fA (fun i => iN (whN M i)) (M 18 2)), cI K a7 (M 18 3) (fA (fun i => iN (M 14 i)) (M 18 3)), cI K a6 (M 18 3) (fA (fun i => iN (M 13 i)) (M 18 3)), cI K a5 (M 18 3) (fA (fun i => iN (M 12 i)) (M 18 3)), cI K a4 (M 18 3) (fA (fun i => iN (M 11 i)) (M 18 3)), cI K a3 (M 18 3) (fA (fun i => iN (M 10 i)) (M 18 3))] (w := (iN (miI M 1 1 1 - M 1 1))) hvP dL_minutes_298 (Nat.le_of_ble_eq_true rfl) (Nat.le_of_ble_eq_true rfl) ?_
  refine J_aload C 1 dL_minutes_301 rfl ?_
  refine J_iconst C (v := 0) dL_minutes_303 rfl ?_
  refine J_iaN C 0 0 rfl (by decide) (by omega) rfl dL_minutes_304 ?_
  refine J_eqi (b := (toN5 M M 1 0)) (fA_get (by decide)) ?_
  refine J_icmp_ne_y C 326 (iN_sub hle).symm dL_minutes_305 rfl ?_
  refine J_aload_n C 12 dL_minutes_308 rfl ?_
  refine J_iconst C (v := 3) dL_minutes_309 rfl ?_
  refine x_value C Yc (Nat.le_of_ble_eq_true rfl) (Nat.le_of_ble_eq_true rfl) [cI K a11 (6) (fA (fun i => toN5 M M 1 i) (6)), cI K a9 (8) (fA (fun i => iN (hadN M i)) (8)), cI K a8 (M 18 2) (fA (fun i => iN (whN M i)) (M 18 2)), cI K a7 (M 18 3) (fA (fun i => iN (M 14 i)) (M 18 3)), cI K a6 (M 18 3) (fA (fun i => iN (M 13 i)) (M 18 3)), cI K a5 (M 18 3) (fA (fun i => iN (M 12 i)) (M 18 3)), cI K a4 (M 18 3) (fA (fun i => iN (M 11 i)) (M 18 3)), cI K a3 (M 18 3) (fA (fun i => iN (M 10 i)) (M 18 3))] (w := (iN (M 18 0 + 1))) (hP.val3.trans (by rw [ht0])) dL_minutes_310 (Nat.le_of_ble_eq_true rfl) (Nat.le_of_ble_eq_true rfl) ?_
  refine J_aload C 3 dL_minutes_313 rfl ?_
  refine J_iconst C (v := 0) dL_minutes_315 rfl ?_
  refine J_iaN C 1 0 rfl (by decide) (by omega) rfl dL_minutes_316 ?_
  refine J_eqi (b := (iN (M 18 0))) (fA_get (by decide)) ?_
  refine J_iconst C (v := 1) dL_minutes_317 rfl ?_
  refine J_iadd C dL_minutes_318 ?_
  refine J_eqi (b := (iN (M 18 0 + 1))) (iN_s _) ?_
  refine J_icmp_ne_y C 326 rfl dL_minutes_319 rfl ?_
  refine J_iconst C (v := 1) dL_minutes_322 rfl ?_
  refine J_goto C 327 dL_minutes_323 rfl ?_
  refine J_istore C (lv' := [(10, .int 1), (12, .int (iN (6))), (11, .ref a11), (9, .ref a9), (8, .ref a8), (7, .ref a7), (6, .ref a6), (5, .ref a5), (4, .ref a4), (3, .ref a3), (2, .int (iN (M 18 3))), (1, .int (iN (M 18 2))), (0, .ref (A 4 0))]) dL_minutes_327 (by decide) rfl ?_
  refine J_aload C 3 dL_minutes_329 rfl ?_
  refine J_iconst C (v := 0) dL_minutes_331 rfl ?_
  refine J_iaN C 1 0 rfl (by decide) (by omega) rfl dL_minutes_332 ?_
  refine J_eqi (b := (iN (M 18 0))) (fA_get (by decide)) ?_
  refine J_iconst C (v := 1) dL_minutes_333 rfl ?_
  refine J_iadd C dL_minutes_334 ?_
  refine J_eqi (b := (iN (M 18 0 + 1))) (iN_s _) ?_
  refine J_bipush C (v := 60) dL_minutes_335 rfl ?_
  refine J_irem C dL_minutes_337 (by decide) ?_
  refine J_eqi (b := (iN ((M 18 0 + 1) % 60))) (iN_rem (b := 60) (by omega) (by decide)) ?_
  have k346 : J l K Γ (Jz K Γ (fun u : {Z : RS // Z 0 = Y 0 ∧ St B Z M} => (some (.int 1), ro_W K A u.1)) 8 39) 8 39 ([cI K a11 (6) (fA (fun i => toN5 M M 1 i) (6)), cI K a9 (8) (fA (fun i => iN (hadN M i)) (8)), cI K a8 (M 18 2) (fA (fun i => iN (whN M i)) (M 18 2)), cI K a7 (M 18 3) (fA (fun i => iN (M 14 i)) (M 18 3)), cI K a6 (M 18 3) (fA (fun i => iN (M 13 i)) (M 18 3)), cI K a5 (M 18 3) (fA (fun i => iN (M 12 i)) (M 18 3)), cI K a4 (M 18 3) (fA (fun i => iN (M 11 i)) (M 18 3)), cI K a3 (M 18 3) (fA (fun i => iN (M 10 i)) (M 18 3))] ++ ro_W K A P) 346 17 [(10, .int 1), (12, .int (iN (6))), (11, .ref a11), (9, .ref a9), (8, .ref a8), (7, .ref a7), (6, .ref a6), (5, .ref a5), (4, .ref a4), (3, .ref a3), (2, .int (iN (M 18 3))), (1, .int (iN (M 18 2))), (0, .ref (A 4 0))] [.int (dayN M)] := by
    refine J_istore C (lv' := [(12, .int (dayN M)), (10, .int 1), (11, .ref a11), (9, .ref a9), (8, .ref a8), (7, .ref a7), (6, .ref a6), (5, .ref a5), (4, .ref a4), (3, .ref a3), (2, .int (iN (M 18 3))), (1, .int (iN (M 18 2))), (0, .ref (A 4 0))]) dL_minutes_346 (by decide) rfl ?_
    refine J_iconst C (v := 0) dL_minutes_348 rfl ?_
    refine J_istore C (lv' := [(13, .int 0), (12, .int (dayN M)), (10, .int 1), (11, .ref a11), (9, .ref a9), (8, .ref a8), (7, .ref a7), (6, .ref a6), (5, .ref a5), (4, .ref a4), (3, .ref a3), (2, .int (iN (M 18 3))), (1, .int (iN (M 18 2))), (0, .ref (A 4 0))]) dL_minutes_349 (by decide) rfl ?_
    refine J_iconst C (v := 0) dL_minutes_351 rfl ?_
    refine J_istore C (lv' := [(14, .int 0), (13, .int 0), (12, .int (dayN M)), (10, .int 1), (11, .ref a11), (9, .ref a9), (8, .ref a8), (7, .ref a7), (6, .ref a6), (5, .ref a5), (4, .ref a4), (3, .ref a3), (2, .int (iN (M 18 3))), (1, .int (iN (M 18 2))), (0, .ref (A 4 0))]) dL_minutes_352 (by decide) rfl ?_
    refine J_sub [0, 1, 2, 4, 3, 5, 6, 7, 8, 9, 10, 11, 12, 13, 14] (lv' := [(14, .int 0), (13, .int 0), (12, .int (dayN M)), (11, .ref a11), (10, .int 1), (9, .ref a9), (8, .ref a8), (7, .ref a7), (6, .ref a6), (5, .ref a5), (4, .ref a4), (3, .ref a3), (2, .int (iN (M 18 3))), (1, .int (iN (M 18 2))), (0, .ref (A 4 0))]) rfl ?_
    exact mm_tok C Yc hS hB hP hMS (mm_end C Yc hS hB hP hMS rfl hU) (M 18 3) 0 (by omega)
  by_cases hday : (M 18 0 + 1) % 60 = 0
  · have hz : dayN M = 1 := if_pos hday
    rw [hz] at k346
    refine J_if_ne_y C 345 ((iN_0 (by omega)).mpr hday) dL_minutes_338 rfl ?_
    refine J_iconst C (v := 1) dL_minutes_341 rfl ?_
    refine J_goto C 346 dL_minutes_342 rfl ?_
    exact k346
  · have hz : dayN M = 0 := if_neg hday
    rw [hz] at k346
    refine J_if_ne_n C 345 (fun z => hday ((iN_0 (by omega)).mp z)) dL_minutes_338 rfl ?_
    refine J_iconst C (v := 0) dL_minutes_345 rfl ?_
    exact k346
