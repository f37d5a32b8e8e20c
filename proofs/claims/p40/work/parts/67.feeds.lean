-- PART 67: the law's method feeds
def clp (k i : Nat) : Nat := if 4 * i + 4 ≤ k then 4 else k - 4 * i
theorem getD_d {T : List Nat} {i a b : Nat} (h : i < T.length) : T.getD i a = T.getD i b := by
  rw [List.getD_eq_getElem?_getD, List.getD_eq_getElem?_getD, List.getElem?_eq_getElem h]
  rfl
theorem getD_o {T : List Nat} {i a : Nat} (h : T.length ≤ i) : T.getD i a = a := by
  rw [List.getD_eq_getElem?_getD, List.getElem?_eq_none h]
  rfl
theorem kd_L_feeds : Cd yL_feeds cL_feeds 6 (some .boolean) 2 := ⟨uc_L_feeds, un_L, ⟨by decide, by decide, by decide⟩⟩
theorem c_L_feeds (l : Launch) (K : gK) (A : Nat → Nat → Nat) (s : Nat) {T : List Nat} (u : StT T) (hT : T.length ≤ 1180) (hb : ∀ i, i < T.length → T.getD i 0 < 128) {Y : RS} (hY : Y 2 1 0 = iN 0) : Cr l K yL_feeds cL_feeds 6 (some .boolean) 5 60 300 [.ref (A 4 0), .ref s] (stW K s T u.1 ++ ro_W K A Y) (fun z : {Z : RS // (∀ k, k ≠ 2 → Z k = Y k) ∧ TPE T (Z 2)} => ((some (.int 1), stW K s T u.1 ++ ro_W K A z.1) : gR)) := by
  refine Cr.of (own := RL) (by decide) rfl (Nat.le_of_ble_eq_true rfl) (fun Γ C Yc _ => ?_)
  have hF : ∀ p, T.getD p 32 < 128 := by
    intro p
    by_cases h : p < T.length
    · rw [getD_d (b := 0) h]
      exact hb p h
    · rw [getD_o (by omega)]
      decide
  have k4 : ∀ d j (Z : RS), T.length ≤ 20 * j + 20 * d → 20 * j < T.length + 20 → (∀ k, k ≠ 2 → Z k = Y k) → TPF (fun p => T.getD p 32) (20 * j) (Z 2) → J l K Γ (Jz K Γ (fun z : {Z : RS // (∀ k, k ≠ 2 → Z k = Y k) ∧ TPE T (Z 2)} => ((some (.int 1), stW K s T u.1 ++ ro_W K A z.1) : gR)) 60 300) j (5 * j) ([(s, .inr (10, [.ref u.1.1, .int 0, .int 0, .int 0])), cB K u.1.1 T.length u.1.2] ++ ro_W K A Z) 4 6 [(0, .ref (A 4 0)), (1, .ref s), (2, .int 1), (3, .int (iN (20 * j)))] [] := by
    intro d
    induction d with
    | zero =>
      intro j Z h1 h2 hk2 hZ
      refine J_iload_n C 3 dL_feeds_4 rfl ?_
      refine J_aload_n C 1 dL_feeds_5 rfl ?_
      refine J_crV (as := []) (T := TJ0) (N := 4) C Yc 0 10 kj_J0_length_8abf5 ui_J0_length_8abf5 us_J0_length_8abf5 um_L_7 rfl rfl (Cr.mid [] (ro_W K A Z) (cj_mlen l K s u)) dL_feeds_6 rfl rfl ⟨(Nat.le_of_ble_eq_true rfl), (Nat.le_of_ble_eq_true rfl)⟩ (Nat.le_of_ble_eq_true rfl) (by omega) (by omega) (fun _ => ?_)
      refine J_weq (ws' := ([(s, .inr (10, [.ref u.1.1, .int 0, .int 0, .int 0])), cB K u.1.1 T.length u.1.2] ++ ro_W K A Z)) rfl ?_
      refine J_icmp_ge_n C 123 (iN_nlt' (by omega) (by omega)) dL_feeds_9 rfl ?_
      refine J_iload_n C 2 dL_feeds_123 rfl ?_
      refine J_if_eq_n C 148 (by decide) dL_feeds_124 rfl ?_
      refine J_aload_n C 0 dL_feeds_127 rfl ?_
      refine J_iload_n C 3 dL_feeds_128 rfl ?_
      refine J_aload_n C 1 dL_feeds_129 rfl ?_
      refine J_crV (as := []) (T := TJ0) (N := 4) C Yc 0 10 kj_J0_length_8abf5 ui_J0_length_8abf5 us_J0_length_8abf5 um_L_7 rfl rfl (Cr.mid [] (ro_W K A Z) (cj_mlen l K s u)) dL_feeds_130 rfl rfl ⟨(Nat.le_of_ble_eq_true rfl), (Nat.le_of_ble_eq_true rfl)⟩ (Nat.le_of_ble_eq_true rfl) (by omega) (by omega) (fun _ => ?_)
      refine J_weq (ws' := ([(s, .inr (10, [.ref u.1.1, .int 0, .int 0, .int 0])), cB K u.1.1 T.length u.1.2] ++ ro_W K A Z)) rfl ?_
      refine J_isub C dL_feeds_133 ?_
      refine J_eqi (b := (iN (20 * j - T.length))) (iN_sub (by omega)) ?_
      refine x_truncate C Yc (by omega) (by omega) [(s, .inr (10, [.ref u.1.1, .int 0, .int 0, .int 0])), cB K u.1.1 T.length u.1.2] (w := (iN (20 * j - (20 * j - T.length)))) (v_trunc hZ (by omega)) dL_feeds_134 (Nat.le_of_ble_eq_true rfl) (Nat.le_of_ble_eq_true rfl) ?_
      refine J_aload_n C 1 dL_feeds_137 rfl ?_
      refine J_crV (as := []) (T := TJ0) (N := 4) C Yc 0 10 kj_J0_length_8abf5 ui_J0_length_8abf5 us_J0_length_8abf5 um_L_7 rfl rfl (Cr.mid [] (ro_W K A (yL Z 2 (iN (20 * j - (20 * j - T.length))))) (cj_mlen l K s u)) dL_feeds_138 rfl rfl ⟨(Nat.le_of_ble_eq_true rfl), (Nat.le_of_ble_eq_true rfl)⟩ (Nat.le_of_ble_eq_true rfl) (by omega) (by omega) (fun _ => ?_)
      refine J_weq (ws' := ([(s, .inr (10, [.ref u.1.1, .int 0, .int 0, .int 0])), cB K u.1.1 T.length u.1.2] ++ ro_W K A (yL Z 2 (iN (20 * j - (20 * j - T.length)))))) rfl ?_
      refine J_icmp_ne_y C 148 (show iN (20 * j - (20 * j - T.length)) = iN T.length by rw [show 20 * j - (20 * j - T.length) = T.length by omega]) dL_feeds_141 rfl ?_
      refine J_iconst C (v := 1) dL_feeds_144 rfl ?_
      refine J_goto C 149 dL_feeds_145 rfl ?_
      refine J_rnret rfl C ⟨yL Z 2 (iN (20 * j - (20 * j - T.length))), fun k hk => ?_, ?_⟩ dL_feeds_149 (by omega) (by omega) rfl
      · unfold yL
        rw [yU_ne hk, hk2 k hk]
      · refine hZ.text (by omega) (fun k hk => getD_d hk) hZ.2.1 ?_ ?_
        · unfold yL
          rw [yU_eq, sU_eq, upd_eq, show 20 * j - (20 * j - T.length) = T.length by omega]
        · unfold yL
          rw [yU_eq, sU_ne (by decide)]
    | succ d ih =>
      intro j Z h1 h2 hk2 hZ
      by_cases hj : T.length ≤ 20 * j
      · refine J_iload_n C 3 dL_feeds_4 rfl ?_
        refine J_aload_n C 1 dL_feeds_5 rfl ?_
        refine J_crV (as := []) (T := TJ0) (N := 4) C Yc 0 10 kj_J0_length_8abf5 ui_J0_length_8abf5 us_J0_length_8abf5 um_L_7 rfl rfl (Cr.mid [] (ro_W K A Z) (cj_mlen l K s u)) dL_feeds_6 rfl rfl ⟨(Nat.le_of_ble_eq_true rfl), (Nat.le_of_ble_eq_true rfl)⟩ (Nat.le_of_ble_eq_true rfl) (by omega) (by omega) (fun _ => ?_)
        refine J_weq (ws' := ([(s, .inr (10, [.ref u.1.1, .int 0, .int 0, .int 0])), cB K u.1.1 T.length u.1.2] ++ ro_W K A Z)) rfl ?_
        refine J_icmp_ge_n C 123 (iN_nlt' (by omega) (by omega)) dL_feeds_9 rfl ?_
        refine J_iload_n C 2 dL_feeds_123 rfl ?_
        refine J_if_eq_n C 148 (by decide) dL_feeds_124 rfl ?_
        refine J_aload_n C 0 dL_feeds_127 rfl ?_
        refine J_iload_n C 3 dL_feeds_128 rfl ?_
        refine J_aload_n C 1 dL_feeds_129 rfl ?_
        refine J_crV (as := []) (T := TJ0) (N := 4) C Yc 0 10 kj_J0_length_8abf5 ui_J0_length_8abf5 us_J0_length_8abf5 um_L_7 rfl rfl (Cr.mid [] (ro_W K A Z) (cj_mlen l K s u)) dL_feeds_130 rfl rfl ⟨(Nat.le_of_ble_eq_true rfl), (Nat.le_of_ble_eq_true rfl)⟩ (Nat.le_of_ble_eq_true rfl) (by omega) (by omega) (fun _ => ?_)
        refine J_weq (ws' := ([(s, .inr (10, [.ref u.1.1, .int 0, .int 0, .int 0])), cB K u.1.1 T.length u.1.2] ++ ro_W K A Z)) rfl ?_
        refine J_isub C dL_feeds_133 ?_
        refine J_eqi (b := (iN (20 * j - T.length))) (iN_sub (by omega)) ?_
        refine x_truncate C Yc (by omega) (by omega) [(s, .inr (10, [.ref u.1.1, .int 0, .int 0, .int 0])), cB K u.1.1 T.length u.1.2] (w := (iN (20 * j - (20 * j - T.length)))) (v_trunc hZ (by omega)) dL_feeds_134 (Nat.le_of_ble_eq_true rfl) (Nat.le_of_ble_eq_true rfl) ?_
        refine J_aload_n C 1 dL_feeds_137 rfl ?_
        refine J_crV (as := []) (T := TJ0) (N := 4) C Yc 0 10 kj_J0_length_8abf5 ui_J0_length_8abf5 us_J0_length_8abf5 um_L_7 rfl rfl (Cr.mid [] (ro_W K A (yL Z 2 (iN (20 * j - (20 * j - T.length))))) (cj_mlen l K s u)) dL_feeds_138 rfl rfl ⟨(Nat.le_of_ble_eq_true rfl), (Nat.le_of_ble_eq_true rfl)⟩ (Nat.le_of_ble_eq_true rfl) (by omega) (by omega) (fun _ => ?_)
        refine J_weq (ws' := ([(s, .inr (10, [.ref u.1.1, .int 0, .int 0, .int 0])), cB K u.1.1 T.length u.1.2] ++ ro_W K A (yL Z 2 (iN (20 * j - (20 * j - T.length)))))) rfl ?_
        refine J_icmp_ne_y C 148 (show iN (20 * j - (20 * j - T.length)) = iN T.length by rw [show 20 * j - (20 * j - T.length) = T.length by omega]) dL_feeds_141 rfl ?_
        refine J_iconst C (v := 1) dL_feeds_144 rfl ?_
        refine J_goto C 149 dL_feeds_145 rfl ?_
        refine J_rnret rfl C ⟨yL Z 2 (iN (20 * j - (20 * j - T.length))), fun k hk => ?_, ?_⟩ dL_feeds_149 (by omega) (by omega) rfl
        · unfold yL
          rw [yU_ne hk, hk2 k hk]
        · refine hZ.text (by omega) (fun k hk => getD_d hk) hZ.2.1 ?_ ?_
          · unfold yL
            rw [yU_eq, sU_eq, upd_eq, show 20 * j - (20 * j - T.length) = T.length by omega]
          · unfold yL
            rw [yU_eq, sU_ne (by decide)]
      · refine J_iload_n C 3 dL_feeds_4 rfl ?_
        refine J_aload_n C 1 dL_feeds_5 rfl ?_
        refine J_crV (as := []) (T := TJ0) (N := 4) C Yc 0 10 kj_J0_length_8abf5 ui_J0_length_8abf5 us_J0_length_8abf5 um_L_7 rfl rfl (Cr.mid [] (ro_W K A Z) (cj_mlen l K s u)) dL_feeds_6 rfl rfl ⟨(Nat.le_of_ble_eq_true rfl), (Nat.le_of_ble_eq_true rfl)⟩ (Nat.le_of_ble_eq_true rfl) (by omega) (by omega) (fun _ => ?_)
        refine J_weq (ws' := ([(s, .inr (10, [.ref u.1.1, .int 0, .int 0, .int 0])), cB K u.1.1 T.length u.1.2] ++ ro_W K A Z)) rfl ?_
        refine J_icmp_ge_y C 123 (iN_ylt' (by omega) (by omega)) dL_feeds_9 rfl ?_
        refine J_iconst C (v := 5) dL_feeds_12 rfl ?_
        refine J_newI C Yc 5 dL_feeds_13 rfl (by decide) (by omega) (by omega) (fun q => ?_)
        refine J_astore C (lv' := [(4, .ref q), (0, .ref (A 4 0)), (1, .ref s), (2, .int 1), (3, .int (iN (20 * j)))]) dL_feeds_15 (by decide) rfl ?_
        refine J_iconst C (v := 0) dL_feeds_17 rfl ?_
        refine J_istore C (lv' := [(5, .int 0), (4, .ref q), (0, .ref (A 4 0)), (1, .ref s), (2, .int 1), (3, .int (iN (20 * j)))]) dL_feeds_18 (by decide) rfl ?_
        refine J_sub [2, 3, 4, 5, 1, 0] (lv' := [(0, .ref (A 4 0)), (1, .ref s), (2, .int 1), (3, .int (iN (20 * j))), (4, .ref q), (5, .int 0)]) rfl ?_
        have k79 : ∀ g : Nat → Int32, (∀ i, i < 5 → g i = iN (wdN (fun p => T.getD p 32) (20 * j + 4 * i) 4)) → J l K Γ (Jz K Γ (fun z : {Z : RS // (∀ k, k ≠ 2 → Z k = Y k) ∧ TPE T (Z 2)} => ((some (.int 1), stW K s T u.1 ++ ro_W K A z.1) : gR)) 60 300) (j + 1) ((5 * j) + 5) ([cI K q 5 g, (s, .inr (10, [.ref u.1.1, .int 0, .int 0, .int 0])), cB K u.1.1 T.length u.1.2] ++ ro_W K A Z) 79 6 [(0, .ref (A 4 0)), (1, .ref s), (2, .int 1), (3, .int (iN (20 * j))), (4, .ref q), (5, .int (iN 20))] [] := by
          intro g hg
          obtain ⟨E, hE1, hE2⟩ := v_append hZ (by omega) (fun k _ => hF k)
          refine J_iinc C 3 (w := (iN (20 * (j + 1)))) (lv' := [(3, .int (iN (20 * (j + 1)))), (0, .ref (A 4 0)), (1, .ref s), (2, .int 1), (4, .ref q), (5, .int (iN 20))]) dL_feeds_79 rfl (show iN (20 * j) + iN 20 = iN (20 * (j + 1)) by rw [iN_add]; rfl) (by decide) rfl ?_
          refine J_iload_n C 3 dL_feeds_82 rfl ?_
          refine J_if_eq_n C 118 (by decide) dL_feeds_83 rfl ?_
          refine J_aload_n C 1 dL_feeds_86 rfl ?_
          refine J_aload C 4 dL_feeds_87 rfl ?_
          refine J_iconst C (v := 0) dL_feeds_89 rfl ?_
          refine J_iaN C 0 0 rfl (by decide) (by omega) rfl dL_feeds_90 ?_
          refine J_eqi (b := (iN (wdN (fun p => T.getD p 32) (20 * j + 4 * 0) 4))) (hg 0 (by decide)) ?_
          refine J_aload C 4 dL_feeds_91 rfl ?_
          refine J_iconst C (v := 1) dL_feeds_93 rfl ?_
          refine J_iaN C 0 1 rfl (by decide) (by omega) rfl dL_feeds_94 ?_
          refine J_eqi (b := (iN (wdN (fun p => T.getD p 32) (20 * j + 4 * 1) 4))) (hg 1 (by decide)) ?_
          refine J_aload C 4 dL_feeds_95 rfl ?_
          refine J_iconst C (v := 2) dL_feeds_97 rfl ?_
          refine J_iaN C 0 2 rfl (by decide) (by omega) rfl dL_feeds_98 ?_
          refine J_eqi (b := (iN (wdN (fun p => T.getD p 32) (20 * j + 4 * 2) 4))) (hg 2 (by decide)) ?_
          refine J_aload C 4 dL_feeds_99 rfl ?_
          refine J_iconst C (v := 3) dL_feeds_101 rfl ?_
          refine J_iaN C 0 3 rfl (by decide) (by omega) rfl dL_feeds_102 ?_
          refine J_eqi (b := (iN (wdN (fun p => T.getD p 32) (20 * j + 4 * 3) 4))) (hg 3 (by decide)) ?_
          refine J_aload C 4 dL_feeds_103 rfl ?_
          refine J_iconst C (v := 4) dL_feeds_105 rfl ?_
          refine J_iaN C 0 4 rfl (by decide) (by omega) rfl dL_feeds_106 ?_
          refine J_eqi (b := (iN (wdN (fun p => T.getD p 32) (20 * j + 4 * 4) 4))) (hg 4 (by decide)) ?_
          refine x_append C Yc (by omega) (by omega) [cI K q 5 g, (s, .inr (10, [.ref u.1.1, .int 0, .int 0, .int 0])), cB K u.1.1 T.length u.1.2] (w := (iN (20 * j + 20))) hE1 dL_feeds_107 (Nat.le_of_ble_eq_true rfl) (Nat.le_of_ble_eq_true rfl) ?_
          refine J_iload_n C 0 dL_feeds_110 rfl ?_
          refine J_icmp_ne_y C 118 rfl dL_feeds_111 rfl ?_
          refine J_iconst C (v := 1) dL_feeds_114 rfl ?_
          refine J_goto C 119 dL_feeds_115 rfl ?_
          refine J_istore_n C (lv' := [(2, .int 1), (3, .int (iN (20 * (j + 1)))), (0, .ref (A 4 0)), (1, .ref s), (4, .ref q), (5, .int (iN 20))]) dL_feeds_119 (by decide) rfl ?_
          refine J_goto C 4 dL_feeds_120 rfl ?_
          refine J_sub [2, 3, 0, 1] (lv' := [(0, .ref (A 4 0)), (1, .ref s), (2, .int 1), (3, .int (iN (20 * (j + 1))))]) rfl ?_
          refine J_drop (u := [cI K q 5 g]) ?_
          refine J_widen (k := j + 1) (n := 5 * (j + 1)) (Nat.le_refl _) (by omega) ?_
          exact ih (j + 1) (yU Z 2 E) (by omega) (by omega) (fun k hk => by rw [yU_ne hk, hk2 k hk]) (by rw [yU_eq]; exact hE2)
        have k20 : ∀ d k (g : Nat → Int32), k + d = 20 → (∀ i, i < 5 → g i = iN (wdN (fun p => T.getD p 32) (20 * j + 4 * i) (clp k i))) → J l K Γ (Jz K Γ (fun z : {Z : RS // (∀ k, k ≠ 2 → Z k = Y k) ∧ TPE T (Z 2)} => ((some (.int 1), stW K s T u.1 ++ ro_W K A z.1) : gR)) 60 300) (j + 1) ((5 * j) + 5) ([cI K q 5 g, (s, .inr (10, [.ref u.1.1, .int 0, .int 0, .int 0])), cB K u.1.1 T.length u.1.2] ++ ro_W K A Z) 20 6 [(0, .ref (A 4 0)), (1, .ref s), (2, .int 1), (3, .int (iN (20 * j))), (4, .ref q), (5, .int (iN k))] [] := by
          intro d
          induction d with
          | zero =>
            intro k g hk hg
            have hk : k = 20 := by omega
            subst hk
            refine J_iload C 5 dL_feeds_20 rfl ?_
            refine J_bipush C (v := 20) dL_feeds_22 rfl ?_
            refine J_icmp_ge_n C 79 (show ¬ iN 20 < 20 by decide) dL_feeds_24 rfl ?_
            exact k79 g (fun i hi => by
              rw [hg i hi]
              unfold clp
              rw [if_pos (by omega)])
          | succ d ih2 =>
            intro k g hk hg
            refine J_iload C 5 dL_feeds_20 rfl ?_
            refine J_bipush C (v := 20) dL_feeds_22 rfl ?_
            refine J_icmp_ge_y C 79 (iN_ylt' (b := 20) (by omega) (by decide)) dL_feeds_24 rfl ?_
            refine J_aload C 4 dL_feeds_27 rfl ?_
            refine J_iload C 5 dL_feeds_29 rfl ?_
            refine J_iconst C (v := 4) dL_feeds_31 rfl ?_
            refine J_idiv C dL_feeds_32 (by decide) ?_
            refine J_eqi (b := (iN (k / 4))) (iN_div (b := 4) (by omega) (by decide)) ?_
            refine J_aload C 4 dL_feeds_33 rfl ?_
            refine J_iload C 5 dL_feeds_35 rfl ?_
            refine J_iconst C (v := 4) dL_feeds_37 rfl ?_
            refine J_idiv C dL_feeds_38 (by decide) ?_
            refine J_eqi (b := (iN (k / 4))) (iN_div (b := 4) (by omega) (by decide)) ?_
            refine J_iaN C 0 (k / 4) rfl (by omega) (by omega) rfl dL_feeds_39 ?_
            refine J_eqi (b := (iN (wdN (fun p => T.getD p 32) (20 * j + 4 * (k / 4)) (k % 4)))) (by rw [hg (k / 4) (by omega)]; unfold clp; rw [if_neg (by omega), show k - 4 * (k / 4) = k % 4 by omega]) ?_
            refine J_bipush C (v := 8) dL_feeds_40 rfl ?_
            refine J_ishl C dL_feeds_42 ?_
            refine J_iload_n C 3 dL_feeds_43 rfl ?_
            refine J_iload C 5 dL_feeds_44 rfl ?_
            refine J_iadd C dL_feeds_46 ?_
            refine J_eqi (b := (iN (20 * j + k))) (iN_add _ _) ?_
            refine J_aload_n C 1 dL_feeds_47 rfl ?_
            refine J_crV (as := []) (T := TJ0) (N := 4) C Yc 1 10 kj_J0_length_8abf5 ui_J0_length_8abf5 us_J0_length_8abf5 um_L_7 rfl rfl (Cr.mid [cI K q 5 g] (ro_W K A Z) (cj_mlen l K s u)) dL_feeds_48 rfl rfl ⟨(Nat.le_of_ble_eq_true rfl), (Nat.le_of_ble_eq_true rfl)⟩ (Nat.le_of_ble_eq_true rfl) (by omega) (by omega) (fun _ => ?_)
            refine J_weq (ws' := ([cI K q 5 g, (s, .inr (10, [.ref u.1.1, .int 0, .int 0, .int 0])), cB K u.1.1 T.length u.1.2] ++ ro_W K A Z)) rfl ?_
            by_cases hl : 20 * j + k < T.length
            · refine J_icmp_ge_y C 69 (iN_ylt' hl (by omega)) dL_feeds_51 rfl ?_
              refine J_aload_n C 1 dL_feeds_54 rfl ?_
              refine J_iload_n C 3 dL_feeds_55 rfl ?_
              refine J_iload C 5 dL_feeds_56 rfl ?_
              refine J_iadd C dL_feeds_58 ?_
              refine J_eqi (b := (iN (20 * j + k))) (iN_add _ _) ?_
              refine J_crV (as := [.int (iN (20 * j + k))]) (T := TJ0) (N := 4) C Yc 1 10 kj_J0_charAt_5068e ui_J0_charAt_5068e us_J0_charAt_5068e um_L_13 rfl rfl (Cr.mid [cI K q 5 g] (ro_W K A Z) (cj_mchr l K s u (i := 20 * j + k) hl (by omega) (hb _ hl))) dL_feeds_59 rfl rfl ⟨(Nat.le_of_ble_eq_true rfl), (Nat.le_of_ble_eq_true rfl)⟩ (Nat.le_of_ble_eq_true rfl) (by omega) (by omega) (fun _ => ?_)
              refine J_weq (ws' := ([cI K q 5 g, (s, .inr (10, [.ref u.1.1, .int 0, .int 0, .int 0])), cB K u.1.1 T.length u.1.2] ++ ro_W K A Z)) rfl ?_
              have hbl := hb _ hl
              refine J_sipush C (v := 255) dL_feeds_62 rfl ?_
              refine J_iand C dL_feeds_65 ?_
              refine J_eqi (b := (iN (T.getD (20 * j + k) 0))) (by_i _ hbl) ?_
              refine J_goto C 71 dL_feeds_66 rfl ?_
              refine J_ior C dL_feeds_71 ?_
              refine J_eqi (b := (iN ((wdN (fun p => T.getD p 32) (20 * j + 4 * (k / 4)) (k % 4)) * 256 + T.getD (20 * j + k) 0))) (iN_sh8 _ _ (by omega)) ?_
              refine J_isN C 0 (k / 4) rfl (by omega) (by omega) (ws2 := ([cI K q 5 (upd g (k / 4) (iN ((wdN (fun p => T.getD p 32) (20 * j + 4 * (k / 4)) (k % 4)) * 256 + T.getD (20 * j + k) 0))), (s, .inr (10, [.ref u.1.1, .int 0, .int 0, .int 0])), cB K u.1.1 T.length u.1.2] ++ ro_W K A Z)) rfl rfl dL_feeds_72 ?_
              refine J_iinc C 5 (w := (iN (k + 1))) (lv' := [(5, .int (iN (k + 1))), (0, .ref (A 4 0)), (1, .ref s), (2, .int 1), (3, .int (iN (20 * j))), (4, .ref q)]) dL_feeds_73 rfl (iN_add _ _) (by decide) rfl ?_
              refine J_goto C 20 dL_feeds_76 rfl ?_
              refine J_sub [1, 2, 3, 4, 5, 0] (lv' := [(0, .ref (A 4 0)), (1, .ref s), (2, .int 1), (3, .int (iN (20 * j))), (4, .ref q), (5, .int (iN (k + 1)))]) rfl ?_
              exact ih2 (k + 1) (upd g (k / 4) (iN ((wdN (fun p => T.getD p 32) (20 * j + 4 * (k / 4)) (k % 4)) * 256 + T.getD (20 * j + k) 0))) (by omega) (fun i hi => by
                rw [upd_get]
                by_cases e : i = k / 4
                · rw [if_pos e, e]
                  unfold clp
                  have e2 : (if 4 * (k / 4) + 4 ≤ k + 1 then 4 else k + 1 - 4 * (k / 4)) = k % 4 + 1 := by split <;> omega
                  rw [e2, wdN, show 20 * j + 4 * (k / 4) + k % 4 = 20 * j + k by omega]
                  show _ = iN ((wdN (fun p => T.getD p 32) (20 * j + 4 * (k / 4)) (k % 4)) * 256 + T.getD (20 * j + k) 32)
                  rw [getD_d (a := 32) (b := 0) hl]
                · rw [if_neg e, hg i hi]
                  have e2 : clp (k + 1) i = clp k i := by
                    unfold clp
                    split <;> split <;> omega
                  rw [e2])
            · refine J_icmp_ge_n C 69 (iN_nlt' (by omega) (by omega)) dL_feeds_51 rfl ?_
              refine J_bipush C (v := 32) dL_feeds_69 rfl ?_
              refine J_ior C dL_feeds_71 ?_
              refine J_eqi (b := (iN ((wdN (fun p => T.getD p 32) (20 * j + 4 * (k / 4)) (k % 4)) * 256 + 32))) (iN_sh8 _ _ (by decide)) ?_
              refine J_isN C 0 (k / 4) rfl (by omega) (by omega) (ws2 := ([cI K q 5 (upd g (k / 4) (iN ((wdN (fun p => T.getD p 32) (20 * j + 4 * (k / 4)) (k % 4)) * 256 + 32))), (s, .inr (10, [.ref u.1.1, .int 0, .int 0, .int 0])), cB K u.1.1 T.length u.1.2] ++ ro_W K A Z)) rfl rfl dL_feeds_72 ?_
              refine J_iinc C 5 (w := (iN (k + 1))) (lv' := [(5, .int (iN (k + 1))), (0, .ref (A 4 0)), (1, .ref s), (2, .int 1), (3, .int (iN (20 * j))), (4, .ref q)]) dL_feeds_73 rfl (iN_add _ _) (by decide) rfl ?_
              refine J_goto C 20 dL_feeds_76 rfl ?_
              refine J_sub [1, 2, 3, 4, 5, 0] (lv' := [(0, .ref (A 4 0)), (1, .ref s), (2, .int 1), (3, .int (iN (20 * j))), (4, .ref q), (5, .int (iN (k + 1)))]) rfl ?_
              exact ih2 (k + 1) (upd g (k / 4) (iN ((wdN (fun p => T.getD p 32) (20 * j + 4 * (k / 4)) (k % 4)) * 256 + 32))) (by omega) (fun i hi => by
                rw [upd_get]
                by_cases e : i = k / 4
                · rw [if_pos e, e]
                  unfold clp
                  have e2 : (if 4 * (k / 4) + 4 ≤ k + 1 then 4 else k + 1 - 4 * (k / 4)) = k % 4 + 1 := by split <;> omega
                  rw [e2, wdN, show 20 * j + 4 * (k / 4) + k % 4 = 20 * j + k by omega]
                  show _ = iN ((wdN (fun p => T.getD p 32) (20 * j + 4 * (k / 4)) (k % 4)) * 256 + T.getD (20 * j + k) 32)
                  rw [getD_o (by omega)]
                · rw [if_neg e, hg i hi]
                  have e2 : clp (k + 1) i = clp k i := by
                    unfold clp
                    split <;> split <;> omega
                  rw [e2])
        exact k20 20 0 (fun _ => 0) (by omega) (fun i hi => by
          unfold clp
          rw [if_neg (by omega), Nat.zero_sub]
          rfl)
  refine J_leq (lv' := [(0, .ref (A 4 0)), (1, .ref s)]) rfl ?_
  refine J_weq (ws' := ([(s, .inr (10, [.ref u.1.1, .int 0, .int 0, .int 0])), cB K u.1.1 T.length u.1.2] ++ ro_W K A Y)) rfl ?_
  refine J_iconst C (v := 1) dL_feeds_0 rfl ?_
  refine J_istore_n C (lv' := [(2, .int 1), (0, .ref (A 4 0)), (1, .ref s)]) dL_feeds_1 (by decide) rfl ?_
  refine J_iconst C (v := 0) dL_feeds_2 rfl ?_
  refine J_istore_n C (lv' := [(3, .int 0), (2, .int 1), (0, .ref (A 4 0)), (1, .ref s)]) dL_feeds_3 (by decide) rfl ?_
  refine J_sub [2, 3, 1, 0] (lv' := [(0, .ref (A 4 0)), (1, .ref s), (2, .int 1), (3, .int 0)]) rfl ?_
  exact k4 60 0 Y (by omega) (by omega) (fun _ _ => rfl) ⟨by decide, hY, fun k hk => absurd hk (Nat.not_lt_zero k)⟩
