-- PART 08, go on (by gen/mkmodel.py)
/-! X10_shuts -/
theorem kd_X10_shuts : Card yX10_shuts cX10_shuts 5 (some .int) 3 := ⟨uc_X10_shuts, un_X10, ⟨by decide, by decide, by decide⟩, by decide⟩
def o_X10_shuts_L26 : Nat → (Nat → Int32) → Int32 → Int32 → Int32 → Int32 → Option (Int32 × (Nat → Int32))
  | 0, _, _, _, _, _ => none
  | fuel + 1, g, x1, x2, x3, x4 => if x4 < 0 then some ((x3, g)) else if x2 = 0 then (o_X10_loses g x4).bind (fun r1 => (o_X10_tokenOn r1 x1 0).bind (fun r2 => o_X10_shuts_L26 fuel r1 x1 x2 (x3 + 1) r2)) else some ((x3, g))
theorem g_X10_shuts_L26 {l : Launch} {K : gK} {Γ : gT} {ws : va_W} {q ad : Nat} (hq : q < ws.length) (C : Cx l K Γ RX10 cX10_shuts 5 (some .int) 3) : ∀ (k : Nat) (g : Nat → Int32) (x1 : Int32) (x2 : Int32) (x3 : Int32) (x4 : Int32), GO l K Γ (mW K ws q ad 336 g) 26 5 [(0, .ref ad), (1, .int x1), (2, .int x2), (3, .int x3), (4, .int x4)] [] (fun (z : Int32 × (Nat → Int32)) => (some (.int z.1), mW K ws q ad 336 z.2)) (o_X10_shuts_L26 k g x1 x2 x3 x4) := by
  intro k
  induction k with
  | zero =>
    intro g x1 x2 x3 x4
    exact fun r hr => nomatch hr
  | succ k ih =>
    intro g x1 x2 x3 x4
    rw [o_X10_shuts_L26]
    refine GO.lift (fun _ => G_iload C 4 dX10_shuts_26 rfl) ?_
    refine GO_if_lt C 55 dX10_shuts_28 rfl (fun h1 => ?_) (fun h1 => ?_)
    · refine GO.lift (fun _ => G_iload_n C 3 dX10_shuts_55 rfl) ?_
      exact GO.fin (G_iret C dX10_shuts_56 rfl)
    · refine GO.lift (fun _ => G_iload_n C 2 dX10_shuts_31 rfl) ?_
      refine GO_if_ne C 55 dX10_shuts_32 rfl (fun h2 => ?_) (fun h2 => ?_)
      · refine GO.lift (fun _ => G_aload_n C 0 dX10_shuts_35 rfl) ?_
        refine GO.lift (fun _ => G_iload C 4 dX10_shuts_36 rfl) ?_
        refine GO.bind (fun r1 hr1 => ?_)
        refine GO.lift (fun _ => G_callSv C kd_X10_loses ut_X10_loses um_X10_136 (c_X10_loses l K hq g x4 r1 hr1) dX10_shuts_38 rfl rfl (Nat.le_of_ble_eq_true rfl) (Nat.le_of_ble_eq_true rfl)) ?_
        refine GO.lift (fun _ => G_iinc (lv' := [(3, .int (x3 + 1)), (0, .ref ad), (1, .int x1), (2, .int x2), (4, .int x4)]) C 3 dX10_shuts_41 rfl rfl (by decide) rfl) ?_
        refine GO.lift (fun _ => G_aload_n C 1 dX10_shuts_44 rfl) ?_
        refine GO.lift (fun _ => G_iload_n C 2 dX10_shuts_45 rfl) ?_
        refine GO.lift (fun _ => G_iconst C dX10_shuts_46 (v := 0) rfl) ?_
        refine GO.bind (fun r2 hr2 => ?_)
        refine GO.lift (fun _ => G_callSi C kd_X10_tokenOn ut_X10_tokenOn um_X10_107 (c_X10_tokenOn l K hq r1 x1 0 r2 hr2) dX10_shuts_47 rfl rfl (Nat.le_of_ble_eq_true rfl) (Nat.le_of_ble_eq_true rfl)) ?_
        refine GO.lift (fun _ => G_istore (lv' := [(4, .int r2), (3, .int (x3 + 1)), (0, .ref ad), (1, .int x1), (2, .int x2)]) C dX10_shuts_50 (by decide) rfl) ?_
        refine GO.lift (fun _ => G_goto C 26 dX10_shuts_52 rfl) ?_
        refine GO.sub [2, 3, 4, 1, 0] rfl ?_
        exact ih r1 x1 x2 (x3 + 1) r2
      · refine GO.lift (fun _ => G_iload_n C 3 dX10_shuts_55 rfl) ?_
        exact GO.fin (G_iret C dX10_shuts_56 rfl)
def o_X10_shuts (g : Nat → Int32) (x1 : Int32) (x2 : Int32) : Option (Int32 × (Nat → Int32)) := if gin (v_X10_officeAt x1 2) 336 = true then (lt1 (upd g (v_X10_officeAt x1 2).toNatClampNeg x2) (fun r1 => (o_X10_tells r1 7 x1 x2).bind (fun r2 => (o_X10_tokenOn r2 x1 0).bind (fun r3 => o_X10_shuts_L26 4000 r2 x1 x2 0 r3)))) else none
theorem c_X10_shuts (l : Launch) (K : gK) {ws : va_W} {q ad : Nat} (hq : q < ws.length) (g : Nat → Int32) (x1 : Int32) (x2 : Int32) (r : Int32 × (Nat → Int32)) (hr : o_X10_shuts g x1 x2 = some r) : Ct l K yX10_shuts cX10_shuts 5 (some .int) 3 [.ref ad, .int x1, .int x2] (mW K ws q ad 336 g) (some (.int r.1), mW K ws q ad 336 r.2) := by
  refine Ct.of (own := RX10) (fun (z : Int32 × (Nat → Int32)) => (some (.int z.1), mW K ws q ad 336 z.2)) (x := r) (by decide) rfl (Nat.le_of_ble_eq_true rfl) (fun Γ C => GO.out (x := o_X10_shuts g x1 x2) ?_ hr)
  unfold o_X10_shuts
  refine GO.lift (fun _ => G_iconst C dX10_shuts_0 (v := 0) rfl) ?_
  refine GO.lift (fun _ => G_istore_n (lv' := [(3, .int 0), (0, .ref ad), (1, .int x1), (2, .int x2)]) C dX10_shuts_1 (by decide) rfl) ?_
  refine GO.lift (fun _ => G_aload_n C 1 dX10_shuts_2 rfl) ?_
  refine GO.lift (fun _ => G_iload_n C 2 dX10_shuts_3 rfl) ?_
  refine GO.lift (fun _ => G_iconst C dX10_shuts_4 (v := 2) rfl) ?_
  refine GO.lift (fun _ => G_callSi C kd_X10_officeAt ut_X10_officeAt um_X10_54 (c_X10_officeAt l K (mW K ws q ad 336 g) x1 2) dX10_shuts_5 rfl rfl (Nat.le_of_ble_eq_true rfl) (Nat.le_of_ble_eq_true rfl)) ?_
  refine GO.lift (fun _ => G_iload_n C 3 dX10_shuts_8 rfl) ?_
  refine GO.guard (fun h1 => ?_)
  refine GO.letS (fun r1 hr1 => ?_)
  refine GO.lift (fun _ => G_iast (ws' := mW K ws q ad 336 r1) C q dX10_shuts_9 (mW_at hq) (gin_in h1) (mW_set hr1)) ?_
  refine GO.lift (fun _ => G_aload_n C 1 dX10_shuts_10 rfl) ?_
  refine GO.lift (fun _ => G_bipush C dX10_shuts_11 (v := 7) rfl) ?_
  refine GO.lift (fun _ => G_iload_n C 2 dX10_shuts_13 rfl) ?_
  refine GO.lift (fun _ => G_iload_n C 3 dX10_shuts_14 rfl) ?_
  refine GO.bind (fun r2 hr2 => ?_)
  refine GO.lift (fun _ => G_callSv C kd_X10_tells ut_X10_tells um_X10_88 (c_X10_tells l K hq r1 7 x1 x2 r2 hr2) dX10_shuts_15 rfl rfl (Nat.le_of_ble_eq_true rfl) (Nat.le_of_ble_eq_true rfl)) ?_
  refine GO.lift (fun _ => G_aload_n C 1 dX10_shuts_18 rfl) ?_
  refine GO.lift (fun _ => G_iload_n C 2 dX10_shuts_19 rfl) ?_
  refine GO.lift (fun _ => G_iconst C dX10_shuts_20 (v := 0) rfl) ?_
  refine GO.bind (fun r3 hr3 => ?_)
  refine GO.lift (fun _ => G_callSi C kd_X10_tokenOn ut_X10_tokenOn um_X10_107 (c_X10_tokenOn l K hq r2 x1 0 r3 hr3) dX10_shuts_21 rfl rfl (Nat.le_of_ble_eq_true rfl) (Nat.le_of_ble_eq_true rfl)) ?_
  refine GO.lift (fun _ => G_istore (lv' := [(4, .int r3), (3, .int 0), (0, .ref ad), (1, .int x1), (2, .int x2)]) C dX10_shuts_24 (by decide) rfl) ?_
  refine GO.sub [2, 3, 4, 1, 0] rfl ?_
  exact g_X10_shuts_L26 hq C _ r2 x1 x2 0 r3
/-! X10_append -/
theorem kd_X10_append : Card yX10_append cX10_append 8 (some .int) 5 := ⟨uc_X10_append, un_X10, ⟨by decide, by decide, by decide⟩, by decide⟩
def o_X10_append_L18 : Nat → SM → Int32 → Int32 → Int32 → Int32 → Int32 → Int32 → Option (Int32 × SM)
  | 0, _, _, _, _, _, _, _ => none
  | fuel + 1, X, x1, x2, x3, x4, x5, x6 => if x6 < 20 then if x6 < 4 then if gin (X 8 1) 1200 = true then (lt1 (sU X 6 (upd (X 6) (X 8 1).toNatClampNeg ((jshr x1 (24 - (8 * (jrem x6 4)))) &&& 255))) (fun r1 => lt1 (sU r1 8 (upd (r1 8) 1 ((r1 8 1) + 1))) (fun r2 => o_X10_append_L18 fuel r2 x1 x2 x3 x4 x5 (x6 + 1)))) else none else if x6 < 8 then if gin (X 8 1) 1200 = true then (lt1 (sU X 6 (upd (X 6) (X 8 1).toNatClampNeg ((jshr x2 (24 - (8 * (jrem x6 4)))) &&& 255))) (fun r3 => lt1 (sU r3 8 (upd (r3 8) 1 ((r3 8 1) + 1))) (fun r4 => o_X10_append_L18 fuel r4 x1 x2 x3 x4 x5 (x6 + 1)))) else none else if x6 < 12 then if gin (X 8 1) 1200 = true then (lt1 (sU X 6 (upd (X 6) (X 8 1).toNatClampNeg ((jshr x3 (24 - (8 * (jrem x6 4)))) &&& 255))) (fun r5 => lt1 (sU r5 8 (upd (r5 8) 1 ((r5 8 1) + 1))) (fun r6 => o_X10_append_L18 fuel r6 x1 x2 x3 x4 x5 (x6 + 1)))) else none else if x6 < 16 then if gin (X 8 1) 1200 = true then (lt1 (sU X 6 (upd (X 6) (X 8 1).toNatClampNeg ((jshr x4 (24 - (8 * (jrem x6 4)))) &&& 255))) (fun r7 => lt1 (sU r7 8 (upd (r7 8) 1 ((r7 8 1) + 1))) (fun r8 => o_X10_append_L18 fuel r8 x1 x2 x3 x4 x5 (x6 + 1)))) else none else if gin (X 8 1) 1200 = true then (lt1 (sU X 6 (upd (X 6) (X 8 1).toNatClampNeg ((jshr x5 (24 - (8 * (jrem x6 4)))) &&& 255))) (fun r9 => lt1 (sU r9 8 (upd (r9 8) 1 ((r9 8 1) + 1))) (fun r10 => o_X10_append_L18 fuel r10 x1 x2 x3 x4 x5 (x6 + 1)))) else none else some ((X 8 1, X))
theorem g_X10_append_L18 {l : Launch} {K : gK} {Γ : gT} {b : Nat → Nat} (C : Cx l K Γ RX10 cX10_append 8 (some .int) 0) : ∀ (k : Nat) (X : SM) (x1 : Int32) (x2 : Int32) (x3 : Int32) (x4 : Int32) (x5 : Int32) (x6 : Int32), GO l K Γ (mo_W K b X) 18 8 [(0, .ref (b 0)), (1, .int x1), (2, .int x2), (3, .int x3), (4, .int x4), (5, .int x5), (6, .int x6)] [] (fun (z : Int32 × SM) => (some (.int z.1), mo_W K b z.2)) (o_X10_append_L18 k X x1 x2 x3 x4 x5 x6) := by
  intro k
  induction k with
  | zero =>
    intro X x1 x2 x3 x4 x5 x6
    exact fun r hr => nomatch hr
  | succ k ih =>
    intro X x1 x2 x3 x4 x5 x6
    rw [o_X10_append_L18]
    refine GO.lift (fun _ => G_iload C 6 dX10_append_18 rfl) ?_
    refine GO.lift (fun _ => G_bipush C dX10_append_20 (v := 20) rfl) ?_
    refine GO_icmp_ge C 115 dX10_append_22 rfl (fun h1 => ?_) (fun h1 => ?_)
    · refine GO.lift (fun _ => G_iload C 6 dX10_append_25 rfl) ?_
      refine GO.lift (fun _ => G_iconst C dX10_append_27 (v := 4) rfl) ?_
      refine GO_icmp_ge C 35 dX10_append_28 rfl (fun h2 => ?_) (fun h2 => ?_)
      · refine GO.lift (fun _ => G_iload_n C 1 dX10_append_31 rfl) ?_
        refine GO.lift (fun _ => G_goto C 71 dX10_append_32 rfl) ?_
        refine GO.lift (fun _ => G_istore (lv' := [(7, .int x1), (0, .ref (b 0)), (1, .int x1), (2, .int x2), (3, .int x3), (4, .int x4), (5, .int x5), (6, .int x6)]) C dX10_append_71 (by decide) rfl) ?_
        refine GO.lift (fun _ => G_aload_n C 1 dX10_append_73 rfl) ?_
        refine GO.lift (fun _ => G_get C 0 7 dX10_append_74 inlX10 uf_X10_29 rfl (by decide) rfl rfl rfl) ?_
        refine GO.lift (fun _ => G_aload_n C 1 dX10_append_77 rfl) ?_
        refine GO.lift (fun _ => G_get C 0 8 dX10_append_78 inlX10 uf_X10_139 rfl (by decide) rfl rfl rfl) ?_
        refine GO.lift (fun _ => G_iload C 0 dX10_append_81 rfl) ?_
        refine GO.lift (fun _ => G_bipush C dX10_append_83 (v := 24) rfl) ?_
        refine GO.lift (fun _ => G_bipush C dX10_append_85 (v := 8) rfl) ?_
        refine GO.lift (fun _ => G_iload C 7 dX10_append_87 rfl) ?_
        refine GO.lift (fun _ => G_iconst C dX10_append_89 (v := 4) rfl) ?_
        refine GO.lift (fun _ => G_irem C dX10_append_90 (by decide)) ?_
        refine GO.lift (fun _ => G_imul C dX10_append_91) ?_
        refine GO.lift (fun _ => G_isub C dX10_append_92) ?_
        refine GO.lift (fun _ => G_ishr C dX10_append_93 rfl) ?_
        refine GO.lift (fun _ => G_sipush C dX10_append_94 (v := 255) rfl) ?_
        refine GO.lift (fun _ => G_iand C dX10_append_97) ?_
        refine GO.guard (fun h3 => ?_)
        refine GO.letS (fun r1 hr1 => ?_)
        refine GO.lift (fun _ => G_iast (ws' := mo_W K b r1) C 7 dX10_append_98 rfl (gin_in h3) (by cases hr1; rfl)) ?_
        refine GO.lift (fun _ => G_aload_n C 1 dX10_append_99 rfl) ?_
        refine GO.lift (fun _ => G_dup C dX10_append_100 rfl) ?_
        refine GO.lift (fun _ => G_get C 0 8 dX10_append_101 inlX10 uf_X10_139 rfl (by decide) rfl rfl rfl) ?_
        refine GO.lift (fun _ => G_iconst C dX10_append_104 (v := 1) rfl) ?_
        refine GO.lift (fun _ => G_iadd C dX10_append_105) ?_
        refine GO.letS (fun r2 hr2 => ?_)
        refine GO.lift (fun _ => G_put (ws' := mo_W K b r2) C 0 8 tyX10 .int dX10_append_106 inlX10 uf_X10_139 tyX10_ok nmX10 rfl (by decide) rfl rfl rfl rfl rfl rfl (Nat.le_of_ble_eq_true rfl) (by cases hr2; rfl)) ?_
        refine GO.lift (fun _ => G_iinc (lv' := [(6, .int (x6 + 1)), (7, .int x1), (0, .ref (b 0)), (1, .int x1), (2, .int x2), (3, .int x3), (4, .int x4), (5, .int x5)]) C 7 dX10_append_109 rfl rfl (by decide) rfl) ?_
        refine GO.lift (fun _ => G_goto C 18 dX10_append_112 rfl) ?_
        refine GO.sub [2, 3, 4, 5, 6, 7, 0] rfl ?_
        exact ih r2 x1 x2 x3 x4 x5 (x6 + 1)
      · refine GO.lift (fun _ => G_iload C 6 dX10_append_35 rfl) ?_
        refine GO.lift (fun _ => G_bipush C dX10_append_37 (v := 8) rfl) ?_
        refine GO_icmp_ge C 46 dX10_append_39 rfl (fun h4 => ?_) (fun h4 => ?_)
        · refine GO.lift (fun _ => G_iload_n C 2 dX10_append_42 rfl) ?_
          refine GO.lift (fun _ => G_goto C 71 dX10_append_43 rfl) ?_
          refine GO.lift (fun _ => G_istore (lv' := [(7, .int x2), (0, .ref (b 0)), (1, .int x1), (2, .int x2), (3, .int x3), (4, .int x4), (5, .int x5), (6, .int x6)]) C dX10_append_71 (by decide) rfl) ?_
          refine GO.lift (fun _ => G_aload_n C 1 dX10_append_73 rfl) ?_
          refine GO.lift (fun _ => G_get C 0 7 dX10_append_74 inlX10 uf_X10_29 rfl (by decide) rfl rfl rfl) ?_
          refine GO.lift (fun _ => G_aload_n C 1 dX10_append_77 rfl) ?_
          refine GO.lift (fun _ => G_get C 0 8 dX10_append_78 inlX10 uf_X10_139 rfl (by decide) rfl rfl rfl) ?_
          refine GO.lift (fun _ => G_iload C 0 dX10_append_81 rfl) ?_
          refine GO.lift (fun _ => G_bipush C dX10_append_83 (v := 24) rfl) ?_
          refine GO.lift (fun _ => G_bipush C dX10_append_85 (v := 8) rfl) ?_
          refine GO.lift (fun _ => G_iload C 7 dX10_append_87 rfl) ?_
          refine GO.lift (fun _ => G_iconst C dX10_append_89 (v := 4) rfl) ?_
          refine GO.lift (fun _ => G_irem C dX10_append_90 (by decide)) ?_
          refine GO.lift (fun _ => G_imul C dX10_append_91) ?_
          refine GO.lift (fun _ => G_isub C dX10_append_92) ?_
          refine GO.lift (fun _ => G_ishr C dX10_append_93 rfl) ?_
          refine GO.lift (fun _ => G_sipush C dX10_append_94 (v := 255) rfl) ?_
          refine GO.lift (fun _ => G_iand C dX10_append_97) ?_
          refine GO.guard (fun h5 => ?_)
          refine GO.letS (fun r3 hr3 => ?_)
          refine GO.lift (fun _ => G_iast (ws' := mo_W K b r3) C 7 dX10_append_98 rfl (gin_in h5) (by cases hr3; rfl)) ?_
          refine GO.lift (fun _ => G_aload_n C 1 dX10_append_99 rfl) ?_
          refine GO.lift (fun _ => G_dup C dX10_append_100 rfl) ?_
          refine GO.lift (fun _ => G_get C 0 8 dX10_append_101 inlX10 uf_X10_139 rfl (by decide) rfl rfl rfl) ?_
          refine GO.lift (fun _ => G_iconst C dX10_append_104 (v := 1) rfl) ?_
          refine GO.lift (fun _ => G_iadd C dX10_append_105) ?_
          refine GO.letS (fun r4 hr4 => ?_)
          refine GO.lift (fun _ => G_put (ws' := mo_W K b r4) C 0 8 tyX10 .int dX10_append_106 inlX10 uf_X10_139 tyX10_ok nmX10 rfl (by decide) rfl rfl rfl rfl rfl rfl (Nat.le_of_ble_eq_true rfl) (by cases hr4; rfl)) ?_
          refine GO.lift (fun _ => G_iinc (lv' := [(6, .int (x6 + 1)), (7, .int x2), (0, .ref (b 0)), (1, .int x1), (2, .int x2), (3, .int x3), (4, .int x4), (5, .int x5)]) C 7 dX10_append_109 rfl rfl (by decide) rfl) ?_
          refine GO.lift (fun _ => G_goto C 18 dX10_append_112 rfl) ?_
          refine GO.sub [2, 3, 4, 5, 6, 7, 0] rfl ?_
          exact ih r4 x1 x2 x3 x4 x5 (x6 + 1)
        · refine GO.lift (fun _ => G_iload C 6 dX10_append_46 rfl) ?_
          refine GO.lift (fun _ => G_bipush C dX10_append_48 (v := 12) rfl) ?_
          refine GO_icmp_ge C 57 dX10_append_50 rfl (fun h6 => ?_) (fun h6 => ?_)
          · refine GO.lift (fun _ => G_iload_n C 3 dX10_append_53 rfl) ?_
            refine GO.lift (fun _ => G_goto C 71 dX10_append_54 rfl) ?_
            refine GO.lift (fun _ => G_istore (lv' := [(7, .int x3), (0, .ref (b 0)), (1, .int x1), (2, .int x2), (3, .int x3), (4, .int x4), (5, .int x5), (6, .int x6)]) C dX10_append_71 (by decide) rfl) ?_
            refine GO.lift (fun _ => G_aload_n C 1 dX10_append_73 rfl) ?_
            refine GO.lift (fun _ => G_get C 0 7 dX10_append_74 inlX10 uf_X10_29 rfl (by decide) rfl rfl rfl) ?_
            refine GO.lift (fun _ => G_aload_n C 1 dX10_append_77 rfl) ?_
            refine GO.lift (fun _ => G_get C 0 8 dX10_append_78 inlX10 uf_X10_139 rfl (by decide) rfl rfl rfl) ?_
            refine GO.lift (fun _ => G_iload C 0 dX10_append_81 rfl) ?_
            refine GO.lift (fun _ => G_bipush C dX10_append_83 (v := 24) rfl) ?_
            refine GO.lift (fun _ => G_bipush C dX10_append_85 (v := 8) rfl) ?_
            refine GO.lift (fun _ => G_iload C 7 dX10_append_87 rfl) ?_
            refine GO.lift (fun _ => G_iconst C dX10_append_89 (v := 4) rfl) ?_
            refine GO.lift (fun _ => G_irem C dX10_append_90 (by decide)) ?_
            refine GO.lift (fun _ => G_imul C dX10_append_91) ?_
            refine GO.lift (fun _ => G_isub C dX10_append_92) ?_
            refine GO.lift (fun _ => G_ishr C dX10_append_93 rfl) ?_
            refine GO.lift (fun _ => G_sipush C dX10_append_94 (v := 255) rfl) ?_
            refine GO.lift (fun _ => G_iand C dX10_append_97) ?_
            refine GO.guard (fun h7 => ?_)
            refine GO.letS (fun r5 hr5 => ?_)
            refine GO.lift (fun _ => G_iast (ws' := mo_W K b r5) C 7 dX10_append_98 rfl (gin_in h7) (by cases hr5; rfl)) ?_
            refine GO.lift (fun _ => G_aload_n C 1 dX10_append_99 rfl) ?_
            refine GO.lift (fun _ => G_dup C dX10_append_100 rfl) ?_
            refine GO.lift (fun _ => G_get C 0 8 dX10_append_101 inlX10 uf_X10_139 rfl (by decide) rfl rfl rfl) ?_
            refine GO.lift (fun _ => G_iconst C dX10_append_104 (v := 1) rfl) ?_
            refine GO.lift (fun _ => G_iadd C dX10_append_105) ?_
            refine GO.letS (fun r6 hr6 => ?_)
            refine GO.lift (fun _ => G_put (ws' := mo_W K b r6) C 0 8 tyX10 .int dX10_append_106 inlX10 uf_X10_139 tyX10_ok nmX10 rfl (by decide) rfl rfl rfl rfl rfl rfl (Nat.le_of_ble_eq_true rfl) (by cases hr6; rfl)) ?_
            refine GO.lift (fun _ => G_iinc (lv' := [(6, .int (x6 + 1)), (7, .int x3), (0, .ref (b 0)), (1, .int x1), (2, .int x2), (3, .int x3), (4, .int x4), (5, .int x5)]) C 7 dX10_append_109 rfl rfl (by decide) rfl) ?_
            refine GO.lift (fun _ => G_goto C 18 dX10_append_112 rfl) ?_
            refine GO.sub [2, 3, 4, 5, 6, 7, 0] rfl ?_
            exact ih r6 x1 x2 x3 x4 x5 (x6 + 1)
          · refine GO.lift (fun _ => G_iload C 6 dX10_append_57 rfl) ?_
            refine GO.lift (fun _ => G_bipush C dX10_append_59 (v := 16) rfl) ?_
            refine GO_icmp_ge C 69 dX10_append_61 rfl (fun h8 => ?_) (fun h8 => ?_)
            · refine GO.lift (fun _ => G_iload C 4 dX10_append_64 rfl) ?_
              refine GO.lift (fun _ => G_goto C 71 dX10_append_66 rfl) ?_
              refine GO.lift (fun _ => G_istore (lv' := [(7, .int x4), (0, .ref (b 0)), (1, .int x1), (2, .int x2), (3, .int x3), (4, .int x4), (5, .int x5), (6, .int x6)]) C dX10_append_71 (by decide) rfl) ?_
              refine GO.lift (fun _ => G_aload_n C 1 dX10_append_73 rfl) ?_
              refine GO.lift (fun _ => G_get C 0 7 dX10_append_74 inlX10 uf_X10_29 rfl (by decide) rfl rfl rfl) ?_
              refine GO.lift (fun _ => G_aload_n C 1 dX10_append_77 rfl) ?_
              refine GO.lift (fun _ => G_get C 0 8 dX10_append_78 inlX10 uf_X10_139 rfl (by decide) rfl rfl rfl) ?_
              refine GO.lift (fun _ => G_iload C 0 dX10_append_81 rfl) ?_
              refine GO.lift (fun _ => G_bipush C dX10_append_83 (v := 24) rfl) ?_
              refine GO.lift (fun _ => G_bipush C dX10_append_85 (v := 8) rfl) ?_
              refine GO.lift (fun _ => G_iload C 7 dX10_append_87 rfl) ?_
              refine GO.lift (fun _ => G_iconst C dX10_append_89 (v := 4) rfl) ?_
              refine GO.lift (fun _ => G_irem C dX10_append_90 (by decide)) ?_
              refine GO.lift (fun _ => G_imul C dX10_append_91) ?_
              refine GO.lift (fun _ => G_isub C dX10_append_92) ?_
              refine GO.lift (fun _ => G_ishr C dX10_append_93 rfl) ?_
              refine GO.lift (fun _ => G_sipush C dX10_append_94 (v := 255) rfl) ?_
              refine GO.lift (fun _ => G_iand C dX10_append_97) ?_
              refine GO.guard (fun h9 => ?_)
              refine GO.letS (fun r7 hr7 => ?_)
              refine GO.lift (fun _ => G_iast (ws' := mo_W K b r7) C 7 dX10_append_98 rfl (gin_in h9) (by cases hr7; rfl)) ?_
              refine GO.lift (fun _ => G_aload_n C 1 dX10_append_99 rfl) ?_
              refine GO.lift (fun _ => G_dup C dX10_append_100 rfl) ?_
              refine GO.lift (fun _ => G_get C 0 8 dX10_append_101 inlX10 uf_X10_139 rfl (by decide) rfl rfl rfl) ?_
              refine GO.lift (fun _ => G_iconst C dX10_append_104 (v := 1) rfl) ?_
              refine GO.lift (fun _ => G_iadd C dX10_append_105) ?_
              refine GO.letS (fun r8 hr8 => ?_)
              refine GO.lift (fun _ => G_put (ws' := mo_W K b r8) C 0 8 tyX10 .int dX10_append_106 inlX10 uf_X10_139 tyX10_ok nmX10 rfl (by decide) rfl rfl rfl rfl rfl rfl (Nat.le_of_ble_eq_true rfl) (by cases hr8; rfl)) ?_
              refine GO.lift (fun _ => G_iinc (lv' := [(6, .int (x6 + 1)), (7, .int x4), (0, .ref (b 0)), (1, .int x1), (2, .int x2), (3, .int x3), (4, .int x4), (5, .int x5)]) C 7 dX10_append_109 rfl rfl (by decide) rfl) ?_
              refine GO.lift (fun _ => G_goto C 18 dX10_append_112 rfl) ?_
              refine GO.sub [2, 3, 4, 5, 6, 7, 0] rfl ?_
              exact ih r8 x1 x2 x3 x4 x5 (x6 + 1)
            · refine GO.lift (fun _ => G_iload C 5 dX10_append_69 rfl) ?_
              refine GO.lift (fun _ => G_istore (lv' := [(7, .int x5), (0, .ref (b 0)), (1, .int x1), (2, .int x2), (3, .int x3), (4, .int x4), (5, .int x5), (6, .int x6)]) C dX10_append_71 (by decide) rfl) ?_
              refine GO.lift (fun _ => G_aload_n C 1 dX10_append_73 rfl) ?_
              refine GO.lift (fun _ => G_get C 0 7 dX10_append_74 inlX10 uf_X10_29 rfl (by decide) rfl rfl rfl) ?_
              refine GO.lift (fun _ => G_aload_n C 1 dX10_append_77 rfl) ?_
              refine GO.lift (fun _ => G_get C 0 8 dX10_append_78 inlX10 uf_X10_139 rfl (by decide) rfl rfl rfl) ?_
              refine GO.lift (fun _ => G_iload C 0 dX10_append_81 rfl) ?_
              refine GO.lift (fun _ => G_bipush C dX10_append_83 (v := 24) rfl) ?_
              refine GO.lift (fun _ => G_bipush C dX10_append_85 (v := 8) rfl) ?_
              refine GO.lift (fun _ => G_iload C 7 dX10_append_87 rfl) ?_
              refine GO.lift (fun _ => G_iconst C dX10_append_89 (v := 4) rfl) ?_
              refine GO.lift (fun _ => G_irem C dX10_append_90 (by decide)) ?_
              refine GO.lift (fun _ => G_imul C dX10_append_91) ?_
              refine GO.lift (fun _ => G_isub C dX10_append_92) ?_
              refine GO.lift (fun _ => G_ishr C dX10_append_93 rfl) ?_
              refine GO.lift (fun _ => G_sipush C dX10_append_94 (v := 255) rfl) ?_
              refine GO.lift (fun _ => G_iand C dX10_append_97) ?_
              refine GO.guard (fun h10 => ?_)
              refine GO.letS (fun r9 hr9 => ?_)
              refine GO.lift (fun _ => G_iast (ws' := mo_W K b r9) C 7 dX10_append_98 rfl (gin_in h10) (by cases hr9; rfl)) ?_
              refine GO.lift (fun _ => G_aload_n C 1 dX10_append_99 rfl) ?_
              refine GO.lift (fun _ => G_dup C dX10_append_100 rfl) ?_
              refine GO.lift (fun _ => G_get C 0 8 dX10_append_101 inlX10 uf_X10_139 rfl (by decide) rfl rfl rfl) ?_
              refine GO.lift (fun _ => G_iconst C dX10_append_104 (v := 1) rfl) ?_
              refine GO.lift (fun _ => G_iadd C dX10_append_105) ?_
              refine GO.letS (fun r10 hr10 => ?_)
              refine GO.lift (fun _ => G_put (ws' := mo_W K b r10) C 0 8 tyX10 .int dX10_append_106 inlX10 uf_X10_139 tyX10_ok nmX10 rfl (by decide) rfl rfl rfl rfl rfl rfl (Nat.le_of_ble_eq_true rfl) (by cases hr10; rfl)) ?_
              refine GO.lift (fun _ => G_iinc (lv' := [(6, .int (x6 + 1)), (7, .int x5), (0, .ref (b 0)), (1, .int x1), (2, .int x2), (3, .int x3), (4, .int x4), (5, .int x5)]) C 7 dX10_append_109 rfl rfl (by decide) rfl) ?_
              refine GO.lift (fun _ => G_goto C 18 dX10_append_112 rfl) ?_
              refine GO.sub [2, 3, 4, 5, 6, 7, 0] rfl ?_
              exact ih r10 x1 x2 x3 x4 x5 (x6 + 1)
    · refine GO.lift (fun _ => G_aload_n C 0 dX10_append_115 rfl) ?_
      refine GO.lift (fun _ => G_get C 0 8 dX10_append_116 inlX10 uf_X10_139 rfl (by decide) rfl rfl rfl) ?_
      exact GO.fin (G_iret C dX10_append_119 rfl)
def o_X10_append (X : SM) (x1 : Int32) (x2 : Int32) (x3 : Int32) (x4 : Int32) (x5 : Int32) : Option (Int32 × SM) := if 1200 < ((X 8 1) + 20) then some ((-1, X)) else o_X10_append_L18 4000 X x1 x2 x3 x4 x5 0
theorem c_X10_append (l : Launch) (K : gK) (b : Nat → Nat) (X : SM) (x1 : Int32) (x2 : Int32) (x3 : Int32) (x4 : Int32) (x5 : Int32) (r : Int32 × SM) (hr : o_X10_append X x1 x2 x3 x4 x5 = some r) : Ct l K yX10_append cX10_append 8 (some .int) 0 [.ref (b 0), .int x1, .int x2, .int x3, .int x4, .int x5] (mo_W K b X) (some (.int r.1), mo_W K b r.2) := by
  refine Ct.of (own := RX10) (fun (z : Int32 × SM) => (some (.int z.1), mo_W K b z.2)) (x := r) (by decide) rfl (Nat.le_of_ble_eq_true rfl) (fun Γ C => GO.out (x := o_X10_append X x1 x2 x3 x4 x5) ?_ hr)
  unfold o_X10_append
  refine GO.lift (fun _ => G_aload_n C 0 dX10_append_0 rfl) ?_
  refine GO.lift (fun _ => G_get C 0 8 dX10_append_1 inlX10 uf_X10_139 rfl (by decide) rfl rfl rfl) ?_
  refine GO.lift (fun _ => G_bipush C dX10_append_4 (v := 20) rfl) ?_
  refine GO.lift (fun _ => G_iadd C dX10_append_6) ?_
  refine GO.lift (fun _ => G_sipush C dX10_append_7 (v := 1200) rfl) ?_
  refine GO_icmp_le C 15 dX10_append_10 rfl (fun h1 => ?_) (fun h1 => ?_)
  · refine GO.lift (fun _ => G_iconst C dX10_append_13 (v := -1) rfl) ?_
    exact GO.fin (G_iret C dX10_append_14 rfl)
  · refine GO.lift (fun _ => G_iconst C dX10_append_15 (v := 0) rfl) ?_
    refine GO.lift (fun _ => G_istore (lv' := [(6, .int 0), (0, .ref (b 0)), (1, .int x1), (2, .int x2), (3, .int x3), (4, .int x4), (5, .int x5)]) C dX10_append_16 (by decide) rfl) ?_
    refine GO.sub [1, 2, 3, 4, 5, 6, 0] rfl ?_
    exact g_X10_append_L18 C _ X x1 x2 x3 x4 x5 0
/-! X10_truncate -/
theorem kd_X10_truncate : Card yX10_truncate cX10_truncate 2 (some .int) 1 := ⟨uc_X10_truncate, un_X10, ⟨by decide, by decide, by decide⟩, by decide⟩
def o_X10_truncate (X : SM) (x1 : Int32) : Option (Int32 × SM) := if x1 < 0 then some ((-1, X)) else if (X 8 1) < x1 then some ((-1, X)) else lt1 (sU X 8 (upd (X 8) 1 ((X 8 1) - x1))) (fun r1 => some ((r1 8 1, r1)))
theorem c_X10_truncate (l : Launch) (K : gK) (b : Nat → Nat) (X : SM) (x1 : Int32) (r : Int32 × SM) (hr : o_X10_truncate X x1 = some r) : Ct l K yX10_truncate cX10_truncate 2 (some .int) 0 [.ref (b 0), .int x1] (mo_W K b X) (some (.int r.1), mo_W K b r.2) := by
  refine Ct.of (own := RX10) (fun (z : Int32 × SM) => (some (.int z.1), mo_W K b z.2)) (x := r) (by decide) rfl (Nat.le_of_ble_eq_true rfl) (fun Γ C => GO.out (x := o_X10_truncate X x1) ?_ hr)
  unfold o_X10_truncate
  refine GO.lift (fun _ => G_iload_n C 1 dX10_truncate_0 rfl) ?_
  refine GO_if_lt C 12 dX10_truncate_1 rfl (fun h1 => ?_) (fun h1 => ?_)
  · refine GO.lift (fun _ => G_iconst C dX10_truncate_12 (v := -1) rfl) ?_
    exact GO.fin (G_iret C dX10_truncate_13 rfl)
  · refine GO.lift (fun _ => G_iload_n C 1 dX10_truncate_4 rfl) ?_
    refine GO.lift (fun _ => G_aload_n C 0 dX10_truncate_5 rfl) ?_
    refine GO.lift (fun _ => G_get C 0 8 dX10_truncate_6 inlX10 uf_X10_139 rfl (by decide) rfl rfl rfl) ?_
    refine GO_icmp_le C 14 dX10_truncate_9 rfl (fun h2 => ?_) (fun h2 => ?_)
    · refine GO.lift (fun _ => G_iconst C dX10_truncate_12 (v := -1) rfl) ?_
      exact GO.fin (G_iret C dX10_truncate_13 rfl)
    · refine GO.lift (fun _ => G_aload_n C 0 dX10_truncate_14 rfl) ?_
      refine GO.lift (fun _ => G_dup C dX10_truncate_15 rfl) ?_
      refine GO.lift (fun _ => G_get C 0 8 dX10_truncate_16 inlX10 uf_X10_139 rfl (by decide) rfl rfl rfl) ?_
      refine GO.lift (fun _ => G_iload_n C 1 dX10_truncate_19 rfl) ?_
      refine GO.lift (fun _ => G_isub C dX10_truncate_20) ?_
      refine GO.letS (fun r1 hr1 => ?_)
      refine GO.lift (fun _ => G_put (ws' := mo_W K b r1) C 0 8 tyX10 .int dX10_truncate_21 inlX10 uf_X10_139 tyX10_ok nmX10 rfl (by decide) rfl rfl rfl rfl rfl rfl (Nat.le_of_ble_eq_true rfl) (by cases hr1; rfl)) ?_
      refine GO.lift (fun _ => G_aload_n C 0 dX10_truncate_24 rfl) ?_
      refine GO.lift (fun _ => G_get C 0 8 dX10_truncate_25 inlX10 uf_X10_139 rfl (by decide) rfl rfl rfl) ?_
      exact GO.fin (G_iret C dX10_truncate_28 rfl)
/-! X10_errorPosition -/
theorem kd_X10_errorPosition : Card yX10_errorPosition cX10_errorPosition 1 (some .int) 0 := ⟨uc_X10_errorPosition, un_X10, ⟨by decide, by decide, by decide⟩, by decide⟩
def o_X10_errorPosition (X : SM) : Option (Int32) := some (X 8 2)
theorem c_X10_errorPosition (l : Launch) (K : gK) (b : Nat → Nat) (X : SM) (r : Int32) (hr : o_X10_errorPosition X = some r) : Ct l K yX10_errorPosition cX10_errorPosition 1 (some .int) 0 [.ref (b 0)] (mo_W K b X) (some (.int r), mo_W K b X) := by
  refine Ct.of (own := RX10) (fun z => (some (.int z), mo_W K b X)) (x := r) (by decide) rfl (Nat.le_of_ble_eq_true rfl) (fun Γ C => GO.out (x := o_X10_errorPosition X) ?_ hr)
  unfold o_X10_errorPosition
  refine GO.lift (fun _ => G_aload_n C 0 dX10_errorPosition_0 rfl) ?_
  refine GO.lift (fun _ => G_get C 0 9 dX10_errorPosition_1 inlX10 uf_X10_32 rfl (by decide) rfl rfl rfl) ?_
  exact GO.fin (G_iret C dX10_errorPosition_4 rfl)
/-! X10_isSmall -/
theorem kd_X10_isSmall : Card yX10_isSmall cX10_isSmall 2 (some .boolean) 1 := ⟨uc_X10_isSmall, un_X10, ⟨by decide, by decide, by decide⟩, by decide⟩
def o_X10_isSmall (X : SM) (x1 : Int32) : Option (Int32) := if x1 < (X 8 1) then if gin x1 1200 = true then (if ((X 6) x1.toNatClampNeg) < 97 then some 0 else if gin x1 1200 = true then (if 122 < ((X 6) x1.toNatClampNeg) then some 0 else some 1) else none) else none else some 0
theorem c_X10_isSmall (l : Launch) (K : gK) (b : Nat → Nat) (X : SM) (x1 : Int32) (r : Int32) (hr : o_X10_isSmall X x1 = some r) : Ct l K yX10_isSmall cX10_isSmall 2 (some .boolean) 0 [.ref (b 0), .int x1] (mo_W K b X) (some (.int r), mo_W K b X) := by
  refine Ct.of (own := RX10) (fun z => (some (.int z), mo_W K b X)) (x := r) (by decide) rfl (Nat.le_of_ble_eq_true rfl) (fun Γ C => GO.out (x := o_X10_isSmall X x1) ?_ hr)
  unfold o_X10_isSmall
  refine GO.lift (fun _ => G_iload_n C 1 dX10_isSmall_0 rfl) ?_
  refine GO.lift (fun _ => G_aload_n C 0 dX10_isSmall_1 rfl) ?_
  refine GO.lift (fun _ => G_get C 0 8 dX10_isSmall_2 inlX10 uf_X10_139 rfl (by decide) rfl rfl rfl) ?_
  refine GO_icmp_ge C 34 dX10_isSmall_5 rfl (fun h1 => ?_) (fun h1 => ?_)
  · refine GO.lift (fun _ => G_aload_n C 0 dX10_isSmall_8 rfl) ?_
    refine GO.lift (fun _ => G_get C 0 7 dX10_isSmall_9 inlX10 uf_X10_29 rfl (by decide) rfl rfl rfl) ?_
    refine GO.lift (fun _ => G_iload_n C 1 dX10_isSmall_12 rfl) ?_
    refine GO.guard (fun h2 => ?_)
    refine GO.lift (fun _ => G_iald C 7 dX10_isSmall_13 rfl (gin_in h2)) ?_
    refine GO.lift (fun _ => G_bipush C dX10_isSmall_14 (v := 97) rfl) ?_
    refine GO_icmp_lt C 34 dX10_isSmall_16 rfl (fun h3 => ?_) (fun h3 => ?_)
    · refine GO.lift (fun _ => G_iconst C dX10_isSmall_34 (v := 0) rfl) ?_
      exact GO.fin (G_zret C dX10_isSmall_35 rfl rfl)
    · refine GO.lift (fun _ => G_aload_n C 0 dX10_isSmall_19 rfl) ?_
      refine GO.lift (fun _ => G_get C 0 7 dX10_isSmall_20 inlX10 uf_X10_29 rfl (by decide) rfl rfl rfl) ?_
      refine GO.lift (fun _ => G_iload_n C 1 dX10_isSmall_23 rfl) ?_
      refine GO.guard (fun h4 => ?_)
      refine GO.lift (fun _ => G_iald C 7 dX10_isSmall_24 rfl (gin_in h4)) ?_
      refine GO.lift (fun _ => G_bipush C dX10_isSmall_25 (v := 122) rfl) ?_
      refine GO_icmp_gt C 34 dX10_isSmall_27 rfl (fun h5 => ?_) (fun h5 => ?_)
      · refine GO.lift (fun _ => G_iconst C dX10_isSmall_34 (v := 0) rfl) ?_
        exact GO.fin (G_zret C dX10_isSmall_35 rfl rfl)
      · refine GO.lift (fun _ => G_iconst C dX10_isSmall_30 (v := 1) rfl) ?_
        refine GO.lift (fun _ => G_goto C 35 dX10_isSmall_31 rfl) ?_
        exact GO.fin (G_zret C dX10_isSmall_35 rfl rfl)
  · refine GO.lift (fun _ => G_iconst C dX10_isSmall_34 (v := 0) rfl) ?_
    exact GO.fin (G_zret C dX10_isSmall_35 rfl rfl)
/-! X10_isDigit -/
theorem kd_X10_isDigit : Card yX10_isDigit cX10_isDigit 2 (some .boolean) 1 := ⟨uc_X10_isDigit, un_X10, ⟨by decide, by decide, by decide⟩, by decide⟩
def o_X10_isDigit (X : SM) (x1 : Int32) : Option (Int32) := if x1 < (X 8 1) then if gin x1 1200 = true then (if ((X 6) x1.toNatClampNeg) < 48 then some 0 else if gin x1 1200 = true then (if 57 < ((X 6) x1.toNatClampNeg) then some 0 else some 1) else none) else none else some 0
theorem c_X10_isDigit (l : Launch) (K : gK) (b : Nat → Nat) (X : SM) (x1 : Int32) (r : Int32) (hr : o_X10_isDigit X x1 = some r) : Ct l K yX10_isDigit cX10_isDigit 2 (some .boolean) 0 [.ref (b 0), .int x1] (mo_W K b X) (some (.int r), mo_W K b X) := by
  refine Ct.of (own := RX10) (fun z => (some (.int z), mo_W K b X)) (x := r) (by decide) rfl (Nat.le_of_ble_eq_true rfl) (fun Γ C => GO.out (x := o_X10_isDigit X x1) ?_ hr)
  unfold o_X10_isDigit
  refine GO.lift (fun _ => G_iload_n C 1 dX10_isDigit_0 rfl) ?_
  refine GO.lift (fun _ => G_aload_n C 0 dX10_isDigit_1 rfl) ?_
  refine GO.lift (fun _ => G_get C 0 8 dX10_isDigit_2 inlX10 uf_X10_139 rfl (by decide) rfl rfl rfl) ?_
  refine GO_icmp_ge C 34 dX10_isDigit_5 rfl (fun h1 => ?_) (fun h1 => ?_)
  · refine GO.lift (fun _ => G_aload_n C 0 dX10_isDigit_8 rfl) ?_
    refine GO.lift (fun _ => G_get C 0 7 dX10_isDigit_9 inlX10 uf_X10_29 rfl (by decide) rfl rfl rfl) ?_
    refine GO.lift (fun _ => G_iload_n C 1 dX10_isDigit_12 rfl) ?_
    refine GO.guard (fun h2 => ?_)
    refine GO.lift (fun _ => G_iald C 7 dX10_isDigit_13 rfl (gin_in h2)) ?_
    refine GO.lift (fun _ => G_bipush C dX10_isDigit_14 (v := 48) rfl) ?_
    refine GO_icmp_lt C 34 dX10_isDigit_16 rfl (fun h3 => ?_) (fun h3 => ?_)
    · refine GO.lift (fun _ => G_iconst C dX10_isDigit_34 (v := 0) rfl) ?_
      exact GO.fin (G_zret C dX10_isDigit_35 rfl rfl)
    · refine GO.lift (fun _ => G_aload_n C 0 dX10_isDigit_19 rfl) ?_
      refine GO.lift (fun _ => G_get C 0 7 dX10_isDigit_20 inlX10 uf_X10_29 rfl (by decide) rfl rfl rfl) ?_
      refine GO.lift (fun _ => G_iload_n C 1 dX10_isDigit_23 rfl) ?_
      refine GO.guard (fun h4 => ?_)
      refine GO.lift (fun _ => G_iald C 7 dX10_isDigit_24 rfl (gin_in h4)) ?_
      refine GO.lift (fun _ => G_bipush C dX10_isDigit_25 (v := 57) rfl) ?_
      refine GO_icmp_gt C 34 dX10_isDigit_27 rfl (fun h5 => ?_) (fun h5 => ?_)
      · refine GO.lift (fun _ => G_iconst C dX10_isDigit_34 (v := 0) rfl) ?_
        exact GO.fin (G_zret C dX10_isDigit_35 rfl rfl)
      · refine GO.lift (fun _ => G_iconst C dX10_isDigit_30 (v := 1) rfl) ?_
        refine GO.lift (fun _ => G_goto C 35 dX10_isDigit_31 rfl) ?_
        exact GO.fin (G_zret C dX10_isDigit_35 rfl rfl)
  · refine GO.lift (fun _ => G_iconst C dX10_isDigit_34 (v := 0) rfl) ?_
    exact GO.fin (G_zret C dX10_isDigit_35 rfl rfl)
/-! X10_nextWord -/
theorem kd_X10_nextWord : Card yX10_nextWord cX10_nextWord 1 none 0 := ⟨uc_X10_nextWord, un_X10, ⟨by decide, by decide, by decide⟩, by decide⟩
def o_X10_nextWord_L82 (X : SM) (t0 : Int32) : Option (SM) := lt1 (sU X 8 (upd (X 8) 6 t0)) (fun r1 => some r1)
theorem g_X10_nextWord_L82 {l : Launch} {K : gK} {Γ : gT} {b : Nat → Nat} (C : Cx l K Γ RX10 cX10_nextWord 1 none 1) (X : SM) (t0 : Int32) : GO l K Γ (mo_W K b X) 82 1 [(0, .ref (b 0))] [.int t0, .ref (b 0)] (fun z => (none, mo_W K b z)) (o_X10_nextWord_L82 X t0) := by
  unfold o_X10_nextWord_L82
  refine GO.letS (fun r1 hr1 => ?_)
  refine GO.lift (fun _ => G_put (ws' := mo_W K b r1) C 0 13 tyX10 .int dX10_nextWord_82 inlX10 uf_X10_151 tyX10_ok nmX10 rfl (by decide) rfl rfl rfl rfl rfl rfl (Nat.le_of_ble_eq_true rfl) (by cases hr1; rfl)) ?_
  exact GO.fin (G_vret C dX10_nextWord_85 rfl)
def o_X10_nextWord_L0 : Nat → SM → Option (SM)
  | 0, _ => none
  | fuel + 1, X => (o_X10_isSmall X (X 8 4)).bind (fun r1 => if r1 = 0 then if 6 < ((X 8 4) - (X 8 5)) then o_X10_nextWord_L82 X 4 else o_X10_nextWord_L82 X 1 else if ((X 8 4) - (X 8 5)) < 6 then if gin (X 8 4) 1200 = true then (lt1 (sU X 8 (upd (X 8) 7 (((27 * (X 8 7)) + ((X 6) (X 8 4).toNatClampNeg)) - 96))) (fun r2 => lt1 (sU r2 8 (upd (r2 8) 4 ((r2 8 4) + 1))) (fun r3 => o_X10_nextWord_L0 fuel r3))) else none else lt1 (sU X 8 (upd (X 8) 4 ((X 8 4) + 1))) (fun r4 => o_X10_nextWord_L0 fuel r4))
theorem g_X10_nextWord_L0 {l : Launch} {K : gK} {Γ : gT} {b : Nat → Nat} (C : Cx l K Γ RX10 cX10_nextWord 1 none 1) : ∀ (k : Nat) (X : SM), GO l K Γ (mo_W K b X) 0 1 [(0, .ref (b 0))] [] (fun z => (none, mo_W K b z)) (o_X10_nextWord_L0 k X) := by
  intro k
  induction k with
  | zero =>
    intro X
    exact fun r hr => nomatch hr
  | succ k ih =>
    intro X
    rw [o_X10_nextWord_L0]
    refine GO.lift (fun _ => G_aload_n C 0 dX10_nextWord_0 rfl) ?_
    refine GO.lift (fun _ => G_aload_n C 0 dX10_nextWord_1 rfl) ?_
    refine GO.lift (fun _ => G_get C 0 11 dX10_nextWord_2 inlX10 uf_X10_142 rfl (by decide) rfl rfl rfl) ?_
    refine GO.bind (fun r1 hr1 => ?_)
    refine GO.lift (fun _ => G_callVi C 0 10 kd_X10_isSmall ui_X10_isSmall us_X10_isSmall um_X10_154 rfl rfl (c_X10_isSmall l K b X (X 8 4) r1 hr1) dX10_nextWord_5 rfl rfl (Nat.le_of_ble_eq_true rfl) (Nat.le_of_ble_eq_true rfl)) ?_
    refine GO_if_eq C 62 dX10_nextWord_8 rfl (fun h1 => ?_) (fun h1 => ?_)
    · refine GO.lift (fun _ => G_aload_n C 0 dX10_nextWord_62 rfl) ?_
      refine GO.lift (fun _ => G_aload_n C 0 dX10_nextWord_63 rfl) ?_
      refine GO.lift (fun _ => G_get C 0 11 dX10_nextWord_64 inlX10 uf_X10_142 rfl (by decide) rfl rfl rfl) ?_
      refine GO.lift (fun _ => G_aload_n C 0 dX10_nextWord_67 rfl) ?_
      refine GO.lift (fun _ => G_get C 0 12 dX10_nextWord_68 inlX10 uf_X10_145 rfl (by decide) rfl rfl rfl) ?_
      refine GO.lift (fun _ => G_isub C dX10_nextWord_71) ?_
      refine GO.lift (fun _ => G_bipush C dX10_nextWord_72 (v := 6) rfl) ?_
      refine GO_icmp_le C 81 dX10_nextWord_74 rfl (fun h2 => ?_) (fun h2 => ?_)
      · refine GO.lift (fun _ => G_iconst C dX10_nextWord_77 (v := 4) rfl) ?_
        refine GO.lift (fun _ => G_goto C 82 dX10_nextWord_78 rfl) ?_
        refine GO.sub [0] rfl ?_
        exact g_X10_nextWord_L82 C X 4
      · refine GO.lift (fun _ => G_iconst C dX10_nextWord_81 (v := 1) rfl) ?_
        refine GO.sub [0] rfl ?_
        exact g_X10_nextWord_L82 C X 1
    · refine GO.lift (fun _ => G_aload_n C 0 dX10_nextWord_11 rfl) ?_
      refine GO.lift (fun _ => G_get C 0 11 dX10_nextWord_12 inlX10 uf_X10_142 rfl (by decide) rfl rfl rfl) ?_
      refine GO.lift (fun _ => G_aload_n C 0 dX10_nextWord_15 rfl) ?_
      refine GO.lift (fun _ => G_get C 0 12 dX10_nextWord_16 inlX10 uf_X10_145 rfl (by decide) rfl rfl rfl) ?_
      refine GO.lift (fun _ => G_isub C dX10_nextWord_19) ?_
      refine GO.lift (fun _ => G_bipush C dX10_nextWord_20 (v := 6) rfl) ?_
      refine GO_icmp_ge C 49 dX10_nextWord_22 rfl (fun h3 => ?_) (fun h3 => ?_)
      · refine GO.lift (fun _ => G_aload_n C 0 dX10_nextWord_25 rfl) ?_
        refine GO.lift (fun _ => G_bipush C dX10_nextWord_26 (v := 27) rfl) ?_
        refine GO.lift (fun _ => G_aload_n C 0 dX10_nextWord_28 rfl) ?_
        refine GO.lift (fun _ => G_get C 0 14 dX10_nextWord_29 inlX10 uf_X10_148 rfl (by decide) rfl rfl rfl) ?_
        refine GO.lift (fun _ => G_imul C dX10_nextWord_32) ?_
        refine GO.lift (fun _ => G_aload_n C 0 dX10_nextWord_33 rfl) ?_
        refine GO.lift (fun _ => G_get C 0 7 dX10_nextWord_34 inlX10 uf_X10_29 rfl (by decide) rfl rfl rfl) ?_
        refine GO.lift (fun _ => G_aload_n C 0 dX10_nextWord_37 rfl) ?_
        refine GO.lift (fun _ => G_get C 0 11 dX10_nextWord_38 inlX10 uf_X10_142 rfl (by decide) rfl rfl rfl) ?_
        refine GO.guard (fun h4 => ?_)
        refine GO.lift (fun _ => G_iald C 7 dX10_nextWord_41 rfl (gin_in h4)) ?_
        refine GO.lift (fun _ => G_iadd C dX10_nextWord_42) ?_
        refine GO.lift (fun _ => G_bipush C dX10_nextWord_43 (v := 96) rfl) ?_
        refine GO.lift (fun _ => G_isub C dX10_nextWord_45) ?_
        refine GO.letS (fun r2 hr2 => ?_)
        refine GO.lift (fun _ => G_put (ws' := mo_W K b r2) C 0 14 tyX10 .int dX10_nextWord_46 inlX10 uf_X10_148 tyX10_ok nmX10 rfl (by decide) rfl rfl rfl rfl rfl rfl (Nat.le_of_ble_eq_true rfl) (by cases hr2; rfl)) ?_
        refine GO.lift (fun _ => G_aload_n C 0 dX10_nextWord_49 rfl) ?_
        refine GO.lift (fun _ => G_dup C dX10_nextWord_50 rfl) ?_
        refine GO.lift (fun _ => G_get C 0 11 dX10_nextWord_51 inlX10 uf_X10_142 rfl (by decide) rfl rfl rfl) ?_
        refine GO.lift (fun _ => G_iconst C dX10_nextWord_54 (v := 1) rfl) ?_
        refine GO.lift (fun _ => G_iadd C dX10_nextWord_55) ?_
        refine GO.letS (fun r3 hr3 => ?_)
        refine GO.lift (fun _ => G_put (ws' := mo_W K b r3) C 0 11 tyX10 .int dX10_nextWord_56 inlX10 uf_X10_142 tyX10_ok nmX10 rfl (by decide) rfl rfl rfl rfl rfl rfl (Nat.le_of_ble_eq_true rfl) (by cases hr3; rfl)) ?_
        refine GO.lift (fun _ => G_goto C 0 dX10_nextWord_59 rfl) ?_
        refine GO.sub [0] rfl ?_
        exact ih r3
      · refine GO.lift (fun _ => G_aload_n C 0 dX10_nextWord_49 rfl) ?_
        refine GO.lift (fun _ => G_dup C dX10_nextWord_50 rfl) ?_
        refine GO.lift (fun _ => G_get C 0 11 dX10_nextWord_51 inlX10 uf_X10_142 rfl (by decide) rfl rfl rfl) ?_
        refine GO.lift (fun _ => G_iconst C dX10_nextWord_54 (v := 1) rfl) ?_
        refine GO.lift (fun _ => G_iadd C dX10_nextWord_55) ?_
        refine GO.letS (fun r4 hr4 => ?_)
        refine GO.lift (fun _ => G_put (ws' := mo_W K b r4) C 0 11 tyX10 .int dX10_nextWord_56 inlX10 uf_X10_142 tyX10_ok nmX10 rfl (by decide) rfl rfl rfl rfl rfl rfl (Nat.le_of_ble_eq_true rfl) (by cases hr4; rfl)) ?_
        refine GO.lift (fun _ => G_goto C 0 dX10_nextWord_59 rfl) ?_
        refine GO.sub [0] rfl ?_
        exact ih r4
def o_X10_nextWord (X : SM) : Option (SM) := o_X10_nextWord_L0 4000 X
theorem c_X10_nextWord (l : Launch) (K : gK) (b : Nat → Nat) (X : SM) (r : SM) (hr : o_X10_nextWord X = some r) : Ct l K yX10_nextWord cX10_nextWord 1 none 1 [.ref (b 0)] (mo_W K b X) (none, mo_W K b r) := by
  refine Ct.of (own := RX10) (fun z => (none, mo_W K b z)) (x := r) (by decide) rfl (Nat.le_of_ble_eq_true rfl) (fun Γ C => GO.out (x := o_X10_nextWord X) ?_ hr)
  unfold o_X10_nextWord
  refine GO.sub [0] rfl ?_
  exact g_X10_nextWord_L0 C _ X
/-! X10_nextNumber -/
theorem kd_X10_nextNumber : Card yX10_nextNumber cX10_nextNumber 1 none 0 := ⟨uc_X10_nextNumber, un_X10, ⟨by decide, by decide, by decide⟩, by decide⟩
def o_X10_nextNumber_L80 (X : SM) (t0 : Int32) : Option (SM) := lt1 (sU X 8 (upd (X 8) 6 t0)) (fun r1 => some r1)
theorem g_X10_nextNumber_L80 {l : Launch} {K : gK} {Γ : gT} {b : Nat → Nat} (C : Cx l K Γ RX10 cX10_nextNumber 1 none 1) (X : SM) (t0 : Int32) : GO l K Γ (mo_W K b X) 80 1 [(0, .ref (b 0))] [.int t0, .ref (b 0)] (fun z => (none, mo_W K b z)) (o_X10_nextNumber_L80 X t0) := by
  unfold o_X10_nextNumber_L80
  refine GO.letS (fun r1 hr1 => ?_)
  refine GO.lift (fun _ => G_put (ws' := mo_W K b r1) C 0 13 tyX10 .int dX10_nextNumber_80 inlX10 uf_X10_151 tyX10_ok nmX10 rfl (by decide) rfl rfl rfl rfl rfl rfl (Nat.le_of_ble_eq_true rfl) (by cases hr1; rfl)) ?_
  exact GO.fin (G_vret C dX10_nextNumber_83 rfl)
def o_X10_nextNumber_L0 : Nat → SM → Option (SM)
  | 0, _ => none
  | fuel + 1, X => (o_X10_isDigit X (X 8 4)).bind (fun r1 => if r1 = 0 then if 2 < ((X 8 4) - (X 8 5)) then o_X10_nextNumber_L80 X 4 else o_X10_nextNumber_L80 X 2 else if ((X 8 4) - (X 8 5)) < 2 then if gin (X 8 4) 1200 = true then (lt1 (sU X 8 (upd (X 8) 7 (((10 * (X 8 7)) + ((X 6) (X 8 4).toNatClampNeg)) - 48))) (fun r2 => lt1 (sU r2 8 (upd (r2 8) 4 ((r2 8 4) + 1))) (fun r3 => o_X10_nextNumber_L0 fuel r3))) else none else lt1 (sU X 8 (upd (X 8) 4 ((X 8 4) + 1))) (fun r4 => o_X10_nextNumber_L0 fuel r4))
theorem g_X10_nextNumber_L0 {l : Launch} {K : gK} {Γ : gT} {b : Nat → Nat} (C : Cx l K Γ RX10 cX10_nextNumber 1 none 1) : ∀ (k : Nat) (X : SM), GO l K Γ (mo_W K b X) 0 1 [(0, .ref (b 0))] [] (fun z => (none, mo_W K b z)) (o_X10_nextNumber_L0 k X) := by
  intro k
  induction k with
  | zero =>
    intro X
    exact fun r hr => nomatch hr
  | succ k ih =>
    intro X
    rw [o_X10_nextNumber_L0]
    refine GO.lift (fun _ => G_aload_n C 0 dX10_nextNumber_0 rfl) ?_
    refine GO.lift (fun _ => G_aload_n C 0 dX10_nextNumber_1 rfl) ?_
    refine GO.lift (fun _ => G_get C 0 11 dX10_nextNumber_2 inlX10 uf_X10_142 rfl (by decide) rfl rfl rfl) ?_
    refine GO.bind (fun r1 hr1 => ?_)
    refine GO.lift (fun _ => G_callVi C 0 10 kd_X10_isDigit ui_X10_isDigit us_X10_isDigit um_X10_161 rfl rfl (c_X10_isDigit l K b X (X 8 4) r1 hr1) dX10_nextNumber_5 rfl rfl (Nat.le_of_ble_eq_true rfl) (Nat.le_of_ble_eq_true rfl)) ?_
    refine GO_if_eq C 61 dX10_nextNumber_8 rfl (fun h1 => ?_) (fun h1 => ?_)
    · refine GO.lift (fun _ => G_aload_n C 0 dX10_nextNumber_61 rfl) ?_
      refine GO.lift (fun _ => G_aload_n C 0 dX10_nextNumber_62 rfl) ?_
      refine GO.lift (fun _ => G_get C 0 11 dX10_nextNumber_63 inlX10 uf_X10_142 rfl (by decide) rfl rfl rfl) ?_
      refine GO.lift (fun _ => G_aload_n C 0 dX10_nextNumber_66 rfl) ?_
      refine GO.lift (fun _ => G_get C 0 12 dX10_nextNumber_67 inlX10 uf_X10_145 rfl (by decide) rfl rfl rfl) ?_
      refine GO.lift (fun _ => G_isub C dX10_nextNumber_70) ?_
      refine GO.lift (fun _ => G_iconst C dX10_nextNumber_71 (v := 2) rfl) ?_
      refine GO_icmp_le C 79 dX10_nextNumber_72 rfl (fun h2 => ?_) (fun h2 => ?_)
      · refine GO.lift (fun _ => G_iconst C dX10_nextNumber_75 (v := 4) rfl) ?_
        refine GO.lift (fun _ => G_goto C 80 dX10_nextNumber_76 rfl) ?_
        refine GO.sub [0] rfl ?_
        exact g_X10_nextNumber_L80 C X 4
      · refine GO.lift (fun _ => G_iconst C dX10_nextNumber_79 (v := 2) rfl) ?_
        refine GO.sub [0] rfl ?_
        exact g_X10_nextNumber_L80 C X 2
    · refine GO.lift (fun _ => G_aload_n C 0 dX10_nextNumber_11 rfl) ?_
      refine GO.lift (fun _ => G_get C 0 11 dX10_nextNumber_12 inlX10 uf_X10_142 rfl (by decide) rfl rfl rfl) ?_
      refine GO.lift (fun _ => G_aload_n C 0 dX10_nextNumber_15 rfl) ?_
      refine GO.lift (fun _ => G_get C 0 12 dX10_nextNumber_16 inlX10 uf_X10_145 rfl (by decide) rfl rfl rfl) ?_
      refine GO.lift (fun _ => G_isub C dX10_nextNumber_19) ?_
      refine GO.lift (fun _ => G_iconst C dX10_nextNumber_20 (v := 2) rfl) ?_
      refine GO_icmp_ge C 48 dX10_nextNumber_21 rfl (fun h3 => ?_) (fun h3 => ?_)
      · refine GO.lift (fun _ => G_aload_n C 0 dX10_nextNumber_24 rfl) ?_
        refine GO.lift (fun _ => G_bipush C dX10_nextNumber_25 (v := 10) rfl) ?_
        refine GO.lift (fun _ => G_aload_n C 0 dX10_nextNumber_27 rfl) ?_
        refine GO.lift (fun _ => G_get C 0 14 dX10_nextNumber_28 inlX10 uf_X10_148 rfl (by decide) rfl rfl rfl) ?_
        refine GO.lift (fun _ => G_imul C dX10_nextNumber_31) ?_
        refine GO.lift (fun _ => G_aload_n C 0 dX10_nextNumber_32 rfl) ?_
        refine GO.lift (fun _ => G_get C 0 7 dX10_nextNumber_33 inlX10 uf_X10_29 rfl (by decide) rfl rfl rfl) ?_
        refine GO.lift (fun _ => G_aload_n C 0 dX10_nextNumber_36 rfl) ?_
        refine GO.lift (fun _ => G_get C 0 11 dX10_nextNumber_37 inlX10 uf_X10_142 rfl (by decide) rfl rfl rfl) ?_
        refine GO.guard (fun h4 => ?_)
        refine GO.lift (fun _ => G_iald C 7 dX10_nextNumber_40 rfl (gin_in h4)) ?_
        refine GO.lift (fun _ => G_iadd C dX10_nextNumber_41) ?_
        refine GO.lift (fun _ => G_bipush C dX10_nextNumber_42 (v := 48) rfl) ?_
        refine GO.lift (fun _ => G_isub C dX10_nextNumber_44) ?_
        refine GO.letS (fun r2 hr2 => ?_)
        refine GO.lift (fun _ => G_put (ws' := mo_W K b r2) C 0 14 tyX10 .int dX10_nextNumber_45 inlX10 uf_X10_148 tyX10_ok nmX10 rfl (by decide) rfl rfl rfl rfl rfl rfl (Nat.le_of_ble_eq_true rfl) (by cases hr2; rfl)) ?_
        refine GO.lift (fun _ => G_aload_n C 0 dX10_nextNumber_48 rfl) ?_
        refine GO.lift (fun _ => G_dup C dX10_nextNumber_49 rfl) ?_
        refine GO.lift (fun _ => G_get C 0 11 dX10_nextNumber_50 inlX10 uf_X10_142 rfl (by decide) rfl rfl rfl) ?_
        refine GO.lift (fun _ => G_iconst C dX10_nextNumber_53 (v := 1) rfl) ?_
        refine GO.lift (fun _ => G_iadd C dX10_nextNumber_54) ?_
        refine GO.letS (fun r3 hr3 => ?_)
        refine GO.lift (fun _ => G_put (ws' := mo_W K b r3) C 0 11 tyX10 .int dX10_nextNumber_55 inlX10 uf_X10_142 tyX10_ok nmX10 rfl (by decide) rfl rfl rfl rfl rfl rfl (Nat.le_of_ble_eq_true rfl) (by cases hr3; rfl)) ?_
        refine GO.lift (fun _ => G_goto C 0 dX10_nextNumber_58 rfl) ?_
        refine GO.sub [0] rfl ?_
        exact ih r3
      · refine GO.lift (fun _ => G_aload_n C 0 dX10_nextNumber_48 rfl) ?_
        refine GO.lift (fun _ => G_dup C dX10_nextNumber_49 rfl) ?_
        refine GO.lift (fun _ => G_get C 0 11 dX10_nextNumber_50 inlX10 uf_X10_142 rfl (by decide) rfl rfl rfl) ?_
        refine GO.lift (fun _ => G_iconst C dX10_nextNumber_53 (v := 1) rfl) ?_
        refine GO.lift (fun _ => G_iadd C dX10_nextNumber_54) ?_
        refine GO.letS (fun r4 hr4 => ?_)
        refine GO.lift (fun _ => G_put (ws' := mo_W K b r4) C 0 11 tyX10 .int dX10_nextNumber_55 inlX10 uf_X10_142 tyX10_ok nmX10 rfl (by decide) rfl rfl rfl rfl rfl rfl (Nat.le_of_ble_eq_true rfl) (by cases hr4; rfl)) ?_
        refine GO.lift (fun _ => G_goto C 0 dX10_nextNumber_58 rfl) ?_
        refine GO.sub [0] rfl ?_
        exact ih r4
def o_X10_nextNumber (X : SM) : Option (SM) := o_X10_nextNumber_L0 4000 X
theorem c_X10_nextNumber (l : Launch) (K : gK) (b : Nat → Nat) (X : SM) (r : SM) (hr : o_X10_nextNumber X = some r) : Ct l K yX10_nextNumber cX10_nextNumber 1 none 1 [.ref (b 0)] (mo_W K b X) (none, mo_W K b r) := by
  refine Ct.of (own := RX10) (fun z => (none, mo_W K b z)) (x := r) (by decide) rfl (Nat.le_of_ble_eq_true rfl) (fun Γ C => GO.out (x := o_X10_nextNumber X) ?_ hr)
  unfold o_X10_nextNumber
  refine GO.sub [0] rfl ?_
  exact g_X10_nextNumber_L0 C _ X
