-- PART 08, go on (by gen/mkmodel.py)
/-! X10_writtenAt -/
theorem kd_X10_writtenAt : Card yX10_writtenAt cX10_writtenAt 2 (some .int) 1 := ⟨uc_X10_writtenAt, un_X10, ⟨by decide, by decide, by decide⟩, by decide⟩
def o_X10_writtenAt (X : SM) (x1 : Int32) : Option (Int32) := if x1 < (X 8 9) then if gin x1 1300 = true then (some ((X 7) x1.toNatClampNeg)) else none else some (-2)
theorem c_X10_writtenAt (l : Launch) (K : gK) (b : Nat → Nat) (X : SM) (x1 : Int32) (r : Int32) (hr : o_X10_writtenAt X x1 = some r) : Ct l K yX10_writtenAt cX10_writtenAt 2 (some .int) 0 [.ref (b 0), .int x1] (mo_W K b X) (some (.int r), mo_W K b X) := by
  refine Ct.of (own := RX10) (fun z => (some (.int z), mo_W K b X)) (x := r) (by decide) rfl (Nat.le_of_ble_eq_true rfl) (fun Γ C => GO.out (x := o_X10_writtenAt X x1) ?_ hr)
  unfold o_X10_writtenAt
  refine GO.lift (fun _ => G_iload_n C 1 dX10_writtenAt_0 rfl) ?_
  refine GO.lift (fun _ => G_aload_n C 0 dX10_writtenAt_1 rfl) ?_
  refine GO.lift (fun _ => G_get C 0 17 dX10_writtenAt_2 inlX10 uf_X10_269 rfl (by decide) rfl rfl rfl) ?_
  refine GO_icmp_ge C 17 dX10_writtenAt_5 rfl (fun h1 => ?_) (fun h1 => ?_)
  · refine GO.lift (fun _ => G_aload_n C 0 dX10_writtenAt_8 rfl) ?_
    refine GO.lift (fun _ => G_get C 0 16 dX10_writtenAt_9 inlX10 uf_X10_36 rfl (by decide) rfl rfl rfl) ?_
    refine GO.lift (fun _ => G_iload_n C 1 dX10_writtenAt_12 rfl) ?_
    refine GO.guard (fun h2 => ?_)
    refine GO.lift (fun _ => G_iald C 8 dX10_writtenAt_13 rfl (gin_in h2)) ?_
    refine GO.lift (fun _ => G_goto C 19 dX10_writtenAt_14 rfl) ?_
    exact GO.fin (G_iret C dX10_writtenAt_19 rfl)
  · refine GO.lift (fun _ => G_bipush C dX10_writtenAt_17 (v := -2) rfl) ?_
    exact GO.fin (G_iret C dX10_writtenAt_19 rfl)
/-! X10_putsNumber -/
theorem kd_X10_putsNumber : Card yX10_putsNumber cX10_putsNumber 3 none 1 := ⟨uc_X10_putsNumber, un_X10, ⟨by decide, by decide, by decide⟩, by decide⟩
def o_X10_putsNumber_L18 : Nat → SM → Int32 → Int32 → Option (SM)
  | 0, _, _, _ => none
  | fuel + 1, X, x1, x2 => if 0 < x2 then if ¬ x2 = 0 then ((o_X10_puts X (48 + (jrem (x1 / x2) 10))).bind (fun r1 => o_X10_putsNumber_L18 fuel r1 x1 (x2 / 10))) else none else some X
theorem g_X10_putsNumber_L18 {l : Launch} {K : gK} {Γ : gT} {b : Nat → Nat} (C : Cx l K Γ RX10 cX10_putsNumber 3 none 1) : ∀ (k : Nat) (X : SM) (x1 : Int32) (x2 : Int32), GO l K Γ (mo_W K b X) 18 3 [(0, .ref (b 0)), (1, .int x1), (2, .int x2)] [] (fun z => (none, mo_W K b z)) (o_X10_putsNumber_L18 k X x1 x2) := by
  intro k
  induction k with
  | zero =>
    intro X x1 x2
    exact fun r hr => nomatch hr
  | succ k ih =>
    intro X x1 x2
    rw [o_X10_putsNumber_L18]
    refine GO.lift (fun _ => G_iload_n C 2 dX10_putsNumber_18 rfl) ?_
    refine GO_if_le C 43 dX10_putsNumber_19 rfl (fun h1 => ?_) (fun h1 => ?_)
    · refine GO.lift (fun _ => G_aload_n C 0 dX10_putsNumber_22 rfl) ?_
      refine GO.lift (fun _ => G_bipush C dX10_putsNumber_23 (v := 48) rfl) ?_
      refine GO.lift (fun _ => G_iload_n C 1 dX10_putsNumber_25 rfl) ?_
      refine GO.lift (fun _ => G_iload_n C 2 dX10_putsNumber_26 rfl) ?_
      refine GO.guard (fun h2 => ?_)
      refine GO.lift (fun _ => G_idiv C dX10_putsNumber_27 h2) ?_
      refine GO.lift (fun _ => G_bipush C dX10_putsNumber_28 (v := 10) rfl) ?_
      refine GO.lift (fun _ => G_irem C dX10_putsNumber_30 (by decide)) ?_
      refine GO.lift (fun _ => G_iadd C dX10_putsNumber_31) ?_
      refine GO.bind (fun r1 hr1 => ?_)
      refine GO.lift (fun _ => G_callVv C 0 10 kd_X10_puts ui_X10_puts us_X10_puts um_X10_272 rfl rfl (c_X10_puts l K b X (48 + (jrem (x1 / x2) 10)) r1 hr1) dX10_putsNumber_32 rfl rfl (Nat.le_of_ble_eq_true rfl) (Nat.le_of_ble_eq_true rfl)) ?_
      refine GO.lift (fun _ => G_iload_n C 2 dX10_putsNumber_35 rfl) ?_
      refine GO.lift (fun _ => G_bipush C dX10_putsNumber_36 (v := 10) rfl) ?_
      refine GO.lift (fun _ => G_idiv C dX10_putsNumber_38 (by decide)) ?_
      refine GO.lift (fun _ => G_istore_n (lv' := [(2, .int (x2 / 10)), (0, .ref (b 0)), (1, .int x1)]) C dX10_putsNumber_39 (by decide) rfl) ?_
      refine GO.lift (fun _ => G_goto C 18 dX10_putsNumber_40 rfl) ?_
      refine GO.sub [1, 2, 0] rfl ?_
      exact ih r1 x1 (x2 / 10)
    · exact GO.fin (G_vret C dX10_putsNumber_43 rfl)
def o_X10_putsNumber_L2 : Nat → SM → Int32 → Int32 → Option (SM)
  | 0, _, _, _ => none
  | fuel + 1, X, x1, x2 => if (x1 / 10) < x2 then o_X10_putsNumber_L18 4000 X x1 x2 else o_X10_putsNumber_L2 fuel X x1 (x2 * 10)
theorem g_X10_putsNumber_L2 {l : Launch} {K : gK} {Γ : gT} {b : Nat → Nat} (C : Cx l K Γ RX10 cX10_putsNumber 3 none 1) : ∀ (k : Nat) (X : SM) (x1 : Int32) (x2 : Int32), GO l K Γ (mo_W K b X) 2 3 [(0, .ref (b 0)), (1, .int x1), (2, .int x2)] [] (fun z => (none, mo_W K b z)) (o_X10_putsNumber_L2 k X x1 x2) := by
  intro k
  induction k with
  | zero =>
    intro X x1 x2
    exact fun r hr => nomatch hr
  | succ k ih =>
    intro X x1 x2
    rw [o_X10_putsNumber_L2]
    refine GO.lift (fun _ => G_iload_n C 2 dX10_putsNumber_2 rfl) ?_
    refine GO.lift (fun _ => G_iload_n C 1 dX10_putsNumber_3 rfl) ?_
    refine GO.lift (fun _ => G_bipush C dX10_putsNumber_4 (v := 10) rfl) ?_
    refine GO.lift (fun _ => G_idiv C dX10_putsNumber_6 (by decide)) ?_
    refine GO_icmp_gt C 18 dX10_putsNumber_7 rfl (fun h1 => ?_) (fun h1 => ?_)
    · refine GO.sub [0, 1, 2] rfl ?_
      exact g_X10_putsNumber_L18 C _ X x1 x2
    · refine GO.lift (fun _ => G_iload_n C 2 dX10_putsNumber_10 rfl) ?_
      refine GO.lift (fun _ => G_bipush C dX10_putsNumber_11 (v := 10) rfl) ?_
      refine GO.lift (fun _ => G_imul C dX10_putsNumber_13) ?_
      refine GO.lift (fun _ => G_istore_n (lv' := [(2, .int (x2 * 10)), (0, .ref (b 0)), (1, .int x1)]) C dX10_putsNumber_14 (by decide) rfl) ?_
      refine GO.lift (fun _ => G_goto C 2 dX10_putsNumber_15 rfl) ?_
      refine GO.sub [1, 2, 0] rfl ?_
      exact ih X x1 (x2 * 10)
def o_X10_putsNumber (X : SM) (x1 : Int32) : Option (SM) := o_X10_putsNumber_L2 4000 X x1 1
theorem c_X10_putsNumber (l : Launch) (K : gK) (b : Nat → Nat) (X : SM) (x1 : Int32) (r : SM) (hr : o_X10_putsNumber X x1 = some r) : Ct l K yX10_putsNumber cX10_putsNumber 3 none 1 [.ref (b 0), .int x1] (mo_W K b X) (none, mo_W K b r) := by
  refine Ct.of (own := RX10) (fun z => (none, mo_W K b z)) (x := r) (by decide) rfl (Nat.le_of_ble_eq_true rfl) (fun Γ C => GO.out (x := o_X10_putsNumber X x1) ?_ hr)
  unfold o_X10_putsNumber
  refine GO.lift (fun _ => G_iconst C dX10_putsNumber_0 (v := 1) rfl) ?_
  refine GO.lift (fun _ => G_istore_n (lv' := [(2, .int 1), (0, .ref (b 0)), (1, .int x1)]) C dX10_putsNumber_1 (by decide) rfl) ?_
  refine GO.sub [1, 2, 0] rfl ?_
  exact g_X10_putsNumber_L2 C _ X x1 1
/-! X10_putsWith -/
theorem kd_X10_putsWith : Card yX10_putsWith cX10_putsWith 3 none 2 := ⟨uc_X10_putsWith, un_X10, ⟨by decide, by decide, by decide⟩, by decide⟩
def o_X10_putsWith (X : SM) (x1 : Int32) (x2 : Int32) : Option (SM) := (o_X10_puts X x1).bind (fun r1 => (o_X10_putsNumber r1 x2).bind (fun r2 => some r2))
theorem c_X10_putsWith (l : Launch) (K : gK) (b : Nat → Nat) (X : SM) (x1 : Int32) (x2 : Int32) (r : SM) (hr : o_X10_putsWith X x1 x2 = some r) : Ct l K yX10_putsWith cX10_putsWith 3 none 2 [.ref (b 0), .int x1, .int x2] (mo_W K b X) (none, mo_W K b r) := by
  refine Ct.of (own := RX10) (fun z => (none, mo_W K b z)) (x := r) (by decide) rfl (Nat.le_of_ble_eq_true rfl) (fun Γ C => GO.out (x := o_X10_putsWith X x1 x2) ?_ hr)
  unfold o_X10_putsWith
  refine GO.lift (fun _ => G_aload_n C 0 dX10_putsWith_0 rfl) ?_
  refine GO.lift (fun _ => G_iload_n C 1 dX10_putsWith_1 rfl) ?_
  refine GO.bind (fun r1 hr1 => ?_)
  refine GO.lift (fun _ => G_callVv C 0 10 kd_X10_puts ui_X10_puts us_X10_puts um_X10_272 rfl rfl (c_X10_puts l K b X x1 r1 hr1) dX10_putsWith_2 rfl rfl (Nat.le_of_ble_eq_true rfl) (Nat.le_of_ble_eq_true rfl)) ?_
  refine GO.lift (fun _ => G_aload_n C 0 dX10_putsWith_5 rfl) ?_
  refine GO.lift (fun _ => G_iload_n C 2 dX10_putsWith_6 rfl) ?_
  refine GO.bind (fun r2 hr2 => ?_)
  refine GO.lift (fun _ => G_callVv C 0 10 kd_X10_putsNumber ui_X10_putsNumber us_X10_putsNumber um_X10_276 rfl rfl (c_X10_putsNumber l K b r1 x2 r2 hr2) dX10_putsWith_7 rfl rfl (Nat.le_of_ble_eq_true rfl) (Nat.le_of_ble_eq_true rfl)) ?_
  exact GO.fin (G_vret C dX10_putsWith_10 rfl)
/-! X10_layList -/
theorem kd_X10_layList : Card yX10_layList cX10_layList 4 none 0 := ⟨uc_X10_layList, un_X10, ⟨by decide, by decide, by decide⟩, by decide⟩
def o_X10_layList_L67 (rc : SM → Int32 → Option (SM)) : Nat → SM → Int32 → Int32 → Int32 → Option (SM)
  | 0, _, _, _, _ => none
  | fuel + 1, X, x1, x2, x3 => if gin (v_X10_officeAt x1 4) 336 = true then (if x3 < ((X 0) (v_X10_officeAt x1 4).toNatClampNeg) then if gin (v_X10_letterAt x1 x3 1) 336 = true then ((o_X10_putsWith X 47 ((X 0) (v_X10_letterAt x1 x3 1).toNatClampNeg)).bind (fun r1 => if gin (v_X10_letterAt x1 x3 0) 336 = true then ((o_X10_putsWith r1 62 ((r1 0) (v_X10_letterAt x1 x3 0).toNatClampNeg)).bind (fun r2 => o_X10_layList_L67 rc fuel r2 x1 x2 (x3 + 1))) else none)) else none else if x2 < 0 then (o_X10_puts X 10).bind (fun r3 => rc r3 (x1 + 1)) else if gin (v_X10_tokenAt x2 0) 336 = true then ((o_X10_putsWith X 64 ((X 0) (v_X10_tokenAt x2 0).toNatClampNeg)).bind (fun r4 => (o_X10_puts r4 10).bind (fun r5 => rc r5 (x1 + 1)))) else none) else none
theorem g_X10_layList_L67 {l : Launch} {K : gK} {Γ : gT} {b : Nat → Nat} (C : Cx l K Γ RX10 cX10_layList 4 none 3) (rc : SM → Int32 → Option (SM)) (hrc : ∀ (X : SM) (x1 : Int32), GO l K Γ (mo_W K b X) 7 4 [(0, .ref (b 0)), (1, .int x1)] [] (fun z => (none, mo_W K b z)) (rc X x1)) : ∀ (k : Nat) (X : SM) (x1 : Int32) (x2 : Int32) (x3 : Int32), GO l K Γ (mo_W K b X) 67 4 [(0, .ref (b 0)), (1, .int x1), (2, .int x2), (3, .int x3)] [] (fun z => (none, mo_W K b z)) (o_X10_layList_L67 rc k X x1 x2 x3) := by
  intro k
  induction k with
  | zero =>
    intro X x1 x2 x3
    exact fun r hr => nomatch hr
  | succ k ih =>
    intro X x1 x2 x3
    rw [o_X10_layList_L67]
    refine GO.lift (fun _ => G_iload_n C 3 dX10_layList_67 rfl) ?_
    refine GO.lift (fun _ => G_aload_n C 0 dX10_layList_68 rfl) ?_
    refine GO.lift (fun _ => G_get C 0 0 dX10_layList_69 inlX10 uf_X10_7 rfl (by decide) rfl rfl rfl) ?_
    refine GO.lift (fun _ => G_iload_n C 1 dX10_layList_72 rfl) ?_
    refine GO.lift (fun _ => G_iconst C dX10_layList_73 (v := 4) rfl) ?_
    refine GO.lift (fun _ => G_callSi C kd_X10_officeAt ut_X10_officeAt um_X10_54 (c_X10_officeAt l K (mo_W K b X) x1 4) dX10_layList_74 rfl rfl (Nat.le_of_ble_eq_true rfl) (Nat.le_of_ble_eq_true rfl)) ?_
    refine GO.guard (fun h1 => ?_)
    refine GO.lift (fun _ => G_iald C 1 dX10_layList_77 rfl (gin_in h1)) ?_
    refine GO_icmp_ge C 121 dX10_layList_78 rfl (fun h2 => ?_) (fun h2 => ?_)
    · refine GO.lift (fun _ => G_aload_n C 0 dX10_layList_81 rfl) ?_
      refine GO.lift (fun _ => G_bipush C dX10_layList_82 (v := 47) rfl) ?_
      refine GO.lift (fun _ => G_aload_n C 0 dX10_layList_84 rfl) ?_
      refine GO.lift (fun _ => G_get C 0 0 dX10_layList_85 inlX10 uf_X10_7 rfl (by decide) rfl rfl rfl) ?_
      refine GO.lift (fun _ => G_iload_n C 1 dX10_layList_88 rfl) ?_
      refine GO.lift (fun _ => G_iload_n C 3 dX10_layList_89 rfl) ?_
      refine GO.lift (fun _ => G_iconst C dX10_layList_90 (v := 1) rfl) ?_
      refine GO.lift (fun _ => G_callSi C kd_X10_letterAt ut_X10_letterAt um_X10_62 (c_X10_letterAt l K (mo_W K b X) x1 x3 1) dX10_layList_91 rfl rfl (Nat.le_of_ble_eq_true rfl) (Nat.le_of_ble_eq_true rfl)) ?_
      refine GO.guard (fun h3 => ?_)
      refine GO.lift (fun _ => G_iald C 1 dX10_layList_94 rfl (gin_in h3)) ?_
      refine GO.bind (fun r1 hr1 => ?_)
      refine GO.lift (fun _ => G_callVv C 0 10 kd_X10_putsWith ui_X10_putsWith us_X10_putsWith um_X10_279 rfl rfl (c_X10_putsWith l K b X 47 ((X 0) (v_X10_letterAt x1 x3 1).toNatClampNeg) r1 hr1) dX10_layList_95 rfl rfl (Nat.le_of_ble_eq_true rfl) (Nat.le_of_ble_eq_true rfl)) ?_
      refine GO.lift (fun _ => G_aload_n C 0 dX10_layList_98 rfl) ?_
      refine GO.lift (fun _ => G_bipush C dX10_layList_99 (v := 62) rfl) ?_
      refine GO.lift (fun _ => G_aload_n C 0 dX10_layList_101 rfl) ?_
      refine GO.lift (fun _ => G_get C 0 0 dX10_layList_102 inlX10 uf_X10_7 rfl (by decide) rfl rfl rfl) ?_
      refine GO.lift (fun _ => G_iload_n C 1 dX10_layList_105 rfl) ?_
      refine GO.lift (fun _ => G_iload_n C 3 dX10_layList_106 rfl) ?_
      refine GO.lift (fun _ => G_iconst C dX10_layList_107 (v := 0) rfl) ?_
      refine GO.lift (fun _ => G_callSi C kd_X10_letterAt ut_X10_letterAt um_X10_62 (c_X10_letterAt l K (mo_W K b r1) x1 x3 0) dX10_layList_108 rfl rfl (Nat.le_of_ble_eq_true rfl) (Nat.le_of_ble_eq_true rfl)) ?_
      refine GO.guard (fun h4 => ?_)
      refine GO.lift (fun _ => G_iald C 1 dX10_layList_111 rfl (gin_in h4)) ?_
      refine GO.bind (fun r2 hr2 => ?_)
      refine GO.lift (fun _ => G_callVv C 0 10 kd_X10_putsWith ui_X10_putsWith us_X10_putsWith um_X10_279 rfl rfl (c_X10_putsWith l K b r1 62 ((r1 0) (v_X10_letterAt x1 x3 0).toNatClampNeg) r2 hr2) dX10_layList_112 rfl rfl (Nat.le_of_ble_eq_true rfl) (Nat.le_of_ble_eq_true rfl)) ?_
      refine GO.lift (fun _ => G_iinc (lv' := [(3, .int (x3 + 1)), (0, .ref (b 0)), (1, .int x1), (2, .int x2)]) C 3 dX10_layList_115 rfl rfl (by decide) rfl) ?_
      refine GO.lift (fun _ => G_goto C 67 dX10_layList_118 rfl) ?_
      refine GO.sub [1, 2, 3, 0] rfl ?_
      exact ih r2 x1 x2 (x3 + 1)
    · refine GO.lift (fun _ => G_iload_n C 2 dX10_layList_121 rfl) ?_
      refine GO_if_lt C 141 dX10_layList_122 rfl (fun h5 => ?_) (fun h5 => ?_)
      · refine GO.lift (fun _ => G_aload_n C 0 dX10_layList_141 rfl) ?_
        refine GO.lift (fun _ => G_bipush C dX10_layList_142 (v := 10) rfl) ?_
        refine GO.bind (fun r3 hr3 => ?_)
        refine GO.lift (fun _ => G_callVv C 0 10 kd_X10_puts ui_X10_puts us_X10_puts um_X10_272 rfl rfl (c_X10_puts l K b X 10 r3 hr3) dX10_layList_144 rfl rfl (Nat.le_of_ble_eq_true rfl) (Nat.le_of_ble_eq_true rfl)) ?_
        refine GO.lift (fun _ => G_iinc (lv' := [(1, .int (x1 + 1)), (0, .ref (b 0)), (2, .int x2), (3, .int x3)]) C 1 dX10_layList_147 rfl rfl (by decide) rfl) ?_
        refine GO.lift (fun _ => G_goto C 7 dX10_layList_150 rfl) ?_
        refine GO.sub [1, 0] rfl ?_
        exact hrc r3 (x1 + 1)
      · refine GO.lift (fun _ => G_aload_n C 0 dX10_layList_125 rfl) ?_
        refine GO.lift (fun _ => G_bipush C dX10_layList_126 (v := 64) rfl) ?_
        refine GO.lift (fun _ => G_aload_n C 0 dX10_layList_128 rfl) ?_
        refine GO.lift (fun _ => G_get C 0 0 dX10_layList_129 inlX10 uf_X10_7 rfl (by decide) rfl rfl rfl) ?_
        refine GO.lift (fun _ => G_iload_n C 2 dX10_layList_132 rfl) ?_
        refine GO.lift (fun _ => G_iconst C dX10_layList_133 (v := 0) rfl) ?_
        refine GO.lift (fun _ => G_callSi C kd_X10_tokenAt ut_X10_tokenAt um_X10_66 (c_X10_tokenAt l K (mo_W K b X) x2 0) dX10_layList_134 rfl rfl (Nat.le_of_ble_eq_true rfl) (Nat.le_of_ble_eq_true rfl)) ?_
        refine GO.guard (fun h6 => ?_)
        refine GO.lift (fun _ => G_iald C 1 dX10_layList_137 rfl (gin_in h6)) ?_
        refine GO.bind (fun r4 hr4 => ?_)
        refine GO.lift (fun _ => G_callVv C 0 10 kd_X10_putsWith ui_X10_putsWith us_X10_putsWith um_X10_279 rfl rfl (c_X10_putsWith l K b X 64 ((X 0) (v_X10_tokenAt x2 0).toNatClampNeg) r4 hr4) dX10_layList_138 rfl rfl (Nat.le_of_ble_eq_true rfl) (Nat.le_of_ble_eq_true rfl)) ?_
        refine GO.lift (fun _ => G_aload_n C 0 dX10_layList_141 rfl) ?_
        refine GO.lift (fun _ => G_bipush C dX10_layList_142 (v := 10) rfl) ?_
        refine GO.bind (fun r5 hr5 => ?_)
        refine GO.lift (fun _ => G_callVv C 0 10 kd_X10_puts ui_X10_puts us_X10_puts um_X10_272 rfl rfl (c_X10_puts l K b r4 10 r5 hr5) dX10_layList_144 rfl rfl (Nat.le_of_ble_eq_true rfl) (Nat.le_of_ble_eq_true rfl)) ?_
        refine GO.lift (fun _ => G_iinc (lv' := [(1, .int (x1 + 1)), (0, .ref (b 0)), (2, .int x2), (3, .int x3)]) C 1 dX10_layList_147 rfl rfl (by decide) rfl) ?_
        refine GO.lift (fun _ => G_goto C 7 dX10_layList_150 rfl) ?_
        refine GO.sub [1, 0] rfl ?_
        exact hrc r5 (x1 + 1)
def o_X10_layList_L7 : Nat → SM → Int32 → Option (SM)
  | 0, _, _ => none
  | fuel + 1, X, x1 => if x1 < ((X 0) (4 : Int32).toNatClampNeg) then (o_X10_tokenOn (X 0) x1 0).bind (fun r1 => (o_X10_putsNumber X x1).bind (fun r2 => if gin (v_X10_officeAt x1 1) 336 = true then ((o_X10_putsWith r2 58 ((r2 0) (v_X10_officeAt x1 1).toNatClampNeg)).bind (fun r3 => (o_X10_isOpen (r3 0) x1).bind (fun r4 => if r4 = 0 then (o_X10_puts r3 120).bind (fun r5 => o_X10_layList_L67 (fun S0 yx1 => o_X10_layList_L7 fuel S0 yx1) 4000 r5 x1 r1 0) else o_X10_layList_L67 (fun S0 yx1 => o_X10_layList_L7 fuel S0 yx1) 4000 r3 x1 r1 0))) else none)) else some X
theorem g_X10_layList_L7 {l : Launch} {K : gK} {Γ : gT} {b : Nat → Nat} (C : Cx l K Γ RX10 cX10_layList 4 none 3) : ∀ (k : Nat) (X : SM) (x1 : Int32), GO l K Γ (mo_W K b X) 7 4 [(0, .ref (b 0)), (1, .int x1)] [] (fun z => (none, mo_W K b z)) (o_X10_layList_L7 k X x1) := by
  intro k
  induction k with
  | zero =>
    intro X x1
    exact fun r hr => nomatch hr
  | succ k ih =>
    intro X x1
    rw [o_X10_layList_L7]
    refine GO.lift (fun _ => G_iload_n C 1 dX10_layList_7 rfl) ?_
    refine GO.lift (fun _ => G_aload_n C 0 dX10_layList_8 rfl) ?_
    refine GO.lift (fun _ => G_get C 0 0 dX10_layList_9 inlX10 uf_X10_7 rfl (by decide) rfl rfl rfl) ?_
    refine GO.lift (fun _ => G_iconst C dX10_layList_12 (v := 4) rfl) ?_
    refine GO.lift (fun _ => G_iald C 1 dX10_layList_13 rfl (by unfold vp_in; decide)) ?_
    refine GO_icmp_ge C 153 dX10_layList_14 rfl (fun h1 => ?_) (fun h1 => ?_)
    · refine GO.lift (fun _ => G_aload_n C 0 dX10_layList_17 rfl) ?_
      refine GO.lift (fun _ => G_get C 0 0 dX10_layList_18 inlX10 uf_X10_7 rfl (by decide) rfl rfl rfl) ?_
      refine GO.lift (fun _ => G_iload_n C 1 dX10_layList_21 rfl) ?_
      refine GO.lift (fun _ => G_iconst C dX10_layList_22 (v := 0) rfl) ?_
      refine GO.bind (fun r1 hr1 => ?_)
      refine GO.lift (fun _ => G_callSi C kd_X10_tokenOn ut_X10_tokenOn um_X10_107 (Ct.to (r' := (some (.int r1), mo_W K b X)) (Ct.from (c_X10_tokenOn l K (ws := mo_W K b X) (q := 1) (ad := b 1) (Nat.le_of_ble_eq_true rfl) (X 0) x1 0 r1 hr1) rfl) rfl) dX10_layList_23 rfl rfl (Nat.le_of_ble_eq_true rfl) (Nat.le_of_ble_eq_true rfl)) ?_
      refine GO.lift (fun _ => G_istore_n (lv' := [(2, .int r1), (0, .ref (b 0)), (1, .int x1)]) C dX10_layList_26 (by decide) rfl) ?_
      refine GO.lift (fun _ => G_aload_n C 1 dX10_layList_27 rfl) ?_
      refine GO.lift (fun _ => G_iload_n C 2 dX10_layList_28 rfl) ?_
      refine GO.bind (fun r2 hr2 => ?_)
      refine GO.lift (fun _ => G_callVv C 0 10 kd_X10_putsNumber ui_X10_putsNumber us_X10_putsNumber um_X10_276 rfl rfl (c_X10_putsNumber l K b X x1 r2 hr2) dX10_layList_29 rfl rfl (Nat.le_of_ble_eq_true rfl) (Nat.le_of_ble_eq_true rfl)) ?_
      refine GO.lift (fun _ => G_aload_n C 1 dX10_layList_32 rfl) ?_
      refine GO.lift (fun _ => G_bipush C dX10_layList_33 (v := 58) rfl) ?_
      refine GO.lift (fun _ => G_aload_n C 1 dX10_layList_35 rfl) ?_
      refine GO.lift (fun _ => G_get C 0 0 dX10_layList_36 inlX10 uf_X10_7 rfl (by decide) rfl rfl rfl) ?_
      refine GO.lift (fun _ => G_iload_n C 2 dX10_layList_39 rfl) ?_
      refine GO.lift (fun _ => G_iconst C dX10_layList_40 (v := 1) rfl) ?_
      refine GO.lift (fun _ => G_callSi C kd_X10_officeAt ut_X10_officeAt um_X10_54 (c_X10_officeAt l K (mo_W K b r2) x1 1) dX10_layList_41 rfl rfl (Nat.le_of_ble_eq_true rfl) (Nat.le_of_ble_eq_true rfl)) ?_
      refine GO.guard (fun h2 => ?_)
      refine GO.lift (fun _ => G_iald C 1 dX10_layList_44 rfl (gin_in h2)) ?_
      refine GO.bind (fun r3 hr3 => ?_)
      refine GO.lift (fun _ => G_callVv C 0 10 kd_X10_putsWith ui_X10_putsWith us_X10_putsWith um_X10_279 rfl rfl (c_X10_putsWith l K b r2 58 ((r2 0) (v_X10_officeAt x1 1).toNatClampNeg) r3 hr3) dX10_layList_45 rfl rfl (Nat.le_of_ble_eq_true rfl) (Nat.le_of_ble_eq_true rfl)) ?_
      refine GO.lift (fun _ => G_aload_n C 1 dX10_layList_48 rfl) ?_
      refine GO.lift (fun _ => G_get C 0 0 dX10_layList_49 inlX10 uf_X10_7 rfl (by decide) rfl rfl rfl) ?_
      refine GO.lift (fun _ => G_iload_n C 2 dX10_layList_52 rfl) ?_
      refine GO.bind (fun r4 hr4 => ?_)
      refine GO.lift (fun _ => G_callSi C kd_X10_isOpen ut_X10_isOpen um_X10_73 (Ct.to (r' := (some (.int r4), mo_W K b r3)) (Ct.from (c_X10_isOpen l K (ws := mo_W K b r3) (q := 1) (ad := b 1) (Nat.le_of_ble_eq_true rfl) (r3 0) x1 r4 hr4) rfl) rfl) dX10_layList_53 rfl rfl (Nat.le_of_ble_eq_true rfl) (Nat.le_of_ble_eq_true rfl)) ?_
      refine GO_if_ne C 65 dX10_layList_56 rfl (fun h3 => ?_) (fun h3 => ?_)
      · refine GO.lift (fun _ => G_aload_n C 1 dX10_layList_59 rfl) ?_
        refine GO.lift (fun _ => G_bipush C dX10_layList_60 (v := 120) rfl) ?_
        refine GO.bind (fun r5 hr5 => ?_)
        refine GO.lift (fun _ => G_callVv C 0 10 kd_X10_puts ui_X10_puts us_X10_puts um_X10_272 rfl rfl (c_X10_puts l K b r3 120 r5 hr5) dX10_layList_62 rfl rfl (Nat.le_of_ble_eq_true rfl) (Nat.le_of_ble_eq_true rfl)) ?_
        refine GO.lift (fun _ => G_iconst C dX10_layList_65 (v := 0) rfl) ?_
        refine GO.lift (fun _ => G_istore_n (lv' := [(3, .int 0), (2, .int r1), (0, .ref (b 0)), (1, .int x1)]) C dX10_layList_66 (by decide) rfl) ?_
        refine GO.sub [2, 3, 1, 0] rfl ?_
        exact g_X10_layList_L67 C _ (fun S0 yx1 => ih S0 yx1) _ r5 x1 r1 0
      · refine GO.lift (fun _ => G_iconst C dX10_layList_65 (v := 0) rfl) ?_
        refine GO.lift (fun _ => G_istore_n (lv' := [(3, .int 0), (2, .int r1), (0, .ref (b 0)), (1, .int x1)]) C dX10_layList_66 (by decide) rfl) ?_
        refine GO.sub [2, 3, 1, 0] rfl ?_
        exact g_X10_layList_L67 C _ (fun S0 yx1 => ih S0 yx1) _ r3 x1 r1 0
    · exact GO.fin (G_vret C dX10_layList_153 rfl)
def o_X10_layList (X : SM) : Option (SM) := lt1 (sU X 8 (upd (X 8) 9 0)) (fun r1 => o_X10_layList_L7 4000 r1 0)
theorem c_X10_layList (l : Launch) (K : gK) (b : Nat → Nat) (X : SM) (r : SM) (hr : o_X10_layList X = some r) : Ct l K yX10_layList cX10_layList 4 none 3 [.ref (b 0)] (mo_W K b X) (none, mo_W K b r) := by
  refine Ct.of (own := RX10) (fun z => (none, mo_W K b z)) (x := r) (by decide) rfl (Nat.le_of_ble_eq_true rfl) (fun Γ C => GO.out (x := o_X10_layList X) ?_ hr)
  unfold o_X10_layList
  refine GO.lift (fun _ => G_aload_n C 0 dX10_layList_0 rfl) ?_
  refine GO.lift (fun _ => G_iconst C dX10_layList_1 (v := 0) rfl) ?_
  refine GO.letS (fun r1 hr1 => ?_)
  refine GO.lift (fun _ => G_put (ws' := mo_W K b r1) C 0 17 tyX10 .int dX10_layList_2 inlX10 uf_X10_269 tyX10_ok nmX10 rfl (by decide) rfl rfl rfl rfl rfl rfl (Nat.le_of_ble_eq_true rfl) (by cases hr1; rfl)) ?_
  refine GO.lift (fun _ => G_iconst C dX10_layList_5 (v := 0) rfl) ?_
  refine GO.lift (fun _ => G_istore_n (lv' := [(1, .int 0), (0, .ref (b 0))]) C dX10_layList_6 (by decide) rfl) ?_
  refine GO.sub [1, 0] rfl ?_
  exact g_X10_layList_L7 C _ r1 0
/-! X10_listLength -/
theorem kd_X10_listLength : Card yX10_listLength cX10_listLength 1 (some .int) 0 := ⟨uc_X10_listLength, un_X10, ⟨by decide, by decide, by decide⟩, by decide⟩
def o_X10_listLength (X : SM) : Option (Int32 × SM) := (o_X10_layList X ).bind (fun r1 => some ((r1 8 9, r1)))
theorem c_X10_listLength (l : Launch) (K : gK) (b : Nat → Nat) (X : SM) (r : Int32 × SM) (hr : o_X10_listLength X = some r) : Ct l K yX10_listLength cX10_listLength 1 (some .int) 4 [.ref (b 0)] (mo_W K b X) (some (.int r.1), mo_W K b r.2) := by
  refine Ct.of (own := RX10) (fun (z : Int32 × SM) => (some (.int z.1), mo_W K b z.2)) (x := r) (by decide) rfl (Nat.le_of_ble_eq_true rfl) (fun Γ C => GO.out (x := o_X10_listLength X) ?_ hr)
  unfold o_X10_listLength
  refine GO.lift (fun _ => G_aload_n C 0 dX10_listLength_0 rfl) ?_
  refine GO.bind (fun r1 hr1 => ?_)
  refine GO.lift (fun _ => G_callVv C 0 10 kd_X10_layList ui_X10_layList us_X10_layList um_X10_283 rfl rfl (c_X10_layList l K b X  r1 hr1) dX10_listLength_1 rfl rfl (Nat.le_of_ble_eq_true rfl) (Nat.le_of_ble_eq_true rfl)) ?_
  refine GO.lift (fun _ => G_aload_n C 0 dX10_listLength_4 rfl) ?_
  refine GO.lift (fun _ => G_get C 0 17 dX10_listLength_5 inlX10 uf_X10_269 rfl (by decide) rfl rfl rfl) ?_
  exact GO.fin (G_iret C dX10_listLength_8 rfl)
/-! X10_listByte -/
theorem kd_X10_listByte : Card yX10_listByte cX10_listByte 2 (some .int) 1 := ⟨uc_X10_listByte, un_X10, ⟨by decide, by decide, by decide⟩, by decide⟩
def o_X10_listByte (X : SM) (x1 : Int32) : Option (Int32 × SM) := if x1 < 0 then some ((-1, X)) else (o_X10_layList X ).bind (fun r1 => (o_X10_writtenAt r1 x1).bind (fun r2 => some ((r2, r1))))
theorem c_X10_listByte (l : Launch) (K : gK) (b : Nat → Nat) (X : SM) (x1 : Int32) (r : Int32 × SM) (hr : o_X10_listByte X x1 = some r) : Ct l K yX10_listByte cX10_listByte 2 (some .int) 4 [.ref (b 0), .int x1] (mo_W K b X) (some (.int r.1), mo_W K b r.2) := by
  refine Ct.of (own := RX10) (fun (z : Int32 × SM) => (some (.int z.1), mo_W K b z.2)) (x := r) (by decide) rfl (Nat.le_of_ble_eq_true rfl) (fun Γ C => GO.out (x := o_X10_listByte X x1) ?_ hr)
  unfold o_X10_listByte
  refine GO.lift (fun _ => G_iload_n C 1 dX10_listByte_0 rfl) ?_
  refine GO_if_ge C 6 dX10_listByte_1 rfl (fun h1 => ?_) (fun h1 => ?_)
  · refine GO.lift (fun _ => G_iconst C dX10_listByte_4 (v := -1) rfl) ?_
    exact GO.fin (G_iret C dX10_listByte_5 rfl)
  · refine GO.lift (fun _ => G_aload_n C 0 dX10_listByte_6 rfl) ?_
    refine GO.bind (fun r1 hr1 => ?_)
    refine GO.lift (fun _ => G_callVv C 0 10 kd_X10_layList ui_X10_layList us_X10_layList um_X10_283 rfl rfl (c_X10_layList l K b X  r1 hr1) dX10_listByte_7 rfl rfl (Nat.le_of_ble_eq_true rfl) (Nat.le_of_ble_eq_true rfl)) ?_
    refine GO.lift (fun _ => G_aload_n C 0 dX10_listByte_10 rfl) ?_
    refine GO.lift (fun _ => G_iload_n C 1 dX10_listByte_11 rfl) ?_
    refine GO.bind (fun r2 hr2 => ?_)
    refine GO.lift (fun _ => G_callVi C 0 10 kd_X10_writtenAt ui_X10_writtenAt us_X10_writtenAt um_X10_286 rfl rfl (c_X10_writtenAt l K b r1 x1 r2 hr2) dX10_listByte_12 rfl rfl (Nat.le_of_ble_eq_true rfl) (Nat.le_of_ble_eq_true rfl)) ?_
    exact GO.fin (G_iret C dX10_listByte_15 rfl)
/-! X10_putsWord -/
theorem kd_X10_putsWord : Card yX10_putsWord cX10_putsWord 3 none 1 := ⟨uc_X10_putsWord, un_X10, ⟨by decide, by decide, by decide⟩, by decide⟩
def o_X10_putsWord_L18 : Nat → SM → Int32 → Int32 → Option (SM)
  | 0, _, _, _ => none
  | fuel + 1, X, x1, x2 => if 0 < x2 then if ¬ x2 = 0 then ((o_X10_puts X (96 + (jrem (x1 / x2) 27))).bind (fun r1 => o_X10_putsWord_L18 fuel r1 x1 (x2 / 27))) else none else some X
theorem g_X10_putsWord_L18 {l : Launch} {K : gK} {Γ : gT} {b : Nat → Nat} (C : Cx l K Γ RX10 cX10_putsWord 3 none 1) : ∀ (k : Nat) (X : SM) (x1 : Int32) (x2 : Int32), GO l K Γ (mo_W K b X) 18 3 [(0, .ref (b 0)), (1, .int x1), (2, .int x2)] [] (fun z => (none, mo_W K b z)) (o_X10_putsWord_L18 k X x1 x2) := by
  intro k
  induction k with
  | zero =>
    intro X x1 x2
    exact fun r hr => nomatch hr
  | succ k ih =>
    intro X x1 x2
    rw [o_X10_putsWord_L18]
    refine GO.lift (fun _ => G_iload_n C 2 dX10_putsWord_18 rfl) ?_
    refine GO_if_le C 43 dX10_putsWord_19 rfl (fun h1 => ?_) (fun h1 => ?_)
    · refine GO.lift (fun _ => G_aload_n C 0 dX10_putsWord_22 rfl) ?_
      refine GO.lift (fun _ => G_bipush C dX10_putsWord_23 (v := 96) rfl) ?_
      refine GO.lift (fun _ => G_iload_n C 1 dX10_putsWord_25 rfl) ?_
      refine GO.lift (fun _ => G_iload_n C 2 dX10_putsWord_26 rfl) ?_
      refine GO.guard (fun h2 => ?_)
      refine GO.lift (fun _ => G_idiv C dX10_putsWord_27 h2) ?_
      refine GO.lift (fun _ => G_bipush C dX10_putsWord_28 (v := 27) rfl) ?_
      refine GO.lift (fun _ => G_irem C dX10_putsWord_30 (by decide)) ?_
      refine GO.lift (fun _ => G_iadd C dX10_putsWord_31) ?_
      refine GO.bind (fun r1 hr1 => ?_)
      refine GO.lift (fun _ => G_callVv C 0 10 kd_X10_puts ui_X10_puts us_X10_puts um_X10_272 rfl rfl (c_X10_puts l K b X (96 + (jrem (x1 / x2) 27)) r1 hr1) dX10_putsWord_32 rfl rfl (Nat.le_of_ble_eq_true rfl) (Nat.le_of_ble_eq_true rfl)) ?_
      refine GO.lift (fun _ => G_iload_n C 2 dX10_putsWord_35 rfl) ?_
      refine GO.lift (fun _ => G_bipush C dX10_putsWord_36 (v := 27) rfl) ?_
      refine GO.lift (fun _ => G_idiv C dX10_putsWord_38 (by decide)) ?_
      refine GO.lift (fun _ => G_istore_n (lv' := [(2, .int (x2 / 27)), (0, .ref (b 0)), (1, .int x1)]) C dX10_putsWord_39 (by decide) rfl) ?_
      refine GO.lift (fun _ => G_goto C 18 dX10_putsWord_40 rfl) ?_
      refine GO.sub [1, 2, 0] rfl ?_
      exact ih r1 x1 (x2 / 27)
    · exact GO.fin (G_vret C dX10_putsWord_43 rfl)
def o_X10_putsWord_L2 : Nat → SM → Int32 → Int32 → Option (SM)
  | 0, _, _, _ => none
  | fuel + 1, X, x1, x2 => if (x1 / 27) < x2 then o_X10_putsWord_L18 4000 X x1 x2 else o_X10_putsWord_L2 fuel X x1 (x2 * 27)
theorem g_X10_putsWord_L2 {l : Launch} {K : gK} {Γ : gT} {b : Nat → Nat} (C : Cx l K Γ RX10 cX10_putsWord 3 none 1) : ∀ (k : Nat) (X : SM) (x1 : Int32) (x2 : Int32), GO l K Γ (mo_W K b X) 2 3 [(0, .ref (b 0)), (1, .int x1), (2, .int x2)] [] (fun z => (none, mo_W K b z)) (o_X10_putsWord_L2 k X x1 x2) := by
  intro k
  induction k with
  | zero =>
    intro X x1 x2
    exact fun r hr => nomatch hr
  | succ k ih =>
    intro X x1 x2
    rw [o_X10_putsWord_L2]
    refine GO.lift (fun _ => G_iload_n C 2 dX10_putsWord_2 rfl) ?_
    refine GO.lift (fun _ => G_iload_n C 1 dX10_putsWord_3 rfl) ?_
    refine GO.lift (fun _ => G_bipush C dX10_putsWord_4 (v := 27) rfl) ?_
    refine GO.lift (fun _ => G_idiv C dX10_putsWord_6 (by decide)) ?_
    refine GO_icmp_gt C 18 dX10_putsWord_7 rfl (fun h1 => ?_) (fun h1 => ?_)
    · refine GO.sub [0, 1, 2] rfl ?_
      exact g_X10_putsWord_L18 C _ X x1 x2
    · refine GO.lift (fun _ => G_iload_n C 2 dX10_putsWord_10 rfl) ?_
      refine GO.lift (fun _ => G_bipush C dX10_putsWord_11 (v := 27) rfl) ?_
      refine GO.lift (fun _ => G_imul C dX10_putsWord_13) ?_
      refine GO.lift (fun _ => G_istore_n (lv' := [(2, .int (x2 * 27)), (0, .ref (b 0)), (1, .int x1)]) C dX10_putsWord_14 (by decide) rfl) ?_
      refine GO.lift (fun _ => G_goto C 2 dX10_putsWord_15 rfl) ?_
      refine GO.sub [1, 2, 0] rfl ?_
      exact ih X x1 (x2 * 27)
def o_X10_putsWord (X : SM) (x1 : Int32) : Option (SM) := o_X10_putsWord_L2 4000 X x1 1
theorem c_X10_putsWord (l : Launch) (K : gK) (b : Nat → Nat) (X : SM) (x1 : Int32) (r : SM) (hr : o_X10_putsWord X x1 = some r) : Ct l K yX10_putsWord cX10_putsWord 3 none 1 [.ref (b 0), .int x1] (mo_W K b X) (none, mo_W K b r) := by
  refine Ct.of (own := RX10) (fun z => (none, mo_W K b z)) (x := r) (by decide) rfl (Nat.le_of_ble_eq_true rfl) (fun Γ C => GO.out (x := o_X10_putsWord X x1) ?_ hr)
  unfold o_X10_putsWord
  refine GO.lift (fun _ => G_iconst C dX10_putsWord_0 (v := 1) rfl) ?_
  refine GO.lift (fun _ => G_istore_n (lv' := [(2, .int 1), (0, .ref (b 0)), (1, .int x1)]) C dX10_putsWord_1 (by decide) rfl) ?_
  refine GO.sub [1, 2, 0] rfl ?_
  exact g_X10_putsWord_L2 C _ X x1 1
/-! X10_putsRule -/
theorem kd_X10_putsRule : Card yX10_putsRule cX10_putsRule 3 none 2 := ⟨uc_X10_putsRule, un_X10, ⟨by decide, by decide, by decide⟩, by decide⟩
def o_X10_putsRule (X : SM) (x1 : Int32) (x2 : Int32) : Option (SM) := (o_X10_putsWord X x1).bind (fun r1 => (o_X10_putsWith r1 32 x2).bind (fun r2 => some r2))
theorem c_X10_putsRule (l : Launch) (K : gK) (b : Nat → Nat) (X : SM) (x1 : Int32) (x2 : Int32) (r : SM) (hr : o_X10_putsRule X x1 x2 = some r) : Ct l K yX10_putsRule cX10_putsRule 3 none 3 [.ref (b 0), .int x1, .int x2] (mo_W K b X) (none, mo_W K b r) := by
  refine Ct.of (own := RX10) (fun z => (none, mo_W K b z)) (x := r) (by decide) rfl (Nat.le_of_ble_eq_true rfl) (fun Γ C => GO.out (x := o_X10_putsRule X x1 x2) ?_ hr)
  unfold o_X10_putsRule
  refine GO.lift (fun _ => G_aload_n C 0 dX10_putsRule_0 rfl) ?_
  refine GO.lift (fun _ => G_iload_n C 1 dX10_putsRule_1 rfl) ?_
  refine GO.bind (fun r1 hr1 => ?_)
  refine GO.lift (fun _ => G_callVv C 0 10 kd_X10_putsWord ui_X10_putsWord us_X10_putsWord um_X10_289 rfl rfl (c_X10_putsWord l K b X x1 r1 hr1) dX10_putsRule_2 rfl rfl (Nat.le_of_ble_eq_true rfl) (Nat.le_of_ble_eq_true rfl)) ?_
  refine GO.lift (fun _ => G_aload_n C 0 dX10_putsRule_5 rfl) ?_
  refine GO.lift (fun _ => G_bipush C dX10_putsRule_6 (v := 32) rfl) ?_
  refine GO.lift (fun _ => G_iload_n C 2 dX10_putsRule_8 rfl) ?_
  refine GO.bind (fun r2 hr2 => ?_)
  refine GO.lift (fun _ => G_callVv C 0 10 kd_X10_putsWith ui_X10_putsWith us_X10_putsWith um_X10_279 rfl rfl (c_X10_putsWith l K b r1 32 x2 r2 hr2) dX10_putsRule_9 rfl rfl (Nat.le_of_ble_eq_true rfl) (Nat.le_of_ble_eq_true rfl)) ?_
  exact GO.fin (G_vret C dX10_putsRule_12 rfl)
/-! X10_layLetters -/
theorem kd_X10_layLetters : Card yX10_layLetters cX10_layLetters 3 none 1 := ⟨uc_X10_layLetters, un_X10, ⟨by decide, by decide, by decide⟩, by decide⟩
def o_X10_layLetters_L2 : Nat → SM → Int32 → Int32 → Option (SM)
  | 0, _, _, _ => none
  | fuel + 1, X, x1, x2 => if gin (v_X10_officeAt x1 4) 336 = true then (if x2 < ((X 0) (v_X10_officeAt x1 4).toNatClampNeg) then (o_X10_putsRule X 175252482 x1).bind (fun r1 => if gin (v_X10_letterAt x1 x2 0) 336 = true then ((o_X10_putsWith r1 32 ((r1 0) (v_X10_letterAt x1 x2 0).toNatClampNeg)).bind (fun r2 => if gin (v_X10_letterAt x1 x2 1) 336 = true then ((o_X10_putsWith r2 32 ((r2 0) (v_X10_letterAt x1 x2 1).toNatClampNeg)).bind (fun r3 => (o_X10_puts r3 59).bind (fun r4 => o_X10_layLetters_L2 fuel r4 x1 (x2 + 1)))) else none)) else none) else some X) else none
theorem g_X10_layLetters_L2 {l : Launch} {K : gK} {Γ : gT} {b : Nat → Nat} (C : Cx l K Γ RX10 cX10_layLetters 3 none 4) : ∀ (k : Nat) (X : SM) (x1 : Int32) (x2 : Int32), GO l K Γ (mo_W K b X) 2 3 [(0, .ref (b 0)), (1, .int x1), (2, .int x2)] [] (fun z => (none, mo_W K b z)) (o_X10_layLetters_L2 k X x1 x2) := by
  intro k
  induction k with
  | zero =>
    intro X x1 x2
    exact fun r hr => nomatch hr
  | succ k ih =>
    intro X x1 x2
    rw [o_X10_layLetters_L2]
    refine GO.lift (fun _ => G_iload_n C 2 dX10_layLetters_2 rfl) ?_
    refine GO.lift (fun _ => G_aload_n C 0 dX10_layLetters_3 rfl) ?_
    refine GO.lift (fun _ => G_get C 0 0 dX10_layLetters_4 inlX10 uf_X10_7 rfl (by decide) rfl rfl rfl) ?_
    refine GO.lift (fun _ => G_iload_n C 1 dX10_layLetters_7 rfl) ?_
    refine GO.lift (fun _ => G_iconst C dX10_layLetters_8 (v := 4) rfl) ?_
    refine GO.lift (fun _ => G_callSi C kd_X10_officeAt ut_X10_officeAt um_X10_54 (c_X10_officeAt l K (mo_W K b X) x1 4) dX10_layLetters_9 rfl rfl (Nat.le_of_ble_eq_true rfl) (Nat.le_of_ble_eq_true rfl)) ?_
    refine GO.guard (fun h1 => ?_)
    refine GO.lift (fun _ => G_iald C 1 dX10_layLetters_12 rfl (gin_in h1)) ?_
    refine GO_icmp_ge C 69 dX10_layLetters_13 rfl (fun h2 => ?_) (fun h2 => ?_)
    · refine GO.lift (fun _ => G_aload_n C 0 dX10_layLetters_16 rfl) ?_
      refine GO.lift (fun _ => G_ldc C dX10_layLetters_17 uk_X10_201) ?_
      refine GO.lift (fun _ => G_iload_n C 1 dX10_layLetters_19 rfl) ?_
      refine GO.bind (fun r1 hr1 => ?_)
      refine GO.lift (fun _ => G_callVv C 0 10 kd_X10_putsRule ui_X10_putsRule us_X10_putsRule um_X10_292 rfl rfl (c_X10_putsRule l K b X 175252482 x1 r1 hr1) dX10_layLetters_20 rfl rfl (Nat.le_of_ble_eq_true rfl) (Nat.le_of_ble_eq_true rfl)) ?_
      refine GO.lift (fun _ => G_aload_n C 0 dX10_layLetters_23 rfl) ?_
      refine GO.lift (fun _ => G_bipush C dX10_layLetters_24 (v := 32) rfl) ?_
      refine GO.lift (fun _ => G_aload_n C 0 dX10_layLetters_26 rfl) ?_
      refine GO.lift (fun _ => G_get C 0 0 dX10_layLetters_27 inlX10 uf_X10_7 rfl (by decide) rfl rfl rfl) ?_
      refine GO.lift (fun _ => G_iload_n C 1 dX10_layLetters_30 rfl) ?_
      refine GO.lift (fun _ => G_iload_n C 2 dX10_layLetters_31 rfl) ?_
      refine GO.lift (fun _ => G_iconst C dX10_layLetters_32 (v := 0) rfl) ?_
      refine GO.lift (fun _ => G_callSi C kd_X10_letterAt ut_X10_letterAt um_X10_62 (c_X10_letterAt l K (mo_W K b r1) x1 x2 0) dX10_layLetters_33 rfl rfl (Nat.le_of_ble_eq_true rfl) (Nat.le_of_ble_eq_true rfl)) ?_
      refine GO.guard (fun h3 => ?_)
      refine GO.lift (fun _ => G_iald C 1 dX10_layLetters_36 rfl (gin_in h3)) ?_
      refine GO.bind (fun r2 hr2 => ?_)
      refine GO.lift (fun _ => G_callVv C 0 10 kd_X10_putsWith ui_X10_putsWith us_X10_putsWith um_X10_279 rfl rfl (c_X10_putsWith l K b r1 32 ((r1 0) (v_X10_letterAt x1 x2 0).toNatClampNeg) r2 hr2) dX10_layLetters_37 rfl rfl (Nat.le_of_ble_eq_true rfl) (Nat.le_of_ble_eq_true rfl)) ?_
      refine GO.lift (fun _ => G_aload_n C 0 dX10_layLetters_40 rfl) ?_
      refine GO.lift (fun _ => G_bipush C dX10_layLetters_41 (v := 32) rfl) ?_
      refine GO.lift (fun _ => G_aload_n C 0 dX10_layLetters_43 rfl) ?_
      refine GO.lift (fun _ => G_get C 0 0 dX10_layLetters_44 inlX10 uf_X10_7 rfl (by decide) rfl rfl rfl) ?_
      refine GO.lift (fun _ => G_iload_n C 1 dX10_layLetters_47 rfl) ?_
      refine GO.lift (fun _ => G_iload_n C 2 dX10_layLetters_48 rfl) ?_
      refine GO.lift (fun _ => G_iconst C dX10_layLetters_49 (v := 1) rfl) ?_
      refine GO.lift (fun _ => G_callSi C kd_X10_letterAt ut_X10_letterAt um_X10_62 (c_X10_letterAt l K (mo_W K b r2) x1 x2 1) dX10_layLetters_50 rfl rfl (Nat.le_of_ble_eq_true rfl) (Nat.le_of_ble_eq_true rfl)) ?_
      refine GO.guard (fun h4 => ?_)
      refine GO.lift (fun _ => G_iald C 1 dX10_layLetters_53 rfl (gin_in h4)) ?_
      refine GO.bind (fun r3 hr3 => ?_)
      refine GO.lift (fun _ => G_callVv C 0 10 kd_X10_putsWith ui_X10_putsWith us_X10_putsWith um_X10_279 rfl rfl (c_X10_putsWith l K b r2 32 ((r2 0) (v_X10_letterAt x1 x2 1).toNatClampNeg) r3 hr3) dX10_layLetters_54 rfl rfl (Nat.le_of_ble_eq_true rfl) (Nat.le_of_ble_eq_true rfl)) ?_
      refine GO.lift (fun _ => G_aload_n C 0 dX10_layLetters_57 rfl) ?_
      refine GO.lift (fun _ => G_bipush C dX10_layLetters_58 (v := 59) rfl) ?_
      refine GO.bind (fun r4 hr4 => ?_)
      refine GO.lift (fun _ => G_callVv C 0 10 kd_X10_puts ui_X10_puts us_X10_puts um_X10_272 rfl rfl (c_X10_puts l K b r3 59 r4 hr4) dX10_layLetters_60 rfl rfl (Nat.le_of_ble_eq_true rfl) (Nat.le_of_ble_eq_true rfl)) ?_
      refine GO.lift (fun _ => G_iinc (lv' := [(2, .int (x2 + 1)), (0, .ref (b 0)), (1, .int x1)]) C 2 dX10_layLetters_63 rfl rfl (by decide) rfl) ?_
      refine GO.lift (fun _ => G_goto C 2 dX10_layLetters_66 rfl) ?_
      refine GO.sub [1, 2, 0] rfl ?_
      exact ih r4 x1 (x2 + 1)
    · exact GO.fin (G_vret C dX10_layLetters_69 rfl)
def o_X10_layLetters (X : SM) (x1 : Int32) : Option (SM) := o_X10_layLetters_L2 4000 X x1 0
theorem c_X10_layLetters (l : Launch) (K : gK) (b : Nat → Nat) (X : SM) (x1 : Int32) (r : SM) (hr : o_X10_layLetters X x1 = some r) : Ct l K yX10_layLetters cX10_layLetters 3 none 4 [.ref (b 0), .int x1] (mo_W K b X) (none, mo_W K b r) := by
  refine Ct.of (own := RX10) (fun z => (none, mo_W K b z)) (x := r) (by decide) rfl (Nat.le_of_ble_eq_true rfl) (fun Γ C => GO.out (x := o_X10_layLetters X x1) ?_ hr)
  unfold o_X10_layLetters
  refine GO.lift (fun _ => G_iconst C dX10_layLetters_0 (v := 0) rfl) ?_
  refine GO.lift (fun _ => G_istore_n (lv' := [(2, .int 0), (0, .ref (b 0)), (1, .int x1)]) C dX10_layLetters_1 (by decide) rfl) ?_
  refine GO.sub [1, 2, 0] rfl ?_
  exact g_X10_layLetters_L2 C _ X x1 0
/-! X10_laySetup -/
theorem kd_X10_laySetup : Card yX10_laySetup cX10_laySetup 2 none 0 := ⟨uc_X10_laySetup, un_X10, ⟨by decide, by decide, by decide⟩, by decide⟩
def o_X10_laySetup_L163 : Nat → SM → Int32 → Option (SM)
  | 0, _, _ => none
  | fuel + 1, X, x1 => if x1 < ((X 0) (5 : Int32).toNatClampNeg) then if gin (v_X10_tokenAt x1 5) 336 = true then (if ((X 0) (v_X10_tokenAt x1 5).toNatClampNeg) = 0 then o_X10_laySetup_L163 fuel X (x1 + 1) else if gin (v_X10_tokenAt x1 1) 336 = true then ((o_X10_putsRule X 10932233 ((X 0) (v_X10_tokenAt x1 1).toNatClampNeg)).bind (fun r1 => (o_X10_puts r1 59).bind (fun r2 => some r2))) else none) else none else some X
theorem g_X10_laySetup_L163 {l : Launch} {K : gK} {Γ : gT} {b : Nat → Nat} (C : Cx l K Γ RX10 cX10_laySetup 2 none 5) : ∀ (k : Nat) (X : SM) (x1 : Int32), GO l K Γ (mo_W K b X) 163 2 [(0, .ref (b 0)), (1, .int x1)] [] (fun z => (none, mo_W K b z)) (o_X10_laySetup_L163 k X x1) := by
  intro k
  induction k with
  | zero =>
    intro X x1
    exact fun r hr => nomatch hr
  | succ k ih =>
    intro X x1
    rw [o_X10_laySetup_L163]
    refine GO.lift (fun _ => G_iload_n C 1 dX10_laySetup_163 rfl) ?_
    refine GO.lift (fun _ => G_aload_n C 0 dX10_laySetup_164 rfl) ?_
    refine GO.lift (fun _ => G_get C 0 0 dX10_laySetup_165 inlX10 uf_X10_7 rfl (by decide) rfl rfl rfl) ?_
    refine GO.lift (fun _ => G_iconst C dX10_laySetup_168 (v := 5) rfl) ?_
    refine GO.lift (fun _ => G_iald C 1 dX10_laySetup_169 rfl (by unfold vp_in; decide)) ?_
    refine GO_icmp_ge C 218 dX10_laySetup_170 rfl (fun h1 => ?_) (fun h1 => ?_)
    · refine GO.lift (fun _ => G_aload_n C 0 dX10_laySetup_173 rfl) ?_
      refine GO.lift (fun _ => G_get C 0 0 dX10_laySetup_174 inlX10 uf_X10_7 rfl (by decide) rfl rfl rfl) ?_
      refine GO.lift (fun _ => G_iload_n C 1 dX10_laySetup_177 rfl) ?_
      refine GO.lift (fun _ => G_iconst C dX10_laySetup_178 (v := 5) rfl) ?_
      refine GO.lift (fun _ => G_callSi C kd_X10_tokenAt ut_X10_tokenAt um_X10_66 (c_X10_tokenAt l K (mo_W K b X) x1 5) dX10_laySetup_179 rfl rfl (Nat.le_of_ble_eq_true rfl) (Nat.le_of_ble_eq_true rfl)) ?_
      refine GO.guard (fun h2 => ?_)
      refine GO.lift (fun _ => G_iald C 1 dX10_laySetup_182 rfl (gin_in h2)) ?_
      refine GO_if_ne C 189 dX10_laySetup_183 rfl (fun h3 => ?_) (fun h3 => ?_)
      · refine GO.lift (fun _ => G_goto C 212 dX10_laySetup_186 rfl) ?_
        refine GO.lift (fun _ => G_iinc (lv' := [(1, .int (x1 + 1)), (0, .ref (b 0))]) C 1 dX10_laySetup_212 rfl rfl (by decide) rfl) ?_
        refine GO.lift (fun _ => G_goto C 163 dX10_laySetup_215 rfl) ?_
        refine GO.sub [1, 0] rfl ?_
        exact ih X (x1 + 1)
      · refine GO.lift (fun _ => G_aload_n C 0 dX10_laySetup_189 rfl) ?_
        refine GO.lift (fun _ => G_ldc C dX10_laySetup_190 uk_X10_205) ?_
        refine GO.lift (fun _ => G_aload_n C 0 dX10_laySetup_192 rfl) ?_
        refine GO.lift (fun _ => G_get C 0 0 dX10_laySetup_193 inlX10 uf_X10_7 rfl (by decide) rfl rfl rfl) ?_
        refine GO.lift (fun _ => G_iload_n C 1 dX10_laySetup_196 rfl) ?_
        refine GO.lift (fun _ => G_iconst C dX10_laySetup_197 (v := 1) rfl) ?_
        refine GO.lift (fun _ => G_callSi C kd_X10_tokenAt ut_X10_tokenAt um_X10_66 (c_X10_tokenAt l K (mo_W K b X) x1 1) dX10_laySetup_198 rfl rfl (Nat.le_of_ble_eq_true rfl) (Nat.le_of_ble_eq_true rfl)) ?_
        refine GO.guard (fun h4 => ?_)
        refine GO.lift (fun _ => G_iald C 1 dX10_laySetup_201 rfl (gin_in h4)) ?_
        refine GO.bind (fun r1 hr1 => ?_)
        refine GO.lift (fun _ => G_callVv C 0 10 kd_X10_putsRule ui_X10_putsRule us_X10_putsRule um_X10_292 rfl rfl (c_X10_putsRule l K b X 10932233 ((X 0) (v_X10_tokenAt x1 1).toNatClampNeg) r1 hr1) dX10_laySetup_202 rfl rfl (Nat.le_of_ble_eq_true rfl) (Nat.le_of_ble_eq_true rfl)) ?_
        refine GO.lift (fun _ => G_aload_n C 0 dX10_laySetup_205 rfl) ?_
        refine GO.lift (fun _ => G_bipush C dX10_laySetup_206 (v := 59) rfl) ?_
        refine GO.bind (fun r2 hr2 => ?_)
        refine GO.lift (fun _ => G_callVv C 0 10 kd_X10_puts ui_X10_puts us_X10_puts um_X10_272 rfl rfl (c_X10_puts l K b r1 59 r2 hr2) dX10_laySetup_208 rfl rfl (Nat.le_of_ble_eq_true rfl) (Nat.le_of_ble_eq_true rfl)) ?_
        exact GO.fin (G_vret C dX10_laySetup_211 rfl)
    · exact GO.fin (G_vret C dX10_laySetup_218 rfl)
def o_X10_laySetup_L140 : Nat → SM → Int32 → Option (SM)
  | 0, _, _ => none
  | fuel + 1, X, x1 => if x1 < ((X 0) (4 : Int32).toNatClampNeg) then (o_X10_layLetters X x1).bind (fun r1 => o_X10_laySetup_L140 fuel r1 (x1 + 1)) else o_X10_laySetup_L163 4000 X 0
theorem g_X10_laySetup_L140 {l : Launch} {K : gK} {Γ : gT} {b : Nat → Nat} (C : Cx l K Γ RX10 cX10_laySetup 2 none 5) : ∀ (k : Nat) (X : SM) (x1 : Int32), GO l K Γ (mo_W K b X) 140 2 [(0, .ref (b 0)), (1, .int x1)] [] (fun z => (none, mo_W K b z)) (o_X10_laySetup_L140 k X x1) := by
  intro k
  induction k with
  | zero =>
    intro X x1
    exact fun r hr => nomatch hr
  | succ k ih =>
    intro X x1
    rw [o_X10_laySetup_L140]
    refine GO.lift (fun _ => G_iload_n C 1 dX10_laySetup_140 rfl) ?_
    refine GO.lift (fun _ => G_aload_n C 0 dX10_laySetup_141 rfl) ?_
    refine GO.lift (fun _ => G_get C 0 0 dX10_laySetup_142 inlX10 uf_X10_7 rfl (by decide) rfl rfl rfl) ?_
    refine GO.lift (fun _ => G_iconst C dX10_laySetup_145 (v := 4) rfl) ?_
    refine GO.lift (fun _ => G_iald C 1 dX10_laySetup_146 rfl (by unfold vp_in; decide)) ?_
    refine GO_icmp_ge C 161 dX10_laySetup_147 rfl (fun h1 => ?_) (fun h1 => ?_)
    · refine GO.lift (fun _ => G_aload_n C 0 dX10_laySetup_150 rfl) ?_
      refine GO.lift (fun _ => G_iload_n C 1 dX10_laySetup_151 rfl) ?_
      refine GO.bind (fun r1 hr1 => ?_)
      refine GO.lift (fun _ => G_callVv C 0 10 kd_X10_layLetters ui_X10_layLetters us_X10_layLetters um_X10_295 rfl rfl (c_X10_layLetters l K b X x1 r1 hr1) dX10_laySetup_152 rfl rfl (Nat.le_of_ble_eq_true rfl) (Nat.le_of_ble_eq_true rfl)) ?_
      refine GO.lift (fun _ => G_iinc (lv' := [(1, .int (x1 + 1)), (0, .ref (b 0))]) C 1 dX10_laySetup_155 rfl rfl (by decide) rfl) ?_
      refine GO.lift (fun _ => G_goto C 140 dX10_laySetup_158 rfl) ?_
      refine GO.sub [1, 0] rfl ?_
      exact ih r1 (x1 + 1)
    · refine GO.lift (fun _ => G_iconst C dX10_laySetup_161 (v := 0) rfl) ?_
      refine GO.lift (fun _ => G_istore_n (lv' := [(1, .int 0), (0, .ref (b 0))]) C dX10_laySetup_162 (by decide) rfl) ?_
      refine GO.sub [1, 0] rfl ?_
      exact g_X10_laySetup_L163 C _ X 0
def o_X10_laySetup_L61 : Nat → SM → Int32 → Option (SM)
  | 0, _, _ => none
  | fuel + 1, X, x1 => if x1 < ((X 0) (4 : Int32).toNatClampNeg) then if gin (v_X10_officeAt x1 0) 336 = true then ((o_X10_putsRule X 218546996 ((X 0) (v_X10_officeAt x1 0).toNatClampNeg)).bind (fun r1 => if gin (v_X10_officeAt x1 1) 336 = true then ((o_X10_putsWith r1 32 ((r1 0) (v_X10_officeAt x1 1).toNatClampNeg)).bind (fun r2 => (o_X10_isOpen (r2 0) x1).bind (fun r3 => if r3 = 0 then (o_X10_puts r2 32).bind (fun r4 => (o_X10_putsWord r4 380396).bind (fun r5 => (o_X10_puts r5 59).bind (fun r6 => o_X10_laySetup_L61 fuel r6 (x1 + 1)))) else (o_X10_puts r2 59).bind (fun r7 => o_X10_laySetup_L61 fuel r7 (x1 + 1))))) else none)) else none else o_X10_laySetup_L140 4000 X 0
theorem g_X10_laySetup_L61 {l : Launch} {K : gK} {Γ : gT} {b : Nat → Nat} (C : Cx l K Γ RX10 cX10_laySetup 2 none 5) : ∀ (k : Nat) (X : SM) (x1 : Int32), GO l K Γ (mo_W K b X) 61 2 [(0, .ref (b 0)), (1, .int x1)] [] (fun z => (none, mo_W K b z)) (o_X10_laySetup_L61 k X x1) := by
  intro k
  induction k with
  | zero =>
    intro X x1
    exact fun r hr => nomatch hr
  | succ k ih =>
    intro X x1
    rw [o_X10_laySetup_L61]
    refine GO.lift (fun _ => G_iload_n C 1 dX10_laySetup_61 rfl) ?_
    refine GO.lift (fun _ => G_aload_n C 0 dX10_laySetup_62 rfl) ?_
    refine GO.lift (fun _ => G_get C 0 0 dX10_laySetup_63 inlX10 uf_X10_7 rfl (by decide) rfl rfl rfl) ?_
    refine GO.lift (fun _ => G_iconst C dX10_laySetup_66 (v := 4) rfl) ?_
    refine GO.lift (fun _ => G_iald C 1 dX10_laySetup_67 rfl (by unfold vp_in; decide)) ?_
    refine GO_icmp_ge C 138 dX10_laySetup_68 rfl (fun h1 => ?_) (fun h1 => ?_)
    · refine GO.lift (fun _ => G_aload_n C 0 dX10_laySetup_71 rfl) ?_
      refine GO.lift (fun _ => G_ldc C dX10_laySetup_72 uk_X10_184) ?_
      refine GO.lift (fun _ => G_aload_n C 0 dX10_laySetup_74 rfl) ?_
      refine GO.lift (fun _ => G_get C 0 0 dX10_laySetup_75 inlX10 uf_X10_7 rfl (by decide) rfl rfl rfl) ?_
      refine GO.lift (fun _ => G_iload_n C 1 dX10_laySetup_78 rfl) ?_
      refine GO.lift (fun _ => G_iconst C dX10_laySetup_79 (v := 0) rfl) ?_
      refine GO.lift (fun _ => G_callSi C kd_X10_officeAt ut_X10_officeAt um_X10_54 (c_X10_officeAt l K (mo_W K b X) x1 0) dX10_laySetup_80 rfl rfl (Nat.le_of_ble_eq_true rfl) (Nat.le_of_ble_eq_true rfl)) ?_
      refine GO.guard (fun h2 => ?_)
      refine GO.lift (fun _ => G_iald C 1 dX10_laySetup_83 rfl (gin_in h2)) ?_
      refine GO.bind (fun r1 hr1 => ?_)
      refine GO.lift (fun _ => G_callVv C 0 10 kd_X10_putsRule ui_X10_putsRule us_X10_putsRule um_X10_292 rfl rfl (c_X10_putsRule l K b X 218546996 ((X 0) (v_X10_officeAt x1 0).toNatClampNeg) r1 hr1) dX10_laySetup_84 rfl rfl (Nat.le_of_ble_eq_true rfl) (Nat.le_of_ble_eq_true rfl)) ?_
      refine GO.lift (fun _ => G_aload_n C 0 dX10_laySetup_87 rfl) ?_
      refine GO.lift (fun _ => G_bipush C dX10_laySetup_88 (v := 32) rfl) ?_
      refine GO.lift (fun _ => G_aload_n C 0 dX10_laySetup_90 rfl) ?_
      refine GO.lift (fun _ => G_get C 0 0 dX10_laySetup_91 inlX10 uf_X10_7 rfl (by decide) rfl rfl rfl) ?_
      refine GO.lift (fun _ => G_iload_n C 1 dX10_laySetup_94 rfl) ?_
      refine GO.lift (fun _ => G_iconst C dX10_laySetup_95 (v := 1) rfl) ?_
      refine GO.lift (fun _ => G_callSi C kd_X10_officeAt ut_X10_officeAt um_X10_54 (c_X10_officeAt l K (mo_W K b r1) x1 1) dX10_laySetup_96 rfl rfl (Nat.le_of_ble_eq_true rfl) (Nat.le_of_ble_eq_true rfl)) ?_
      refine GO.guard (fun h3 => ?_)
      refine GO.lift (fun _ => G_iald C 1 dX10_laySetup_99 rfl (gin_in h3)) ?_
      refine GO.bind (fun r2 hr2 => ?_)
      refine GO.lift (fun _ => G_callVv C 0 10 kd_X10_putsWith ui_X10_putsWith us_X10_putsWith um_X10_279 rfl rfl (c_X10_putsWith l K b r1 32 ((r1 0) (v_X10_officeAt x1 1).toNatClampNeg) r2 hr2) dX10_laySetup_100 rfl rfl (Nat.le_of_ble_eq_true rfl) (Nat.le_of_ble_eq_true rfl)) ?_
      refine GO.lift (fun _ => G_aload_n C 0 dX10_laySetup_103 rfl) ?_
      refine GO.lift (fun _ => G_get C 0 0 dX10_laySetup_104 inlX10 uf_X10_7 rfl (by decide) rfl rfl rfl) ?_
      refine GO.lift (fun _ => G_iload_n C 1 dX10_laySetup_107 rfl) ?_
      refine GO.bind (fun r3 hr3 => ?_)
      refine GO.lift (fun _ => G_callSi C kd_X10_isOpen ut_X10_isOpen um_X10_73 (Ct.to (r' := (some (.int r3), mo_W K b r2)) (Ct.from (c_X10_isOpen l K (ws := mo_W K b r2) (q := 1) (ad := b 1) (Nat.le_of_ble_eq_true rfl) (r2 0) x1 r3 hr3) rfl) rfl) dX10_laySetup_108 rfl rfl (Nat.le_of_ble_eq_true rfl) (Nat.le_of_ble_eq_true rfl)) ?_
      refine GO_if_ne C 126 dX10_laySetup_111 rfl (fun h4 => ?_) (fun h4 => ?_)
      · refine GO.lift (fun _ => G_aload_n C 0 dX10_laySetup_114 rfl) ?_
        refine GO.lift (fun _ => G_bipush C dX10_laySetup_115 (v := 32) rfl) ?_
        refine GO.bind (fun r4 hr4 => ?_)
        refine GO.lift (fun _ => G_callVv C 0 10 kd_X10_puts ui_X10_puts us_X10_puts um_X10_272 rfl rfl (c_X10_puts l K b r2 32 r4 hr4) dX10_laySetup_117 rfl rfl (Nat.le_of_ble_eq_true rfl) (Nat.le_of_ble_eq_true rfl)) ?_
        refine GO.lift (fun _ => G_aload_n C 0 dX10_laySetup_120 rfl) ?_
        refine GO.lift (fun _ => G_ldc C dX10_laySetup_121 uk_X10_188) ?_
        refine GO.bind (fun r5 hr5 => ?_)
        refine GO.lift (fun _ => G_callVv C 0 10 kd_X10_putsWord ui_X10_putsWord us_X10_putsWord um_X10_289 rfl rfl (c_X10_putsWord l K b r4 380396 r5 hr5) dX10_laySetup_123 rfl rfl (Nat.le_of_ble_eq_true rfl) (Nat.le_of_ble_eq_true rfl)) ?_
        refine GO.lift (fun _ => G_aload_n C 0 dX10_laySetup_126 rfl) ?_
        refine GO.lift (fun _ => G_bipush C dX10_laySetup_127 (v := 59) rfl) ?_
        refine GO.bind (fun r6 hr6 => ?_)
        refine GO.lift (fun _ => G_callVv C 0 10 kd_X10_puts ui_X10_puts us_X10_puts um_X10_272 rfl rfl (c_X10_puts l K b r5 59 r6 hr6) dX10_laySetup_129 rfl rfl (Nat.le_of_ble_eq_true rfl) (Nat.le_of_ble_eq_true rfl)) ?_
        refine GO.lift (fun _ => G_iinc (lv' := [(1, .int (x1 + 1)), (0, .ref (b 0))]) C 1 dX10_laySetup_132 rfl rfl (by decide) rfl) ?_
        refine GO.lift (fun _ => G_goto C 61 dX10_laySetup_135 rfl) ?_
        refine GO.sub [1, 0] rfl ?_
        exact ih r6 (x1 + 1)
      · refine GO.lift (fun _ => G_aload_n C 0 dX10_laySetup_126 rfl) ?_
        refine GO.lift (fun _ => G_bipush C dX10_laySetup_127 (v := 59) rfl) ?_
        refine GO.bind (fun r7 hr7 => ?_)
        refine GO.lift (fun _ => G_callVv C 0 10 kd_X10_puts ui_X10_puts us_X10_puts um_X10_272 rfl rfl (c_X10_puts l K b r2 59 r7 hr7) dX10_laySetup_129 rfl rfl (Nat.le_of_ble_eq_true rfl) (Nat.le_of_ble_eq_true rfl)) ?_
        refine GO.lift (fun _ => G_iinc (lv' := [(1, .int (x1 + 1)), (0, .ref (b 0))]) C 1 dX10_laySetup_132 rfl rfl (by decide) rfl) ?_
        refine GO.lift (fun _ => G_goto C 61 dX10_laySetup_135 rfl) ?_
        refine GO.sub [1, 0] rfl ?_
        exact ih r7 (x1 + 1)
    · refine GO.lift (fun _ => G_iconst C dX10_laySetup_138 (v := 0) rfl) ?_
      refine GO.lift (fun _ => G_istore_n (lv' := [(1, .int 0), (0, .ref (b 0))]) C dX10_laySetup_139 (by decide) rfl) ?_
      refine GO.sub [1, 0] rfl ?_
      exact g_X10_laySetup_L140 C _ X 0
def o_X10_laySetup (X : SM) : Option (SM) := lt1 (sU X 8 (upd (X 8) 9 0)) (fun r1 => (o_X10_putsRule r1 10415990 ((r1 0) (0 : Int32).toNatClampNeg)).bind (fun r2 => (o_X10_puts r2 32).bind (fun r3 => (o_X10_putsRule r3 9454556 ((r3 0) (1 : Int32).toNatClampNeg)).bind (fun r4 => (o_X10_puts r4 32).bind (fun r5 => (o_X10_putsRule r5 9459316 ((r5 0) (2 : Int32).toNatClampNeg)).bind (fun r6 => (o_X10_puts r6 59).bind (fun r7 => o_X10_laySetup_L61 4000 r7 0)))))))
theorem c_X10_laySetup (l : Launch) (K : gK) (b : Nat → Nat) (X : SM) (r : SM) (hr : o_X10_laySetup X = some r) : Ct l K yX10_laySetup cX10_laySetup 2 none 5 [.ref (b 0)] (mo_W K b X) (none, mo_W K b r) := by
  refine Ct.of (own := RX10) (fun z => (none, mo_W K b z)) (x := r) (by decide) rfl (Nat.le_of_ble_eq_true rfl) (fun Γ C => GO.out (x := o_X10_laySetup X) ?_ hr)
  unfold o_X10_laySetup
  refine GO.lift (fun _ => G_aload_n C 0 dX10_laySetup_0 rfl) ?_
  refine GO.lift (fun _ => G_iconst C dX10_laySetup_1 (v := 0) rfl) ?_
  refine GO.letS (fun r1 hr1 => ?_)
  refine GO.lift (fun _ => G_put (ws' := mo_W K b r1) C 0 17 tyX10 .int dX10_laySetup_2 inlX10 uf_X10_269 tyX10_ok nmX10 rfl (by decide) rfl rfl rfl rfl rfl rfl (Nat.le_of_ble_eq_true rfl) (by cases hr1; rfl)) ?_
  refine GO.lift (fun _ => G_aload_n C 0 dX10_laySetup_5 rfl) ?_
  refine GO.lift (fun _ => G_ldc C dX10_laySetup_6 uk_X10_192) ?_
  refine GO.lift (fun _ => G_aload_n C 0 dX10_laySetup_8 rfl) ?_
  refine GO.lift (fun _ => G_get C 0 0 dX10_laySetup_9 inlX10 uf_X10_7 rfl (by decide) rfl rfl rfl) ?_
  refine GO.lift (fun _ => G_iconst C dX10_laySetup_12 (v := 0) rfl) ?_
  refine GO.lift (fun _ => G_iald C 1 dX10_laySetup_13 rfl (by unfold vp_in; decide)) ?_
  refine GO.bind (fun r2 hr2 => ?_)
  refine GO.lift (fun _ => G_callVv C 0 10 kd_X10_putsRule ui_X10_putsRule us_X10_putsRule um_X10_292 rfl rfl (c_X10_putsRule l K b r1 10415990 ((r1 0) (0 : Int32).toNatClampNeg) r2 hr2) dX10_laySetup_14 rfl rfl (Nat.le_of_ble_eq_true rfl) (Nat.le_of_ble_eq_true rfl)) ?_
  refine GO.lift (fun _ => G_aload_n C 0 dX10_laySetup_17 rfl) ?_
  refine GO.lift (fun _ => G_bipush C dX10_laySetup_18 (v := 32) rfl) ?_
  refine GO.bind (fun r3 hr3 => ?_)
  refine GO.lift (fun _ => G_callVv C 0 10 kd_X10_puts ui_X10_puts us_X10_puts um_X10_272 rfl rfl (c_X10_puts l K b r2 32 r3 hr3) dX10_laySetup_20 rfl rfl (Nat.le_of_ble_eq_true rfl) (Nat.le_of_ble_eq_true rfl)) ?_
  refine GO.lift (fun _ => G_aload_n C 0 dX10_laySetup_23 rfl) ?_
  refine GO.lift (fun _ => G_ldc C dX10_laySetup_24 uk_X10_196) ?_
  refine GO.lift (fun _ => G_aload_n C 0 dX10_laySetup_26 rfl) ?_
  refine GO.lift (fun _ => G_get C 0 0 dX10_laySetup_27 inlX10 uf_X10_7 rfl (by decide) rfl rfl rfl) ?_
  refine GO.lift (fun _ => G_iconst C dX10_laySetup_30 (v := 1) rfl) ?_
  refine GO.lift (fun _ => G_iald C 1 dX10_laySetup_31 rfl (by unfold vp_in; decide)) ?_
  refine GO.bind (fun r4 hr4 => ?_)
  refine GO.lift (fun _ => G_callVv C 0 10 kd_X10_putsRule ui_X10_putsRule us_X10_putsRule um_X10_292 rfl rfl (c_X10_putsRule l K b r3 9454556 ((r3 0) (1 : Int32).toNatClampNeg) r4 hr4) dX10_laySetup_32 rfl rfl (Nat.le_of_ble_eq_true rfl) (Nat.le_of_ble_eq_true rfl)) ?_
  refine GO.lift (fun _ => G_aload_n C 0 dX10_laySetup_35 rfl) ?_
  refine GO.lift (fun _ => G_bipush C dX10_laySetup_36 (v := 32) rfl) ?_
  refine GO.bind (fun r5 hr5 => ?_)
  refine GO.lift (fun _ => G_callVv C 0 10 kd_X10_puts ui_X10_puts us_X10_puts um_X10_272 rfl rfl (c_X10_puts l K b r4 32 r5 hr5) dX10_laySetup_38 rfl rfl (Nat.le_of_ble_eq_true rfl) (Nat.le_of_ble_eq_true rfl)) ?_
  refine GO.lift (fun _ => G_aload_n C 0 dX10_laySetup_41 rfl) ?_
  refine GO.lift (fun _ => G_ldc C dX10_laySetup_42 uk_X10_197) ?_
  refine GO.lift (fun _ => G_aload_n C 0 dX10_laySetup_44 rfl) ?_
  refine GO.lift (fun _ => G_get C 0 0 dX10_laySetup_45 inlX10 uf_X10_7 rfl (by decide) rfl rfl rfl) ?_
  refine GO.lift (fun _ => G_iconst C dX10_laySetup_48 (v := 2) rfl) ?_
  refine GO.lift (fun _ => G_iald C 1 dX10_laySetup_49 rfl (by unfold vp_in; decide)) ?_
  refine GO.bind (fun r6 hr6 => ?_)
  refine GO.lift (fun _ => G_callVv C 0 10 kd_X10_putsRule ui_X10_putsRule us_X10_putsRule um_X10_292 rfl rfl (c_X10_putsRule l K b r5 9459316 ((r5 0) (2 : Int32).toNatClampNeg) r6 hr6) dX10_laySetup_50 rfl rfl (Nat.le_of_ble_eq_true rfl) (Nat.le_of_ble_eq_true rfl)) ?_
  refine GO.lift (fun _ => G_aload_n C 0 dX10_laySetup_53 rfl) ?_
  refine GO.lift (fun _ => G_bipush C dX10_laySetup_54 (v := 59) rfl) ?_
  refine GO.bind (fun r7 hr7 => ?_)
  refine GO.lift (fun _ => G_callVv C 0 10 kd_X10_puts ui_X10_puts us_X10_puts um_X10_272 rfl rfl (c_X10_puts l K b r6 59 r7 hr7) dX10_laySetup_56 rfl rfl (Nat.le_of_ble_eq_true rfl) (Nat.le_of_ble_eq_true rfl)) ?_
  refine GO.lift (fun _ => G_iconst C dX10_laySetup_59 (v := 0) rfl) ?_
  refine GO.lift (fun _ => G_istore_n (lv' := [(1, .int 0), (0, .ref (b 0))]) C dX10_laySetup_60 (by decide) rfl) ?_
  refine GO.sub [1, 0] rfl ?_
  exact g_X10_laySetup_L61 C _ r7 0
/-! X10_setupLength -/
theorem kd_X10_setupLength : Card yX10_setupLength cX10_setupLength 1 (some .int) 0 := ⟨uc_X10_setupLength, un_X10, ⟨by decide, by decide, by decide⟩, by decide⟩
def o_X10_setupLength (X : SM) : Option (Int32 × SM) := (o_X10_laySetup X ).bind (fun r1 => some ((r1 8 9, r1)))
theorem c_X10_setupLength (l : Launch) (K : gK) (b : Nat → Nat) (X : SM) (r : Int32 × SM) (hr : o_X10_setupLength X = some r) : Ct l K yX10_setupLength cX10_setupLength 1 (some .int) 6 [.ref (b 0)] (mo_W K b X) (some (.int r.1), mo_W K b r.2) := by
  refine Ct.of (own := RX10) (fun (z : Int32 × SM) => (some (.int z.1), mo_W K b z.2)) (x := r) (by decide) rfl (Nat.le_of_ble_eq_true rfl) (fun Γ C => GO.out (x := o_X10_setupLength X) ?_ hr)
  unfold o_X10_setupLength
  refine GO.lift (fun _ => G_aload_n C 0 dX10_setupLength_0 rfl) ?_
  refine GO.bind (fun r1 hr1 => ?_)
  refine GO.lift (fun _ => G_callVv C 0 10 kd_X10_laySetup ui_X10_laySetup us_X10_laySetup um_X10_298 rfl rfl (c_X10_laySetup l K b X  r1 hr1) dX10_setupLength_1 rfl rfl (Nat.le_of_ble_eq_true rfl) (Nat.le_of_ble_eq_true rfl)) ?_
  refine GO.lift (fun _ => G_aload_n C 0 dX10_setupLength_4 rfl) ?_
  refine GO.lift (fun _ => G_get C 0 17 dX10_setupLength_5 inlX10 uf_X10_269 rfl (by decide) rfl rfl rfl) ?_
  exact GO.fin (G_iret C dX10_setupLength_8 rfl)
