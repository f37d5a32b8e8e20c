-- PART 08, go on (by gen/mkmodel.py)
/-! X10_speaks -/
theorem kd_X10_speaks : Card yX10_speaks cX10_speaks 3 none 2 := ⟨uc_X10_speaks, un_X10, ⟨by decide, by decide, by decide⟩, by decide⟩
def o_X10_speaks (g : Nat → Int32) (x1 : Int32) : Option ((Nat → Int32)) := if gin (v_X10_tokenAt x1 1) 336 = true then (if gin (v_X10_tokenAt x1 4) 336 = true then (if gin (v_X10_tokenAt x1 4) 336 = true then (lt1 (upd g (v_X10_tokenAt x1 4).toNatClampNeg ((g (v_X10_tokenAt x1 4).toNatClampNeg) - 1)) (fun r1 => if gin (v_X10_tokenAt x1 3) 336 = true then (if gin (v_X10_tokenAt x1 3) 336 = true then (lt1 (upd r1 (v_X10_tokenAt x1 3).toNatClampNeg ((r1 (v_X10_tokenAt x1 3).toNatClampNeg) + 1)) (fun r2 => if gin (v_X10_officeAt (g (v_X10_tokenAt x1 1).toNatClampNeg) 3) 336 = true then (if gin (v_X10_officeAt (g (v_X10_tokenAt x1 1).toNatClampNeg) 3) 336 = true then (lt1 (upd r2 (v_X10_officeAt (g (v_X10_tokenAt x1 1).toNatClampNeg) 3).toNatClampNeg ((r2 (v_X10_officeAt (g (v_X10_tokenAt x1 1).toNatClampNeg) 3).toNatClampNeg) + 1)) (fun r3 => lt1 (upd r3 (16 : Int32).toNatClampNeg ((r3 (16 : Int32).toNatClampNeg) + 1)) (fun r4 => if gin (v_X10_tokenAt x1 4) 336 = true then (if (r4 (v_X10_tokenAt x1 4).toNatClampNeg) = 0 then (o_X10_isThrough r4 (g (v_X10_tokenAt x1 1).toNatClampNeg)).bind (fun r5 => some r5) else some r4) else none))) else none) else none)) else none) else none)) else none) else none) else none
theorem c_X10_speaks (l : Launch) (K : gK) {ws : va_W} {q ad : Nat} (hq : q < ws.length) (g : Nat → Int32) (x1 : Int32) (r : (Nat → Int32)) (hr : o_X10_speaks g x1 = some r) : Ct l K yX10_speaks cX10_speaks 3 none 4 [.ref ad, .int x1] (mW K ws q ad 336 g) (none, mW K ws q ad 336 r) := by
  refine Ct.of (own := RX10) (fun z => (none, mW K ws q ad 336 z)) (x := r) (by decide) rfl (Nat.le_of_ble_eq_true rfl) (fun Γ C => GO.out (x := o_X10_speaks g x1) ?_ hr)
  unfold o_X10_speaks
  refine GO.lift (fun _ => G_aload_n C 0 dX10_speaks_0 rfl) ?_
  refine GO.lift (fun _ => G_iload_n C 1 dX10_speaks_1 rfl) ?_
  refine GO.lift (fun _ => G_iconst C dX10_speaks_2 (v := 1) rfl) ?_
  refine GO.lift (fun _ => G_callSi C kd_X10_tokenAt ut_X10_tokenAt um_X10_66 (c_X10_tokenAt l K (mW K ws q ad 336 g) x1 1) dX10_speaks_3 rfl rfl (Nat.le_of_ble_eq_true rfl) (Nat.le_of_ble_eq_true rfl)) ?_
  refine GO.guard (fun h1 => ?_)
  refine GO.lift (fun _ => G_iald C q dX10_speaks_6 (mW_at hq) (gin_in h1)) ?_
  refine GO.lift (fun _ => G_istore_n (lv' := [(2, .int (g (v_X10_tokenAt x1 1).toNatClampNeg)), (0, .ref ad), (1, .int x1)]) C dX10_speaks_7 (by decide) rfl) ?_
  refine GO.lift (fun _ => G_aload_n C 1 dX10_speaks_8 rfl) ?_
  refine GO.lift (fun _ => G_iload_n C 2 dX10_speaks_9 rfl) ?_
  refine GO.lift (fun _ => G_iconst C dX10_speaks_10 (v := 4) rfl) ?_
  refine GO.lift (fun _ => G_callSi C kd_X10_tokenAt ut_X10_tokenAt um_X10_66 (c_X10_tokenAt l K (mW K ws q ad 336 g) x1 4) dX10_speaks_11 rfl rfl (Nat.le_of_ble_eq_true rfl) (Nat.le_of_ble_eq_true rfl)) ?_
  refine GO.lift (fun _ => G_dup2 C dX10_speaks_14 rfl rfl) ?_
  refine GO.guard (fun h2 => ?_)
  refine GO.lift (fun _ => G_iald C q dX10_speaks_15 (mW_at hq) (gin_in h2)) ?_
  refine GO.lift (fun _ => G_iconst C dX10_speaks_16 (v := 1) rfl) ?_
  refine GO.lift (fun _ => G_isub C dX10_speaks_17) ?_
  refine GO.guard (fun h3 => ?_)
  refine GO.letS (fun r1 hr1 => ?_)
  refine GO.lift (fun _ => G_iast (ws' := mW K ws q ad 336 r1) C q dX10_speaks_18 (mW_at hq) (gin_in h3) (mW_set hr1)) ?_
  refine GO.lift (fun _ => G_aload_n C 1 dX10_speaks_19 rfl) ?_
  refine GO.lift (fun _ => G_iload_n C 2 dX10_speaks_20 rfl) ?_
  refine GO.lift (fun _ => G_iconst C dX10_speaks_21 (v := 3) rfl) ?_
  refine GO.lift (fun _ => G_callSi C kd_X10_tokenAt ut_X10_tokenAt um_X10_66 (c_X10_tokenAt l K (mW K ws q ad 336 r1) x1 3) dX10_speaks_22 rfl rfl (Nat.le_of_ble_eq_true rfl) (Nat.le_of_ble_eq_true rfl)) ?_
  refine GO.lift (fun _ => G_dup2 C dX10_speaks_25 rfl rfl) ?_
  refine GO.guard (fun h4 => ?_)
  refine GO.lift (fun _ => G_iald C q dX10_speaks_26 (mW_at hq) (gin_in h4)) ?_
  refine GO.lift (fun _ => G_iconst C dX10_speaks_27 (v := 1) rfl) ?_
  refine GO.lift (fun _ => G_iadd C dX10_speaks_28) ?_
  refine GO.guard (fun h5 => ?_)
  refine GO.letS (fun r2 hr2 => ?_)
  refine GO.lift (fun _ => G_iast (ws' := mW K ws q ad 336 r2) C q dX10_speaks_29 (mW_at hq) (gin_in h5) (mW_set hr2)) ?_
  refine GO.lift (fun _ => G_aload_n C 1 dX10_speaks_30 rfl) ?_
  refine GO.lift (fun _ => G_iload_n C 0 dX10_speaks_31 rfl) ?_
  refine GO.lift (fun _ => G_iconst C dX10_speaks_32 (v := 3) rfl) ?_
  refine GO.lift (fun _ => G_callSi C kd_X10_officeAt ut_X10_officeAt um_X10_54 (c_X10_officeAt l K (mW K ws q ad 336 r2) (g (v_X10_tokenAt x1 1).toNatClampNeg) 3) dX10_speaks_33 rfl rfl (Nat.le_of_ble_eq_true rfl) (Nat.le_of_ble_eq_true rfl)) ?_
  refine GO.lift (fun _ => G_dup2 C dX10_speaks_36 rfl rfl) ?_
  refine GO.guard (fun h6 => ?_)
  refine GO.lift (fun _ => G_iald C q dX10_speaks_37 (mW_at hq) (gin_in h6)) ?_
  refine GO.lift (fun _ => G_iconst C dX10_speaks_38 (v := 1) rfl) ?_
  refine GO.lift (fun _ => G_iadd C dX10_speaks_39) ?_
  refine GO.guard (fun h7 => ?_)
  refine GO.letS (fun r3 hr3 => ?_)
  refine GO.lift (fun _ => G_iast (ws' := mW K ws q ad 336 r3) C q dX10_speaks_40 (mW_at hq) (gin_in h7) (mW_set hr3)) ?_
  refine GO.lift (fun _ => G_aload_n C 1 dX10_speaks_41 rfl) ?_
  refine GO.lift (fun _ => G_bipush C dX10_speaks_42 (v := 16) rfl) ?_
  refine GO.lift (fun _ => G_dup2 C dX10_speaks_44 rfl rfl) ?_
  refine GO.lift (fun _ => G_iald C q dX10_speaks_45 (mW_at hq) (by unfold vp_in; decide)) ?_
  refine GO.lift (fun _ => G_iconst C dX10_speaks_46 (v := 1) rfl) ?_
  refine GO.lift (fun _ => G_iadd C dX10_speaks_47) ?_
  refine GO.letS (fun r4 hr4 => ?_)
  refine GO.lift (fun _ => G_iast (ws' := mW K ws q ad 336 r4) C q dX10_speaks_48 (mW_at hq) (by unfold vp_in; decide) (mW_set hr4)) ?_
  refine GO.lift (fun _ => G_aload_n C 1 dX10_speaks_49 rfl) ?_
  refine GO.lift (fun _ => G_iload_n C 2 dX10_speaks_50 rfl) ?_
  refine GO.lift (fun _ => G_iconst C dX10_speaks_51 (v := 4) rfl) ?_
  refine GO.lift (fun _ => G_callSi C kd_X10_tokenAt ut_X10_tokenAt um_X10_66 (c_X10_tokenAt l K (mW K ws q ad 336 r4) x1 4) dX10_speaks_52 rfl rfl (Nat.le_of_ble_eq_true rfl) (Nat.le_of_ble_eq_true rfl)) ?_
  refine GO.guard (fun h8 => ?_)
  refine GO.lift (fun _ => G_iald C q dX10_speaks_55 (mW_at hq) (gin_in h8)) ?_
  refine GO_if_ne C 64 dX10_speaks_56 rfl (fun h9 => ?_) (fun h9 => ?_)
  · refine GO.lift (fun _ => G_aload_n C 1 dX10_speaks_59 rfl) ?_
    refine GO.lift (fun _ => G_iload_n C 0 dX10_speaks_60 rfl) ?_
    refine GO.bind (fun r5 hr5 => ?_)
    refine GO.lift (fun _ => G_callSv C kd_X10_isThrough ut_X10_isThrough um_X10_81 (c_X10_isThrough l K hq r4 (g (v_X10_tokenAt x1 1).toNatClampNeg) r5 hr5) dX10_speaks_61 rfl rfl (Nat.le_of_ble_eq_true rfl) (Nat.le_of_ble_eq_true rfl)) ?_
    exact GO.fin (G_vret C dX10_speaks_64 rfl)
  · exact GO.fin (G_vret C dX10_speaks_64 rfl)
/-! X10_whyNot -/
theorem kd_X10_whyNot : Card yX10_whyNot cX10_whyNot 4 (some .int) 3 := ⟨uc_X10_whyNot, un_X10, ⟨by decide, by decide, by decide⟩, by decide⟩
def o_X10_whyNot (g : Nat → Int32) (x1 : Int32) (x2 : Int32) : Option (Int32) := if gin (v_X10_officeAt x1 4) 336 = true then (if (g (v_X10_officeAt x1 4).toNatClampNeg) = 0 then some 3 else if gin (v_X10_letterAt x1 0 1) 336 = true then (if gin (v_X10_tokenAt x2 3) 336 = true then (if ((g (0 : Int32).toNatClampNeg) - (g (v_X10_tokenAt x2 3).toNatClampNeg)) < (g (v_X10_letterAt x1 0 1).toNatClampNeg) then some 4 else if gin (v_X10_officeAt x1 3) 336 = true then (if ((g (2 : Int32).toNatClampNeg) - (g (v_X10_officeAt x1 3).toNatClampNeg)) < (g (v_X10_letterAt x1 0 1).toNatClampNeg) then some 5 else some 6) else none) else none) else none) else none
theorem c_X10_whyNot (l : Launch) (K : gK) {ws : va_W} {q ad : Nat} (hq : q < ws.length) (g : Nat → Int32) (x1 : Int32) (x2 : Int32) (r : Int32) (hr : o_X10_whyNot g x1 x2 = some r) : Ct l K yX10_whyNot cX10_whyNot 4 (some .int) 2 [.ref ad, .int x1, .int x2] (mW K ws q ad 336 g) (some (.int r), mW K ws q ad 336 g) := by
  refine Ct.of (own := RX10) (fun z => (some (.int z), mW K ws q ad 336 g)) (x := r) (by decide) rfl (Nat.le_of_ble_eq_true rfl) (fun Γ C => GO.out (x := o_X10_whyNot g x1 x2) ?_ hr)
  unfold o_X10_whyNot
  refine GO.lift (fun _ => G_aload_n C 0 dX10_whyNot_0 rfl) ?_
  refine GO.lift (fun _ => G_iload_n C 1 dX10_whyNot_1 rfl) ?_
  refine GO.lift (fun _ => G_iconst C dX10_whyNot_2 (v := 4) rfl) ?_
  refine GO.lift (fun _ => G_callSi C kd_X10_officeAt ut_X10_officeAt um_X10_54 (c_X10_officeAt l K (mW K ws q ad 336 g) x1 4) dX10_whyNot_3 rfl rfl (Nat.le_of_ble_eq_true rfl) (Nat.le_of_ble_eq_true rfl)) ?_
  refine GO.guard (fun h1 => ?_)
  refine GO.lift (fun _ => G_iald C q dX10_whyNot_6 (mW_at hq) (gin_in h1)) ?_
  refine GO_if_ne C 12 dX10_whyNot_7 rfl (fun h2 => ?_) (fun h2 => ?_)
  · refine GO.lift (fun _ => G_iconst C dX10_whyNot_10 (v := 3) rfl) ?_
    exact GO.fin (G_iret C dX10_whyNot_11 rfl)
  · refine GO.lift (fun _ => G_aload_n C 0 dX10_whyNot_12 rfl) ?_
    refine GO.lift (fun _ => G_iload_n C 1 dX10_whyNot_13 rfl) ?_
    refine GO.lift (fun _ => G_iconst C dX10_whyNot_14 (v := 0) rfl) ?_
    refine GO.lift (fun _ => G_iconst C dX10_whyNot_15 (v := 1) rfl) ?_
    refine GO.lift (fun _ => G_callSi C kd_X10_letterAt ut_X10_letterAt um_X10_62 (c_X10_letterAt l K (mW K ws q ad 336 g) x1 0 1) dX10_whyNot_16 rfl rfl (Nat.le_of_ble_eq_true rfl) (Nat.le_of_ble_eq_true rfl)) ?_
    refine GO.guard (fun h3 => ?_)
    refine GO.lift (fun _ => G_iald C q dX10_whyNot_19 (mW_at hq) (gin_in h3)) ?_
    refine GO.lift (fun _ => G_istore_n (lv' := [(3, .int (g (v_X10_letterAt x1 0 1).toNatClampNeg)), (0, .ref ad), (1, .int x1), (2, .int x2)]) C dX10_whyNot_20 (by decide) rfl) ?_
    refine GO.lift (fun _ => G_iload_n C 0 dX10_whyNot_21 rfl) ?_
    refine GO.lift (fun _ => G_aload_n C 1 dX10_whyNot_22 rfl) ?_
    refine GO.lift (fun _ => G_iconst C dX10_whyNot_23 (v := 0) rfl) ?_
    refine GO.lift (fun _ => G_iald C q dX10_whyNot_24 (mW_at hq) (by unfold vp_in; decide)) ?_
    refine GO.lift (fun _ => G_aload_n C 1 dX10_whyNot_25 rfl) ?_
    refine GO.lift (fun _ => G_iload_n C 3 dX10_whyNot_26 rfl) ?_
    refine GO.lift (fun _ => G_iconst C dX10_whyNot_27 (v := 3) rfl) ?_
    refine GO.lift (fun _ => G_callSi C kd_X10_tokenAt ut_X10_tokenAt um_X10_66 (c_X10_tokenAt l K (mW K ws q ad 336 g) x2 3) dX10_whyNot_28 rfl rfl (Nat.le_of_ble_eq_true rfl) (Nat.le_of_ble_eq_true rfl)) ?_
    refine GO.guard (fun h4 => ?_)
    refine GO.lift (fun _ => G_iald C q dX10_whyNot_31 (mW_at hq) (gin_in h4)) ?_
    refine GO.lift (fun _ => G_isub C dX10_whyNot_32) ?_
    refine GO_icmp_le C 38 dX10_whyNot_33 rfl (fun h5 => ?_) (fun h5 => ?_)
    · refine GO.lift (fun _ => G_iconst C dX10_whyNot_36 (v := 4) rfl) ?_
      exact GO.fin (G_iret C dX10_whyNot_37 rfl)
    · refine GO.lift (fun _ => G_iload_n C 0 dX10_whyNot_38 rfl) ?_
      refine GO.lift (fun _ => G_aload_n C 1 dX10_whyNot_39 rfl) ?_
      refine GO.lift (fun _ => G_iconst C dX10_whyNot_40 (v := 2) rfl) ?_
      refine GO.lift (fun _ => G_iald C q dX10_whyNot_41 (mW_at hq) (by unfold vp_in; decide)) ?_
      refine GO.lift (fun _ => G_aload_n C 1 dX10_whyNot_42 rfl) ?_
      refine GO.lift (fun _ => G_iload_n C 2 dX10_whyNot_43 rfl) ?_
      refine GO.lift (fun _ => G_iconst C dX10_whyNot_44 (v := 3) rfl) ?_
      refine GO.lift (fun _ => G_callSi C kd_X10_officeAt ut_X10_officeAt um_X10_54 (c_X10_officeAt l K (mW K ws q ad 336 g) x1 3) dX10_whyNot_45 rfl rfl (Nat.le_of_ble_eq_true rfl) (Nat.le_of_ble_eq_true rfl)) ?_
      refine GO.guard (fun h6 => ?_)
      refine GO.lift (fun _ => G_iald C q dX10_whyNot_48 (mW_at hq) (gin_in h6)) ?_
      refine GO.lift (fun _ => G_isub C dX10_whyNot_49) ?_
      refine GO_icmp_le C 57 dX10_whyNot_50 rfl (fun h7 => ?_) (fun h7 => ?_)
      · refine GO.lift (fun _ => G_iconst C dX10_whyNot_53 (v := 5) rfl) ?_
        refine GO.lift (fun _ => G_goto C 59 dX10_whyNot_54 rfl) ?_
        exact GO.fin (G_iret C dX10_whyNot_59 rfl)
      · refine GO.lift (fun _ => G_bipush C dX10_whyNot_57 (v := 6) rfl) ?_
        exact GO.fin (G_iret C dX10_whyNot_59 rfl)
/-! X10_begins -/
theorem kd_X10_begins : Card yX10_begins cX10_begins 3 none 2 := ⟨uc_X10_begins, un_X10, ⟨by decide, by decide, by decide⟩, by decide⟩
def o_X10_begins_L45 (g : Nat → Int32) (x1 : Int32) (x2 : Int32) : Option ((Nat → Int32)) := (o_X10_setsOut g x1).bind (fun r1 => some r1)
theorem g_X10_begins_L45 {l : Launch} {K : gK} {Γ : gT} {ws : va_W} {q ad : Nat} (hq : q < ws.length) (C : Cx l K Γ RX10 cX10_begins 3 none 3) (g : Nat → Int32) (x1 : Int32) (x2 : Int32) : GO l K Γ (mW K ws q ad 336 g) 45 3 [(0, .ref ad), (1, .int x1), (2, .int x2)] [] (fun z => (none, mW K ws q ad 336 z)) (o_X10_begins_L45 g x1 x2) := by
  unfold o_X10_begins_L45
  refine GO.lift (fun _ => G_aload_n C 0 dX10_begins_45 rfl) ?_
  refine GO.lift (fun _ => G_iload_n C 1 dX10_begins_46 rfl) ?_
  refine GO.bind (fun r1 hr1 => ?_)
  refine GO.lift (fun _ => G_callSv C kd_X10_setsOut ut_X10_setsOut um_X10_77 (c_X10_setsOut l K hq g x1 r1 hr1) dX10_begins_47 rfl rfl (Nat.le_of_ble_eq_true rfl) (Nat.le_of_ble_eq_true rfl)) ?_
  exact GO.fin (G_vret C dX10_begins_50 rfl)
def o_X10_begins (g : Nat → Int32) (x1 : Int32) : Option ((Nat → Int32)) := if gin (v_X10_tokenAt x1 1) 336 = true then ((o_X10_isOpen g (g (v_X10_tokenAt x1 1).toNatClampNeg)).bind (fun r1 => if r1 = 0 then o_X10_begins_L45 g x1 (g (v_X10_tokenAt x1 1).toNatClampNeg) else (o_X10_whyNot g (g (v_X10_tokenAt x1 1).toNatClampNeg) x1).bind (fun r2 => if r2 = 6 then if gin (v_X10_letterAt (g (v_X10_tokenAt x1 1).toNatClampNeg) 0 1) 336 = true then (if gin (v_X10_tokenAt x1 4) 336 = true then (lt1 (upd g (v_X10_tokenAt x1 4).toNatClampNeg (g (v_X10_letterAt (g (v_X10_tokenAt x1 1).toNatClampNeg) 0 1).toNatClampNeg)) (fun r3 => some r3)) else none) else none else o_X10_begins_L45 g x1 (g (v_X10_tokenAt x1 1).toNatClampNeg)))) else none
theorem c_X10_begins (l : Launch) (K : gK) {ws : va_W} {q ad : Nat} (hq : q < ws.length) (g : Nat → Int32) (x1 : Int32) (r : (Nat → Int32)) (hr : o_X10_begins g x1 = some r) : Ct l K yX10_begins cX10_begins 3 none 3 [.ref ad, .int x1] (mW K ws q ad 336 g) (none, mW K ws q ad 336 r) := by
  refine Ct.of (own := RX10) (fun z => (none, mW K ws q ad 336 z)) (x := r) (by decide) rfl (Nat.le_of_ble_eq_true rfl) (fun Γ C => GO.out (x := o_X10_begins g x1) ?_ hr)
  unfold o_X10_begins
  refine GO.lift (fun _ => G_aload_n C 0 dX10_begins_0 rfl) ?_
  refine GO.lift (fun _ => G_iload_n C 1 dX10_begins_1 rfl) ?_
  refine GO.lift (fun _ => G_iconst C dX10_begins_2 (v := 1) rfl) ?_
  refine GO.lift (fun _ => G_callSi C kd_X10_tokenAt ut_X10_tokenAt um_X10_66 (c_X10_tokenAt l K (mW K ws q ad 336 g) x1 1) dX10_begins_3 rfl rfl (Nat.le_of_ble_eq_true rfl) (Nat.le_of_ble_eq_true rfl)) ?_
  refine GO.guard (fun h1 => ?_)
  refine GO.lift (fun _ => G_iald C q dX10_begins_6 (mW_at hq) (gin_in h1)) ?_
  refine GO.lift (fun _ => G_istore_n (lv' := [(2, .int (g (v_X10_tokenAt x1 1).toNatClampNeg)), (0, .ref ad), (1, .int x1)]) C dX10_begins_7 (by decide) rfl) ?_
  refine GO.lift (fun _ => G_aload_n C 1 dX10_begins_8 rfl) ?_
  refine GO.lift (fun _ => G_iload_n C 0 dX10_begins_9 rfl) ?_
  refine GO.bind (fun r1 hr1 => ?_)
  refine GO.lift (fun _ => G_callSi C kd_X10_isOpen ut_X10_isOpen um_X10_73 (c_X10_isOpen l K hq g (g (v_X10_tokenAt x1 1).toNatClampNeg) r1 hr1) dX10_begins_10 rfl rfl (Nat.le_of_ble_eq_true rfl) (Nat.le_of_ble_eq_true rfl)) ?_
  refine GO_if_eq C 45 dX10_begins_13 rfl (fun h2 => ?_) (fun h2 => ?_)
  · refine GO.sub [1, 2, 0] rfl ?_
    exact g_X10_begins_L45 hq C g x1 (g (v_X10_tokenAt x1 1).toNatClampNeg)
  · refine GO.lift (fun _ => G_aload_n C 1 dX10_begins_16 rfl) ?_
    refine GO.lift (fun _ => G_iload_n C 0 dX10_begins_17 rfl) ?_
    refine GO.lift (fun _ => G_iload_n C 2 dX10_begins_18 rfl) ?_
    refine GO.bind (fun r2 hr2 => ?_)
    refine GO.lift (fun _ => G_callSi C kd_X10_whyNot ut_X10_whyNot um_X10_91 (c_X10_whyNot l K hq g (g (v_X10_tokenAt x1 1).toNatClampNeg) x1 r2 hr2) dX10_begins_19 rfl rfl (Nat.le_of_ble_eq_true rfl) (Nat.le_of_ble_eq_true rfl)) ?_
    refine GO.lift (fun _ => G_bipush C dX10_begins_22 (v := 6) rfl) ?_
    refine GO_icmp_ne C 45 dX10_begins_24 rfl (fun h3 => ?_) (fun h3 => ?_)
    · refine GO.lift (fun _ => G_aload_n C 1 dX10_begins_27 rfl) ?_
      refine GO.lift (fun _ => G_iload_n C 2 dX10_begins_28 rfl) ?_
      refine GO.lift (fun _ => G_iconst C dX10_begins_29 (v := 4) rfl) ?_
      refine GO.lift (fun _ => G_callSi C kd_X10_tokenAt ut_X10_tokenAt um_X10_66 (c_X10_tokenAt l K (mW K ws q ad 336 g) x1 4) dX10_begins_30 rfl rfl (Nat.le_of_ble_eq_true rfl) (Nat.le_of_ble_eq_true rfl)) ?_
      refine GO.lift (fun _ => G_aload_n C 1 dX10_begins_33 rfl) ?_
      refine GO.lift (fun _ => G_iload_n C 0 dX10_begins_34 rfl) ?_
      refine GO.lift (fun _ => G_iconst C dX10_begins_35 (v := 0) rfl) ?_
      refine GO.lift (fun _ => G_iconst C dX10_begins_36 (v := 1) rfl) ?_
      refine GO.lift (fun _ => G_callSi C kd_X10_letterAt ut_X10_letterAt um_X10_62 (c_X10_letterAt l K (mW K ws q ad 336 g) (g (v_X10_tokenAt x1 1).toNatClampNeg) 0 1) dX10_begins_37 rfl rfl (Nat.le_of_ble_eq_true rfl) (Nat.le_of_ble_eq_true rfl)) ?_
      refine GO.guard (fun h4 => ?_)
      refine GO.lift (fun _ => G_iald C q dX10_begins_40 (mW_at hq) (gin_in h4)) ?_
      refine GO.guard (fun h5 => ?_)
      refine GO.letS (fun r3 hr3 => ?_)
      refine GO.lift (fun _ => G_iast (ws' := mW K ws q ad 336 r3) C q dX10_begins_41 (mW_at hq) (gin_in h5) (mW_set hr3)) ?_
      refine GO.lift (fun _ => G_goto C 50 dX10_begins_42 rfl) ?_
      exact GO.fin (G_vret C dX10_begins_50 rfl)
    · refine GO.sub [1, 2, 0] rfl ?_
      exact g_X10_begins_L45 hq C g x1 (g (v_X10_tokenAt x1 1).toNatClampNeg)
/-! X10_acts -/
theorem kd_X10_acts : Card yX10_acts cX10_acts 2 none 2 := ⟨uc_X10_acts, un_X10, ⟨by decide, by decide, by decide⟩, by decide⟩
def o_X10_acts (g : Nat → Int32) (x1 : Int32) : Option ((Nat → Int32)) := if gin (v_X10_tokenAt x1 5) 336 = true then (if (g (v_X10_tokenAt x1 5).toNatClampNeg) = 0 then (o_X10_drives g x1).bind (fun r1 => some r1) else if gin (v_X10_tokenAt x1 4) 336 = true then (if 0 < (g (v_X10_tokenAt x1 4).toNatClampNeg) then (o_X10_speaks g x1).bind (fun r2 => some r2) else (o_X10_begins g x1).bind (fun r3 => some r3)) else none) else none
theorem c_X10_acts (l : Launch) (K : gK) {ws : va_W} {q ad : Nat} (hq : q < ws.length) (g : Nat → Int32) (x1 : Int32) (r : (Nat → Int32)) (hr : o_X10_acts g x1 = some r) : Ct l K yX10_acts cX10_acts 2 none 5 [.ref ad, .int x1] (mW K ws q ad 336 g) (none, mW K ws q ad 336 r) := by
  refine Ct.of (own := RX10) (fun z => (none, mW K ws q ad 336 z)) (x := r) (by decide) rfl (Nat.le_of_ble_eq_true rfl) (fun Γ C => GO.out (x := o_X10_acts g x1) ?_ hr)
  unfold o_X10_acts
  refine GO.lift (fun _ => G_aload_n C 0 dX10_acts_0 rfl) ?_
  refine GO.lift (fun _ => G_iload_n C 1 dX10_acts_1 rfl) ?_
  refine GO.lift (fun _ => G_iconst C dX10_acts_2 (v := 5) rfl) ?_
  refine GO.lift (fun _ => G_callSi C kd_X10_tokenAt ut_X10_tokenAt um_X10_66 (c_X10_tokenAt l K (mW K ws q ad 336 g) x1 5) dX10_acts_3 rfl rfl (Nat.le_of_ble_eq_true rfl) (Nat.le_of_ble_eq_true rfl)) ?_
  refine GO.guard (fun h1 => ?_)
  refine GO.lift (fun _ => G_iald C q dX10_acts_6 (mW_at hq) (gin_in h1)) ?_
  refine GO_if_ne C 18 dX10_acts_7 rfl (fun h2 => ?_) (fun h2 => ?_)
  · refine GO.lift (fun _ => G_aload_n C 0 dX10_acts_10 rfl) ?_
    refine GO.lift (fun _ => G_iload_n C 1 dX10_acts_11 rfl) ?_
    refine GO.bind (fun r1 hr1 => ?_)
    refine GO.lift (fun _ => G_callSv C kd_X10_drives ut_X10_drives um_X10_95 (c_X10_drives l K hq g x1 r1 hr1) dX10_acts_12 rfl rfl (Nat.le_of_ble_eq_true rfl) (Nat.le_of_ble_eq_true rfl)) ?_
    refine GO.lift (fun _ => G_goto C 41 dX10_acts_15 rfl) ?_
    exact GO.fin (G_vret C dX10_acts_41 rfl)
  · refine GO.lift (fun _ => G_aload_n C 0 dX10_acts_18 rfl) ?_
    refine GO.lift (fun _ => G_iload_n C 1 dX10_acts_19 rfl) ?_
    refine GO.lift (fun _ => G_iconst C dX10_acts_20 (v := 4) rfl) ?_
    refine GO.lift (fun _ => G_callSi C kd_X10_tokenAt ut_X10_tokenAt um_X10_66 (c_X10_tokenAt l K (mW K ws q ad 336 g) x1 4) dX10_acts_21 rfl rfl (Nat.le_of_ble_eq_true rfl) (Nat.le_of_ble_eq_true rfl)) ?_
    refine GO.guard (fun h3 => ?_)
    refine GO.lift (fun _ => G_iald C q dX10_acts_24 (mW_at hq) (gin_in h3)) ?_
    refine GO_if_le C 36 dX10_acts_25 rfl (fun h4 => ?_) (fun h4 => ?_)
    · refine GO.lift (fun _ => G_aload_n C 0 dX10_acts_28 rfl) ?_
      refine GO.lift (fun _ => G_iload_n C 1 dX10_acts_29 rfl) ?_
      refine GO.bind (fun r2 hr2 => ?_)
      refine GO.lift (fun _ => G_callSv C kd_X10_speaks ut_X10_speaks um_X10_98 (c_X10_speaks l K hq g x1 r2 hr2) dX10_acts_30 rfl rfl (Nat.le_of_ble_eq_true rfl) (Nat.le_of_ble_eq_true rfl)) ?_
      refine GO.lift (fun _ => G_goto C 41 dX10_acts_33 rfl) ?_
      exact GO.fin (G_vret C dX10_acts_41 rfl)
    · refine GO.lift (fun _ => G_aload_n C 0 dX10_acts_36 rfl) ?_
      refine GO.lift (fun _ => G_iload_n C 1 dX10_acts_37 rfl) ?_
      refine GO.bind (fun r3 hr3 => ?_)
      refine GO.lift (fun _ => G_callSv C kd_X10_begins ut_X10_begins um_X10_101 (c_X10_begins l K hq g x1 r3 hr3) dX10_acts_38 rfl rfl (Nat.le_of_ble_eq_true rfl) (Nat.le_of_ble_eq_true rfl)) ?_
      exact GO.fin (G_vret C dX10_acts_41 rfl)
/-! X10_tears -/
theorem kd_X10_tears : Card yX10_tears cX10_tears 2 none 2 := ⟨uc_X10_tears, un_X10, ⟨by decide, by decide, by decide⟩, by decide⟩
def o_X10_tears (g : Nat → Int32) (x1 : Int32) : Option ((Nat → Int32)) := lt1 (upd g (13 : Int32).toNatClampNeg ((g (13 : Int32).toNatClampNeg) + 1)) (fun r1 => if gin (v_X10_tokenAt x1 0) 336 = true then (if gin (v_X10_tokenAt x1 1) 336 = true then ((o_X10_tells r1 3 (r1 (v_X10_tokenAt x1 0).toNatClampNeg) (r1 (v_X10_tokenAt x1 1).toNatClampNeg)).bind (fun r2 => (o_X10_dropToken r2 x1).bind (fun r3 => some r3))) else none) else none)
theorem c_X10_tears (l : Launch) (K : gK) {ws : va_W} {q ad : Nat} (hq : q < ws.length) (g : Nat → Int32) (x1 : Int32) (r : (Nat → Int32)) (hr : o_X10_tears g x1 = some r) : Ct l K yX10_tears cX10_tears 2 none 2 [.ref ad, .int x1] (mW K ws q ad 336 g) (none, mW K ws q ad 336 r) := by
  refine Ct.of (own := RX10) (fun z => (none, mW K ws q ad 336 z)) (x := r) (by decide) rfl (Nat.le_of_ble_eq_true rfl) (fun Γ C => GO.out (x := o_X10_tears g x1) ?_ hr)
  unfold o_X10_tears
  refine GO.lift (fun _ => G_aload_n C 0 dX10_tears_0 rfl) ?_
  refine GO.lift (fun _ => G_bipush C dX10_tears_1 (v := 13) rfl) ?_
  refine GO.lift (fun _ => G_dup2 C dX10_tears_3 rfl rfl) ?_
  refine GO.lift (fun _ => G_iald C q dX10_tears_4 (mW_at hq) (by unfold vp_in; decide)) ?_
  refine GO.lift (fun _ => G_iconst C dX10_tears_5 (v := 1) rfl) ?_
  refine GO.lift (fun _ => G_iadd C dX10_tears_6) ?_
  refine GO.letS (fun r1 hr1 => ?_)
  refine GO.lift (fun _ => G_iast (ws' := mW K ws q ad 336 r1) C q dX10_tears_7 (mW_at hq) (by unfold vp_in; decide) (mW_set hr1)) ?_
  refine GO.lift (fun _ => G_aload_n C 0 dX10_tears_8 rfl) ?_
  refine GO.lift (fun _ => G_iconst C dX10_tears_9 (v := 3) rfl) ?_
  refine GO.lift (fun _ => G_aload_n C 0 dX10_tears_10 rfl) ?_
  refine GO.lift (fun _ => G_iload_n C 1 dX10_tears_11 rfl) ?_
  refine GO.lift (fun _ => G_iconst C dX10_tears_12 (v := 0) rfl) ?_
  refine GO.lift (fun _ => G_callSi C kd_X10_tokenAt ut_X10_tokenAt um_X10_66 (c_X10_tokenAt l K (mW K ws q ad 336 r1) x1 0) dX10_tears_13 rfl rfl (Nat.le_of_ble_eq_true rfl) (Nat.le_of_ble_eq_true rfl)) ?_
  refine GO.guard (fun h1 => ?_)
  refine GO.lift (fun _ => G_iald C q dX10_tears_16 (mW_at hq) (gin_in h1)) ?_
  refine GO.lift (fun _ => G_aload_n C 0 dX10_tears_17 rfl) ?_
  refine GO.lift (fun _ => G_iload_n C 1 dX10_tears_18 rfl) ?_
  refine GO.lift (fun _ => G_iconst C dX10_tears_19 (v := 1) rfl) ?_
  refine GO.lift (fun _ => G_callSi C kd_X10_tokenAt ut_X10_tokenAt um_X10_66 (c_X10_tokenAt l K (mW K ws q ad 336 r1) x1 1) dX10_tears_20 rfl rfl (Nat.le_of_ble_eq_true rfl) (Nat.le_of_ble_eq_true rfl)) ?_
  refine GO.guard (fun h2 => ?_)
  refine GO.lift (fun _ => G_iald C q dX10_tears_23 (mW_at hq) (gin_in h2)) ?_
  refine GO.bind (fun r2 hr2 => ?_)
  refine GO.lift (fun _ => G_callSv C kd_X10_tells ut_X10_tells um_X10_88 (c_X10_tells l K hq r1 3 (r1 (v_X10_tokenAt x1 0).toNatClampNeg) (r1 (v_X10_tokenAt x1 1).toNatClampNeg) r2 hr2) dX10_tears_24 rfl rfl (Nat.le_of_ble_eq_true rfl) (Nat.le_of_ble_eq_true rfl)) ?_
  refine GO.lift (fun _ => G_aload_n C 0 dX10_tears_27 rfl) ?_
  refine GO.lift (fun _ => G_iload_n C 1 dX10_tears_28 rfl) ?_
  refine GO.bind (fun r3 hr3 => ?_)
  refine GO.lift (fun _ => G_callSv C kd_X10_dropToken ut_X10_dropToken um_X10_104 (c_X10_dropToken l K hq r2 x1 r3 hr3) dX10_tears_29 rfl rfl (Nat.le_of_ble_eq_true rfl) (Nat.le_of_ble_eq_true rfl)) ?_
  exact GO.fin (G_vret C dX10_tears_32 rfl)
/-! X10_olderOne -/
theorem kd_X10_olderOne : Card yX10_olderOne cX10_olderOne 2 (some .int) 1 := ⟨uc_X10_olderOne, un_X10, ⟨by decide, by decide, by decide⟩, by decide⟩
def o_X10_olderOne_L2 : Nat → (Nat → Int32) → Int32 → Option (Int32)
  | 0, _, _ => none
  | fuel + 1, g, x1 => if x1 < (g (5 : Int32).toNatClampNeg) then if gin (v_X10_tokenAt x1 5) 336 = true then (if (g (v_X10_tokenAt x1 5).toNatClampNeg) = 1 then if gin (v_X10_tokenAt x1 1) 336 = true then ((o_X10_tokenOn g (g (v_X10_tokenAt x1 1).toNatClampNeg) (x1 + 1)).bind (fun r1 => if r1 < 0 then o_X10_olderOne_L2 fuel g (x1 + 1) else some x1)) else none else o_X10_olderOne_L2 fuel g (x1 + 1)) else none else some (-2)
theorem g_X10_olderOne_L2 {l : Launch} {K : gK} {Γ : gT} {ws : va_W} {q ad : Nat} (hq : q < ws.length) (C : Cx l K Γ RX10 cX10_olderOne 2 (some .int) 3) : ∀ (k : Nat) (g : Nat → Int32) (x1 : Int32), GO l K Γ (mW K ws q ad 336 g) 2 2 [(0, .ref ad), (1, .int x1)] [] (fun z => (some (.int z), mW K ws q ad 336 g)) (o_X10_olderOne_L2 k g x1) := by
  intro k
  induction k with
  | zero =>
    intro g x1
    exact fun r hr => nomatch hr
  | succ k ih =>
    intro g x1
    rw [o_X10_olderOne_L2]
    refine GO.lift (fun _ => G_iload_n C 1 dX10_olderOne_2 rfl) ?_
    refine GO.lift (fun _ => G_aload_n C 0 dX10_olderOne_3 rfl) ?_
    refine GO.lift (fun _ => G_iconst C dX10_olderOne_4 (v := 5) rfl) ?_
    refine GO.lift (fun _ => G_iald C q dX10_olderOne_5 (mW_at hq) (by unfold vp_in; decide)) ?_
    refine GO_icmp_ge C 45 dX10_olderOne_6 rfl (fun h1 => ?_) (fun h1 => ?_)
    · refine GO.lift (fun _ => G_aload_n C 0 dX10_olderOne_9 rfl) ?_
      refine GO.lift (fun _ => G_iload_n C 1 dX10_olderOne_10 rfl) ?_
      refine GO.lift (fun _ => G_iconst C dX10_olderOne_11 (v := 5) rfl) ?_
      refine GO.lift (fun _ => G_callSi C kd_X10_tokenAt ut_X10_tokenAt um_X10_66 (c_X10_tokenAt l K (mW K ws q ad 336 g) x1 5) dX10_olderOne_12 rfl rfl (Nat.le_of_ble_eq_true rfl) (Nat.le_of_ble_eq_true rfl)) ?_
      refine GO.guard (fun h2 => ?_)
      refine GO.lift (fun _ => G_iald C q dX10_olderOne_15 (mW_at hq) (gin_in h2)) ?_
      refine GO.lift (fun _ => G_iconst C dX10_olderOne_16 (v := 1) rfl) ?_
      refine GO_icmp_ne C 39 dX10_olderOne_17 rfl (fun h3 => ?_) (fun h3 => ?_)
      · refine GO.lift (fun _ => G_aload_n C 0 dX10_olderOne_20 rfl) ?_
        refine GO.lift (fun _ => G_aload_n C 0 dX10_olderOne_21 rfl) ?_
        refine GO.lift (fun _ => G_iload_n C 1 dX10_olderOne_22 rfl) ?_
        refine GO.lift (fun _ => G_iconst C dX10_olderOne_23 (v := 1) rfl) ?_
        refine GO.lift (fun _ => G_callSi C kd_X10_tokenAt ut_X10_tokenAt um_X10_66 (c_X10_tokenAt l K (mW K ws q ad 336 g) x1 1) dX10_olderOne_24 rfl rfl (Nat.le_of_ble_eq_true rfl) (Nat.le_of_ble_eq_true rfl)) ?_
        refine GO.guard (fun h4 => ?_)
        refine GO.lift (fun _ => G_iald C q dX10_olderOne_27 (mW_at hq) (gin_in h4)) ?_
        refine GO.lift (fun _ => G_iload_n C 1 dX10_olderOne_28 rfl) ?_
        refine GO.lift (fun _ => G_iconst C dX10_olderOne_29 (v := 1) rfl) ?_
        refine GO.lift (fun _ => G_iadd C dX10_olderOne_30) ?_
        refine GO.bind (fun r1 hr1 => ?_)
        refine GO.lift (fun _ => G_callSi C kd_X10_tokenOn ut_X10_tokenOn um_X10_107 (c_X10_tokenOn l K hq g (g (v_X10_tokenAt x1 1).toNatClampNeg) (x1 + 1) r1 hr1) dX10_olderOne_31 rfl rfl (Nat.le_of_ble_eq_true rfl) (Nat.le_of_ble_eq_true rfl)) ?_
        refine GO_if_lt C 39 dX10_olderOne_34 rfl (fun h5 => ?_) (fun h5 => ?_)
        · refine GO.lift (fun _ => G_iinc (lv' := [(1, .int (x1 + 1)), (0, .ref ad)]) C 1 dX10_olderOne_39 rfl rfl (by decide) rfl) ?_
          refine GO.lift (fun _ => G_goto C 2 dX10_olderOne_42 rfl) ?_
          refine GO.sub [1, 0] rfl ?_
          exact ih g (x1 + 1)
        · refine GO.lift (fun _ => G_iload_n C 1 dX10_olderOne_37 rfl) ?_
          exact GO.fin (G_iret C dX10_olderOne_38 rfl)
      · refine GO.lift (fun _ => G_iinc (lv' := [(1, .int (x1 + 1)), (0, .ref ad)]) C 1 dX10_olderOne_39 rfl rfl (by decide) rfl) ?_
        refine GO.lift (fun _ => G_goto C 2 dX10_olderOne_42 rfl) ?_
        refine GO.sub [1, 0] rfl ?_
        exact ih g (x1 + 1)
    · refine GO.lift (fun _ => G_bipush C dX10_olderOne_45 (v := -2) rfl) ?_
      exact GO.fin (G_iret C dX10_olderOne_47 rfl)
def o_X10_olderOne (g : Nat → Int32) : Option (Int32) := o_X10_olderOne_L2 4000 g 0
theorem c_X10_olderOne (l : Launch) (K : gK) {ws : va_W} {q ad : Nat} (hq : q < ws.length) (g : Nat → Int32) (r : Int32) (hr : o_X10_olderOne g = some r) : Ct l K yX10_olderOne cX10_olderOne 2 (some .int) 3 [.ref ad] (mW K ws q ad 336 g) (some (.int r), mW K ws q ad 336 g) := by
  refine Ct.of (own := RX10) (fun z => (some (.int z), mW K ws q ad 336 g)) (x := r) (by decide) rfl (Nat.le_of_ble_eq_true rfl) (fun Γ C => GO.out (x := o_X10_olderOne g) ?_ hr)
  unfold o_X10_olderOne
  refine GO.lift (fun _ => G_iconst C dX10_olderOne_0 (v := 0) rfl) ?_
  refine GO.lift (fun _ => G_istore_n (lv' := [(1, .int 0), (0, .ref ad)]) C dX10_olderOne_1 (by decide) rfl) ?_
  refine GO.sub [1, 0] rfl ?_
  exact g_X10_olderOne_L2 hq C _ g 0
/-! X10_speakers -/
theorem kd_X10_speakers : Card yX10_speakers cX10_speakers 3 (some .int) 1 := ⟨uc_X10_speakers, un_X10, ⟨by decide, by decide, by decide⟩, by decide⟩
def o_X10_speakers_L4 : Nat → (Nat → Int32) → Int32 → Int32 → Option (Int32)
  | 0, _, _, _ => none
  | fuel + 1, g, x1, x2 => if x2 < (g (5 : Int32).toNatClampNeg) then if gin (v_X10_tokenAt x2 4) 336 = true then (if 0 < (g (v_X10_tokenAt x2 4).toNatClampNeg) then o_X10_speakers_L4 fuel g (x1 + 1) (x2 + 1) else o_X10_speakers_L4 fuel g x1 (x2 + 1)) else none else some x1
theorem g_X10_speakers_L4 {l : Launch} {K : gK} {Γ : gT} {ws : va_W} {q ad : Nat} (hq : q < ws.length) (C : Cx l K Γ RX10 cX10_speakers 3 (some .int) 1) : ∀ (k : Nat) (g : Nat → Int32) (x1 : Int32) (x2 : Int32), GO l K Γ (mW K ws q ad 336 g) 4 3 [(0, .ref ad), (1, .int x1), (2, .int x2)] [] (fun z => (some (.int z), mW K ws q ad 336 g)) (o_X10_speakers_L4 k g x1 x2) := by
  intro k
  induction k with
  | zero =>
    intro g x1 x2
    exact fun r hr => nomatch hr
  | succ k ih =>
    intro g x1 x2
    rw [o_X10_speakers_L4]
    refine GO.lift (fun _ => G_iload_n C 2 dX10_speakers_4 rfl) ?_
    refine GO.lift (fun _ => G_aload_n C 0 dX10_speakers_5 rfl) ?_
    refine GO.lift (fun _ => G_iconst C dX10_speakers_6 (v := 5) rfl) ?_
    refine GO.lift (fun _ => G_iald C q dX10_speakers_7 (mW_at hq) (by unfold vp_in; decide)) ?_
    refine GO_icmp_ge C 30 dX10_speakers_8 rfl (fun h1 => ?_) (fun h1 => ?_)
    · refine GO.lift (fun _ => G_aload_n C 0 dX10_speakers_11 rfl) ?_
      refine GO.lift (fun _ => G_iload_n C 2 dX10_speakers_12 rfl) ?_
      refine GO.lift (fun _ => G_iconst C dX10_speakers_13 (v := 4) rfl) ?_
      refine GO.lift (fun _ => G_callSi C kd_X10_tokenAt ut_X10_tokenAt um_X10_66 (c_X10_tokenAt l K (mW K ws q ad 336 g) x2 4) dX10_speakers_14 rfl rfl (Nat.le_of_ble_eq_true rfl) (Nat.le_of_ble_eq_true rfl)) ?_
      refine GO.guard (fun h2 => ?_)
      refine GO.lift (fun _ => G_iald C q dX10_speakers_17 (mW_at hq) (gin_in h2)) ?_
      refine GO_if_le C 24 dX10_speakers_18 rfl (fun h3 => ?_) (fun h3 => ?_)
      · refine GO.lift (fun _ => G_iinc (lv' := [(1, .int (x1 + 1)), (0, .ref ad), (2, .int x2)]) C 1 dX10_speakers_21 rfl rfl (by decide) rfl) ?_
        refine GO.lift (fun _ => G_iinc (lv' := [(2, .int (x2 + 1)), (1, .int (x1 + 1)), (0, .ref ad)]) C 2 dX10_speakers_24 rfl rfl (by decide) rfl) ?_
        refine GO.lift (fun _ => G_goto C 4 dX10_speakers_27 rfl) ?_
        refine GO.sub [2, 1, 0] rfl ?_
        exact ih g (x1 + 1) (x2 + 1)
      · refine GO.lift (fun _ => G_iinc (lv' := [(2, .int (x2 + 1)), (0, .ref ad), (1, .int x1)]) C 2 dX10_speakers_24 rfl rfl (by decide) rfl) ?_
        refine GO.lift (fun _ => G_goto C 4 dX10_speakers_27 rfl) ?_
        refine GO.sub [1, 2, 0] rfl ?_
        exact ih g x1 (x2 + 1)
    · refine GO.lift (fun _ => G_iload_n C 1 dX10_speakers_30 rfl) ?_
      exact GO.fin (G_iret C dX10_speakers_31 rfl)
def o_X10_speakers (g : Nat → Int32) : Option (Int32) := o_X10_speakers_L4 4000 g 0 0
theorem c_X10_speakers (l : Launch) (K : gK) {ws : va_W} {q ad : Nat} (hq : q < ws.length) (g : Nat → Int32) (r : Int32) (hr : o_X10_speakers g = some r) : Ct l K yX10_speakers cX10_speakers 3 (some .int) 1 [.ref ad] (mW K ws q ad 336 g) (some (.int r), mW K ws q ad 336 g) := by
  refine Ct.of (own := RX10) (fun z => (some (.int z), mW K ws q ad 336 g)) (x := r) (by decide) rfl (Nat.le_of_ble_eq_true rfl) (fun Γ C => GO.out (x := o_X10_speakers g) ?_ hr)
  unfold o_X10_speakers
  refine GO.lift (fun _ => G_iconst C dX10_speakers_0 (v := 0) rfl) ?_
  refine GO.lift (fun _ => G_istore_n (lv' := [(1, .int 0), (0, .ref ad)]) C dX10_speakers_1 (by decide) rfl) ?_
  refine GO.lift (fun _ => G_iconst C dX10_speakers_2 (v := 0) rfl) ?_
  refine GO.lift (fun _ => G_istore_n (lv' := [(2, .int 0), (1, .int 0), (0, .ref ad)]) C dX10_speakers_3 (by decide) rfl) ?_
  refine GO.sub [2, 1, 0] rfl ?_
  exact g_X10_speakers_L4 hq C _ g 0 0
/-! X10_elects -/
theorem kd_X10_elects : Card yX10_elects cX10_elects 3 none 1 := ⟨uc_X10_elects, un_X10, ⟨by decide, by decide, by decide⟩, by decide⟩
def o_X10_elects (g : Nat → Int32) : Option ((Nat → Int32)) := (o_X10_winnerOf g ).bind (fun r1 => if r1 < 0 then some g else (o_X10_addToken g r1).bind (fun r2 => lt1 (upd r2.2 (12 : Int32).toNatClampNeg ((r2.2 (12 : Int32).toNatClampNeg) + 1)) (fun r3 => lt1 (upd r3 (6 : Int32).toNatClampNeg 0) (fun r4 => (o_X10_tells r4 4 r1 r2.1).bind (fun r5 => some r5)))))
theorem c_X10_elects (l : Launch) (K : gK) {ws : va_W} {q ad : Nat} (hq : q < ws.length) (g : Nat → Int32) (r : (Nat → Int32)) (hr : o_X10_elects g = some r) : Ct l K yX10_elects cX10_elects 3 none 3 [.ref ad] (mW K ws q ad 336 g) (none, mW K ws q ad 336 r) := by
  refine Ct.of (own := RX10) (fun z => (none, mW K ws q ad 336 z)) (x := r) (by decide) rfl (Nat.le_of_ble_eq_true rfl) (fun Γ C => GO.out (x := o_X10_elects g) ?_ hr)
  unfold o_X10_elects
  refine GO.lift (fun _ => G_aload_n C 0 dX10_elects_0 rfl) ?_
  refine GO.bind (fun r1 hr1 => ?_)
  refine GO.lift (fun _ => G_callSi C kd_X10_winnerOf ut_X10_winnerOf um_X10_110 (c_X10_winnerOf l K hq g  r1 hr1) dX10_elects_1 rfl rfl (Nat.le_of_ble_eq_true rfl) (Nat.le_of_ble_eq_true rfl)) ?_
  refine GO.lift (fun _ => G_istore_n (lv' := [(1, .int r1), (0, .ref ad)]) C dX10_elects_4 (by decide) rfl) ?_
  refine GO.lift (fun _ => G_iload_n C 0 dX10_elects_5 rfl) ?_
  refine GO_if_ge C 10 dX10_elects_6 rfl (fun h1 => ?_) (fun h1 => ?_)
  · exact GO.fin (G_vret C dX10_elects_9 rfl)
  · refine GO.lift (fun _ => G_aload_n C 1 dX10_elects_10 rfl) ?_
    refine GO.lift (fun _ => G_iload_n C 0 dX10_elects_11 rfl) ?_
    refine GO.bind (fun r2 hr2 => ?_)
    refine GO.lift (fun _ => G_callSi C kd_X10_addToken ut_X10_addToken um_X10_43 (c_X10_addToken l K hq g r1 r2 hr2) dX10_elects_12 rfl rfl (Nat.le_of_ble_eq_true rfl) (Nat.le_of_ble_eq_true rfl)) ?_
    refine GO.lift (fun _ => G_istore_n (lv' := [(2, .int r2.1), (1, .int r1), (0, .ref ad)]) C dX10_elects_15 (by decide) rfl) ?_
    refine GO.lift (fun _ => G_aload_n C 2 dX10_elects_16 rfl) ?_
    refine GO.lift (fun _ => G_bipush C dX10_elects_17 (v := 12) rfl) ?_
    refine GO.lift (fun _ => G_dup2 C dX10_elects_19 rfl rfl) ?_
    refine GO.lift (fun _ => G_iald C q dX10_elects_20 (mW_at hq) (by unfold vp_in; decide)) ?_
    refine GO.lift (fun _ => G_iconst C dX10_elects_21 (v := 1) rfl) ?_
    refine GO.lift (fun _ => G_iadd C dX10_elects_22) ?_
    refine GO.letS (fun r3 hr3 => ?_)
    refine GO.lift (fun _ => G_iast (ws' := mW K ws q ad 336 r3) C q dX10_elects_23 (mW_at hq) (by unfold vp_in; decide) (mW_set hr3)) ?_
    refine GO.lift (fun _ => G_aload_n C 2 dX10_elects_24 rfl) ?_
    refine GO.lift (fun _ => G_bipush C dX10_elects_25 (v := 6) rfl) ?_
    refine GO.lift (fun _ => G_iconst C dX10_elects_27 (v := 0) rfl) ?_
    refine GO.letS (fun r4 hr4 => ?_)
    refine GO.lift (fun _ => G_iast (ws' := mW K ws q ad 336 r4) C q dX10_elects_28 (mW_at hq) (by unfold vp_in; decide) (mW_set hr4)) ?_
    refine GO.lift (fun _ => G_aload_n C 2 dX10_elects_29 rfl) ?_
    refine GO.lift (fun _ => G_iconst C dX10_elects_30 (v := 4) rfl) ?_
    refine GO.lift (fun _ => G_iload_n C 1 dX10_elects_31 rfl) ?_
    refine GO.lift (fun _ => G_iload_n C 0 dX10_elects_32 rfl) ?_
    refine GO.bind (fun r5 hr5 => ?_)
    refine GO.lift (fun _ => G_callSv C kd_X10_tells ut_X10_tells um_X10_88 (c_X10_tells l K hq r4 4 r1 r2.1 r5 hr5) dX10_elects_33 rfl rfl (Nat.le_of_ble_eq_true rfl) (Nat.le_of_ble_eq_true rfl)) ?_
    exact GO.fin (G_vret C dX10_elects_36 rfl)
/-! X10_newDay -/
theorem kd_X10_newDay : Card yX10_newDay cX10_newDay 2 none 1 := ⟨uc_X10_newDay, un_X10, ⟨by decide, by decide, by decide⟩, by decide⟩
def o_X10_newDay_L2 : Nat → (Nat → Int32) → Int32 → Option ((Nat → Int32))
  | 0, _, _ => none
  | fuel + 1, g, x1 => if x1 < (g (4 : Int32).toNatClampNeg) then if gin (v_X10_officeAt x1 3) 336 = true then (lt1 (upd g (v_X10_officeAt x1 3).toNatClampNeg 0) (fun r1 => o_X10_newDay_L2 fuel r1 (x1 + 1))) else none else some g
theorem g_X10_newDay_L2 {l : Launch} {K : gK} {Γ : gT} {ws : va_W} {q ad : Nat} (hq : q < ws.length) (C : Cx l K Γ RX10 cX10_newDay 2 none 1) : ∀ (k : Nat) (g : Nat → Int32) (x1 : Int32), GO l K Γ (mW K ws q ad 336 g) 2 2 [(0, .ref ad), (1, .int x1)] [] (fun z => (none, mW K ws q ad 336 z)) (o_X10_newDay_L2 k g x1) := by
  intro k
  induction k with
  | zero =>
    intro g x1
    exact fun r hr => nomatch hr
  | succ k ih =>
    intro g x1
    rw [o_X10_newDay_L2]
    refine GO.lift (fun _ => G_iload_n C 1 dX10_newDay_2 rfl) ?_
    refine GO.lift (fun _ => G_aload_n C 0 dX10_newDay_3 rfl) ?_
    refine GO.lift (fun _ => G_iconst C dX10_newDay_4 (v := 4) rfl) ?_
    refine GO.lift (fun _ => G_iald C q dX10_newDay_5 (mW_at hq) (by unfold vp_in; decide)) ?_
    refine GO_icmp_ge C 23 dX10_newDay_6 rfl (fun h1 => ?_) (fun h1 => ?_)
    · refine GO.lift (fun _ => G_aload_n C 0 dX10_newDay_9 rfl) ?_
      refine GO.lift (fun _ => G_iload_n C 1 dX10_newDay_10 rfl) ?_
      refine GO.lift (fun _ => G_iconst C dX10_newDay_11 (v := 3) rfl) ?_
      refine GO.lift (fun _ => G_callSi C kd_X10_officeAt ut_X10_officeAt um_X10_54 (c_X10_officeAt l K (mW K ws q ad 336 g) x1 3) dX10_newDay_12 rfl rfl (Nat.le_of_ble_eq_true rfl) (Nat.le_of_ble_eq_true rfl)) ?_
      refine GO.lift (fun _ => G_iconst C dX10_newDay_15 (v := 0) rfl) ?_
      refine GO.guard (fun h2 => ?_)
      refine GO.letS (fun r1 hr1 => ?_)
      refine GO.lift (fun _ => G_iast (ws' := mW K ws q ad 336 r1) C q dX10_newDay_16 (mW_at hq) (gin_in h2) (mW_set hr1)) ?_
      refine GO.lift (fun _ => G_iinc (lv' := [(1, .int (x1 + 1)), (0, .ref ad)]) C 1 dX10_newDay_17 rfl rfl (by decide) rfl) ?_
      refine GO.lift (fun _ => G_goto C 2 dX10_newDay_20 rfl) ?_
      refine GO.sub [1, 0] rfl ?_
      exact ih r1 (x1 + 1)
    · exact GO.fin (G_vret C dX10_newDay_23 rfl)
def o_X10_newDay (g : Nat → Int32) : Option ((Nat → Int32)) := o_X10_newDay_L2 4000 g 0
theorem c_X10_newDay (l : Launch) (K : gK) {ws : va_W} {q ad : Nat} (hq : q < ws.length) (g : Nat → Int32) (r : (Nat → Int32)) (hr : o_X10_newDay g = some r) : Ct l K yX10_newDay cX10_newDay 2 none 1 [.ref ad] (mW K ws q ad 336 g) (none, mW K ws q ad 336 r) := by
  refine Ct.of (own := RX10) (fun z => (none, mW K ws q ad 336 z)) (x := r) (by decide) rfl (Nat.le_of_ble_eq_true rfl) (fun Γ C => GO.out (x := o_X10_newDay g) ?_ hr)
  unfold o_X10_newDay
  refine GO.lift (fun _ => G_iconst C dX10_newDay_0 (v := 0) rfl) ?_
  refine GO.lift (fun _ => G_istore_n (lv' := [(1, .int 0), (0, .ref ad)]) C dX10_newDay_1 (by decide) rfl) ?_
  refine GO.sub [1, 0] rfl ?_
  exact g_X10_newDay_L2 hq C _ g 0
/-! X10_minutes -/
theorem kd_X10_minutes : Card yX10_minutes cX10_minutes 2 none 1 := ⟨uc_X10_minutes, un_X10, ⟨by decide, by decide, by decide⟩, by decide⟩
def o_X10_minutes_L97 (g : Nat → Int32) (x1 : Int32) (t0 : Int32) (t1 : Int32) : Option ((Nat → Int32)) := if gin t1 336 = true then (lt1 (upd g t1.toNatClampNeg t0) (fun r1 => if (r1 (6 : Int32).toNatClampNeg) < (r1 (1 : Int32).toNatClampNeg) then some r1 else (o_X10_elects r1 ).bind (fun r2 => some r2))) else none
theorem g_X10_minutes_L97 {l : Launch} {K : gK} {Γ : gT} {ws : va_W} {q ad : Nat} (hq : q < ws.length) (C : Cx l K Γ RX10 cX10_minutes 2 none 6) (g : Nat → Int32) (x1 : Int32) (t0 : Int32) (t1 : Int32) : GO l K Γ (mW K ws q ad 336 g) 97 2 [(0, .ref ad), (1, .int x1)] [.int t0, .int t1, .ref ad] (fun z => (none, mW K ws q ad 336 z)) (o_X10_minutes_L97 g x1 t0 t1) := by
  unfold o_X10_minutes_L97
  refine GO.guard (fun h1 => ?_)
  refine GO.letS (fun r1 hr1 => ?_)
  refine GO.lift (fun _ => G_iast (ws' := mW K ws q ad 336 r1) C q dX10_minutes_97 (mW_at hq) (gin_in h1) (mW_set hr1)) ?_
  refine GO.lift (fun _ => G_aload_n C 0 dX10_minutes_98 rfl) ?_
  refine GO.lift (fun _ => G_bipush C dX10_minutes_99 (v := 6) rfl) ?_
  refine GO.lift (fun _ => G_iald C q dX10_minutes_101 (mW_at hq) (by unfold vp_in; decide)) ?_
  refine GO.lift (fun _ => G_aload_n C 0 dX10_minutes_102 rfl) ?_
  refine GO.lift (fun _ => G_iconst C dX10_minutes_103 (v := 1) rfl) ?_
  refine GO.lift (fun _ => G_iald C q dX10_minutes_104 (mW_at hq) (by unfold vp_in; decide)) ?_
  refine GO_icmp_lt C 112 dX10_minutes_105 rfl (fun h2 => ?_) (fun h2 => ?_)
  · exact GO.fin (G_vret C dX10_minutes_112 rfl)
  · refine GO.lift (fun _ => G_aload_n C 0 dX10_minutes_108 rfl) ?_
    refine GO.bind (fun r2 hr2 => ?_)
    refine GO.lift (fun _ => G_callSv C kd_X10_elects ut_X10_elects um_X10_130 (c_X10_elects l K hq r1  r2 hr2) dX10_minutes_109 rfl rfl (Nat.le_of_ble_eq_true rfl) (Nat.le_of_ble_eq_true rfl)) ?_
    exact GO.fin (G_vret C dX10_minutes_112 rfl)
def o_X10_minutes_L78 (g : Nat → Int32) (x1 : Int32) : Option ((Nat → Int32)) := if (g (5 : Int32).toNatClampNeg) = 0 then o_X10_minutes_L97 g x1 ((g (6 : Int32).toNatClampNeg) + 1) 6 else o_X10_minutes_L97 g x1 0 6
theorem g_X10_minutes_L78 {l : Launch} {K : gK} {Γ : gT} {ws : va_W} {q ad : Nat} (hq : q < ws.length) (C : Cx l K Γ RX10 cX10_minutes 2 none 6) (g : Nat → Int32) (x1 : Int32) : GO l K Γ (mW K ws q ad 336 g) 78 2 [(0, .ref ad), (1, .int x1)] [] (fun z => (none, mW K ws q ad 336 z)) (o_X10_minutes_L78 g x1) := by
  unfold o_X10_minutes_L78
  refine GO.lift (fun _ => G_aload_n C 0 dX10_minutes_78 rfl) ?_
  refine GO.lift (fun _ => G_bipush C dX10_minutes_79 (v := 6) rfl) ?_
  refine GO.lift (fun _ => G_aload_n C 0 dX10_minutes_81 rfl) ?_
  refine GO.lift (fun _ => G_iconst C dX10_minutes_82 (v := 5) rfl) ?_
  refine GO.lift (fun _ => G_iald C q dX10_minutes_83 (mW_at hq) (by unfold vp_in; decide)) ?_
  refine GO_if_ne C 96 dX10_minutes_84 rfl (fun h1 => ?_) (fun h1 => ?_)
  · refine GO.lift (fun _ => G_aload_n C 0 dX10_minutes_87 rfl) ?_
    refine GO.lift (fun _ => G_bipush C dX10_minutes_88 (v := 6) rfl) ?_
    refine GO.lift (fun _ => G_iald C q dX10_minutes_90 (mW_at hq) (by unfold vp_in; decide)) ?_
    refine GO.lift (fun _ => G_iconst C dX10_minutes_91 (v := 1) rfl) ?_
    refine GO.lift (fun _ => G_iadd C dX10_minutes_92) ?_
    refine GO.lift (fun _ => G_goto C 97 dX10_minutes_93 rfl) ?_
    refine GO.sub [0, 1] rfl ?_
    exact g_X10_minutes_L97 hq C g x1 ((g (6 : Int32).toNatClampNeg) + 1) 6
  · refine GO.lift (fun _ => G_iconst C dX10_minutes_96 (v := 0) rfl) ?_
    refine GO.sub [0, 1] rfl ?_
    exact g_X10_minutes_L97 hq C g x1 0 6
def o_X10_minutes_L45 : Nat → (Nat → Int32) → Int32 → Option ((Nat → Int32))
  | 0, _, _ => none
  | fuel + 1, g, x1 => if x1 < 0 then (o_X10_speakers g ).bind (fun r1 => if 1 < r1 then lt1 (upd g (15 : Int32).toNatClampNeg ((g (15 : Int32).toNatClampNeg) + 1)) (fun r2 => o_X10_minutes_L78 r2 x1) else o_X10_minutes_L78 g x1) else (o_X10_tears g x1).bind (fun r3 => (o_X10_olderOne r3 ).bind (fun r4 => o_X10_minutes_L45 fuel r3 r4))
theorem g_X10_minutes_L45 {l : Launch} {K : gK} {Γ : gT} {ws : va_W} {q ad : Nat} (hq : q < ws.length) (C : Cx l K Γ RX10 cX10_minutes 2 none 6) : ∀ (k : Nat) (g : Nat → Int32) (x1 : Int32), GO l K Γ (mW K ws q ad 336 g) 45 2 [(0, .ref ad), (1, .int x1)] [] (fun z => (none, mW K ws q ad 336 z)) (o_X10_minutes_L45 k g x1) := by
  intro k
  induction k with
  | zero =>
    intro g x1
    exact fun r hr => nomatch hr
  | succ k ih =>
    intro g x1
    rw [o_X10_minutes_L45]
    refine GO.lift (fun _ => G_iload_n C 1 dX10_minutes_45 rfl) ?_
    refine GO_if_lt C 62 dX10_minutes_46 rfl (fun h1 => ?_) (fun h1 => ?_)
    · refine GO.lift (fun _ => G_aload_n C 0 dX10_minutes_62 rfl) ?_
      refine GO.bind (fun r1 hr1 => ?_)
      refine GO.lift (fun _ => G_callSi C kd_X10_speakers ut_X10_speakers um_X10_127 (c_X10_speakers l K hq g  r1 hr1) dX10_minutes_63 rfl rfl (Nat.le_of_ble_eq_true rfl) (Nat.le_of_ble_eq_true rfl)) ?_
      refine GO.lift (fun _ => G_iconst C dX10_minutes_66 (v := 1) rfl) ?_
      refine GO_icmp_le C 78 dX10_minutes_67 rfl (fun h2 => ?_) (fun h2 => ?_)
      · refine GO.lift (fun _ => G_aload_n C 0 dX10_minutes_70 rfl) ?_
        refine GO.lift (fun _ => G_bipush C dX10_minutes_71 (v := 15) rfl) ?_
        refine GO.lift (fun _ => G_dup2 C dX10_minutes_73 rfl rfl) ?_
        refine GO.lift (fun _ => G_iald C q dX10_minutes_74 (mW_at hq) (by unfold vp_in; decide)) ?_
        refine GO.lift (fun _ => G_iconst C dX10_minutes_75 (v := 1) rfl) ?_
        refine GO.lift (fun _ => G_iadd C dX10_minutes_76) ?_
        refine GO.letS (fun r2 hr2 => ?_)
        refine GO.lift (fun _ => G_iast (ws' := mW K ws q ad 336 r2) C q dX10_minutes_77 (mW_at hq) (by unfold vp_in; decide) (mW_set hr2)) ?_
        refine GO.sub [0, 1] rfl ?_
        exact g_X10_minutes_L78 hq C r2 x1
      · refine GO.sub [0, 1] rfl ?_
        exact g_X10_minutes_L78 hq C g x1
    · refine GO.lift (fun _ => G_aload_n C 0 dX10_minutes_49 rfl) ?_
      refine GO.lift (fun _ => G_iload_n C 1 dX10_minutes_50 rfl) ?_
      refine GO.bind (fun r3 hr3 => ?_)
      refine GO.lift (fun _ => G_callSv C kd_X10_tears ut_X10_tears um_X10_124 (c_X10_tears l K hq g x1 r3 hr3) dX10_minutes_51 rfl rfl (Nat.le_of_ble_eq_true rfl) (Nat.le_of_ble_eq_true rfl)) ?_
      refine GO.lift (fun _ => G_aload_n C 0 dX10_minutes_54 rfl) ?_
      refine GO.bind (fun r4 hr4 => ?_)
      refine GO.lift (fun _ => G_callSi C kd_X10_olderOne ut_X10_olderOne um_X10_121 (c_X10_olderOne l K hq r3  r4 hr4) dX10_minutes_55 rfl rfl (Nat.le_of_ble_eq_true rfl) (Nat.le_of_ble_eq_true rfl)) ?_
      refine GO.lift (fun _ => G_istore_n (lv' := [(1, .int r4), (0, .ref ad)]) C dX10_minutes_58 (by decide) rfl) ?_
      refine GO.lift (fun _ => G_goto C 45 dX10_minutes_59 rfl) ?_
      refine GO.sub [1, 0] rfl ?_
      exact ih r3 r4
def o_X10_minutes_L22 : Nat → (Nat → Int32) → Int32 → Option ((Nat → Int32))
  | 0, _, _ => none
  | fuel + 1, g, x1 => if x1 < (g (5 : Int32).toNatClampNeg) then (o_X10_acts g x1).bind (fun r1 => o_X10_minutes_L22 fuel r1 (x1 + 1)) else (o_X10_olderOne g ).bind (fun r2 => o_X10_minutes_L45 4000 g r2)
theorem g_X10_minutes_L22 {l : Launch} {K : gK} {Γ : gT} {ws : va_W} {q ad : Nat} (hq : q < ws.length) (C : Cx l K Γ RX10 cX10_minutes 2 none 6) : ∀ (k : Nat) (g : Nat → Int32) (x1 : Int32), GO l K Γ (mW K ws q ad 336 g) 22 2 [(0, .ref ad), (1, .int x1)] [] (fun z => (none, mW K ws q ad 336 z)) (o_X10_minutes_L22 k g x1) := by
  intro k
  induction k with
  | zero =>
    intro g x1
    exact fun r hr => nomatch hr
  | succ k ih =>
    intro g x1
    rw [o_X10_minutes_L22]
    refine GO.lift (fun _ => G_iload_n C 1 dX10_minutes_22 rfl) ?_
    refine GO.lift (fun _ => G_aload_n C 0 dX10_minutes_23 rfl) ?_
    refine GO.lift (fun _ => G_iconst C dX10_minutes_24 (v := 5) rfl) ?_
    refine GO.lift (fun _ => G_iald C q dX10_minutes_25 (mW_at hq) (by unfold vp_in; decide)) ?_
    refine GO_icmp_ge C 40 dX10_minutes_26 rfl (fun h1 => ?_) (fun h1 => ?_)
    · refine GO.lift (fun _ => G_aload_n C 0 dX10_minutes_29 rfl) ?_
      refine GO.lift (fun _ => G_iload_n C 1 dX10_minutes_30 rfl) ?_
      refine GO.bind (fun r1 hr1 => ?_)
      refine GO.lift (fun _ => G_callSv C kd_X10_acts ut_X10_acts um_X10_118 (c_X10_acts l K hq g x1 r1 hr1) dX10_minutes_31 rfl rfl (Nat.le_of_ble_eq_true rfl) (Nat.le_of_ble_eq_true rfl)) ?_
      refine GO.lift (fun _ => G_iinc (lv' := [(1, .int (x1 + 1)), (0, .ref ad)]) C 1 dX10_minutes_34 rfl rfl (by decide) rfl) ?_
      refine GO.lift (fun _ => G_goto C 22 dX10_minutes_37 rfl) ?_
      refine GO.sub [1, 0] rfl ?_
      exact ih r1 (x1 + 1)
    · refine GO.lift (fun _ => G_aload_n C 0 dX10_minutes_40 rfl) ?_
      refine GO.bind (fun r2 hr2 => ?_)
      refine GO.lift (fun _ => G_callSi C kd_X10_olderOne ut_X10_olderOne um_X10_121 (c_X10_olderOne l K hq g  r2 hr2) dX10_minutes_41 rfl rfl (Nat.le_of_ble_eq_true rfl) (Nat.le_of_ble_eq_true rfl)) ?_
      refine GO.lift (fun _ => G_istore_n (lv' := [(1, .int r2), (0, .ref ad)]) C dX10_minutes_44 (by decide) rfl) ?_
      refine GO.sub [1, 0] rfl ?_
      exact g_X10_minutes_L45 hq C _ g r2
def o_X10_minutes_L20 (g : Nat → Int32) : Option ((Nat → Int32)) := o_X10_minutes_L22 4000 g 0
theorem g_X10_minutes_L20 {l : Launch} {K : gK} {Γ : gT} {ws : va_W} {q ad : Nat} (hq : q < ws.length) (C : Cx l K Γ RX10 cX10_minutes 2 none 6) (g : Nat → Int32) : GO l K Γ (mW K ws q ad 336 g) 20 2 [(0, .ref ad)] [] (fun z => (none, mW K ws q ad 336 z)) (o_X10_minutes_L20 g) := by
  unfold o_X10_minutes_L20
  refine GO.lift (fun _ => G_iconst C dX10_minutes_20 (v := 0) rfl) ?_
  refine GO.lift (fun _ => G_istore_n (lv' := [(1, .int 0), (0, .ref ad)]) C dX10_minutes_21 (by decide) rfl) ?_
  refine GO.sub [1, 0] rfl ?_
  exact g_X10_minutes_L22 hq C _ g 0
def o_X10_minutes (g : Nat → Int32) : Option ((Nat → Int32)) := lt1 (upd g (3 : Int32).toNatClampNeg ((g (3 : Int32).toNatClampNeg) + 1)) (fun r1 => if (jrem (r1 (3 : Int32).toNatClampNeg) 60) = 0 then (o_X10_newDay r1 ).bind (fun r2 => o_X10_minutes_L20 r2) else o_X10_minutes_L20 r1)
theorem c_X10_minutes (l : Launch) (K : gK) {ws : va_W} {q ad : Nat} (hq : q < ws.length) (g : Nat → Int32) (r : (Nat → Int32)) (hr : o_X10_minutes g = some r) : Ct l K yX10_minutes cX10_minutes 2 none 6 [.ref ad] (mW K ws q ad 336 g) (none, mW K ws q ad 336 r) := by
  refine Ct.of (own := RX10) (fun z => (none, mW K ws q ad 336 z)) (x := r) (by decide) rfl (Nat.le_of_ble_eq_true rfl) (fun Γ C => GO.out (x := o_X10_minutes g) ?_ hr)
  unfold o_X10_minutes
  refine GO.lift (fun _ => G_aload_n C 0 dX10_minutes_0 rfl) ?_
  refine GO.lift (fun _ => G_iconst C dX10_minutes_1 (v := 3) rfl) ?_
  refine GO.lift (fun _ => G_dup2 C dX10_minutes_2 rfl rfl) ?_
  refine GO.lift (fun _ => G_iald C q dX10_minutes_3 (mW_at hq) (by unfold vp_in; decide)) ?_
  refine GO.lift (fun _ => G_iconst C dX10_minutes_4 (v := 1) rfl) ?_
  refine GO.lift (fun _ => G_iadd C dX10_minutes_5) ?_
  refine GO.letS (fun r1 hr1 => ?_)
  refine GO.lift (fun _ => G_iast (ws' := mW K ws q ad 336 r1) C q dX10_minutes_6 (mW_at hq) (by unfold vp_in; decide) (mW_set hr1)) ?_
  refine GO.lift (fun _ => G_aload_n C 0 dX10_minutes_7 rfl) ?_
  refine GO.lift (fun _ => G_iconst C dX10_minutes_8 (v := 3) rfl) ?_
  refine GO.lift (fun _ => G_iald C q dX10_minutes_9 (mW_at hq) (by unfold vp_in; decide)) ?_
  refine GO.lift (fun _ => G_bipush C dX10_minutes_10 (v := 60) rfl) ?_
  refine GO.lift (fun _ => G_irem C dX10_minutes_12 (by decide)) ?_
  refine GO_if_ne C 20 dX10_minutes_13 rfl (fun h1 => ?_) (fun h1 => ?_)
  · refine GO.lift (fun _ => G_aload_n C 0 dX10_minutes_16 rfl) ?_
    refine GO.bind (fun r2 hr2 => ?_)
    refine GO.lift (fun _ => G_callSv C kd_X10_newDay ut_X10_newDay um_X10_114 (c_X10_newDay l K hq r1  r2 hr2) dX10_minutes_17 rfl rfl (Nat.le_of_ble_eq_true rfl) (Nat.le_of_ble_eq_true rfl)) ?_
    refine GO.sub [0] rfl ?_
    exact g_X10_minutes_L20 hq C r2
  · refine GO.sub [0] rfl ?_
    exact g_X10_minutes_L20 hq C r1
/-! X10_minutesMany -/
theorem kd_X10_minutesMany : Card yX10_minutesMany cX10_minutesMany 3 none 2 := ⟨uc_X10_minutesMany, un_X10, ⟨by decide, by decide, by decide⟩, by decide⟩
def o_X10_minutesMany_L2 : Nat → (Nat → Int32) → Int32 → Int32 → Option ((Nat → Int32))
  | 0, _, _, _ => none
  | fuel + 1, g, x1, x2 => if x2 < x1 then (o_X10_minutes g ).bind (fun r1 => o_X10_minutesMany_L2 fuel r1 x1 (x2 + 1)) else some g
theorem g_X10_minutesMany_L2 {l : Launch} {K : gK} {Γ : gT} {ws : va_W} {q ad : Nat} (hq : q < ws.length) (C : Cx l K Γ RX10 cX10_minutesMany 3 none 7) : ∀ (k : Nat) (g : Nat → Int32) (x1 : Int32) (x2 : Int32), GO l K Γ (mW K ws q ad 336 g) 2 3 [(0, .ref ad), (1, .int x1), (2, .int x2)] [] (fun z => (none, mW K ws q ad 336 z)) (o_X10_minutesMany_L2 k g x1 x2) := by
  intro k
  induction k with
  | zero =>
    intro g x1 x2
    exact fun r hr => nomatch hr
  | succ k ih =>
    intro g x1 x2
    rw [o_X10_minutesMany_L2]
    refine GO.lift (fun _ => G_iload_n C 2 dX10_minutesMany_2 rfl) ?_
    refine GO.lift (fun _ => G_iload_n C 1 dX10_minutesMany_3 rfl) ?_
    refine GO_icmp_ge C 17 dX10_minutesMany_4 rfl (fun h1 => ?_) (fun h1 => ?_)
    · refine GO.lift (fun _ => G_aload_n C 0 dX10_minutesMany_7 rfl) ?_
      refine GO.bind (fun r1 hr1 => ?_)
      refine GO.lift (fun _ => G_callSv C kd_X10_minutes ut_X10_minutes um_X10_133 (c_X10_minutes l K hq g  r1 hr1) dX10_minutesMany_8 rfl rfl (Nat.le_of_ble_eq_true rfl) (Nat.le_of_ble_eq_true rfl)) ?_
      refine GO.lift (fun _ => G_iinc (lv' := [(2, .int (x2 + 1)), (0, .ref ad), (1, .int x1)]) C 2 dX10_minutesMany_11 rfl rfl (by decide) rfl) ?_
      refine GO.lift (fun _ => G_goto C 2 dX10_minutesMany_14 rfl) ?_
      refine GO.sub [1, 2, 0] rfl ?_
      exact ih r1 x1 (x2 + 1)
    · exact GO.fin (G_vret C dX10_minutesMany_17 rfl)
def o_X10_minutesMany (g : Nat → Int32) (x1 : Int32) : Option ((Nat → Int32)) := o_X10_minutesMany_L2 4000 g x1 0
theorem c_X10_minutesMany (l : Launch) (K : gK) {ws : va_W} {q ad : Nat} (hq : q < ws.length) (g : Nat → Int32) (x1 : Int32) (r : (Nat → Int32)) (hr : o_X10_minutesMany g x1 = some r) : Ct l K yX10_minutesMany cX10_minutesMany 3 none 7 [.ref ad, .int x1] (mW K ws q ad 336 g) (none, mW K ws q ad 336 r) := by
  refine Ct.of (own := RX10) (fun z => (none, mW K ws q ad 336 z)) (x := r) (by decide) rfl (Nat.le_of_ble_eq_true rfl) (fun Γ C => GO.out (x := o_X10_minutesMany g x1) ?_ hr)
  unfold o_X10_minutesMany
  refine GO.lift (fun _ => G_iconst C dX10_minutesMany_0 (v := 0) rfl) ?_
  refine GO.lift (fun _ => G_istore_n (lv' := [(2, .int 0), (0, .ref ad), (1, .int x1)]) C dX10_minutesMany_1 (by decide) rfl) ?_
  refine GO.sub [1, 2, 0] rfl ?_
  exact g_X10_minutesMany_L2 hq C _ g x1 0
/-! X10_loses -/
theorem kd_X10_loses : Card yX10_loses cX10_loses 2 none 2 := ⟨uc_X10_loses, un_X10, ⟨by decide, by decide, by decide⟩, by decide⟩
def o_X10_loses (g : Nat → Int32) (x1 : Int32) : Option ((Nat → Int32)) := lt1 (upd g (14 : Int32).toNatClampNeg ((g (14 : Int32).toNatClampNeg) + 1)) (fun r1 => if gin (v_X10_tokenAt x1 0) 336 = true then (if gin (v_X10_tokenAt x1 1) 336 = true then ((o_X10_tells r1 5 (r1 (v_X10_tokenAt x1 0).toNatClampNeg) (r1 (v_X10_tokenAt x1 1).toNatClampNeg)).bind (fun r2 => (o_X10_dropToken r2 x1).bind (fun r3 => some r3))) else none) else none)
theorem c_X10_loses (l : Launch) (K : gK) {ws : va_W} {q ad : Nat} (hq : q < ws.length) (g : Nat → Int32) (x1 : Int32) (r : (Nat → Int32)) (hr : o_X10_loses g x1 = some r) : Ct l K yX10_loses cX10_loses 2 none 2 [.ref ad, .int x1] (mW K ws q ad 336 g) (none, mW K ws q ad 336 r) := by
  refine Ct.of (own := RX10) (fun z => (none, mW K ws q ad 336 z)) (x := r) (by decide) rfl (Nat.le_of_ble_eq_true rfl) (fun Γ C => GO.out (x := o_X10_loses g x1) ?_ hr)
  unfold o_X10_loses
  refine GO.lift (fun _ => G_aload_n C 0 dX10_loses_0 rfl) ?_
  refine GO.lift (fun _ => G_bipush C dX10_loses_1 (v := 14) rfl) ?_
  refine GO.lift (fun _ => G_dup2 C dX10_loses_3 rfl rfl) ?_
  refine GO.lift (fun _ => G_iald C q dX10_loses_4 (mW_at hq) (by unfold vp_in; decide)) ?_
  refine GO.lift (fun _ => G_iconst C dX10_loses_5 (v := 1) rfl) ?_
  refine GO.lift (fun _ => G_iadd C dX10_loses_6) ?_
  refine GO.letS (fun r1 hr1 => ?_)
  refine GO.lift (fun _ => G_iast (ws' := mW K ws q ad 336 r1) C q dX10_loses_7 (mW_at hq) (by unfold vp_in; decide) (mW_set hr1)) ?_
  refine GO.lift (fun _ => G_aload_n C 0 dX10_loses_8 rfl) ?_
  refine GO.lift (fun _ => G_iconst C dX10_loses_9 (v := 5) rfl) ?_
  refine GO.lift (fun _ => G_aload_n C 0 dX10_loses_10 rfl) ?_
  refine GO.lift (fun _ => G_iload_n C 1 dX10_loses_11 rfl) ?_
  refine GO.lift (fun _ => G_iconst C dX10_loses_12 (v := 0) rfl) ?_
  refine GO.lift (fun _ => G_callSi C kd_X10_tokenAt ut_X10_tokenAt um_X10_66 (c_X10_tokenAt l K (mW K ws q ad 336 r1) x1 0) dX10_loses_13 rfl rfl (Nat.le_of_ble_eq_true rfl) (Nat.le_of_ble_eq_true rfl)) ?_
  refine GO.guard (fun h1 => ?_)
  refine GO.lift (fun _ => G_iald C q dX10_loses_16 (mW_at hq) (gin_in h1)) ?_
  refine GO.lift (fun _ => G_aload_n C 0 dX10_loses_17 rfl) ?_
  refine GO.lift (fun _ => G_iload_n C 1 dX10_loses_18 rfl) ?_
  refine GO.lift (fun _ => G_iconst C dX10_loses_19 (v := 1) rfl) ?_
  refine GO.lift (fun _ => G_callSi C kd_X10_tokenAt ut_X10_tokenAt um_X10_66 (c_X10_tokenAt l K (mW K ws q ad 336 r1) x1 1) dX10_loses_20 rfl rfl (Nat.le_of_ble_eq_true rfl) (Nat.le_of_ble_eq_true rfl)) ?_
  refine GO.guard (fun h2 => ?_)
  refine GO.lift (fun _ => G_iald C q dX10_loses_23 (mW_at hq) (gin_in h2)) ?_
  refine GO.bind (fun r2 hr2 => ?_)
  refine GO.lift (fun _ => G_callSv C kd_X10_tells ut_X10_tells um_X10_88 (c_X10_tells l K hq r1 5 (r1 (v_X10_tokenAt x1 0).toNatClampNeg) (r1 (v_X10_tokenAt x1 1).toNatClampNeg) r2 hr2) dX10_loses_24 rfl rfl (Nat.le_of_ble_eq_true rfl) (Nat.le_of_ble_eq_true rfl)) ?_
  refine GO.lift (fun _ => G_aload_n C 0 dX10_loses_27 rfl) ?_
  refine GO.lift (fun _ => G_iload_n C 1 dX10_loses_28 rfl) ?_
  refine GO.bind (fun r3 hr3 => ?_)
  refine GO.lift (fun _ => G_callSv C kd_X10_dropToken ut_X10_dropToken um_X10_104 (c_X10_dropToken l K hq r2 x1 r3 hr3) dX10_loses_29 rfl rfl (Nat.le_of_ble_eq_true rfl) (Nat.le_of_ble_eq_true rfl)) ?_
  exact GO.fin (G_vret C dX10_loses_32 rfl)
