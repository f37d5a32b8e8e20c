-- PART 08, go on (by gen/mkmodel.py)
/-! X10_shut -/
theorem kd_X10_shut : Card yX10_shut cX10_shut 3 (some .int) 2 := ⟨uc_X10_shut, un_X10, ⟨by decide, by decide, by decide⟩, by decide⟩
def o_X10_shut (X : SM) (x1 : Int32) (x2 : Int32) : Option (Int32 × SM) := (o_X10_isOffice X x1).bind (fun r1 => if r1 = 0 then some ((-1, X)) else if (v_X10_in x2 0 1) = 0 then some ((-1, X)) else if gin (v_X10_officeAt x1 2) 336 = true then (if ((X 0) (v_X10_officeAt x1 2).toNatClampNeg) = x2 then some ((-2, X)) else (o_X10_keepForUndo X ).bind (fun r2 => (o_X10_shuts (r2 0) x1 x2).bind (fun r3 => lt1 (sU r2 0 r3.2) (fun r4 => some ((r3.1, r4)))))) else none)
theorem c_X10_shut (l : Launch) (K : gK) (b : Nat → Nat) (X : SM) (x1 : Int32) (x2 : Int32) (r : Int32 × SM) (hr : o_X10_shut X x1 x2 = some r) : Ct l K yX10_shut cX10_shut 3 (some .int) 4 [.ref (b 0), .int x1, .int x2] (mo_W K b X) (some (.int r.1), mo_W K b r.2) := by
  refine Ct.of (own := RX10) (fun (z : Int32 × SM) => (some (.int z.1), mo_W K b z.2)) (x := r) (by decide) rfl (Nat.le_of_ble_eq_true rfl) (fun Γ C => GO.out (x := o_X10_shut X x1 x2) ?_ hr)
  unfold o_X10_shut
  refine GO.lift (fun _ => G_aload_n C 0 dX10_shut_0 rfl) ?_
  refine GO.lift (fun _ => G_iload_n C 1 dX10_shut_1 rfl) ?_
  refine GO.bind (fun r1 hr1 => ?_)
  refine GO.lift (fun _ => G_callVi C 0 10 kd_X10_isOffice ui_X10_isOffice us_X10_isOffice um_X10_212 rfl rfl (c_X10_isOffice l K b X x1 r1 hr1) dX10_shut_2 rfl rfl (Nat.le_of_ble_eq_true rfl) (Nat.le_of_ble_eq_true rfl)) ?_
  refine GO_if_eq C 17 dX10_shut_5 rfl (fun h1 => ?_) (fun h1 => ?_)
  · refine GO.lift (fun _ => G_iconst C dX10_shut_17 (v := -1) rfl) ?_
    exact GO.fin (G_iret C dX10_shut_18 rfl)
  · refine GO.lift (fun _ => G_iload_n C 2 dX10_shut_8 rfl) ?_
    refine GO.lift (fun _ => G_iconst C dX10_shut_9 (v := 0) rfl) ?_
    refine GO.lift (fun _ => G_iconst C dX10_shut_10 (v := 1) rfl) ?_
    refine GO.lift (fun _ => G_callSi C kd_X10_in ut_X10_in um_X10_58 (c_X10_in l K (mo_W K b X) x2 0 1) dX10_shut_11 rfl rfl (Nat.le_of_ble_eq_true rfl) (Nat.le_of_ble_eq_true rfl)) ?_
    refine GO_if_ne C 19 dX10_shut_14 rfl (fun h2 => ?_) (fun h2 => ?_)
    · refine GO.lift (fun _ => G_iconst C dX10_shut_17 (v := -1) rfl) ?_
      exact GO.fin (G_iret C dX10_shut_18 rfl)
    · refine GO.lift (fun _ => G_aload_n C 0 dX10_shut_19 rfl) ?_
      refine GO.lift (fun _ => G_get C 0 0 dX10_shut_20 inlX10 uf_X10_7 rfl (by decide) rfl rfl rfl) ?_
      refine GO.lift (fun _ => G_iload_n C 1 dX10_shut_23 rfl) ?_
      refine GO.lift (fun _ => G_iconst C dX10_shut_24 (v := 2) rfl) ?_
      refine GO.lift (fun _ => G_callSi C kd_X10_officeAt ut_X10_officeAt um_X10_54 (c_X10_officeAt l K (mo_W K b X) x1 2) dX10_shut_25 rfl rfl (Nat.le_of_ble_eq_true rfl) (Nat.le_of_ble_eq_true rfl)) ?_
      refine GO.guard (fun h3 => ?_)
      refine GO.lift (fun _ => G_iald C 1 dX10_shut_28 rfl (gin_in h3)) ?_
      refine GO.lift (fun _ => G_iload_n C 2 dX10_shut_29 rfl) ?_
      refine GO_icmp_ne C 36 dX10_shut_30 rfl (fun h4 => ?_) (fun h4 => ?_)
      · refine GO.lift (fun _ => G_bipush C dX10_shut_33 (v := -2) rfl) ?_
        exact GO.fin (G_iret C dX10_shut_35 rfl)
      · refine GO.lift (fun _ => G_aload_n C 0 dX10_shut_36 rfl) ?_
        refine GO.bind (fun r2 hr2 => ?_)
        refine GO.lift (fun _ => G_callVv C 0 10 kd_X10_keepForUndo ui_X10_keepForUndo us_X10_keepForUndo um_X10_215 rfl rfl (c_X10_keepForUndo l K b X  r2 hr2) dX10_shut_37 rfl rfl (Nat.le_of_ble_eq_true rfl) (Nat.le_of_ble_eq_true rfl)) ?_
        refine GO.lift (fun _ => G_aload_n C 0 dX10_shut_40 rfl) ?_
        refine GO.lift (fun _ => G_get C 0 0 dX10_shut_41 inlX10 uf_X10_7 rfl (by decide) rfl rfl rfl) ?_
        refine GO.lift (fun _ => G_iload_n C 1 dX10_shut_44 rfl) ?_
        refine GO.lift (fun _ => G_iload_n C 2 dX10_shut_45 rfl) ?_
        refine GO.bind (fun r3 hr3 => ?_)
        refine GO.letS (fun r4 hr4 => ?_)
        refine GO.lift (fun _ => G_callSi C kd_X10_shuts ut_X10_shuts um_X10_222 (Ct.to (r' := (some (.int r3.1), mo_W K b r4)) (Ct.from (c_X10_shuts l K (ws := mo_W K b r2) (q := 1) (ad := b 1) (Nat.le_of_ble_eq_true rfl) (r2 0) x1 x2 r3 hr3) rfl) (by cases hr4; rfl)) dX10_shut_46 rfl rfl (Nat.le_of_ble_eq_true rfl) (Nat.le_of_ble_eq_true rfl)) ?_
        exact GO.fin (G_iret C dX10_shut_49 rfl)
/-! X10_lose -/
theorem kd_X10_lose : Card yX10_lose cX10_lose 3 (some .int) 1 := ⟨uc_X10_lose, un_X10, ⟨by decide, by decide, by decide⟩, by decide⟩
def o_X10_lose (X : SM) (x1 : Int32) : Option (Int32 × SM) := (o_X10_isToken X x1).bind (fun r1 => if r1 = 0 then some ((-1, X)) else (o_X10_keepForUndo X ).bind (fun r2 => if gin (v_X10_tokenAt x1 0) 336 = true then ((o_X10_loses (r2 0) x1).bind (fun r3 => lt1 (sU r2 0 r3) (fun r4 => some (((r2 0) (v_X10_tokenAt x1 0).toNatClampNeg, r4))))) else none))
theorem c_X10_lose (l : Launch) (K : gK) (b : Nat → Nat) (X : SM) (x1 : Int32) (r : Int32 × SM) (hr : o_X10_lose X x1 = some r) : Ct l K yX10_lose cX10_lose 3 (some .int) 3 [.ref (b 0), .int x1] (mo_W K b X) (some (.int r.1), mo_W K b r.2) := by
  refine Ct.of (own := RX10) (fun (z : Int32 × SM) => (some (.int z.1), mo_W K b z.2)) (x := r) (by decide) rfl (Nat.le_of_ble_eq_true rfl) (fun Γ C => GO.out (x := o_X10_lose X x1) ?_ hr)
  unfold o_X10_lose
  refine GO.lift (fun _ => G_aload_n C 0 dX10_lose_0 rfl) ?_
  refine GO.lift (fun _ => G_iload_n C 1 dX10_lose_1 rfl) ?_
  refine GO.bind (fun r1 hr1 => ?_)
  refine GO.lift (fun _ => G_callVi C 0 10 kd_X10_isToken ui_X10_isToken us_X10_isToken um_X10_225 rfl rfl (c_X10_isToken l K b X x1 r1 hr1) dX10_lose_2 rfl rfl (Nat.le_of_ble_eq_true rfl) (Nat.le_of_ble_eq_true rfl)) ?_
  refine GO_if_ne C 10 dX10_lose_5 rfl (fun h1 => ?_) (fun h1 => ?_)
  · refine GO.lift (fun _ => G_iconst C dX10_lose_8 (v := -1) rfl) ?_
    exact GO.fin (G_iret C dX10_lose_9 rfl)
  · refine GO.lift (fun _ => G_aload_n C 0 dX10_lose_10 rfl) ?_
    refine GO.bind (fun r2 hr2 => ?_)
    refine GO.lift (fun _ => G_callVv C 0 10 kd_X10_keepForUndo ui_X10_keepForUndo us_X10_keepForUndo um_X10_215 rfl rfl (c_X10_keepForUndo l K b X  r2 hr2) dX10_lose_11 rfl rfl (Nat.le_of_ble_eq_true rfl) (Nat.le_of_ble_eq_true rfl)) ?_
    refine GO.lift (fun _ => G_aload_n C 0 dX10_lose_14 rfl) ?_
    refine GO.lift (fun _ => G_get C 0 0 dX10_lose_15 inlX10 uf_X10_7 rfl (by decide) rfl rfl rfl) ?_
    refine GO.lift (fun _ => G_iload_n C 1 dX10_lose_18 rfl) ?_
    refine GO.lift (fun _ => G_iconst C dX10_lose_19 (v := 0) rfl) ?_
    refine GO.lift (fun _ => G_callSi C kd_X10_tokenAt ut_X10_tokenAt um_X10_66 (c_X10_tokenAt l K (mo_W K b r2) x1 0) dX10_lose_20 rfl rfl (Nat.le_of_ble_eq_true rfl) (Nat.le_of_ble_eq_true rfl)) ?_
    refine GO.guard (fun h2 => ?_)
    refine GO.lift (fun _ => G_iald C 1 dX10_lose_23 rfl (gin_in h2)) ?_
    refine GO.lift (fun _ => G_istore_n (lv' := [(2, .int ((r2 0) (v_X10_tokenAt x1 0).toNatClampNeg)), (0, .ref (b 0)), (1, .int x1)]) C dX10_lose_24 (by decide) rfl) ?_
    refine GO.lift (fun _ => G_aload_n C 1 dX10_lose_25 rfl) ?_
    refine GO.lift (fun _ => G_get C 0 0 dX10_lose_26 inlX10 uf_X10_7 rfl (by decide) rfl rfl rfl) ?_
    refine GO.lift (fun _ => G_iload_n C 2 dX10_lose_29 rfl) ?_
    refine GO.bind (fun r3 hr3 => ?_)
    refine GO.letS (fun r4 hr4 => ?_)
    refine GO.lift (fun _ => G_callSv C kd_X10_loses ut_X10_loses um_X10_136 (Ct.to (r' := (none, mo_W K b r4)) (Ct.from (c_X10_loses l K (ws := mo_W K b r2) (q := 1) (ad := b 1) (Nat.le_of_ble_eq_true rfl) (r2 0) x1 r3 hr3) rfl) (by cases hr4; rfl)) dX10_lose_30 rfl rfl (Nat.le_of_ble_eq_true rfl) (Nat.le_of_ble_eq_true rfl)) ?_
    refine GO.lift (fun _ => G_iload_n C 0 dX10_lose_33 rfl) ?_
    exact GO.fin (G_iret C dX10_lose_34 rfl)
/-! X10_stray -/
theorem kd_X10_stray : Card yX10_stray cX10_stray 4 (some .int) 1 := ⟨uc_X10_stray, un_X10, ⟨by decide, by decide, by decide⟩, by decide⟩
def o_X10_stray (X : SM) (x1 : Int32) : Option (Int32 × SM) := (o_X10_isOffice X x1).bind (fun r1 => if r1 = 0 then some ((-1, X)) else (o_X10_isOpen (X 0) x1).bind (fun r2 => if r2 = 0 then some ((-4, X)) else if ((X 0) (5 : Int32).toNatClampNeg) = 3 then some ((-3, X)) else (o_X10_keepForUndo X ).bind (fun r3 => (o_X10_tokenOn (r3 0) x1 0).bind (fun r4 => (o_X10_addToken (r3 0) x1).bind (fun r5 => lt1 (sU r3 0 r5.2) (fun r6 => (o_X10_tells (r6 0) 6 r5.1 x1).bind (fun r7 => lt1 (sU r6 0 r7) (fun r8 => if r4 < 0 then some ((r5.1, r8)) else (o_X10_tears (r8 0) r4).bind (fun r9 => lt1 (sU r8 0 r9) (fun r10 => some ((r5.1, r10))))))))))))
theorem c_X10_stray (l : Launch) (K : gK) (b : Nat → Nat) (X : SM) (x1 : Int32) (r : Int32 × SM) (hr : o_X10_stray X x1 = some r) : Ct l K yX10_stray cX10_stray 4 (some .int) 3 [.ref (b 0), .int x1] (mo_W K b X) (some (.int r.1), mo_W K b r.2) := by
  refine Ct.of (own := RX10) (fun (z : Int32 × SM) => (some (.int z.1), mo_W K b z.2)) (x := r) (by decide) rfl (Nat.le_of_ble_eq_true rfl) (fun Γ C => GO.out (x := o_X10_stray X x1) ?_ hr)
  unfold o_X10_stray
  refine GO.lift (fun _ => G_aload_n C 0 dX10_stray_0 rfl) ?_
  refine GO.lift (fun _ => G_iload_n C 1 dX10_stray_1 rfl) ?_
  refine GO.bind (fun r1 hr1 => ?_)
  refine GO.lift (fun _ => G_callVi C 0 10 kd_X10_isOffice ui_X10_isOffice us_X10_isOffice um_X10_212 rfl rfl (c_X10_isOffice l K b X x1 r1 hr1) dX10_stray_2 rfl rfl (Nat.le_of_ble_eq_true rfl) (Nat.le_of_ble_eq_true rfl)) ?_
  refine GO_if_ne C 10 dX10_stray_5 rfl (fun h1 => ?_) (fun h1 => ?_)
  · refine GO.lift (fun _ => G_iconst C dX10_stray_8 (v := -1) rfl) ?_
    exact GO.fin (G_iret C dX10_stray_9 rfl)
  · refine GO.lift (fun _ => G_aload_n C 0 dX10_stray_10 rfl) ?_
    refine GO.lift (fun _ => G_get C 0 0 dX10_stray_11 inlX10 uf_X10_7 rfl (by decide) rfl rfl rfl) ?_
    refine GO.lift (fun _ => G_iload_n C 1 dX10_stray_14 rfl) ?_
    refine GO.bind (fun r2 hr2 => ?_)
    refine GO.lift (fun _ => G_callSi C kd_X10_isOpen ut_X10_isOpen um_X10_73 (Ct.to (r' := (some (.int r2), mo_W K b X)) (Ct.from (c_X10_isOpen l K (ws := mo_W K b X) (q := 1) (ad := b 1) (Nat.le_of_ble_eq_true rfl) (X 0) x1 r2 hr2) rfl) rfl) dX10_stray_15 rfl rfl (Nat.le_of_ble_eq_true rfl) (Nat.le_of_ble_eq_true rfl)) ?_
    refine GO_if_ne C 24 dX10_stray_18 rfl (fun h2 => ?_) (fun h2 => ?_)
    · refine GO.lift (fun _ => G_bipush C dX10_stray_21 (v := -4) rfl) ?_
      exact GO.fin (G_iret C dX10_stray_23 rfl)
    · refine GO.lift (fun _ => G_aload_n C 0 dX10_stray_24 rfl) ?_
      refine GO.lift (fun _ => G_get C 0 0 dX10_stray_25 inlX10 uf_X10_7 rfl (by decide) rfl rfl rfl) ?_
      refine GO.lift (fun _ => G_iconst C dX10_stray_28 (v := 5) rfl) ?_
      refine GO.lift (fun _ => G_iald C 1 dX10_stray_29 rfl (by unfold vp_in; decide)) ?_
      refine GO.lift (fun _ => G_iconst C dX10_stray_30 (v := 3) rfl) ?_
      refine GO_icmp_ne C 37 dX10_stray_31 rfl (fun h3 => ?_) (fun h3 => ?_)
      · refine GO.lift (fun _ => G_bipush C dX10_stray_34 (v := -3) rfl) ?_
        exact GO.fin (G_iret C dX10_stray_36 rfl)
      · refine GO.lift (fun _ => G_aload_n C 0 dX10_stray_37 rfl) ?_
        refine GO.bind (fun r3 hr3 => ?_)
        refine GO.lift (fun _ => G_callVv C 0 10 kd_X10_keepForUndo ui_X10_keepForUndo us_X10_keepForUndo um_X10_215 rfl rfl (c_X10_keepForUndo l K b X  r3 hr3) dX10_stray_38 rfl rfl (Nat.le_of_ble_eq_true rfl) (Nat.le_of_ble_eq_true rfl)) ?_
        refine GO.lift (fun _ => G_aload_n C 0 dX10_stray_41 rfl) ?_
        refine GO.lift (fun _ => G_get C 0 0 dX10_stray_42 inlX10 uf_X10_7 rfl (by decide) rfl rfl rfl) ?_
        refine GO.lift (fun _ => G_iload_n C 1 dX10_stray_45 rfl) ?_
        refine GO.lift (fun _ => G_iconst C dX10_stray_46 (v := 0) rfl) ?_
        refine GO.bind (fun r4 hr4 => ?_)
        refine GO.lift (fun _ => G_callSi C kd_X10_tokenOn ut_X10_tokenOn um_X10_107 (Ct.to (r' := (some (.int r4), mo_W K b r3)) (Ct.from (c_X10_tokenOn l K (ws := mo_W K b r3) (q := 1) (ad := b 1) (Nat.le_of_ble_eq_true rfl) (r3 0) x1 0 r4 hr4) rfl) rfl) dX10_stray_47 rfl rfl (Nat.le_of_ble_eq_true rfl) (Nat.le_of_ble_eq_true rfl)) ?_
        refine GO.lift (fun _ => G_istore_n (lv' := [(2, .int r4), (0, .ref (b 0)), (1, .int x1)]) C dX10_stray_50 (by decide) rfl) ?_
        refine GO.lift (fun _ => G_aload_n C 1 dX10_stray_51 rfl) ?_
        refine GO.lift (fun _ => G_get C 0 0 dX10_stray_52 inlX10 uf_X10_7 rfl (by decide) rfl rfl rfl) ?_
        refine GO.lift (fun _ => G_iload_n C 2 dX10_stray_55 rfl) ?_
        refine GO.bind (fun r5 hr5 => ?_)
        refine GO.letS (fun r6 hr6 => ?_)
        refine GO.lift (fun _ => G_callSi C kd_X10_addToken ut_X10_addToken um_X10_43 (Ct.to (r' := (some (.int r5.1), mo_W K b r6)) (Ct.from (c_X10_addToken l K (ws := mo_W K b r3) (q := 1) (ad := b 1) (Nat.le_of_ble_eq_true rfl) (r3 0) x1 r5 hr5) rfl) (by cases hr6; rfl)) dX10_stray_56 rfl rfl (Nat.le_of_ble_eq_true rfl) (Nat.le_of_ble_eq_true rfl)) ?_
        refine GO.lift (fun _ => G_istore_n (lv' := [(3, .int r5.1), (2, .int r4), (0, .ref (b 0)), (1, .int x1)]) C dX10_stray_59 (by decide) rfl) ?_
        refine GO.lift (fun _ => G_aload_n C 2 dX10_stray_60 rfl) ?_
        refine GO.lift (fun _ => G_get C 0 0 dX10_stray_61 inlX10 uf_X10_7 rfl (by decide) rfl rfl rfl) ?_
        refine GO.lift (fun _ => G_bipush C dX10_stray_64 (v := 6) rfl) ?_
        refine GO.lift (fun _ => G_iload_n C 0 dX10_stray_66 rfl) ?_
        refine GO.lift (fun _ => G_iload_n C 3 dX10_stray_67 rfl) ?_
        refine GO.bind (fun r7 hr7 => ?_)
        refine GO.letS (fun r8 hr8 => ?_)
        refine GO.lift (fun _ => G_callSv C kd_X10_tells ut_X10_tells um_X10_88 (Ct.to (r' := (none, mo_W K b r8)) (Ct.from (c_X10_tells l K (ws := mo_W K b r6) (q := 1) (ad := b 1) (Nat.le_of_ble_eq_true rfl) (r6 0) 6 r5.1 x1 r7 hr7) rfl) (by cases hr8; rfl)) dX10_stray_68 rfl rfl (Nat.le_of_ble_eq_true rfl) (Nat.le_of_ble_eq_true rfl)) ?_
        refine GO.lift (fun _ => G_iload_n C 1 dX10_stray_71 rfl) ?_
        refine GO_if_lt C 83 dX10_stray_72 rfl (fun h4 => ?_) (fun h4 => ?_)
        · refine GO.lift (fun _ => G_iload_n C 0 dX10_stray_83 rfl) ?_
          exact GO.fin (G_iret C dX10_stray_84 rfl)
        · refine GO.lift (fun _ => G_aload_n C 2 dX10_stray_75 rfl) ?_
          refine GO.lift (fun _ => G_get C 0 0 dX10_stray_76 inlX10 uf_X10_7 rfl (by decide) rfl rfl rfl) ?_
          refine GO.lift (fun _ => G_iload_n C 1 dX10_stray_79 rfl) ?_
          refine GO.bind (fun r9 hr9 => ?_)
          refine GO.letS (fun r10 hr10 => ?_)
          refine GO.lift (fun _ => G_callSv C kd_X10_tears ut_X10_tears um_X10_124 (Ct.to (r' := (none, mo_W K b r10)) (Ct.from (c_X10_tears l K (ws := mo_W K b r8) (q := 1) (ad := b 1) (Nat.le_of_ble_eq_true rfl) (r8 0) r4 r9 hr9) rfl) (by cases hr10; rfl)) dX10_stray_80 rfl rfl (Nat.le_of_ble_eq_true rfl) (Nat.le_of_ble_eq_true rfl)) ?_
          refine GO.lift (fun _ => G_iload_n C 0 dX10_stray_83 rfl) ?_
          exact GO.fin (G_iret C dX10_stray_84 rfl)
/-! X10_minute -/
theorem kd_X10_minute : Card yX10_minute cX10_minute 3 (some .int) 1 := ⟨uc_X10_minute, un_X10, ⟨by decide, by decide, by decide⟩, by decide⟩
def o_X10_minute (X : SM) (x1 : Int32) : Option (Int32 × SM) := if (v_X10_in x1 1 100) = 0 then some ((-1, X)) else if 9999 < (((X 0) (3 : Int32).toNatClampNeg) + x1) then some ((-3, X)) else (o_X10_keepForUndo X ).bind (fun r1 => (o_X10_minutesMany (r1 0) x1).bind (fun r2 => lt1 (sU r1 0 r2) (fun r3 => some ((((r3 0) (9 : Int32).toNatClampNeg) - ((r1 0) (9 : Int32).toNatClampNeg), r3)))))
theorem c_X10_minute (l : Launch) (K : gK) (b : Nat → Nat) (X : SM) (x1 : Int32) (r : Int32 × SM) (hr : o_X10_minute X x1 = some r) : Ct l K yX10_minute cX10_minute 3 (some .int) 8 [.ref (b 0), .int x1] (mo_W K b X) (some (.int r.1), mo_W K b r.2) := by
  refine Ct.of (own := RX10) (fun (z : Int32 × SM) => (some (.int z.1), mo_W K b z.2)) (x := r) (by decide) rfl (Nat.le_of_ble_eq_true rfl) (fun Γ C => GO.out (x := o_X10_minute X x1) ?_ hr)
  unfold o_X10_minute
  refine GO.lift (fun _ => G_iload_n C 1 dX10_minute_0 rfl) ?_
  refine GO.lift (fun _ => G_iconst C dX10_minute_1 (v := 1) rfl) ?_
  refine GO.lift (fun _ => G_bipush C dX10_minute_2 (v := 100) rfl) ?_
  refine GO.lift (fun _ => G_callSi C kd_X10_in ut_X10_in um_X10_58 (c_X10_in l K (mo_W K b X) x1 1 100) dX10_minute_4 rfl rfl (Nat.le_of_ble_eq_true rfl) (Nat.le_of_ble_eq_true rfl)) ?_
  refine GO_if_ne C 12 dX10_minute_7 rfl (fun h1 => ?_) (fun h1 => ?_)
  · refine GO.lift (fun _ => G_iconst C dX10_minute_10 (v := -1) rfl) ?_
    exact GO.fin (G_iret C dX10_minute_11 rfl)
  · refine GO.lift (fun _ => G_aload_n C 0 dX10_minute_12 rfl) ?_
    refine GO.lift (fun _ => G_get C 0 0 dX10_minute_13 inlX10 uf_X10_7 rfl (by decide) rfl rfl rfl) ?_
    refine GO.lift (fun _ => G_iconst C dX10_minute_16 (v := 3) rfl) ?_
    refine GO.lift (fun _ => G_iald C 1 dX10_minute_17 rfl (by unfold vp_in; decide)) ?_
    refine GO.lift (fun _ => G_iload_n C 1 dX10_minute_18 rfl) ?_
    refine GO.lift (fun _ => G_iadd C dX10_minute_19) ?_
    refine GO.lift (fun _ => G_sipush C dX10_minute_20 (v := 9999) rfl) ?_
    refine GO_icmp_le C 29 dX10_minute_23 rfl (fun h2 => ?_) (fun h2 => ?_)
    · refine GO.lift (fun _ => G_bipush C dX10_minute_26 (v := -3) rfl) ?_
      exact GO.fin (G_iret C dX10_minute_28 rfl)
    · refine GO.lift (fun _ => G_aload_n C 0 dX10_minute_29 rfl) ?_
      refine GO.bind (fun r1 hr1 => ?_)
      refine GO.lift (fun _ => G_callVv C 0 10 kd_X10_keepForUndo ui_X10_keepForUndo us_X10_keepForUndo um_X10_215 rfl rfl (c_X10_keepForUndo l K b X  r1 hr1) dX10_minute_30 rfl rfl (Nat.le_of_ble_eq_true rfl) (Nat.le_of_ble_eq_true rfl)) ?_
      refine GO.lift (fun _ => G_aload_n C 0 dX10_minute_33 rfl) ?_
      refine GO.lift (fun _ => G_get C 0 0 dX10_minute_34 inlX10 uf_X10_7 rfl (by decide) rfl rfl rfl) ?_
      refine GO.lift (fun _ => G_bipush C dX10_minute_37 (v := 9) rfl) ?_
      refine GO.lift (fun _ => G_iald C 1 dX10_minute_39 rfl (by unfold vp_in; decide)) ?_
      refine GO.lift (fun _ => G_istore_n (lv' := [(2, .int ((r1 0) (9 : Int32).toNatClampNeg)), (0, .ref (b 0)), (1, .int x1)]) C dX10_minute_40 (by decide) rfl) ?_
      refine GO.lift (fun _ => G_aload_n C 1 dX10_minute_41 rfl) ?_
      refine GO.lift (fun _ => G_get C 0 0 dX10_minute_42 inlX10 uf_X10_7 rfl (by decide) rfl rfl rfl) ?_
      refine GO.lift (fun _ => G_iload_n C 2 dX10_minute_45 rfl) ?_
      refine GO.bind (fun r2 hr2 => ?_)
      refine GO.letS (fun r3 hr3 => ?_)
      refine GO.lift (fun _ => G_callSv C kd_X10_minutesMany ut_X10_minutesMany um_X10_228 (Ct.to (r' := (none, mo_W K b r3)) (Ct.from (c_X10_minutesMany l K (ws := mo_W K b r1) (q := 1) (ad := b 1) (Nat.le_of_ble_eq_true rfl) (r1 0) x1 r2 hr2) rfl) (by cases hr3; rfl)) dX10_minute_46 rfl rfl (Nat.le_of_ble_eq_true rfl) (Nat.le_of_ble_eq_true rfl)) ?_
      refine GO.lift (fun _ => G_aload_n C 1 dX10_minute_49 rfl) ?_
      refine GO.lift (fun _ => G_get C 0 0 dX10_minute_50 inlX10 uf_X10_7 rfl (by decide) rfl rfl rfl) ?_
      refine GO.lift (fun _ => G_bipush C dX10_minute_53 (v := 9) rfl) ?_
      refine GO.lift (fun _ => G_iald C 1 dX10_minute_55 rfl (by unfold vp_in; decide)) ?_
      refine GO.lift (fun _ => G_iload_n C 0 dX10_minute_56 rfl) ?_
      refine GO.lift (fun _ => G_isub C dX10_minute_57) ?_
      exact GO.fin (G_iret C dX10_minute_58 rfl)
/-! X10_set -/
theorem kd_X10_set : Card yX10_set cX10_set 5 (some .int) 3 := ⟨uc_X10_set, un_X10, ⟨by decide, by decide, by decide⟩, by decide⟩
def o_X10_set_L82 (X : SM) (x1 : Int32) (x2 : Int32) (x3 : Int32) (x4 : Int32) : Option (Int32 × SM) := (o_X10_keepForUndo X ).bind (fun r1 => if gin (v_X10_officeAt x1 x2) 336 = true then (lt1 (sU r1 0 (upd (r1 0) (v_X10_officeAt x1 x2).toNatClampNeg x3)) (fun r2 => (o_X10_tells (r2 0) 10 ((10 * x1) + x2) x4).bind (fun r3 => lt1 (sU r2 0 r3) (fun r4 => some ((x4, r4)))))) else none)
theorem g_X10_set_L82 {l : Launch} {K : gK} {Γ : gT} {b : Nat → Nat} (C : Cx l K Γ RX10 cX10_set 5 (some .int) 2) (X : SM) (x1 : Int32) (x2 : Int32) (x3 : Int32) (x4 : Int32) : GO l K Γ (mo_W K b X) 82 5 [(0, .ref (b 0)), (1, .int x1), (2, .int x2), (3, .int x3), (4, .int x4)] [] (fun (z : Int32 × SM) => (some (.int z.1), mo_W K b z.2)) (o_X10_set_L82 X x1 x2 x3 x4) := by
  unfold o_X10_set_L82
  refine GO.lift (fun _ => G_aload_n C 0 dX10_set_82 rfl) ?_
  refine GO.bind (fun r1 hr1 => ?_)
  refine GO.lift (fun _ => G_callVv C 0 10 kd_X10_keepForUndo ui_X10_keepForUndo us_X10_keepForUndo um_X10_215 rfl rfl (c_X10_keepForUndo l K b X  r1 hr1) dX10_set_83 rfl rfl (Nat.le_of_ble_eq_true rfl) (Nat.le_of_ble_eq_true rfl)) ?_
  refine GO.lift (fun _ => G_aload_n C 0 dX10_set_86 rfl) ?_
  refine GO.lift (fun _ => G_get C 0 0 dX10_set_87 inlX10 uf_X10_7 rfl (by decide) rfl rfl rfl) ?_
  refine GO.lift (fun _ => G_iload_n C 1 dX10_set_90 rfl) ?_
  refine GO.lift (fun _ => G_iload_n C 2 dX10_set_91 rfl) ?_
  refine GO.lift (fun _ => G_callSi C kd_X10_officeAt ut_X10_officeAt um_X10_54 (c_X10_officeAt l K (mo_W K b r1) x1 x2) dX10_set_92 rfl rfl (Nat.le_of_ble_eq_true rfl) (Nat.le_of_ble_eq_true rfl)) ?_
  refine GO.lift (fun _ => G_iload_n C 3 dX10_set_95 rfl) ?_
  refine GO.guard (fun h1 => ?_)
  refine GO.letS (fun r2 hr2 => ?_)
  refine GO.lift (fun _ => G_iast (ws' := mo_W K b r2) C 1 dX10_set_96 rfl (gin_in h1) (by cases hr2; rfl)) ?_
  refine GO.lift (fun _ => G_aload_n C 0 dX10_set_97 rfl) ?_
  refine GO.lift (fun _ => G_get C 0 0 dX10_set_98 inlX10 uf_X10_7 rfl (by decide) rfl rfl rfl) ?_
  refine GO.lift (fun _ => G_bipush C dX10_set_101 (v := 10) rfl) ?_
  refine GO.lift (fun _ => G_bipush C dX10_set_103 (v := 10) rfl) ?_
  refine GO.lift (fun _ => G_iload_n C 1 dX10_set_105 rfl) ?_
  refine GO.lift (fun _ => G_imul C dX10_set_106) ?_
  refine GO.lift (fun _ => G_iload_n C 2 dX10_set_107 rfl) ?_
  refine GO.lift (fun _ => G_iadd C dX10_set_108) ?_
  refine GO.lift (fun _ => G_iload C 4 dX10_set_109 rfl) ?_
  refine GO.bind (fun r3 hr3 => ?_)
  refine GO.letS (fun r4 hr4 => ?_)
  refine GO.lift (fun _ => G_callSv C kd_X10_tells ut_X10_tells um_X10_88 (Ct.to (r' := (none, mo_W K b r4)) (Ct.from (c_X10_tells l K (ws := mo_W K b r2) (q := 1) (ad := b 1) (Nat.le_of_ble_eq_true rfl) (r2 0) 10 ((10 * x1) + x2) x4 r3 hr3) rfl) (by cases hr4; rfl)) dX10_set_111 rfl rfl (Nat.le_of_ble_eq_true rfl) (Nat.le_of_ble_eq_true rfl)) ?_
  refine GO.lift (fun _ => G_iload C 4 dX10_set_114 rfl) ?_
  exact GO.fin (G_iret C dX10_set_116 rfl)
def o_X10_set_L42 (X : SM) (x1 : Int32) (x2 : Int32) (x3 : Int32) : Option (Int32 × SM) := if gin (v_X10_officeAt x1 x2) 336 = true then (if ((X 0) (v_X10_officeAt x1 x2).toNatClampNeg) = x3 then some ((-2, X)) else if x2 = 1 then (o_X10_isNamed (X 0) x3).bind (fun r1 => if r1 = 0 then o_X10_set_L82 X x1 x2 x3 ((X 0) (v_X10_officeAt x1 x2).toNatClampNeg) else some ((-4, X))) else o_X10_set_L82 X x1 x2 x3 ((X 0) (v_X10_officeAt x1 x2).toNatClampNeg)) else none
theorem g_X10_set_L42 {l : Launch} {K : gK} {Γ : gT} {b : Nat → Nat} (C : Cx l K Γ RX10 cX10_set 5 (some .int) 2) (X : SM) (x1 : Int32) (x2 : Int32) (x3 : Int32) : GO l K Γ (mo_W K b X) 42 5 [(0, .ref (b 0)), (1, .int x1), (2, .int x2), (3, .int x3)] [] (fun (z : Int32 × SM) => (some (.int z.1), mo_W K b z.2)) (o_X10_set_L42 X x1 x2 x3) := by
  unfold o_X10_set_L42
  refine GO.lift (fun _ => G_aload_n C 0 dX10_set_42 rfl) ?_
  refine GO.lift (fun _ => G_get C 0 0 dX10_set_43 inlX10 uf_X10_7 rfl (by decide) rfl rfl rfl) ?_
  refine GO.lift (fun _ => G_iload_n C 1 dX10_set_46 rfl) ?_
  refine GO.lift (fun _ => G_iload_n C 2 dX10_set_47 rfl) ?_
  refine GO.lift (fun _ => G_callSi C kd_X10_officeAt ut_X10_officeAt um_X10_54 (c_X10_officeAt l K (mo_W K b X) x1 x2) dX10_set_48 rfl rfl (Nat.le_of_ble_eq_true rfl) (Nat.le_of_ble_eq_true rfl)) ?_
  refine GO.guard (fun h1 => ?_)
  refine GO.lift (fun _ => G_iald C 1 dX10_set_51 rfl (gin_in h1)) ?_
  refine GO.lift (fun _ => G_istore (lv' := [(4, .int ((X 0) (v_X10_officeAt x1 x2).toNatClampNeg)), (0, .ref (b 0)), (1, .int x1), (2, .int x2), (3, .int x3)]) C dX10_set_52 (by decide) rfl) ?_
  refine GO.lift (fun _ => G_iload C 0 dX10_set_54 rfl) ?_
  refine GO.lift (fun _ => G_iload_n C 4 dX10_set_56 rfl) ?_
  refine GO_icmp_ne C 63 dX10_set_57 rfl (fun h2 => ?_) (fun h2 => ?_)
  · refine GO.lift (fun _ => G_bipush C dX10_set_60 (v := -2) rfl) ?_
    exact GO.fin (G_iret C dX10_set_62 rfl)
  · refine GO.lift (fun _ => G_iload_n C 3 dX10_set_63 rfl) ?_
    refine GO.lift (fun _ => G_iconst C dX10_set_64 (v := 1) rfl) ?_
    refine GO_icmp_ne C 82 dX10_set_65 rfl (fun h3 => ?_) (fun h3 => ?_)
    · refine GO.lift (fun _ => G_aload_n C 1 dX10_set_68 rfl) ?_
      refine GO.lift (fun _ => G_get C 0 0 dX10_set_69 inlX10 uf_X10_7 rfl (by decide) rfl rfl rfl) ?_
      refine GO.lift (fun _ => G_iload_n C 4 dX10_set_72 rfl) ?_
      refine GO.bind (fun r1 hr1 => ?_)
      refine GO.lift (fun _ => G_callSi C kd_X10_isNamed ut_X10_isNamed um_X10_185 (Ct.to (r' := (some (.int r1), mo_W K b X)) (Ct.from (c_X10_isNamed l K (ws := mo_W K b X) (q := 1) (ad := b 1) (Nat.le_of_ble_eq_true rfl) (X 0) x3 r1 hr1) rfl) rfl) dX10_set_73 rfl rfl (Nat.le_of_ble_eq_true rfl) (Nat.le_of_ble_eq_true rfl)) ?_
      refine GO_if_eq C 82 dX10_set_76 rfl (fun h4 => ?_) (fun h4 => ?_)
      · refine GO.sub [1, 2, 3, 4, 0] rfl ?_
        exact g_X10_set_L82 C X x1 x2 x3 ((X 0) (v_X10_officeAt x1 x2).toNatClampNeg)
      · refine GO.lift (fun _ => G_bipush C dX10_set_79 (v := -4) rfl) ?_
        exact GO.fin (G_iret C dX10_set_81 rfl)
    · refine GO.sub [1, 2, 3, 4, 0] rfl ?_
      exact g_X10_set_L82 C X x1 x2 x3 ((X 0) (v_X10_officeAt x1 x2).toNatClampNeg)
def o_X10_set (X : SM) (x1 : Int32) (x2 : Int32) (x3 : Int32) : Option (Int32 × SM) := (o_X10_isOffice X x1).bind (fun r1 => if r1 = 0 then some ((-1, X)) else if x2 = 0 then if (v_X10_in x3 1 9) = 0 then some ((-1, X)) else o_X10_set_L42 X x1 x2 x3 else if x2 = 1 then if (v_X10_in x3 1 99) = 0 then some ((-1, X)) else o_X10_set_L42 X x1 x2 x3 else some ((-1, X)))
theorem c_X10_set (l : Launch) (K : gK) (b : Nat → Nat) (X : SM) (x1 : Int32) (x2 : Int32) (x3 : Int32) (r : Int32 × SM) (hr : o_X10_set X x1 x2 x3 = some r) : Ct l K yX10_set cX10_set 5 (some .int) 2 [.ref (b 0), .int x1, .int x2, .int x3] (mo_W K b X) (some (.int r.1), mo_W K b r.2) := by
  refine Ct.of (own := RX10) (fun (z : Int32 × SM) => (some (.int z.1), mo_W K b z.2)) (x := r) (by decide) rfl (Nat.le_of_ble_eq_true rfl) (fun Γ C => GO.out (x := o_X10_set X x1 x2 x3) ?_ hr)
  unfold o_X10_set
  refine GO.lift (fun _ => G_aload_n C 0 dX10_set_0 rfl) ?_
  refine GO.lift (fun _ => G_iload_n C 1 dX10_set_1 rfl) ?_
  refine GO.bind (fun r1 hr1 => ?_)
  refine GO.lift (fun _ => G_callVi C 0 10 kd_X10_isOffice ui_X10_isOffice us_X10_isOffice um_X10_212 rfl rfl (c_X10_isOffice l K b X x1 r1 hr1) dX10_set_2 rfl rfl (Nat.le_of_ble_eq_true rfl) (Nat.le_of_ble_eq_true rfl)) ?_
  refine GO_if_eq C 40 dX10_set_5 rfl (fun h1 => ?_) (fun h1 => ?_)
  · refine GO.lift (fun _ => G_iconst C dX10_set_40 (v := -1) rfl) ?_
    exact GO.fin (G_iret C dX10_set_41 rfl)
  · refine GO.lift (fun _ => G_iload_n C 2 dX10_set_8 rfl) ?_
    refine GO_if_ne C 25 dX10_set_9 rfl (fun h2 => ?_) (fun h2 => ?_)
    · refine GO.lift (fun _ => G_iload_n C 3 dX10_set_12 rfl) ?_
      refine GO.lift (fun _ => G_iconst C dX10_set_13 (v := 1) rfl) ?_
      refine GO.lift (fun _ => G_bipush C dX10_set_14 (v := 9) rfl) ?_
      refine GO.lift (fun _ => G_callSi C kd_X10_in ut_X10_in um_X10_58 (c_X10_in l K (mo_W K b X) x3 1 9) dX10_set_16 rfl rfl (Nat.le_of_ble_eq_true rfl) (Nat.le_of_ble_eq_true rfl)) ?_
      refine GO_if_eq C 40 dX10_set_19 rfl (fun h3 => ?_) (fun h3 => ?_)
      · refine GO.lift (fun _ => G_iconst C dX10_set_40 (v := -1) rfl) ?_
        exact GO.fin (G_iret C dX10_set_41 rfl)
      · refine GO.lift (fun _ => G_goto C 42 dX10_set_22 rfl) ?_
        refine GO.sub [0, 1, 2, 3] rfl ?_
        exact g_X10_set_L42 C X x1 x2 x3
    · refine GO.lift (fun _ => G_iload_n C 2 dX10_set_25 rfl) ?_
      refine GO.lift (fun _ => G_iconst C dX10_set_26 (v := 1) rfl) ?_
      refine GO_icmp_ne C 40 dX10_set_27 rfl (fun h4 => ?_) (fun h4 => ?_)
      · refine GO.lift (fun _ => G_iload_n C 3 dX10_set_30 rfl) ?_
        refine GO.lift (fun _ => G_iconst C dX10_set_31 (v := 1) rfl) ?_
        refine GO.lift (fun _ => G_bipush C dX10_set_32 (v := 99) rfl) ?_
        refine GO.lift (fun _ => G_callSi C kd_X10_in ut_X10_in um_X10_58 (c_X10_in l K (mo_W K b X) x3 1 99) dX10_set_34 rfl rfl (Nat.le_of_ble_eq_true rfl) (Nat.le_of_ble_eq_true rfl)) ?_
        refine GO_if_ne C 42 dX10_set_37 rfl (fun h5 => ?_) (fun h5 => ?_)
        · refine GO.lift (fun _ => G_iconst C dX10_set_40 (v := -1) rfl) ?_
          exact GO.fin (G_iret C dX10_set_41 rfl)
        · refine GO.sub [0, 1, 2, 3] rfl ?_
          exact g_X10_set_L42 C X x1 x2 x3
      · refine GO.lift (fun _ => G_iconst C dX10_set_40 (v := -1) rfl) ?_
        exact GO.fin (G_iret C dX10_set_41 rfl)
/-! X10_rule -/
theorem kd_X10_rule : Card yX10_rule cX10_rule 4 (some .int) 2 := ⟨uc_X10_rule, un_X10, ⟨by decide, by decide, by decide⟩, by decide⟩
def o_X10_rule (X : SM) (x1 : Int32) (x2 : Int32) : Option (Int32 × SM) := if (v_X10_isRule x1 x2) = 0 then some ((-1, X)) else if gin x1 336 = true then (if ((X 0) x1.toNatClampNeg) = x2 then some ((-2, X)) else (o_X10_keepForUndo X ).bind (fun r1 => if gin x1 336 = true then (lt1 (sU r1 0 (upd (r1 0) x1.toNatClampNeg x2)) (fun r2 => (o_X10_tells (r2 0) 8 x1 ((X 0) x1.toNatClampNeg)).bind (fun r3 => lt1 (sU r2 0 r3) (fun r4 => some (((X 0) x1.toNatClampNeg, r4)))))) else none)) else none
theorem c_X10_rule (l : Launch) (K : gK) (b : Nat → Nat) (X : SM) (x1 : Int32) (x2 : Int32) (r : Int32 × SM) (hr : o_X10_rule X x1 x2 = some r) : Ct l K yX10_rule cX10_rule 4 (some .int) 2 [.ref (b 0), .int x1, .int x2] (mo_W K b X) (some (.int r.1), mo_W K b r.2) := by
  refine Ct.of (own := RX10) (fun (z : Int32 × SM) => (some (.int z.1), mo_W K b z.2)) (x := r) (by decide) rfl (Nat.le_of_ble_eq_true rfl) (fun Γ C => GO.out (x := o_X10_rule X x1 x2) ?_ hr)
  unfold o_X10_rule
  refine GO.lift (fun _ => G_iload_n C 1 dX10_rule_0 rfl) ?_
  refine GO.lift (fun _ => G_iload_n C 2 dX10_rule_1 rfl) ?_
  refine GO.lift (fun _ => G_callSi C kd_X10_isRule ut_X10_isRule um_X10_231 (c_X10_isRule l K (mo_W K b X) x1 x2) dX10_rule_2 rfl rfl (Nat.le_of_ble_eq_true rfl) (Nat.le_of_ble_eq_true rfl)) ?_
  refine GO_if_ne C 10 dX10_rule_5 rfl (fun h1 => ?_) (fun h1 => ?_)
  · refine GO.lift (fun _ => G_iconst C dX10_rule_8 (v := -1) rfl) ?_
    exact GO.fin (G_iret C dX10_rule_9 rfl)
  · refine GO.lift (fun _ => G_aload_n C 0 dX10_rule_10 rfl) ?_
    refine GO.lift (fun _ => G_get C 0 0 dX10_rule_11 inlX10 uf_X10_7 rfl (by decide) rfl rfl rfl) ?_
    refine GO.lift (fun _ => G_iload_n C 1 dX10_rule_14 rfl) ?_
    refine GO.guard (fun h2 => ?_)
    refine GO.lift (fun _ => G_iald C 1 dX10_rule_15 rfl (gin_in h2)) ?_
    refine GO.lift (fun _ => G_istore_n (lv' := [(3, .int ((X 0) x1.toNatClampNeg)), (0, .ref (b 0)), (1, .int x1), (2, .int x2)]) C dX10_rule_16 (by decide) rfl) ?_
    refine GO.lift (fun _ => G_iload_n C 0 dX10_rule_17 rfl) ?_
    refine GO.lift (fun _ => G_iload_n C 3 dX10_rule_18 rfl) ?_
    refine GO_icmp_ne C 25 dX10_rule_19 rfl (fun h3 => ?_) (fun h3 => ?_)
    · refine GO.lift (fun _ => G_bipush C dX10_rule_22 (v := -2) rfl) ?_
      exact GO.fin (G_iret C dX10_rule_24 rfl)
    · refine GO.lift (fun _ => G_aload_n C 1 dX10_rule_25 rfl) ?_
      refine GO.bind (fun r1 hr1 => ?_)
      refine GO.lift (fun _ => G_callVv C 0 10 kd_X10_keepForUndo ui_X10_keepForUndo us_X10_keepForUndo um_X10_215 rfl rfl (c_X10_keepForUndo l K b X  r1 hr1) dX10_rule_26 rfl rfl (Nat.le_of_ble_eq_true rfl) (Nat.le_of_ble_eq_true rfl)) ?_
      refine GO.lift (fun _ => G_aload_n C 1 dX10_rule_29 rfl) ?_
      refine GO.lift (fun _ => G_get C 0 0 dX10_rule_30 inlX10 uf_X10_7 rfl (by decide) rfl rfl rfl) ?_
      refine GO.lift (fun _ => G_iload_n C 2 dX10_rule_33 rfl) ?_
      refine GO.lift (fun _ => G_iload_n C 3 dX10_rule_34 rfl) ?_
      refine GO.guard (fun h4 => ?_)
      refine GO.letS (fun r2 hr2 => ?_)
      refine GO.lift (fun _ => G_iast (ws' := mo_W K b r2) C 1 dX10_rule_35 rfl (gin_in h4) (by cases hr2; rfl)) ?_
      refine GO.lift (fun _ => G_aload_n C 1 dX10_rule_36 rfl) ?_
      refine GO.lift (fun _ => G_get C 0 0 dX10_rule_37 inlX10 uf_X10_7 rfl (by decide) rfl rfl rfl) ?_
      refine GO.lift (fun _ => G_bipush C dX10_rule_40 (v := 8) rfl) ?_
      refine GO.lift (fun _ => G_iload_n C 2 dX10_rule_42 rfl) ?_
      refine GO.lift (fun _ => G_iload_n C 0 dX10_rule_43 rfl) ?_
      refine GO.bind (fun r3 hr3 => ?_)
      refine GO.letS (fun r4 hr4 => ?_)
      refine GO.lift (fun _ => G_callSv C kd_X10_tells ut_X10_tells um_X10_88 (Ct.to (r' := (none, mo_W K b r4)) (Ct.from (c_X10_tells l K (ws := mo_W K b r2) (q := 1) (ad := b 1) (Nat.le_of_ble_eq_true rfl) (r2 0) 8 x1 ((X 0) x1.toNatClampNeg) r3 hr3) rfl) (by cases hr4; rfl)) dX10_rule_44 rfl rfl (Nat.le_of_ble_eq_true rfl) (Nat.le_of_ble_eq_true rfl)) ?_
      refine GO.lift (fun _ => G_iload_n C 0 dX10_rule_47 rfl) ?_
      exact GO.fin (G_iret C dX10_rule_48 rfl)
/-! X10_keep -/
theorem kd_X10_keep : Card yX10_keep cX10_keep 2 (some .int) 1 := ⟨uc_X10_keep, un_X10, ⟨by decide, by decide, by decide⟩, by decide⟩
def o_X10_keep (X : SM) (x1 : Int32) : Option (Int32 × SM) := if (v_X10_in x1 0 1) = 0 then some ((-1, X)) else (o_X10_layRow2 672 336 (X 0) (X 4) 0 (336 * x1)).bind (fun r1 => lt1 (sU X 4 r1) (fun r2 => if gin x1 2 = true then (lt1 (sU r2 5 (upd (r2 5) x1.toNatClampNeg (vp_nar .boolean 1))) (fun r3 => some (((r3 0) (3 : Int32).toNatClampNeg, r3)))) else none))
theorem c_X10_keep (l : Launch) (K : gK) (b : Nat → Nat) (X : SM) (x1 : Int32) (r : Int32 × SM) (hr : o_X10_keep X x1 = some r) : Ct l K yX10_keep cX10_keep 2 (some .int) 1 [.ref (b 0), .int x1] (mo_W K b X) (some (.int r.1), mo_W K b r.2) := by
  refine Ct.of (own := RX10) (fun (z : Int32 × SM) => (some (.int z.1), mo_W K b z.2)) (x := r) (by decide) rfl (Nat.le_of_ble_eq_true rfl) (fun Γ C => GO.out (x := o_X10_keep X x1) ?_ hr)
  unfold o_X10_keep
  refine GO.lift (fun _ => G_iload_n C 1 dX10_keep_0 rfl) ?_
  refine GO.lift (fun _ => G_iconst C dX10_keep_1 (v := 0) rfl) ?_
  refine GO.lift (fun _ => G_iconst C dX10_keep_2 (v := 1) rfl) ?_
  refine GO.lift (fun _ => G_callSi C kd_X10_in ut_X10_in um_X10_58 (c_X10_in l K (mo_W K b X) x1 0 1) dX10_keep_3 rfl rfl (Nat.le_of_ble_eq_true rfl) (Nat.le_of_ble_eq_true rfl)) ?_
  refine GO_if_ne C 11 dX10_keep_6 rfl (fun h1 => ?_) (fun h1 => ?_)
  · refine GO.lift (fun _ => G_iconst C dX10_keep_9 (v := -1) rfl) ?_
    exact GO.fin (G_iret C dX10_keep_10 rfl)
  · refine GO.lift (fun _ => G_aload_n C 0 dX10_keep_11 rfl) ?_
    refine GO.lift (fun _ => G_get C 0 0 dX10_keep_12 inlX10 uf_X10_7 rfl (by decide) rfl rfl rfl) ?_
    refine GO.lift (fun _ => G_iconst C dX10_keep_15 (v := 0) rfl) ?_
    refine GO.lift (fun _ => G_aload_n C 0 dX10_keep_16 rfl) ?_
    refine GO.lift (fun _ => G_get C 0 4 dX10_keep_17 inlX10 uf_X10_22 rfl (by decide) rfl rfl rfl) ?_
    refine GO.lift (fun _ => G_sipush C dX10_keep_20 (v := 336) rfl) ?_
    refine GO.lift (fun _ => G_iload_n C 1 dX10_keep_23 rfl) ?_
    refine GO.lift (fun _ => G_imul C dX10_keep_24) ?_
    refine GO.bind (fun r1 hr1 => ?_)
    refine GO.letS (fun r2 hr2 => ?_)
    refine GO.lift (fun _ => G_callSv C kd_X10_layRow ut_X10_layRow um_X10_50 (Ct.to (r' := (none, mo_W K b r2)) (Ct.from (c_X10_layRow2 l K (ws := mo_W K b X) (q := 5) (ad := b 5) (q0 := 1) (ad0 := b 1) (Nat.le_of_ble_eq_true rfl) 672 336 (X 0) rfl (by decide) (X 4) 0 (336 * x1) r1 hr1) rfl) (by cases hr2; rfl)) dX10_keep_25 rfl rfl (Nat.le_of_ble_eq_true rfl) (Nat.le_of_ble_eq_true rfl)) ?_
    refine GO.lift (fun _ => G_aload_n C 0 dX10_keep_28 rfl) ?_
    refine GO.lift (fun _ => G_get C 0 5 dX10_keep_29 inlX10 uf_X10_25 rfl (by decide) rfl rfl rfl) ?_
    refine GO.lift (fun _ => G_iload_n C 1 dX10_keep_32 rfl) ?_
    refine GO.lift (fun _ => G_iconst C dX10_keep_33 (v := 1) rfl) ?_
    refine GO.guard (fun h2 => ?_)
    refine GO.letS (fun r3 hr3 => ?_)
    refine GO.lift (fun _ => G_zast (ws' := mo_W K b r3) C 6 dX10_keep_34 rfl (gin_in h2) (by cases hr3; rfl)) ?_
    refine GO.lift (fun _ => G_aload_n C 0 dX10_keep_35 rfl) ?_
    refine GO.lift (fun _ => G_get C 0 0 dX10_keep_36 inlX10 uf_X10_7 rfl (by decide) rfl rfl rfl) ?_
    refine GO.lift (fun _ => G_iconst C dX10_keep_39 (v := 3) rfl) ?_
    refine GO.lift (fun _ => G_iald C 1 dX10_keep_40 rfl (by unfold vp_in; decide)) ?_
    exact GO.fin (G_iret C dX10_keep_41 rfl)
/-! X10_restore -/
theorem kd_X10_restore : Card yX10_restore cX10_restore 2 (some .int) 1 := ⟨uc_X10_restore, un_X10, ⟨by decide, by decide, by decide⟩, by decide⟩
def o_X10_restore (X : SM) (x1 : Int32) : Option (Int32 × SM) := if (v_X10_in x1 0 1) = 0 then some ((-1, X)) else if gin x1 2 = true then (if ((X 5) x1.toNatClampNeg) = 0 then some ((-2, X)) else (o_X10_keepForUndo X ).bind (fun r1 => (o_X10_layRow2 336 672 (r1 4) (r1 0) (336 * x1) 0).bind (fun r2 => lt1 (sU r1 0 r2) (fun r3 => some (((r3 0) (3 : Int32).toNatClampNeg, r3)))))) else none
theorem c_X10_restore (l : Launch) (K : gK) (b : Nat → Nat) (X : SM) (x1 : Int32) (r : Int32 × SM) (hr : o_X10_restore X x1 = some r) : Ct l K yX10_restore cX10_restore 2 (some .int) 2 [.ref (b 0), .int x1] (mo_W K b X) (some (.int r.1), mo_W K b r.2) := by
  refine Ct.of (own := RX10) (fun (z : Int32 × SM) => (some (.int z.1), mo_W K b z.2)) (x := r) (by decide) rfl (Nat.le_of_ble_eq_true rfl) (fun Γ C => GO.out (x := o_X10_restore X x1) ?_ hr)
  unfold o_X10_restore
  refine GO.lift (fun _ => G_iload_n C 1 dX10_restore_0 rfl) ?_
  refine GO.lift (fun _ => G_iconst C dX10_restore_1 (v := 0) rfl) ?_
  refine GO.lift (fun _ => G_iconst C dX10_restore_2 (v := 1) rfl) ?_
  refine GO.lift (fun _ => G_callSi C kd_X10_in ut_X10_in um_X10_58 (c_X10_in l K (mo_W K b X) x1 0 1) dX10_restore_3 rfl rfl (Nat.le_of_ble_eq_true rfl) (Nat.le_of_ble_eq_true rfl)) ?_
  refine GO_if_ne C 11 dX10_restore_6 rfl (fun h1 => ?_) (fun h1 => ?_)
  · refine GO.lift (fun _ => G_iconst C dX10_restore_9 (v := -1) rfl) ?_
    exact GO.fin (G_iret C dX10_restore_10 rfl)
  · refine GO.lift (fun _ => G_aload_n C 0 dX10_restore_11 rfl) ?_
    refine GO.lift (fun _ => G_get C 0 5 dX10_restore_12 inlX10 uf_X10_25 rfl (by decide) rfl rfl rfl) ?_
    refine GO.lift (fun _ => G_iload_n C 1 dX10_restore_15 rfl) ?_
    refine GO.guard (fun h2 => ?_)
    refine GO.lift (fun _ => G_zald C 6 dX10_restore_16 rfl (gin_in h2)) ?_
    refine GO_if_ne C 23 dX10_restore_17 rfl (fun h3 => ?_) (fun h3 => ?_)
    · refine GO.lift (fun _ => G_bipush C dX10_restore_20 (v := -2) rfl) ?_
      exact GO.fin (G_iret C dX10_restore_22 rfl)
    · refine GO.lift (fun _ => G_aload_n C 0 dX10_restore_23 rfl) ?_
      refine GO.bind (fun r1 hr1 => ?_)
      refine GO.lift (fun _ => G_callVv C 0 10 kd_X10_keepForUndo ui_X10_keepForUndo us_X10_keepForUndo um_X10_215 rfl rfl (c_X10_keepForUndo l K b X  r1 hr1) dX10_restore_24 rfl rfl (Nat.le_of_ble_eq_true rfl) (Nat.le_of_ble_eq_true rfl)) ?_
      refine GO.lift (fun _ => G_aload_n C 0 dX10_restore_27 rfl) ?_
      refine GO.lift (fun _ => G_get C 0 4 dX10_restore_28 inlX10 uf_X10_22 rfl (by decide) rfl rfl rfl) ?_
      refine GO.lift (fun _ => G_sipush C dX10_restore_31 (v := 336) rfl) ?_
      refine GO.lift (fun _ => G_iload_n C 1 dX10_restore_34 rfl) ?_
      refine GO.lift (fun _ => G_imul C dX10_restore_35) ?_
      refine GO.lift (fun _ => G_aload_n C 0 dX10_restore_36 rfl) ?_
      refine GO.lift (fun _ => G_get C 0 0 dX10_restore_37 inlX10 uf_X10_7 rfl (by decide) rfl rfl rfl) ?_
      refine GO.lift (fun _ => G_iconst C dX10_restore_40 (v := 0) rfl) ?_
      refine GO.bind (fun r2 hr2 => ?_)
      refine GO.letS (fun r3 hr3 => ?_)
      refine GO.lift (fun _ => G_callSv C kd_X10_layRow ut_X10_layRow um_X10_50 (Ct.to (r' := (none, mo_W K b r3)) (Ct.from (c_X10_layRow2 l K (ws := mo_W K b r1) (q := 1) (ad := b 1) (q0 := 5) (ad0 := b 5) (Nat.le_of_ble_eq_true rfl) 336 672 (r1 4) rfl (by decide) (r1 0) (336 * x1) 0 r2 hr2) rfl) (by cases hr3; rfl)) dX10_restore_41 rfl rfl (Nat.le_of_ble_eq_true rfl) (Nat.le_of_ble_eq_true rfl)) ?_
      refine GO.lift (fun _ => G_aload_n C 0 dX10_restore_44 rfl) ?_
      refine GO.lift (fun _ => G_get C 0 0 dX10_restore_45 inlX10 uf_X10_7 rfl (by decide) rfl rfl rfl) ?_
      refine GO.lift (fun _ => G_iconst C dX10_restore_48 (v := 3) rfl) ?_
      refine GO.lift (fun _ => G_iald C 1 dX10_restore_49 rfl (by unfold vp_in; decide)) ?_
      exact GO.fin (G_iret C dX10_restore_50 rfl)
/-! X10_undo -/
theorem kd_X10_undo : Card yX10_undo cX10_undo 1 (some .int) 0 := ⟨uc_X10_undo, un_X10, ⟨by decide, by decide, by decide⟩, by decide⟩
def o_X10_undo (X : SM) : Option (Int32 × SM) := if (X 8 0) = 0 then some ((-1, X)) else lt1 (sU X 8 (upd (X 8) 0 ((X 8 0) - 1))) (fun r1 => (o_X10_layRow2 336 2688 (r1 3) (r1 0) (336 * (r1 8 0)) 0).bind (fun r2 => lt1 (sU r1 0 r2) (fun r3 => some ((r3 8 0, r3)))))
theorem c_X10_undo (l : Launch) (K : gK) (b : Nat → Nat) (X : SM) (r : Int32 × SM) (hr : o_X10_undo X = some r) : Ct l K yX10_undo cX10_undo 1 (some .int) 1 [.ref (b 0)] (mo_W K b X) (some (.int r.1), mo_W K b r.2) := by
  refine Ct.of (own := RX10) (fun (z : Int32 × SM) => (some (.int z.1), mo_W K b z.2)) (x := r) (by decide) rfl (Nat.le_of_ble_eq_true rfl) (fun Γ C => GO.out (x := o_X10_undo X) ?_ hr)
  unfold o_X10_undo
  refine GO.lift (fun _ => G_aload_n C 0 dX10_undo_0 rfl) ?_
  refine GO.lift (fun _ => G_get C 0 6 dX10_undo_1 inlX10 uf_X10_209 rfl (by decide) rfl rfl rfl) ?_
  refine GO_if_ne C 9 dX10_undo_4 rfl (fun h1 => ?_) (fun h1 => ?_)
  · refine GO.lift (fun _ => G_iconst C dX10_undo_7 (v := -1) rfl) ?_
    exact GO.fin (G_iret C dX10_undo_8 rfl)
  · refine GO.lift (fun _ => G_aload_n C 0 dX10_undo_9 rfl) ?_
    refine GO.lift (fun _ => G_dup C dX10_undo_10 rfl) ?_
    refine GO.lift (fun _ => G_get C 0 6 dX10_undo_11 inlX10 uf_X10_209 rfl (by decide) rfl rfl rfl) ?_
    refine GO.lift (fun _ => G_iconst C dX10_undo_14 (v := 1) rfl) ?_
    refine GO.lift (fun _ => G_isub C dX10_undo_15) ?_
    refine GO.letS (fun r1 hr1 => ?_)
    refine GO.lift (fun _ => G_put (ws' := mo_W K b r1) C 0 6 tyX10 .int dX10_undo_16 inlX10 uf_X10_209 tyX10_ok nmX10 rfl (by decide) rfl rfl rfl rfl rfl rfl (Nat.le_of_ble_eq_true rfl) (by cases hr1; rfl)) ?_
    refine GO.lift (fun _ => G_aload_n C 0 dX10_undo_19 rfl) ?_
    refine GO.lift (fun _ => G_get C 0 3 dX10_undo_20 inlX10 uf_X10_19 rfl (by decide) rfl rfl rfl) ?_
    refine GO.lift (fun _ => G_sipush C dX10_undo_23 (v := 336) rfl) ?_
    refine GO.lift (fun _ => G_aload_n C 0 dX10_undo_26 rfl) ?_
    refine GO.lift (fun _ => G_get C 0 6 dX10_undo_27 inlX10 uf_X10_209 rfl (by decide) rfl rfl rfl) ?_
    refine GO.lift (fun _ => G_imul C dX10_undo_30) ?_
    refine GO.lift (fun _ => G_aload_n C 0 dX10_undo_31 rfl) ?_
    refine GO.lift (fun _ => G_get C 0 0 dX10_undo_32 inlX10 uf_X10_7 rfl (by decide) rfl rfl rfl) ?_
    refine GO.lift (fun _ => G_iconst C dX10_undo_35 (v := 0) rfl) ?_
    refine GO.bind (fun r2 hr2 => ?_)
    refine GO.letS (fun r3 hr3 => ?_)
    refine GO.lift (fun _ => G_callSv C kd_X10_layRow ut_X10_layRow um_X10_50 (Ct.to (r' := (none, mo_W K b r3)) (Ct.from (c_X10_layRow2 l K (ws := mo_W K b r1) (q := 1) (ad := b 1) (q0 := 4) (ad0 := b 4) (Nat.le_of_ble_eq_true rfl) 336 2688 (r1 3) rfl (by decide) (r1 0) (336 * (r1 8 0)) 0 r2 hr2) rfl) (by cases hr3; rfl)) dX10_undo_36 rfl rfl (Nat.le_of_ble_eq_true rfl) (Nat.le_of_ble_eq_true rfl)) ?_
    refine GO.lift (fun _ => G_aload_n C 0 dX10_undo_39 rfl) ?_
    refine GO.lift (fun _ => G_get C 0 6 dX10_undo_40 inlX10 uf_X10_209 rfl (by decide) rfl rfl rfl) ?_
    exact GO.fin (G_iret C dX10_undo_43 rfl)
/-! X10_openAll -/
theorem kd_X10_openAll : Card yX10_openAll cX10_openAll 3 (some .int) 0 := ⟨uc_X10_openAll, un_X10, ⟨by decide, by decide, by decide⟩, by decide⟩
def o_X10_openAll_L4 : Nat → SM → Int32 → Int32 → Option (Int32)
  | 0, _, _, _ => none
  | fuel + 1, X, x1, x2 => if x2 < ((X 0) (4 : Int32).toNatClampNeg) then if gin (v_X10_officeAt x2 2) 336 = true then (o_X10_openAll_L4 fuel X (x1 + ((X 0) (v_X10_officeAt x2 2).toNatClampNeg)) (x2 + 1)) else none else some x1
theorem g_X10_openAll_L4 {l : Launch} {K : gK} {Γ : gT} {b : Nat → Nat} (C : Cx l K Γ RX10 cX10_openAll 3 (some .int) 1) : ∀ (k : Nat) (X : SM) (x1 : Int32) (x2 : Int32), GO l K Γ (mo_W K b X) 4 3 [(0, .ref (b 0)), (1, .int x1), (2, .int x2)] [] (fun z => (some (.int z), mo_W K b X)) (o_X10_openAll_L4 k X x1 x2) := by
  intro k
  induction k with
  | zero =>
    intro X x1 x2
    exact fun r hr => nomatch hr
  | succ k ih =>
    intro X x1 x2
    rw [o_X10_openAll_L4]
    refine GO.lift (fun _ => G_iload_n C 2 dX10_openAll_4 rfl) ?_
    refine GO.lift (fun _ => G_aload_n C 0 dX10_openAll_5 rfl) ?_
    refine GO.lift (fun _ => G_get C 0 0 dX10_openAll_6 inlX10 uf_X10_7 rfl (by decide) rfl rfl rfl) ?_
    refine GO.lift (fun _ => G_iconst C dX10_openAll_9 (v := 4) rfl) ?_
    refine GO.lift (fun _ => G_iald C 1 dX10_openAll_10 rfl (by unfold vp_in; decide)) ?_
    refine GO_icmp_ge C 33 dX10_openAll_11 rfl (fun h1 => ?_) (fun h1 => ?_)
    · refine GO.lift (fun _ => G_iload_n C 1 dX10_openAll_14 rfl) ?_
      refine GO.lift (fun _ => G_aload_n C 0 dX10_openAll_15 rfl) ?_
      refine GO.lift (fun _ => G_get C 0 0 dX10_openAll_16 inlX10 uf_X10_7 rfl (by decide) rfl rfl rfl) ?_
      refine GO.lift (fun _ => G_iload_n C 2 dX10_openAll_19 rfl) ?_
      refine GO.lift (fun _ => G_iconst C dX10_openAll_20 (v := 2) rfl) ?_
      refine GO.lift (fun _ => G_callSi C kd_X10_officeAt ut_X10_officeAt um_X10_54 (c_X10_officeAt l K (mo_W K b X) x2 2) dX10_openAll_21 rfl rfl (Nat.le_of_ble_eq_true rfl) (Nat.le_of_ble_eq_true rfl)) ?_
      refine GO.guard (fun h2 => ?_)
      refine GO.lift (fun _ => G_iald C 1 dX10_openAll_24 rfl (gin_in h2)) ?_
      refine GO.lift (fun _ => G_iadd C dX10_openAll_25) ?_
      refine GO.lift (fun _ => G_istore_n (lv' := [(1, .int (x1 + ((X 0) (v_X10_officeAt x2 2).toNatClampNeg))), (0, .ref (b 0)), (2, .int x2)]) C dX10_openAll_26 (by decide) rfl) ?_
      refine GO.lift (fun _ => G_iinc (lv' := [(2, .int (x2 + 1)), (1, .int (x1 + ((X 0) (v_X10_officeAt x2 2).toNatClampNeg))), (0, .ref (b 0))]) C 2 dX10_openAll_27 rfl rfl (by decide) rfl) ?_
      refine GO.lift (fun _ => G_goto C 4 dX10_openAll_30 rfl) ?_
      refine GO.sub [2, 1, 0] rfl ?_
      exact ih X (x1 + ((X 0) (v_X10_officeAt x2 2).toNatClampNeg)) (x2 + 1)
    · refine GO.lift (fun _ => G_iload_n C 1 dX10_openAll_33 rfl) ?_
      exact GO.fin (G_iret C dX10_openAll_34 rfl)
def o_X10_openAll (X : SM) : Option (Int32) := o_X10_openAll_L4 4000 X 0 0
theorem c_X10_openAll (l : Launch) (K : gK) (b : Nat → Nat) (X : SM) (r : Int32) (hr : o_X10_openAll X = some r) : Ct l K yX10_openAll cX10_openAll 3 (some .int) 1 [.ref (b 0)] (mo_W K b X) (some (.int r), mo_W K b X) := by
  refine Ct.of (own := RX10) (fun z => (some (.int z), mo_W K b X)) (x := r) (by decide) rfl (Nat.le_of_ble_eq_true rfl) (fun Γ C => GO.out (x := o_X10_openAll X) ?_ hr)
  unfold o_X10_openAll
  refine GO.lift (fun _ => G_iconst C dX10_openAll_0 (v := 0) rfl) ?_
  refine GO.lift (fun _ => G_istore_n (lv' := [(1, .int 0), (0, .ref (b 0))]) C dX10_openAll_1 (by decide) rfl) ?_
  refine GO.lift (fun _ => G_iconst C dX10_openAll_2 (v := 0) rfl) ?_
  refine GO.lift (fun _ => G_istore_n (lv' := [(2, .int 0), (1, .int 0), (0, .ref (b 0))]) C dX10_openAll_3 (by decide) rfl) ?_
  refine GO.sub [2, 1, 0] rfl ?_
  exact g_X10_openAll_L4 C _ X 0 0
/-! X10_lengthAll -/
theorem kd_X10_lengthAll : Card yX10_lengthAll cX10_lengthAll 3 (some .int) 0 := ⟨uc_X10_lengthAll, un_X10, ⟨by decide, by decide, by decide⟩, by decide⟩
def o_X10_lengthAll_L4 : Nat → SM → Int32 → Int32 → Option (Int32)
  | 0, _, _, _ => none
  | fuel + 1, X, x1, x2 => if x2 < ((X 0) (4 : Int32).toNatClampNeg) then (o_X10_lengthOf (X 0) x2).bind (fun r1 => o_X10_lengthAll_L4 fuel X (x1 + r1) (x2 + 1)) else some x1
theorem g_X10_lengthAll_L4 {l : Launch} {K : gK} {Γ : gT} {b : Nat → Nat} (C : Cx l K Γ RX10 cX10_lengthAll 3 (some .int) 3) : ∀ (k : Nat) (X : SM) (x1 : Int32) (x2 : Int32), GO l K Γ (mo_W K b X) 4 3 [(0, .ref (b 0)), (1, .int x1), (2, .int x2)] [] (fun z => (some (.int z), mo_W K b X)) (o_X10_lengthAll_L4 k X x1 x2) := by
  intro k
  induction k with
  | zero =>
    intro X x1 x2
    exact fun r hr => nomatch hr
  | succ k ih =>
    intro X x1 x2
    rw [o_X10_lengthAll_L4]
    refine GO.lift (fun _ => G_iload_n C 2 dX10_lengthAll_4 rfl) ?_
    refine GO.lift (fun _ => G_aload_n C 0 dX10_lengthAll_5 rfl) ?_
    refine GO.lift (fun _ => G_get C 0 0 dX10_lengthAll_6 inlX10 uf_X10_7 rfl (by decide) rfl rfl rfl) ?_
    refine GO.lift (fun _ => G_iconst C dX10_lengthAll_9 (v := 4) rfl) ?_
    refine GO.lift (fun _ => G_iald C 1 dX10_lengthAll_10 rfl (by unfold vp_in; decide)) ?_
    refine GO_icmp_ge C 31 dX10_lengthAll_11 rfl (fun h1 => ?_) (fun h1 => ?_)
    · refine GO.lift (fun _ => G_iload_n C 1 dX10_lengthAll_14 rfl) ?_
      refine GO.lift (fun _ => G_aload_n C 0 dX10_lengthAll_15 rfl) ?_
      refine GO.lift (fun _ => G_get C 0 0 dX10_lengthAll_16 inlX10 uf_X10_7 rfl (by decide) rfl rfl rfl) ?_
      refine GO.lift (fun _ => G_iload_n C 2 dX10_lengthAll_19 rfl) ?_
      refine GO.bind (fun r1 hr1 => ?_)
      refine GO.lift (fun _ => G_callSi C kd_X10_lengthOf ut_X10_lengthOf um_X10_235 (Ct.to (r' := (some (.int r1), mo_W K b X)) (Ct.from (c_X10_lengthOf l K (ws := mo_W K b X) (q := 1) (ad := b 1) (Nat.le_of_ble_eq_true rfl) (X 0) x2 r1 hr1) rfl) rfl) dX10_lengthAll_20 rfl rfl (Nat.le_of_ble_eq_true rfl) (Nat.le_of_ble_eq_true rfl)) ?_
      refine GO.lift (fun _ => G_iadd C dX10_lengthAll_23) ?_
      refine GO.lift (fun _ => G_istore_n (lv' := [(1, .int (x1 + r1)), (0, .ref (b 0)), (2, .int x2)]) C dX10_lengthAll_24 (by decide) rfl) ?_
      refine GO.lift (fun _ => G_iinc (lv' := [(2, .int (x2 + 1)), (1, .int (x1 + r1)), (0, .ref (b 0))]) C 2 dX10_lengthAll_25 rfl rfl (by decide) rfl) ?_
      refine GO.lift (fun _ => G_goto C 4 dX10_lengthAll_28 rfl) ?_
      refine GO.sub [2, 1, 0] rfl ?_
      exact ih X (x1 + r1) (x2 + 1)
    · refine GO.lift (fun _ => G_iload_n C 1 dX10_lengthAll_31 rfl) ?_
      exact GO.fin (G_iret C dX10_lengthAll_32 rfl)
def o_X10_lengthAll (X : SM) : Option (Int32) := o_X10_lengthAll_L4 4000 X 0 0
theorem c_X10_lengthAll (l : Launch) (K : gK) (b : Nat → Nat) (X : SM) (r : Int32) (hr : o_X10_lengthAll X = some r) : Ct l K yX10_lengthAll cX10_lengthAll 3 (some .int) 3 [.ref (b 0)] (mo_W K b X) (some (.int r), mo_W K b X) := by
  refine Ct.of (own := RX10) (fun z => (some (.int z), mo_W K b X)) (x := r) (by decide) rfl (Nat.le_of_ble_eq_true rfl) (fun Γ C => GO.out (x := o_X10_lengthAll X) ?_ hr)
  unfold o_X10_lengthAll
  refine GO.lift (fun _ => G_iconst C dX10_lengthAll_0 (v := 0) rfl) ?_
  refine GO.lift (fun _ => G_istore_n (lv' := [(1, .int 0), (0, .ref (b 0))]) C dX10_lengthAll_1 (by decide) rfl) ?_
  refine GO.lift (fun _ => G_iconst C dX10_lengthAll_2 (v := 0) rfl) ?_
  refine GO.lift (fun _ => G_istore_n (lv' := [(2, .int 0), (1, .int 0), (0, .ref (b 0))]) C dX10_lengthAll_3 (by decide) rfl) ?_
  refine GO.sub [2, 1, 0] rfl ?_
  exact g_X10_lengthAll_L4 C _ X 0 0
