-- PART 08, go on (by gen/mkmodel.py)
/-! X10_busiest -/
theorem kd_X10_busiest : Card yX10_busiest cX10_busiest 3 (some .int) 0 := ⟨uc_X10_busiest, un_X10, ⟨by decide, by decide, by decide⟩, by decide⟩
def o_X10_busiest_L4 : Nat → SM → Int32 → Int32 → Option (Int32)
  | 0, _, _, _ => none
  | fuel + 1, X, x1, x2 => if x2 < ((X 0) (4 : Int32).toNatClampNeg) then (o_X10_lengthOf (X 0) x2).bind (fun r1 => (o_X10_lengthOf (X 0) x1).bind (fun r2 => if r2 < r1 then o_X10_busiest_L4 fuel X x2 (x2 + 1) else o_X10_busiest_L4 fuel X x1 (x2 + 1))) else some x1
theorem g_X10_busiest_L4 {l : Launch} {K : gK} {Γ : gT} {b : Nat → Nat} (C : Cx l K Γ RX10 cX10_busiest 3 (some .int) 3) : ∀ (k : Nat) (X : SM) (x1 : Int32) (x2 : Int32), GO l K Γ (mo_W K b X) 4 3 [(0, .ref (b 0)), (1, .int x1), (2, .int x2)] [] (fun z => (some (.int z), mo_W K b X)) (o_X10_busiest_L4 k X x1 x2) := by
  intro k
  induction k with
  | zero =>
    intro X x1 x2
    exact fun r hr => nomatch hr
  | succ k ih =>
    intro X x1 x2
    rw [o_X10_busiest_L4]
    refine GO.lift (fun _ => G_iload_n C 2 dX10_busiest_4 rfl) ?_
    refine GO.lift (fun _ => G_aload_n C 0 dX10_busiest_5 rfl) ?_
    refine GO.lift (fun _ => G_get C 0 0 dX10_busiest_6 inlX10 uf_X10_7 rfl (by decide) rfl rfl rfl) ?_
    refine GO.lift (fun _ => G_iconst C dX10_busiest_9 (v := 4) rfl) ?_
    refine GO.lift (fun _ => G_iald C 1 dX10_busiest_10 rfl (by unfold vp_in; decide)) ?_
    refine GO_icmp_ge C 41 dX10_busiest_11 rfl (fun h1 => ?_) (fun h1 => ?_)
    · refine GO.lift (fun _ => G_aload_n C 0 dX10_busiest_14 rfl) ?_
      refine GO.lift (fun _ => G_get C 0 0 dX10_busiest_15 inlX10 uf_X10_7 rfl (by decide) rfl rfl rfl) ?_
      refine GO.lift (fun _ => G_iload_n C 2 dX10_busiest_18 rfl) ?_
      refine GO.bind (fun r1 hr1 => ?_)
      refine GO.lift (fun _ => G_callSi C kd_X10_lengthOf ut_X10_lengthOf um_X10_235 (Ct.to (r' := (some (.int r1), mo_W K b X)) (Ct.from (c_X10_lengthOf l K (ws := mo_W K b X) (q := 1) (ad := b 1) (Nat.le_of_ble_eq_true rfl) (X 0) x2 r1 hr1) rfl) rfl) dX10_busiest_19 rfl rfl (Nat.le_of_ble_eq_true rfl) (Nat.le_of_ble_eq_true rfl)) ?_
      refine GO.lift (fun _ => G_aload_n C 0 dX10_busiest_22 rfl) ?_
      refine GO.lift (fun _ => G_get C 0 0 dX10_busiest_23 inlX10 uf_X10_7 rfl (by decide) rfl rfl rfl) ?_
      refine GO.lift (fun _ => G_iload_n C 1 dX10_busiest_26 rfl) ?_
      refine GO.bind (fun r2 hr2 => ?_)
      refine GO.lift (fun _ => G_callSi C kd_X10_lengthOf ut_X10_lengthOf um_X10_235 (Ct.to (r' := (some (.int r2), mo_W K b X)) (Ct.from (c_X10_lengthOf l K (ws := mo_W K b X) (q := 1) (ad := b 1) (Nat.le_of_ble_eq_true rfl) (X 0) x1 r2 hr2) rfl) rfl) dX10_busiest_27 rfl rfl (Nat.le_of_ble_eq_true rfl) (Nat.le_of_ble_eq_true rfl)) ?_
      refine GO_icmp_le C 35 dX10_busiest_30 rfl (fun h2 => ?_) (fun h2 => ?_)
      · refine GO.lift (fun _ => G_iload_n C 2 dX10_busiest_33 rfl) ?_
        refine GO.lift (fun _ => G_istore_n (lv' := [(1, .int x2), (0, .ref (b 0)), (2, .int x2)]) C dX10_busiest_34 (by decide) rfl) ?_
        refine GO.lift (fun _ => G_iinc (lv' := [(2, .int (x2 + 1)), (1, .int x2), (0, .ref (b 0))]) C 2 dX10_busiest_35 rfl rfl (by decide) rfl) ?_
        refine GO.lift (fun _ => G_goto C 4 dX10_busiest_38 rfl) ?_
        refine GO.sub [2, 1, 0] rfl ?_
        exact ih X x2 (x2 + 1)
      · refine GO.lift (fun _ => G_iinc (lv' := [(2, .int (x2 + 1)), (0, .ref (b 0)), (1, .int x1)]) C 2 dX10_busiest_35 rfl rfl (by decide) rfl) ?_
        refine GO.lift (fun _ => G_goto C 4 dX10_busiest_38 rfl) ?_
        refine GO.sub [1, 2, 0] rfl ?_
        exact ih X x1 (x2 + 1)
    · refine GO.lift (fun _ => G_iload_n C 1 dX10_busiest_41 rfl) ?_
      exact GO.fin (G_iret C dX10_busiest_42 rfl)
def o_X10_busiest (X : SM) : Option (Int32) := o_X10_busiest_L4 4000 X 0 1
theorem c_X10_busiest (l : Launch) (K : gK) (b : Nat → Nat) (X : SM) (r : Int32) (hr : o_X10_busiest X = some r) : Ct l K yX10_busiest cX10_busiest 3 (some .int) 3 [.ref (b 0)] (mo_W K b X) (some (.int r), mo_W K b X) := by
  refine Ct.of (own := RX10) (fun z => (some (.int z), mo_W K b X)) (x := r) (by decide) rfl (Nat.le_of_ble_eq_true rfl) (fun Γ C => GO.out (x := o_X10_busiest X) ?_ hr)
  unfold o_X10_busiest
  refine GO.lift (fun _ => G_iconst C dX10_busiest_0 (v := 0) rfl) ?_
  refine GO.lift (fun _ => G_istore_n (lv' := [(1, .int 0), (0, .ref (b 0))]) C dX10_busiest_1 (by decide) rfl) ?_
  refine GO.lift (fun _ => G_iconst C dX10_busiest_2 (v := 1) rfl) ?_
  refine GO.lift (fun _ => G_istore_n (lv' := [(2, .int 1), (1, .int 0), (0, .ref (b 0))]) C dX10_busiest_3 (by decide) rfl) ?_
  refine GO.sub [2, 1, 0] rfl ?_
  exact g_X10_busiest_L4 C _ X 0 1
/-! X10_why -/
theorem kd_X10_why : Card yX10_why cX10_why 3 (some .int) 1 := ⟨uc_X10_why, un_X10, ⟨by decide, by decide, by decide⟩, by decide⟩
def o_X10_why (X : SM) (x1 : Int32) : Option (Int32) := (o_X10_isOffice X x1).bind (fun r1 => if r1 = 0 then some (-1) else (o_X10_tokenOn (X 0) x1 0).bind (fun r2 => (o_X10_leftAt X x1).bind (fun r3 => if 0 < r3 then some 0 else (o_X10_isOpen (X 0) x1).bind (fun r4 => if r4 = 0 then some 1 else if r2 < 0 then some 2 else (o_X10_whyNot (X 0) x1 r2).bind (fun r5 => some r5)))))
theorem c_X10_why (l : Launch) (K : gK) (b : Nat → Nat) (X : SM) (x1 : Int32) (r : Int32) (hr : o_X10_why X x1 = some r) : Ct l K yX10_why cX10_why 3 (some .int) 4 [.ref (b 0), .int x1] (mo_W K b X) (some (.int r), mo_W K b X) := by
  refine Ct.of (own := RX10) (fun z => (some (.int z), mo_W K b X)) (x := r) (by decide) rfl (Nat.le_of_ble_eq_true rfl) (fun Γ C => GO.out (x := o_X10_why X x1) ?_ hr)
  unfold o_X10_why
  refine GO.lift (fun _ => G_aload_n C 0 dX10_why_0 rfl) ?_
  refine GO.lift (fun _ => G_iload_n C 1 dX10_why_1 rfl) ?_
  refine GO.bind (fun r1 hr1 => ?_)
  refine GO.lift (fun _ => G_callVi C 0 10 kd_X10_isOffice ui_X10_isOffice us_X10_isOffice um_X10_212 rfl rfl (c_X10_isOffice l K b X x1 r1 hr1) dX10_why_2 rfl rfl (Nat.le_of_ble_eq_true rfl) (Nat.le_of_ble_eq_true rfl)) ?_
  refine GO_if_ne C 10 dX10_why_5 rfl (fun h1 => ?_) (fun h1 => ?_)
  · refine GO.lift (fun _ => G_iconst C dX10_why_8 (v := -1) rfl) ?_
    exact GO.fin (G_iret C dX10_why_9 rfl)
  · refine GO.lift (fun _ => G_aload_n C 0 dX10_why_10 rfl) ?_
    refine GO.lift (fun _ => G_get C 0 0 dX10_why_11 inlX10 uf_X10_7 rfl (by decide) rfl rfl rfl) ?_
    refine GO.lift (fun _ => G_iload_n C 1 dX10_why_14 rfl) ?_
    refine GO.lift (fun _ => G_iconst C dX10_why_15 (v := 0) rfl) ?_
    refine GO.bind (fun r2 hr2 => ?_)
    refine GO.lift (fun _ => G_callSi C kd_X10_tokenOn ut_X10_tokenOn um_X10_107 (Ct.to (r' := (some (.int r2), mo_W K b X)) (Ct.from (c_X10_tokenOn l K (ws := mo_W K b X) (q := 1) (ad := b 1) (Nat.le_of_ble_eq_true rfl) (X 0) x1 0 r2 hr2) rfl) rfl) dX10_why_16 rfl rfl (Nat.le_of_ble_eq_true rfl) (Nat.le_of_ble_eq_true rfl)) ?_
    refine GO.lift (fun _ => G_istore_n (lv' := [(2, .int r2), (0, .ref (b 0)), (1, .int x1)]) C dX10_why_19 (by decide) rfl) ?_
    refine GO.lift (fun _ => G_aload_n C 1 dX10_why_20 rfl) ?_
    refine GO.lift (fun _ => G_iload_n C 2 dX10_why_21 rfl) ?_
    refine GO.bind (fun r3 hr3 => ?_)
    refine GO.lift (fun _ => G_callVi C 0 10 kd_X10_leftAt ui_X10_leftAt us_X10_leftAt um_X10_218 rfl rfl (c_X10_leftAt l K b X x1 r3 hr3) dX10_why_22 rfl rfl (Nat.le_of_ble_eq_true rfl) (Nat.le_of_ble_eq_true rfl)) ?_
    refine GO_if_le C 30 dX10_why_25 rfl (fun h2 => ?_) (fun h2 => ?_)
    · refine GO.lift (fun _ => G_iconst C dX10_why_28 (v := 0) rfl) ?_
      exact GO.fin (G_iret C dX10_why_29 rfl)
    · refine GO.lift (fun _ => G_aload_n C 1 dX10_why_30 rfl) ?_
      refine GO.lift (fun _ => G_get C 0 0 dX10_why_31 inlX10 uf_X10_7 rfl (by decide) rfl rfl rfl) ?_
      refine GO.lift (fun _ => G_iload_n C 2 dX10_why_34 rfl) ?_
      refine GO.bind (fun r4 hr4 => ?_)
      refine GO.lift (fun _ => G_callSi C kd_X10_isOpen ut_X10_isOpen um_X10_73 (Ct.to (r' := (some (.int r4), mo_W K b X)) (Ct.from (c_X10_isOpen l K (ws := mo_W K b X) (q := 1) (ad := b 1) (Nat.le_of_ble_eq_true rfl) (X 0) x1 r4 hr4) rfl) rfl) dX10_why_35 rfl rfl (Nat.le_of_ble_eq_true rfl) (Nat.le_of_ble_eq_true rfl)) ?_
      refine GO_if_ne C 43 dX10_why_38 rfl (fun h3 => ?_) (fun h3 => ?_)
      · refine GO.lift (fun _ => G_iconst C dX10_why_41 (v := 1) rfl) ?_
        exact GO.fin (G_iret C dX10_why_42 rfl)
      · refine GO.lift (fun _ => G_iload_n C 0 dX10_why_43 rfl) ?_
        refine GO_if_ge C 51 dX10_why_44 rfl (fun h4 => ?_) (fun h4 => ?_)
        · refine GO.lift (fun _ => G_iconst C dX10_why_47 (v := 2) rfl) ?_
          refine GO.lift (fun _ => G_goto C 60 dX10_why_48 rfl) ?_
          exact GO.fin (G_iret C dX10_why_60 rfl)
        · refine GO.lift (fun _ => G_aload_n C 1 dX10_why_51 rfl) ?_
          refine GO.lift (fun _ => G_get C 0 0 dX10_why_52 inlX10 uf_X10_7 rfl (by decide) rfl rfl rfl) ?_
          refine GO.lift (fun _ => G_iload_n C 2 dX10_why_55 rfl) ?_
          refine GO.lift (fun _ => G_iload_n C 0 dX10_why_56 rfl) ?_
          refine GO.bind (fun r5 hr5 => ?_)
          refine GO.lift (fun _ => G_callSi C kd_X10_whyNot ut_X10_whyNot um_X10_91 (Ct.to (r' := (some (.int r5), mo_W K b X)) (Ct.from (c_X10_whyNot l K (ws := mo_W K b X) (q := 1) (ad := b 1) (Nat.le_of_ble_eq_true rfl) (X 0) x1 r2 r5 hr5) rfl) rfl) dX10_why_57 rfl rfl (Nat.le_of_ble_eq_true rfl) (Nat.le_of_ble_eq_true rfl)) ?_
          exact GO.fin (G_iret C dX10_why_60 rfl)
/-! X10_comesIn -/
theorem kd_X10_comesIn : Card yX10_comesIn cX10_comesIn 3 (some .int) 1 := ⟨uc_X10_comesIn, un_X10, ⟨by decide, by decide, by decide⟩, by decide⟩
def o_X10_comesIn_L16 : Nat → SM → Int32 → Int32 → Option (Int32 × SM)
  | 0, _, _, _ => none
  | fuel + 1, X, x1, x2 => if 300 < x2 then some ((-2, X)) else (o_X10_tokenOn (X 2) x1 0).bind (fun r1 => if r1 < 0 then (o_X10_minutes (X 2) ).bind (fun r2 => lt1 (sU X 2 r2) (fun r3 => o_X10_comesIn_L16 fuel r3 x1 (x2 + 1))) else some ((x2, X)))
theorem g_X10_comesIn_L16 {l : Launch} {K : gK} {Γ : gT} {b : Nat → Nat} (C : Cx l K Γ RX10 cX10_comesIn 3 (some .int) 7) : ∀ (k : Nat) (X : SM) (x1 : Int32) (x2 : Int32), GO l K Γ (mo_W K b X) 16 3 [(0, .ref (b 0)), (1, .int x1), (2, .int x2)] [] (fun (z : Int32 × SM) => (some (.int z.1), mo_W K b z.2)) (o_X10_comesIn_L16 k X x1 x2) := by
  intro k
  induction k with
  | zero =>
    intro X x1 x2
    exact fun r hr => nomatch hr
  | succ k ih =>
    intro X x1 x2
    rw [o_X10_comesIn_L16]
    refine GO.lift (fun _ => G_iload_n C 2 dX10_comesIn_16 rfl) ?_
    refine GO.lift (fun _ => G_sipush C dX10_comesIn_17 (v := 300) rfl) ?_
    refine GO_icmp_gt C 50 dX10_comesIn_20 rfl (fun h1 => ?_) (fun h1 => ?_)
    · refine GO.lift (fun _ => G_bipush C dX10_comesIn_50 (v := -2) rfl) ?_
      exact GO.fin (G_iret C dX10_comesIn_52 rfl)
    · refine GO.lift (fun _ => G_aload_n C 0 dX10_comesIn_23 rfl) ?_
      refine GO.lift (fun _ => G_get C 0 2 dX10_comesIn_24 inlX10 uf_X10_16 rfl (by decide) rfl rfl rfl) ?_
      refine GO.lift (fun _ => G_iload_n C 1 dX10_comesIn_27 rfl) ?_
      refine GO.lift (fun _ => G_iconst C dX10_comesIn_28 (v := 0) rfl) ?_
      refine GO.bind (fun r1 hr1 => ?_)
      refine GO.lift (fun _ => G_callSi C kd_X10_tokenOn ut_X10_tokenOn um_X10_107 (Ct.to (r' := (some (.int r1), mo_W K b X)) (Ct.from (c_X10_tokenOn l K (ws := mo_W K b X) (q := 3) (ad := b 3) (Nat.le_of_ble_eq_true rfl) (X 2) x1 0 r1 hr1) rfl) rfl) dX10_comesIn_29 rfl rfl (Nat.le_of_ble_eq_true rfl) (Nat.le_of_ble_eq_true rfl)) ?_
      refine GO_if_lt C 37 dX10_comesIn_32 rfl (fun h2 => ?_) (fun h2 => ?_)
      · refine GO.lift (fun _ => G_aload_n C 0 dX10_comesIn_37 rfl) ?_
        refine GO.lift (fun _ => G_get C 0 2 dX10_comesIn_38 inlX10 uf_X10_16 rfl (by decide) rfl rfl rfl) ?_
        refine GO.bind (fun r2 hr2 => ?_)
        refine GO.letS (fun r3 hr3 => ?_)
        refine GO.lift (fun _ => G_callSv C kd_X10_minutes ut_X10_minutes um_X10_133 (Ct.to (r' := (none, mo_W K b r3)) (Ct.from (c_X10_minutes l K (ws := mo_W K b X) (q := 3) (ad := b 3) (Nat.le_of_ble_eq_true rfl) (X 2)  r2 hr2) rfl) (by cases hr3; rfl)) dX10_comesIn_41 rfl rfl (Nat.le_of_ble_eq_true rfl) (Nat.le_of_ble_eq_true rfl)) ?_
        refine GO.lift (fun _ => G_iinc (lv' := [(2, .int (x2 + 1)), (0, .ref (b 0)), (1, .int x1)]) C 2 dX10_comesIn_44 rfl rfl (by decide) rfl) ?_
        refine GO.lift (fun _ => G_goto C 16 dX10_comesIn_47 rfl) ?_
        refine GO.sub [1, 2, 0] rfl ?_
        exact ih r3 x1 (x2 + 1)
      · refine GO.lift (fun _ => G_iload_n C 2 dX10_comesIn_35 rfl) ?_
        exact GO.fin (G_iret C dX10_comesIn_36 rfl)
def o_X10_comesIn (X : SM) (x1 : Int32) : Option (Int32 × SM) := (o_X10_isOffice X x1).bind (fun r1 => if r1 = 0 then some ((-1, X)) else (o_X10_takesSpare X ).bind (fun r2 => o_X10_comesIn_L16 4000 r2 x1 0))
theorem c_X10_comesIn (l : Launch) (K : gK) (b : Nat → Nat) (X : SM) (x1 : Int32) (r : Int32 × SM) (hr : o_X10_comesIn X x1 = some r) : Ct l K yX10_comesIn cX10_comesIn 3 (some .int) 7 [.ref (b 0), .int x1] (mo_W K b X) (some (.int r.1), mo_W K b r.2) := by
  refine Ct.of (own := RX10) (fun (z : Int32 × SM) => (some (.int z.1), mo_W K b z.2)) (x := r) (by decide) rfl (Nat.le_of_ble_eq_true rfl) (fun Γ C => GO.out (x := o_X10_comesIn X x1) ?_ hr)
  unfold o_X10_comesIn
  refine GO.lift (fun _ => G_aload_n C 0 dX10_comesIn_0 rfl) ?_
  refine GO.lift (fun _ => G_iload_n C 1 dX10_comesIn_1 rfl) ?_
  refine GO.bind (fun r1 hr1 => ?_)
  refine GO.lift (fun _ => G_callVi C 0 10 kd_X10_isOffice ui_X10_isOffice us_X10_isOffice um_X10_212 rfl rfl (c_X10_isOffice l K b X x1 r1 hr1) dX10_comesIn_2 rfl rfl (Nat.le_of_ble_eq_true rfl) (Nat.le_of_ble_eq_true rfl)) ?_
  refine GO_if_ne C 10 dX10_comesIn_5 rfl (fun h1 => ?_) (fun h1 => ?_)
  · refine GO.lift (fun _ => G_iconst C dX10_comesIn_8 (v := -1) rfl) ?_
    exact GO.fin (G_iret C dX10_comesIn_9 rfl)
  · refine GO.lift (fun _ => G_aload_n C 0 dX10_comesIn_10 rfl) ?_
    refine GO.bind (fun r2 hr2 => ?_)
    refine GO.lift (fun _ => G_callVv C 0 10 kd_X10_takesSpare ui_X10_takesSpare us_X10_takesSpare um_X10_251 rfl rfl (c_X10_takesSpare l K b X  r2 hr2) dX10_comesIn_11 rfl rfl (Nat.le_of_ble_eq_true rfl) (Nat.le_of_ble_eq_true rfl)) ?_
    refine GO.lift (fun _ => G_iconst C dX10_comesIn_14 (v := 0) rfl) ?_
    refine GO.lift (fun _ => G_istore_n (lv' := [(2, .int 0), (0, .ref (b 0)), (1, .int x1)]) C dX10_comesIn_15 (by decide) rfl) ?_
    refine GO.sub [1, 2, 0] rfl ?_
    exact g_X10_comesIn_L16 C _ r2 x1 0
/-! X10_doneInSpare -/
theorem kd_X10_doneInSpare : Card yX10_doneInSpare cX10_doneInSpare 2 (some .int) 0 := ⟨uc_X10_doneInSpare, un_X10, ⟨by decide, by decide, by decide⟩, by decide⟩
def o_X10_doneInSpare_L2 : Nat → SM → Int32 → Option (Int32 × SM)
  | 0, _, _ => none
  | fuel + 1, X, x1 => if 500 < x1 then some ((-2, X)) else (o_X10_lettersAll (X 2) ).bind (fun r1 => if r1 = 0 then some ((x1, X)) else (o_X10_minutes (X 2) ).bind (fun r2 => lt1 (sU X 2 r2) (fun r3 => o_X10_doneInSpare_L2 fuel r3 (x1 + 1))))
theorem g_X10_doneInSpare_L2 {l : Launch} {K : gK} {Γ : gT} {b : Nat → Nat} (C : Cx l K Γ RX10 cX10_doneInSpare 2 (some .int) 7) : ∀ (k : Nat) (X : SM) (x1 : Int32), GO l K Γ (mo_W K b X) 2 2 [(0, .ref (b 0)), (1, .int x1)] [] (fun (z : Int32 × SM) => (some (.int z.1), mo_W K b z.2)) (o_X10_doneInSpare_L2 k X x1) := by
  intro k
  induction k with
  | zero =>
    intro X x1
    exact fun r hr => nomatch hr
  | succ k ih =>
    intro X x1
    rw [o_X10_doneInSpare_L2]
    refine GO.lift (fun _ => G_iload_n C 1 dX10_doneInSpare_2 rfl) ?_
    refine GO.lift (fun _ => G_sipush C dX10_doneInSpare_3 (v := 500) rfl) ?_
    refine GO_icmp_gt C 34 dX10_doneInSpare_6 rfl (fun h1 => ?_) (fun h1 => ?_)
    · refine GO.lift (fun _ => G_bipush C dX10_doneInSpare_34 (v := -2) rfl) ?_
      exact GO.fin (G_iret C dX10_doneInSpare_36 rfl)
    · refine GO.lift (fun _ => G_aload_n C 0 dX10_doneInSpare_9 rfl) ?_
      refine GO.lift (fun _ => G_get C 0 2 dX10_doneInSpare_10 inlX10 uf_X10_16 rfl (by decide) rfl rfl rfl) ?_
      refine GO.bind (fun r1 hr1 => ?_)
      refine GO.lift (fun _ => G_callSi C kd_X10_lettersAll ut_X10_lettersAll um_X10_242 (Ct.to (r' := (some (.int r1), mo_W K b X)) (Ct.from (c_X10_lettersAll l K (ws := mo_W K b X) (q := 3) (ad := b 3) (Nat.le_of_ble_eq_true rfl) (X 2)  r1 hr1) rfl) rfl) dX10_doneInSpare_13 rfl rfl (Nat.le_of_ble_eq_true rfl) (Nat.le_of_ble_eq_true rfl)) ?_
      refine GO_if_ne C 21 dX10_doneInSpare_16 rfl (fun h2 => ?_) (fun h2 => ?_)
      · refine GO.lift (fun _ => G_iload_n C 1 dX10_doneInSpare_19 rfl) ?_
        exact GO.fin (G_iret C dX10_doneInSpare_20 rfl)
      · refine GO.lift (fun _ => G_aload_n C 0 dX10_doneInSpare_21 rfl) ?_
        refine GO.lift (fun _ => G_get C 0 2 dX10_doneInSpare_22 inlX10 uf_X10_16 rfl (by decide) rfl rfl rfl) ?_
        refine GO.bind (fun r2 hr2 => ?_)
        refine GO.letS (fun r3 hr3 => ?_)
        refine GO.lift (fun _ => G_callSv C kd_X10_minutes ut_X10_minutes um_X10_133 (Ct.to (r' := (none, mo_W K b r3)) (Ct.from (c_X10_minutes l K (ws := mo_W K b X) (q := 3) (ad := b 3) (Nat.le_of_ble_eq_true rfl) (X 2)  r2 hr2) rfl) (by cases hr3; rfl)) dX10_doneInSpare_25 rfl rfl (Nat.le_of_ble_eq_true rfl) (Nat.le_of_ble_eq_true rfl)) ?_
        refine GO.lift (fun _ => G_iinc (lv' := [(1, .int (x1 + 1)), (0, .ref (b 0))]) C 1 dX10_doneInSpare_28 rfl rfl (by decide) rfl) ?_
        refine GO.lift (fun _ => G_goto C 2 dX10_doneInSpare_31 rfl) ?_
        refine GO.sub [1, 0] rfl ?_
        exact ih r3 (x1 + 1)
def o_X10_doneInSpare (X : SM) : Option (Int32 × SM) := o_X10_doneInSpare_L2 4000 X 0
theorem c_X10_doneInSpare (l : Launch) (K : gK) (b : Nat → Nat) (X : SM) (r : Int32 × SM) (hr : o_X10_doneInSpare X = some r) : Ct l K yX10_doneInSpare cX10_doneInSpare 2 (some .int) 7 [.ref (b 0)] (mo_W K b X) (some (.int r.1), mo_W K b r.2) := by
  refine Ct.of (own := RX10) (fun (z : Int32 × SM) => (some (.int z.1), mo_W K b z.2)) (x := r) (by decide) rfl (Nat.le_of_ble_eq_true rfl) (fun Γ C => GO.out (x := o_X10_doneInSpare X) ?_ hr)
  unfold o_X10_doneInSpare
  refine GO.lift (fun _ => G_iconst C dX10_doneInSpare_0 (v := 0) rfl) ?_
  refine GO.lift (fun _ => G_istore_n (lv' := [(1, .int 0), (0, .ref (b 0))]) C dX10_doneInSpare_1 (by decide) rfl) ?_
  refine GO.sub [1, 0] rfl ?_
  exact g_X10_doneInSpare_L2 C _ X 0
/-! X10_doneIn -/
theorem kd_X10_doneIn : Card yX10_doneIn cX10_doneIn 1 (some .int) 0 := ⟨uc_X10_doneIn, un_X10, ⟨by decide, by decide, by decide⟩, by decide⟩
def o_X10_doneIn (X : SM) : Option (Int32 × SM) := (o_X10_takesSpare X ).bind (fun r1 => (o_X10_doneInSpare r1 ).bind (fun r2 => some ((r2.1, r2.2))))
theorem c_X10_doneIn (l : Launch) (K : gK) (b : Nat → Nat) (X : SM) (r : Int32 × SM) (hr : o_X10_doneIn X = some r) : Ct l K yX10_doneIn cX10_doneIn 1 (some .int) 8 [.ref (b 0)] (mo_W K b X) (some (.int r.1), mo_W K b r.2) := by
  refine Ct.of (own := RX10) (fun (z : Int32 × SM) => (some (.int z.1), mo_W K b z.2)) (x := r) (by decide) rfl (Nat.le_of_ble_eq_true rfl) (fun Γ C => GO.out (x := o_X10_doneIn X) ?_ hr)
  unfold o_X10_doneIn
  refine GO.lift (fun _ => G_aload_n C 0 dX10_doneIn_0 rfl) ?_
  refine GO.bind (fun r1 hr1 => ?_)
  refine GO.lift (fun _ => G_callVv C 0 10 kd_X10_takesSpare ui_X10_takesSpare us_X10_takesSpare um_X10_251 rfl rfl (c_X10_takesSpare l K b X  r1 hr1) dX10_doneIn_1 rfl rfl (Nat.le_of_ble_eq_true rfl) (Nat.le_of_ble_eq_true rfl)) ?_
  refine GO.lift (fun _ => G_aload_n C 0 dX10_doneIn_4 rfl) ?_
  refine GO.bind (fun r2 hr2 => ?_)
  refine GO.lift (fun _ => G_callVi C 0 10 kd_X10_doneInSpare ui_X10_doneInSpare us_X10_doneInSpare um_X10_254 rfl rfl (c_X10_doneInSpare l K b r1  r2 hr2) dX10_doneIn_5 rfl rfl (Nat.le_of_ble_eq_true rfl) (Nat.le_of_ble_eq_true rfl)) ?_
  exact GO.fin (G_iret C dX10_doneIn_8 rfl)
/-! X10_passed -/
theorem kd_X10_passed : Card yX10_passed cX10_passed 8 (some .int) 2 := ⟨uc_X10_passed, un_X10, ⟨by decide, by decide, by decide⟩, by decide⟩
def o_X10_passed (X : SM) (x1 : Int32) (x2 : Int32) : Option (Int32 × SM) := (o_X10_minutesMany (X 2) x1).bind (fun r1 => lt1 (sU X 2 r1) (fun r2 => if x2 = 0 then some ((((r2 2) (9 : Int32).toNatClampNeg) - ((X 2) (9 : Int32).toNatClampNeg), r2)) else if x2 = 1 then some ((((r2 2) (10 : Int32).toNatClampNeg) - ((X 2) (10 : Int32).toNatClampNeg), r2)) else if x2 = 2 then some ((((r2 2) (16 : Int32).toNatClampNeg) - ((X 2) (16 : Int32).toNatClampNeg), r2)) else if x2 = 3 then some (((r2 2) (5 : Int32).toNatClampNeg, r2)) else if x2 = 4 then some ((((r2 2) (15 : Int32).toNatClampNeg) - ((X 2) (15 : Int32).toNatClampNeg), r2)) else some ((((r2 2) (12 : Int32).toNatClampNeg) - ((X 2) (12 : Int32).toNatClampNeg), r2))))
theorem c_X10_passed (l : Launch) (K : gK) (b : Nat → Nat) (X : SM) (x1 : Int32) (x2 : Int32) (r : Int32 × SM) (hr : o_X10_passed X x1 x2 = some r) : Ct l K yX10_passed cX10_passed 8 (some .int) 8 [.ref (b 0), .int x1, .int x2] (mo_W K b X) (some (.int r.1), mo_W K b r.2) := by
  refine Ct.of (own := RX10) (fun (z : Int32 × SM) => (some (.int z.1), mo_W K b z.2)) (x := r) (by decide) rfl (Nat.le_of_ble_eq_true rfl) (fun Γ C => GO.out (x := o_X10_passed X x1 x2) ?_ hr)
  unfold o_X10_passed
  refine GO.lift (fun _ => G_aload_n C 0 dX10_passed_0 rfl) ?_
  refine GO.lift (fun _ => G_get C 0 2 dX10_passed_1 inlX10 uf_X10_16 rfl (by decide) rfl rfl rfl) ?_
  refine GO.lift (fun _ => G_bipush C dX10_passed_4 (v := 9) rfl) ?_
  refine GO.lift (fun _ => G_iald C 3 dX10_passed_6 rfl (by unfold vp_in; decide)) ?_
  refine GO.lift (fun _ => G_istore_n (lv' := [(3, .int ((X 2) (9 : Int32).toNatClampNeg)), (0, .ref (b 0)), (1, .int x1), (2, .int x2)]) C dX10_passed_7 (by decide) rfl) ?_
  refine GO.lift (fun _ => G_aload_n C 1 dX10_passed_8 rfl) ?_
  refine GO.lift (fun _ => G_get C 0 2 dX10_passed_9 inlX10 uf_X10_16 rfl (by decide) rfl rfl rfl) ?_
  refine GO.lift (fun _ => G_bipush C dX10_passed_12 (v := 10) rfl) ?_
  refine GO.lift (fun _ => G_iald C 3 dX10_passed_14 rfl (by unfold vp_in; decide)) ?_
  refine GO.lift (fun _ => G_istore (lv' := [(4, .int ((X 2) (10 : Int32).toNatClampNeg)), (3, .int ((X 2) (9 : Int32).toNatClampNeg)), (0, .ref (b 0)), (1, .int x1), (2, .int x2)]) C dX10_passed_15 (by decide) rfl) ?_
  refine GO.lift (fun _ => G_aload_n C 2 dX10_passed_17 rfl) ?_
  refine GO.lift (fun _ => G_get C 0 2 dX10_passed_18 inlX10 uf_X10_16 rfl (by decide) rfl rfl rfl) ?_
  refine GO.lift (fun _ => G_bipush C dX10_passed_21 (v := 16) rfl) ?_
  refine GO.lift (fun _ => G_iald C 3 dX10_passed_23 rfl (by unfold vp_in; decide)) ?_
  refine GO.lift (fun _ => G_istore (lv' := [(5, .int ((X 2) (16 : Int32).toNatClampNeg)), (4, .int ((X 2) (10 : Int32).toNatClampNeg)), (3, .int ((X 2) (9 : Int32).toNatClampNeg)), (0, .ref (b 0)), (1, .int x1), (2, .int x2)]) C dX10_passed_24 (by decide) rfl) ?_
  refine GO.lift (fun _ => G_aload_n C 3 dX10_passed_26 rfl) ?_
  refine GO.lift (fun _ => G_get C 0 2 dX10_passed_27 inlX10 uf_X10_16 rfl (by decide) rfl rfl rfl) ?_
  refine GO.lift (fun _ => G_bipush C dX10_passed_30 (v := 15) rfl) ?_
  refine GO.lift (fun _ => G_iald C 3 dX10_passed_32 rfl (by unfold vp_in; decide)) ?_
  refine GO.lift (fun _ => G_istore (lv' := [(6, .int ((X 2) (15 : Int32).toNatClampNeg)), (5, .int ((X 2) (16 : Int32).toNatClampNeg)), (4, .int ((X 2) (10 : Int32).toNatClampNeg)), (3, .int ((X 2) (9 : Int32).toNatClampNeg)), (0, .ref (b 0)), (1, .int x1), (2, .int x2)]) C dX10_passed_33 (by decide) rfl) ?_
  refine GO.lift (fun _ => G_aload_n C 4 dX10_passed_35 rfl) ?_
  refine GO.lift (fun _ => G_get C 0 2 dX10_passed_36 inlX10 uf_X10_16 rfl (by decide) rfl rfl rfl) ?_
  refine GO.lift (fun _ => G_bipush C dX10_passed_39 (v := 12) rfl) ?_
  refine GO.lift (fun _ => G_iald C 3 dX10_passed_41 rfl (by unfold vp_in; decide)) ?_
  refine GO.lift (fun _ => G_istore (lv' := [(7, .int ((X 2) (12 : Int32).toNatClampNeg)), (6, .int ((X 2) (15 : Int32).toNatClampNeg)), (5, .int ((X 2) (16 : Int32).toNatClampNeg)), (4, .int ((X 2) (10 : Int32).toNatClampNeg)), (3, .int ((X 2) (9 : Int32).toNatClampNeg)), (0, .ref (b 0)), (1, .int x1), (2, .int x2)]) C dX10_passed_42 (by decide) rfl) ?_
  refine GO.lift (fun _ => G_aload_n C 5 dX10_passed_44 rfl) ?_
  refine GO.lift (fun _ => G_get C 0 2 dX10_passed_45 inlX10 uf_X10_16 rfl (by decide) rfl rfl rfl) ?_
  refine GO.lift (fun _ => G_iload_n C 6 dX10_passed_48 rfl) ?_
  refine GO.bind (fun r1 hr1 => ?_)
  refine GO.letS (fun r2 hr2 => ?_)
  refine GO.lift (fun _ => G_callSv C kd_X10_minutesMany ut_X10_minutesMany um_X10_228 (Ct.to (r' := (none, mo_W K b r2)) (Ct.from (c_X10_minutesMany l K (ws := mo_W K b X) (q := 3) (ad := b 3) (Nat.le_of_ble_eq_true rfl) (X 2) x1 r1 hr1) rfl) (by cases hr2; rfl)) dX10_passed_49 rfl rfl (Nat.le_of_ble_eq_true rfl) (Nat.le_of_ble_eq_true rfl)) ?_
  refine GO.lift (fun _ => G_iload_n C 7 dX10_passed_52 rfl) ?_
  refine GO.ite (fun h1 => ?_) (fun h1 => ?_)
  · refine GO.lift (fun _ => G_tswIn (v := 0) C 88 0 dX10_passed_53 h1 rfl (by decide) rfl rfl) ?_
    refine GO.lift (fun _ => G_aload_n C 5 dX10_passed_88 rfl) ?_
    refine GO.lift (fun _ => G_get C 0 2 dX10_passed_89 inlX10 uf_X10_16 rfl (by decide) rfl rfl rfl) ?_
    refine GO.lift (fun _ => G_bipush C dX10_passed_92 (v := 9) rfl) ?_
    refine GO.lift (fun _ => G_iald C 3 dX10_passed_94 rfl (by unfold vp_in; decide)) ?_
    refine GO.lift (fun _ => G_iload_n C 4 dX10_passed_95 rfl) ?_
    refine GO.lift (fun _ => G_isub C dX10_passed_96) ?_
    exact GO.fin (G_iret C dX10_passed_97 rfl)
  · skip
    refine GO.ite (fun h2 => ?_) (fun h2 => ?_)
    · refine GO.lift (fun _ => G_tswIn (v := 1) C 98 1 dX10_passed_53 h2 rfl (by decide) rfl rfl) ?_
      refine GO.lift (fun _ => G_aload_n C 5 dX10_passed_98 rfl) ?_
      refine GO.lift (fun _ => G_get C 0 2 dX10_passed_99 inlX10 uf_X10_16 rfl (by decide) rfl rfl rfl) ?_
      refine GO.lift (fun _ => G_bipush C dX10_passed_102 (v := 10) rfl) ?_
      refine GO.lift (fun _ => G_iald C 3 dX10_passed_104 rfl (by unfold vp_in; decide)) ?_
      refine GO.lift (fun _ => G_iload C 3 dX10_passed_105 rfl) ?_
      refine GO.lift (fun _ => G_isub C dX10_passed_107) ?_
      exact GO.fin (G_iret C dX10_passed_108 rfl)
    · skip
      refine GO.ite (fun h3 => ?_) (fun h3 => ?_)
      · refine GO.lift (fun _ => G_tswIn (v := 2) C 109 2 dX10_passed_53 h3 rfl (by decide) rfl rfl) ?_
        refine GO.lift (fun _ => G_aload_n C 5 dX10_passed_109 rfl) ?_
        refine GO.lift (fun _ => G_get C 0 2 dX10_passed_110 inlX10 uf_X10_16 rfl (by decide) rfl rfl rfl) ?_
        refine GO.lift (fun _ => G_bipush C dX10_passed_113 (v := 16) rfl) ?_
        refine GO.lift (fun _ => G_iald C 3 dX10_passed_115 rfl (by unfold vp_in; decide)) ?_
        refine GO.lift (fun _ => G_iload C 2 dX10_passed_116 rfl) ?_
        refine GO.lift (fun _ => G_isub C dX10_passed_118) ?_
        exact GO.fin (G_iret C dX10_passed_119 rfl)
      · skip
        refine GO.ite (fun h4 => ?_) (fun h4 => ?_)
        · refine GO.lift (fun _ => G_tswIn (v := 3) C 120 3 dX10_passed_53 h4 rfl (by decide) rfl rfl) ?_
          refine GO.lift (fun _ => G_aload_n C 5 dX10_passed_120 rfl) ?_
          refine GO.lift (fun _ => G_get C 0 2 dX10_passed_121 inlX10 uf_X10_16 rfl (by decide) rfl rfl rfl) ?_
          refine GO.lift (fun _ => G_iconst C dX10_passed_124 (v := 5) rfl) ?_
          refine GO.lift (fun _ => G_iald C 3 dX10_passed_125 rfl (by unfold vp_in; decide)) ?_
          exact GO.fin (G_iret C dX10_passed_126 rfl)
        · skip
          refine GO.ite (fun h5 => ?_) (fun h5 => ?_)
          · refine GO.lift (fun _ => G_tswIn (v := 4) C 127 4 dX10_passed_53 h5 rfl (by decide) rfl rfl) ?_
            refine GO.lift (fun _ => G_aload_n C 5 dX10_passed_127 rfl) ?_
            refine GO.lift (fun _ => G_get C 0 2 dX10_passed_128 inlX10 uf_X10_16 rfl (by decide) rfl rfl rfl) ?_
            refine GO.lift (fun _ => G_bipush C dX10_passed_131 (v := 15) rfl) ?_
            refine GO.lift (fun _ => G_iald C 3 dX10_passed_133 rfl (by unfold vp_in; decide)) ?_
            refine GO.lift (fun _ => G_iload C 1 dX10_passed_134 rfl) ?_
            refine GO.lift (fun _ => G_isub C dX10_passed_136) ?_
            exact GO.fin (G_iret C dX10_passed_137 rfl)
          · skip
            refine GO.lift (fun _ => G_tswOut C 138 dX10_passed_53 (by have q0 := i32_ne h1 (n := 0) rfl; have q1 := i32_ne h2 (n := 1) rfl; have q2 := i32_ne h3 (n := 2) rfl; have q3 := i32_ne h4 (n := 3) rfl; have q4 := i32_ne h5 (n := 4) rfl; omega) rfl) ?_
            refine GO.lift (fun _ => G_aload_n C 5 dX10_passed_138 rfl) ?_
            refine GO.lift (fun _ => G_get C 0 2 dX10_passed_139 inlX10 uf_X10_16 rfl (by decide) rfl rfl rfl) ?_
            refine GO.lift (fun _ => G_bipush C dX10_passed_142 (v := 12) rfl) ?_
            refine GO.lift (fun _ => G_iald C 3 dX10_passed_144 rfl (by unfold vp_in; decide)) ?_
            refine GO.lift (fun _ => G_iload C 0 dX10_passed_145 rfl) ?_
            refine GO.lift (fun _ => G_isub C dX10_passed_147) ?_
            exact GO.fin (G_iret C dX10_passed_148 rfl)
/-! X10_ifPassed -/
theorem kd_X10_ifPassed : Card yX10_ifPassed cX10_ifPassed 3 (some .int) 2 := ⟨uc_X10_ifPassed, un_X10, ⟨by decide, by decide, by decide⟩, by decide⟩
def o_X10_ifPassed (X : SM) (x1 : Int32) (x2 : Int32) : Option (Int32 × SM) := if (v_X10_isAhead x1) = 0 then some ((-1, X)) else if (v_X10_isTold x2) = 0 then some ((-1, X)) else (o_X10_takesSpare X ).bind (fun r1 => (o_X10_passed r1 x1 x2).bind (fun r2 => some ((r2.1, r2.2))))
theorem c_X10_ifPassed (l : Launch) (K : gK) (b : Nat → Nat) (X : SM) (x1 : Int32) (x2 : Int32) (r : Int32 × SM) (hr : o_X10_ifPassed X x1 x2 = some r) : Ct l K yX10_ifPassed cX10_ifPassed 3 (some .int) 9 [.ref (b 0), .int x1, .int x2] (mo_W K b X) (some (.int r.1), mo_W K b r.2) := by
  refine Ct.of (own := RX10) (fun (z : Int32 × SM) => (some (.int z.1), mo_W K b z.2)) (x := r) (by decide) rfl (Nat.le_of_ble_eq_true rfl) (fun Γ C => GO.out (x := o_X10_ifPassed X x1 x2) ?_ hr)
  unfold o_X10_ifPassed
  refine GO.lift (fun _ => G_iload_n C 1 dX10_ifPassed_0 rfl) ?_
  refine GO.lift (fun _ => G_callSi C kd_X10_isAhead ut_X10_isAhead um_X10_257 (c_X10_isAhead l K (mo_W K b X) x1) dX10_ifPassed_1 rfl rfl (Nat.le_of_ble_eq_true rfl) (Nat.le_of_ble_eq_true rfl)) ?_
  refine GO_if_eq C 14 dX10_ifPassed_4 rfl (fun h1 => ?_) (fun h1 => ?_)
  · refine GO.lift (fun _ => G_iconst C dX10_ifPassed_14 (v := -1) rfl) ?_
    exact GO.fin (G_iret C dX10_ifPassed_15 rfl)
  · refine GO.lift (fun _ => G_iload_n C 2 dX10_ifPassed_7 rfl) ?_
    refine GO.lift (fun _ => G_callSi C kd_X10_isTold ut_X10_isTold um_X10_260 (c_X10_isTold l K (mo_W K b X) x2) dX10_ifPassed_8 rfl rfl (Nat.le_of_ble_eq_true rfl) (Nat.le_of_ble_eq_true rfl)) ?_
    refine GO_if_ne C 16 dX10_ifPassed_11 rfl (fun h2 => ?_) (fun h2 => ?_)
    · refine GO.lift (fun _ => G_iconst C dX10_ifPassed_14 (v := -1) rfl) ?_
      exact GO.fin (G_iret C dX10_ifPassed_15 rfl)
    · refine GO.lift (fun _ => G_aload_n C 0 dX10_ifPassed_16 rfl) ?_
      refine GO.bind (fun r1 hr1 => ?_)
      refine GO.lift (fun _ => G_callVv C 0 10 kd_X10_takesSpare ui_X10_takesSpare us_X10_takesSpare um_X10_251 rfl rfl (c_X10_takesSpare l K b X  r1 hr1) dX10_ifPassed_17 rfl rfl (Nat.le_of_ble_eq_true rfl) (Nat.le_of_ble_eq_true rfl)) ?_
      refine GO.lift (fun _ => G_aload_n C 0 dX10_ifPassed_20 rfl) ?_
      refine GO.lift (fun _ => G_iload_n C 1 dX10_ifPassed_21 rfl) ?_
      refine GO.lift (fun _ => G_iload_n C 2 dX10_ifPassed_22 rfl) ?_
      refine GO.bind (fun r2 hr2 => ?_)
      refine GO.lift (fun _ => G_callVi C 0 10 kd_X10_passed ui_X10_passed us_X10_passed um_X10_263 rfl rfl (c_X10_passed l K b r1 x1 x2 r2 hr2) dX10_ifPassed_23 rfl rfl (Nat.le_of_ble_eq_true rfl) (Nat.le_of_ble_eq_true rfl)) ?_
      exact GO.fin (G_iret C dX10_ifPassed_26 rfl)
/-! X10_ifRule -/
theorem kd_X10_ifRule : Card yX10_ifRule cX10_ifRule 5 (some .int) 4 := ⟨uc_X10_ifRule, un_X10, ⟨by decide, by decide, by decide⟩, by decide⟩
def o_X10_ifRule (X : SM) (x1 : Int32) (x2 : Int32) (x3 : Int32) (x4 : Int32) : Option (Int32 × SM) := if (v_X10_isRule x1 x2) = 0 then some ((-1, X)) else if (v_X10_isAhead x3) = 0 then some ((-1, X)) else if (v_X10_isTold x4) = 0 then some ((-1, X)) else (o_X10_takesSpare X ).bind (fun r1 => if gin x1 336 = true then (lt1 (sU r1 2 (upd (r1 2) x1.toNatClampNeg x2)) (fun r2 => (o_X10_passed r2 x3 x4).bind (fun r3 => some ((r3.1, r3.2))))) else none)
theorem c_X10_ifRule (l : Launch) (K : gK) (b : Nat → Nat) (X : SM) (x1 : Int32) (x2 : Int32) (x3 : Int32) (x4 : Int32) (r : Int32 × SM) (hr : o_X10_ifRule X x1 x2 x3 x4 = some r) : Ct l K yX10_ifRule cX10_ifRule 5 (some .int) 9 [.ref (b 0), .int x1, .int x2, .int x3, .int x4] (mo_W K b X) (some (.int r.1), mo_W K b r.2) := by
  refine Ct.of (own := RX10) (fun (z : Int32 × SM) => (some (.int z.1), mo_W K b z.2)) (x := r) (by decide) rfl (Nat.le_of_ble_eq_true rfl) (fun Γ C => GO.out (x := o_X10_ifRule X x1 x2 x3 x4) ?_ hr)
  unfold o_X10_ifRule
  refine GO.lift (fun _ => G_iload_n C 1 dX10_ifRule_0 rfl) ?_
  refine GO.lift (fun _ => G_iload_n C 2 dX10_ifRule_1 rfl) ?_
  refine GO.lift (fun _ => G_callSi C kd_X10_isRule ut_X10_isRule um_X10_231 (c_X10_isRule l K (mo_W K b X) x1 x2) dX10_ifRule_2 rfl rfl (Nat.le_of_ble_eq_true rfl) (Nat.le_of_ble_eq_true rfl)) ?_
  refine GO_if_eq C 23 dX10_ifRule_5 rfl (fun h1 => ?_) (fun h1 => ?_)
  · refine GO.lift (fun _ => G_iconst C dX10_ifRule_23 (v := -1) rfl) ?_
    exact GO.fin (G_iret C dX10_ifRule_24 rfl)
  · refine GO.lift (fun _ => G_iload_n C 3 dX10_ifRule_8 rfl) ?_
    refine GO.lift (fun _ => G_callSi C kd_X10_isAhead ut_X10_isAhead um_X10_257 (c_X10_isAhead l K (mo_W K b X) x3) dX10_ifRule_9 rfl rfl (Nat.le_of_ble_eq_true rfl) (Nat.le_of_ble_eq_true rfl)) ?_
    refine GO_if_eq C 23 dX10_ifRule_12 rfl (fun h2 => ?_) (fun h2 => ?_)
    · refine GO.lift (fun _ => G_iconst C dX10_ifRule_23 (v := -1) rfl) ?_
      exact GO.fin (G_iret C dX10_ifRule_24 rfl)
    · refine GO.lift (fun _ => G_iload C 4 dX10_ifRule_15 rfl) ?_
      refine GO.lift (fun _ => G_callSi C kd_X10_isTold ut_X10_isTold um_X10_260 (c_X10_isTold l K (mo_W K b X) x4) dX10_ifRule_17 rfl rfl (Nat.le_of_ble_eq_true rfl) (Nat.le_of_ble_eq_true rfl)) ?_
      refine GO_if_ne C 25 dX10_ifRule_20 rfl (fun h3 => ?_) (fun h3 => ?_)
      · refine GO.lift (fun _ => G_iconst C dX10_ifRule_23 (v := -1) rfl) ?_
        exact GO.fin (G_iret C dX10_ifRule_24 rfl)
      · refine GO.lift (fun _ => G_aload_n C 0 dX10_ifRule_25 rfl) ?_
        refine GO.bind (fun r1 hr1 => ?_)
        refine GO.lift (fun _ => G_callVv C 0 10 kd_X10_takesSpare ui_X10_takesSpare us_X10_takesSpare um_X10_251 rfl rfl (c_X10_takesSpare l K b X  r1 hr1) dX10_ifRule_26 rfl rfl (Nat.le_of_ble_eq_true rfl) (Nat.le_of_ble_eq_true rfl)) ?_
        refine GO.lift (fun _ => G_aload_n C 0 dX10_ifRule_29 rfl) ?_
        refine GO.lift (fun _ => G_get C 0 2 dX10_ifRule_30 inlX10 uf_X10_16 rfl (by decide) rfl rfl rfl) ?_
        refine GO.lift (fun _ => G_iload_n C 1 dX10_ifRule_33 rfl) ?_
        refine GO.lift (fun _ => G_iload_n C 2 dX10_ifRule_34 rfl) ?_
        refine GO.guard (fun h4 => ?_)
        refine GO.letS (fun r2 hr2 => ?_)
        refine GO.lift (fun _ => G_iast (ws' := mo_W K b r2) C 3 dX10_ifRule_35 rfl (gin_in h4) (by cases hr2; rfl)) ?_
        refine GO.lift (fun _ => G_aload_n C 0 dX10_ifRule_36 rfl) ?_
        refine GO.lift (fun _ => G_iload_n C 3 dX10_ifRule_37 rfl) ?_
        refine GO.lift (fun _ => G_iload C 4 dX10_ifRule_38 rfl) ?_
        refine GO.bind (fun r3 hr3 => ?_)
        refine GO.lift (fun _ => G_callVi C 0 10 kd_X10_passed ui_X10_passed us_X10_passed um_X10_263 rfl rfl (c_X10_passed l K b r2 x3 x4 r3 hr3) dX10_ifRule_40 rfl rfl (Nat.le_of_ble_eq_true rfl) (Nat.le_of_ble_eq_true rfl)) ?_
        exact GO.fin (G_iret C dX10_ifRule_43 rfl)
/-! X10_ifShut -/
theorem kd_X10_ifShut : Card yX10_ifShut cX10_ifShut 4 (some .int) 3 := ⟨uc_X10_ifShut, un_X10, ⟨by decide, by decide, by decide⟩, by decide⟩
def o_X10_ifShut (X : SM) (x1 : Int32) (x2 : Int32) (x3 : Int32) : Option (Int32 × SM) := (o_X10_isOffice X x1).bind (fun r1 => if r1 = 0 then some ((-1, X)) else if (v_X10_isAhead x2) = 0 then some ((-1, X)) else if (v_X10_isTold x3) = 0 then some ((-1, X)) else (o_X10_takesSpare X ).bind (fun r2 => if gin (v_X10_officeAt x1 2) 336 = true then ((o_X10_shuts (r2 2) x1 (1 - ((r2 2) (v_X10_officeAt x1 2).toNatClampNeg))).bind (fun r3 => lt1 (sU r2 2 r3.2) (fun r4 => (o_X10_passed r4 x2 x3).bind (fun r5 => some ((r5.1, r5.2)))))) else none))
theorem c_X10_ifShut (l : Launch) (K : gK) (b : Nat → Nat) (X : SM) (x1 : Int32) (x2 : Int32) (x3 : Int32) (r : Int32 × SM) (hr : o_X10_ifShut X x1 x2 x3 = some r) : Ct l K yX10_ifShut cX10_ifShut 4 (some .int) 9 [.ref (b 0), .int x1, .int x2, .int x3] (mo_W K b X) (some (.int r.1), mo_W K b r.2) := by
  refine Ct.of (own := RX10) (fun (z : Int32 × SM) => (some (.int z.1), mo_W K b z.2)) (x := r) (by decide) rfl (Nat.le_of_ble_eq_true rfl) (fun Γ C => GO.out (x := o_X10_ifShut X x1 x2 x3) ?_ hr)
  unfold o_X10_ifShut
  refine GO.lift (fun _ => G_aload_n C 0 dX10_ifShut_0 rfl) ?_
  refine GO.lift (fun _ => G_iload_n C 1 dX10_ifShut_1 rfl) ?_
  refine GO.bind (fun r1 hr1 => ?_)
  refine GO.lift (fun _ => G_callVi C 0 10 kd_X10_isOffice ui_X10_isOffice us_X10_isOffice um_X10_212 rfl rfl (c_X10_isOffice l K b X x1 r1 hr1) dX10_ifShut_2 rfl rfl (Nat.le_of_ble_eq_true rfl) (Nat.le_of_ble_eq_true rfl)) ?_
  refine GO_if_eq C 22 dX10_ifShut_5 rfl (fun h1 => ?_) (fun h1 => ?_)
  · refine GO.lift (fun _ => G_iconst C dX10_ifShut_22 (v := -1) rfl) ?_
    exact GO.fin (G_iret C dX10_ifShut_23 rfl)
  · refine GO.lift (fun _ => G_iload_n C 2 dX10_ifShut_8 rfl) ?_
    refine GO.lift (fun _ => G_callSi C kd_X10_isAhead ut_X10_isAhead um_X10_257 (c_X10_isAhead l K (mo_W K b X) x2) dX10_ifShut_9 rfl rfl (Nat.le_of_ble_eq_true rfl) (Nat.le_of_ble_eq_true rfl)) ?_
    refine GO_if_eq C 22 dX10_ifShut_12 rfl (fun h2 => ?_) (fun h2 => ?_)
    · refine GO.lift (fun _ => G_iconst C dX10_ifShut_22 (v := -1) rfl) ?_
      exact GO.fin (G_iret C dX10_ifShut_23 rfl)
    · refine GO.lift (fun _ => G_iload_n C 3 dX10_ifShut_15 rfl) ?_
      refine GO.lift (fun _ => G_callSi C kd_X10_isTold ut_X10_isTold um_X10_260 (c_X10_isTold l K (mo_W K b X) x3) dX10_ifShut_16 rfl rfl (Nat.le_of_ble_eq_true rfl) (Nat.le_of_ble_eq_true rfl)) ?_
      refine GO_if_ne C 24 dX10_ifShut_19 rfl (fun h3 => ?_) (fun h3 => ?_)
      · refine GO.lift (fun _ => G_iconst C dX10_ifShut_22 (v := -1) rfl) ?_
        exact GO.fin (G_iret C dX10_ifShut_23 rfl)
      · refine GO.lift (fun _ => G_aload_n C 0 dX10_ifShut_24 rfl) ?_
        refine GO.bind (fun r2 hr2 => ?_)
        refine GO.lift (fun _ => G_callVv C 0 10 kd_X10_takesSpare ui_X10_takesSpare us_X10_takesSpare um_X10_251 rfl rfl (c_X10_takesSpare l K b X  r2 hr2) dX10_ifShut_25 rfl rfl (Nat.le_of_ble_eq_true rfl) (Nat.le_of_ble_eq_true rfl)) ?_
        refine GO.lift (fun _ => G_aload_n C 0 dX10_ifShut_28 rfl) ?_
        refine GO.lift (fun _ => G_get C 0 2 dX10_ifShut_29 inlX10 uf_X10_16 rfl (by decide) rfl rfl rfl) ?_
        refine GO.lift (fun _ => G_iload_n C 1 dX10_ifShut_32 rfl) ?_
        refine GO.lift (fun _ => G_iconst C dX10_ifShut_33 (v := 1) rfl) ?_
        refine GO.lift (fun _ => G_aload_n C 0 dX10_ifShut_34 rfl) ?_
        refine GO.lift (fun _ => G_get C 0 2 dX10_ifShut_35 inlX10 uf_X10_16 rfl (by decide) rfl rfl rfl) ?_
        refine GO.lift (fun _ => G_iload_n C 1 dX10_ifShut_38 rfl) ?_
        refine GO.lift (fun _ => G_iconst C dX10_ifShut_39 (v := 2) rfl) ?_
        refine GO.lift (fun _ => G_callSi C kd_X10_officeAt ut_X10_officeAt um_X10_54 (c_X10_officeAt l K (mo_W K b r2) x1 2) dX10_ifShut_40 rfl rfl (Nat.le_of_ble_eq_true rfl) (Nat.le_of_ble_eq_true rfl)) ?_
        refine GO.guard (fun h4 => ?_)
        refine GO.lift (fun _ => G_iald C 3 dX10_ifShut_43 rfl (gin_in h4)) ?_
        refine GO.lift (fun _ => G_isub C dX10_ifShut_44) ?_
        refine GO.bind (fun r3 hr3 => ?_)
        refine GO.letS (fun r4 hr4 => ?_)
        refine GO.lift (fun _ => G_callSi C kd_X10_shuts ut_X10_shuts um_X10_222 (Ct.to (r' := (some (.int r3.1), mo_W K b r4)) (Ct.from (c_X10_shuts l K (ws := mo_W K b r2) (q := 3) (ad := b 3) (Nat.le_of_ble_eq_true rfl) (r2 2) x1 (1 - ((r2 2) (v_X10_officeAt x1 2).toNatClampNeg)) r3 hr3) rfl) (by cases hr4; rfl)) dX10_ifShut_45 rfl rfl (Nat.le_of_ble_eq_true rfl) (Nat.le_of_ble_eq_true rfl)) ?_
        refine GO.lift (fun _ => G_pop C dX10_ifShut_48 rfl) ?_
        refine GO.lift (fun _ => G_aload_n C 0 dX10_ifShut_49 rfl) ?_
        refine GO.lift (fun _ => G_iload_n C 2 dX10_ifShut_50 rfl) ?_
        refine GO.lift (fun _ => G_iload_n C 3 dX10_ifShut_51 rfl) ?_
        refine GO.bind (fun r5 hr5 => ?_)
        refine GO.lift (fun _ => G_callVi C 0 10 kd_X10_passed ui_X10_passed us_X10_passed um_X10_263 rfl rfl (c_X10_passed l K b r4 x2 x3 r5 hr5) dX10_ifShut_52 rfl rfl (Nat.le_of_ble_eq_true rfl) (Nat.le_of_ble_eq_true rfl)) ?_
        exact GO.fin (G_iret C dX10_ifShut_55 rfl)
/-! X10_bestSpeak -/
theorem kd_X10_bestSpeak : Card yX10_bestSpeak cX10_bestSpeak 6 (some .int) 1 := ⟨uc_X10_bestSpeak, un_X10, ⟨by decide, by decide, by decide⟩, by decide⟩
def o_X10_bestSpeak_L17 : Nat → SM → Int32 → Int32 → Int32 → Int32 → Option (Int32 × SM)
  | 0, _, _, _, _, _ => none
  | fuel + 1, X, x1, x2, x3, x4 => if 20 < x4 then some ((x2, X)) else (o_X10_takesSpare X ).bind (fun r1 => lt1 (sU r1 2 (upd (r1 2) (0 : Int32).toNatClampNeg x4)) (fun r2 => (o_X10_passed r2 x1 0).bind (fun r3 => if x2 < 0 then o_X10_bestSpeak_L17 fuel r3.2 x1 x4 r3.1 (x4 + 1) else if x3 < r3.1 then o_X10_bestSpeak_L17 fuel r3.2 x1 x4 r3.1 (x4 + 1) else o_X10_bestSpeak_L17 fuel r3.2 x1 x2 x3 (x4 + 1))))
theorem g_X10_bestSpeak_L17 {l : Launch} {K : gK} {Γ : gT} {b : Nat → Nat} (C : Cx l K Γ RX10 cX10_bestSpeak 6 (some .int) 9) : ∀ (k : Nat) (X : SM) (x1 : Int32) (x2 : Int32) (x3 : Int32) (x4 : Int32), GO l K Γ (mo_W K b X) 17 6 [(0, .ref (b 0)), (1, .int x1), (2, .int x2), (3, .int x3), (4, .int x4)] [] (fun (z : Int32 × SM) => (some (.int z.1), mo_W K b z.2)) (o_X10_bestSpeak_L17 k X x1 x2 x3 x4) := by
  intro k
  induction k with
  | zero =>
    intro X x1 x2 x3 x4
    exact fun r hr => nomatch hr
  | succ k ih =>
    intro X x1 x2 x3 x4
    rw [o_X10_bestSpeak_L17]
    refine GO.lift (fun _ => G_iload C 4 dX10_bestSpeak_17 rfl) ?_
    refine GO.lift (fun _ => G_bipush C dX10_bestSpeak_19 (v := 20) rfl) ?_
    refine GO_icmp_gt C 69 dX10_bestSpeak_21 rfl (fun h1 => ?_) (fun h1 => ?_)
    · refine GO.lift (fun _ => G_iload_n C 2 dX10_bestSpeak_69 rfl) ?_
      exact GO.fin (G_iret C dX10_bestSpeak_70 rfl)
    · refine GO.lift (fun _ => G_aload_n C 0 dX10_bestSpeak_24 rfl) ?_
      refine GO.bind (fun r1 hr1 => ?_)
      refine GO.lift (fun _ => G_callVv C 0 10 kd_X10_takesSpare ui_X10_takesSpare us_X10_takesSpare um_X10_251 rfl rfl (c_X10_takesSpare l K b X  r1 hr1) dX10_bestSpeak_25 rfl rfl (Nat.le_of_ble_eq_true rfl) (Nat.le_of_ble_eq_true rfl)) ?_
      refine GO.lift (fun _ => G_aload_n C 0 dX10_bestSpeak_28 rfl) ?_
      refine GO.lift (fun _ => G_get C 0 2 dX10_bestSpeak_29 inlX10 uf_X10_16 rfl (by decide) rfl rfl rfl) ?_
      refine GO.lift (fun _ => G_iconst C dX10_bestSpeak_32 (v := 0) rfl) ?_
      refine GO.lift (fun _ => G_iload C 4 dX10_bestSpeak_33 rfl) ?_
      refine GO.letS (fun r2 hr2 => ?_)
      refine GO.lift (fun _ => G_iast (ws' := mo_W K b r2) C 3 dX10_bestSpeak_35 rfl (by unfold vp_in; decide) (by cases hr2; rfl)) ?_
      refine GO.lift (fun _ => G_aload_n C 0 dX10_bestSpeak_36 rfl) ?_
      refine GO.lift (fun _ => G_iload_n C 1 dX10_bestSpeak_37 rfl) ?_
      refine GO.lift (fun _ => G_iconst C dX10_bestSpeak_38 (v := 0) rfl) ?_
      refine GO.bind (fun r3 hr3 => ?_)
      refine GO.lift (fun _ => G_callVi C 0 10 kd_X10_passed ui_X10_passed us_X10_passed um_X10_263 rfl rfl (c_X10_passed l K b r2 x1 0 r3 hr3) dX10_bestSpeak_39 rfl rfl (Nat.le_of_ble_eq_true rfl) (Nat.le_of_ble_eq_true rfl)) ?_
      refine GO.lift (fun _ => G_istore (lv' := [(5, .int r3.1), (0, .ref (b 0)), (1, .int x1), (2, .int x2), (3, .int x3), (4, .int x4)]) C dX10_bestSpeak_42 (by decide) rfl) ?_
      refine GO.lift (fun _ => G_iload_n C 3 dX10_bestSpeak_44 rfl) ?_
      refine GO_if_lt C 57 dX10_bestSpeak_45 rfl (fun h2 => ?_) (fun h2 => ?_)
      · refine GO.lift (fun _ => G_iload C 5 dX10_bestSpeak_57 rfl) ?_
        refine GO.lift (fun _ => G_istore_n (lv' := [(2, .int x4), (5, .int r3.1), (0, .ref (b 0)), (1, .int x1), (3, .int x3), (4, .int x4)]) C dX10_bestSpeak_59 (by decide) rfl) ?_
        refine GO.lift (fun _ => G_iload C 1 dX10_bestSpeak_60 rfl) ?_
        refine GO.lift (fun _ => G_istore_n (lv' := [(3, .int r3.1), (2, .int x4), (5, .int r3.1), (0, .ref (b 0)), (1, .int x1), (4, .int x4)]) C dX10_bestSpeak_62 (by decide) rfl) ?_
        refine GO.lift (fun _ => G_iinc (lv' := [(4, .int (x4 + 1)), (3, .int r3.1), (2, .int x4), (5, .int r3.1), (0, .ref (b 0)), (1, .int x1)]) C 5 dX10_bestSpeak_63 rfl rfl (by decide) rfl) ?_
        refine GO.lift (fun _ => G_goto C 17 dX10_bestSpeak_66 rfl) ?_
        refine GO.sub [4, 5, 2, 1, 0] rfl ?_
        exact ih r3.2 x1 x4 r3.1 (x4 + 1)
      · refine GO.lift (fun _ => G_iload C 0 dX10_bestSpeak_48 rfl) ?_
        refine GO.lift (fun _ => G_iload_n C 4 dX10_bestSpeak_50 rfl) ?_
        refine GO_icmp_gt C 57 dX10_bestSpeak_51 rfl (fun h3 => ?_) (fun h3 => ?_)
        · refine GO.lift (fun _ => G_iload C 5 dX10_bestSpeak_57 rfl) ?_
          refine GO.lift (fun _ => G_istore_n (lv' := [(2, .int x4), (5, .int r3.1), (0, .ref (b 0)), (1, .int x1), (3, .int x3), (4, .int x4)]) C dX10_bestSpeak_59 (by decide) rfl) ?_
          refine GO.lift (fun _ => G_iload C 1 dX10_bestSpeak_60 rfl) ?_
          refine GO.lift (fun _ => G_istore_n (lv' := [(3, .int r3.1), (2, .int x4), (5, .int r3.1), (0, .ref (b 0)), (1, .int x1), (4, .int x4)]) C dX10_bestSpeak_62 (by decide) rfl) ?_
          refine GO.lift (fun _ => G_iinc (lv' := [(4, .int (x4 + 1)), (3, .int r3.1), (2, .int x4), (5, .int r3.1), (0, .ref (b 0)), (1, .int x1)]) C 5 dX10_bestSpeak_63 rfl rfl (by decide) rfl) ?_
          refine GO.lift (fun _ => G_goto C 17 dX10_bestSpeak_66 rfl) ?_
          refine GO.sub [4, 5, 2, 1, 0] rfl ?_
          exact ih r3.2 x1 x4 r3.1 (x4 + 1)
        · refine GO.lift (fun _ => G_goto C 63 dX10_bestSpeak_54 rfl) ?_
          refine GO.lift (fun _ => G_iinc (lv' := [(4, .int (x4 + 1)), (5, .int r3.1), (0, .ref (b 0)), (1, .int x1), (2, .int x2), (3, .int x3)]) C 5 dX10_bestSpeak_63 rfl rfl (by decide) rfl) ?_
          refine GO.lift (fun _ => G_goto C 17 dX10_bestSpeak_66 rfl) ?_
          refine GO.sub [2, 3, 4, 5, 0] rfl ?_
          exact ih r3.2 x1 x2 x3 (x4 + 1)
def o_X10_bestSpeak (X : SM) (x1 : Int32) : Option (Int32 × SM) := if (v_X10_isAhead x1) = 0 then some ((-1, X)) else o_X10_bestSpeak_L17 4000 X x1 (-2) 0 1
theorem c_X10_bestSpeak (l : Launch) (K : gK) (b : Nat → Nat) (X : SM) (x1 : Int32) (r : Int32 × SM) (hr : o_X10_bestSpeak X x1 = some r) : Ct l K yX10_bestSpeak cX10_bestSpeak 6 (some .int) 9 [.ref (b 0), .int x1] (mo_W K b X) (some (.int r.1), mo_W K b r.2) := by
  refine Ct.of (own := RX10) (fun (z : Int32 × SM) => (some (.int z.1), mo_W K b z.2)) (x := r) (by decide) rfl (Nat.le_of_ble_eq_true rfl) (fun Γ C => GO.out (x := o_X10_bestSpeak X x1) ?_ hr)
  unfold o_X10_bestSpeak
  refine GO.lift (fun _ => G_iload_n C 1 dX10_bestSpeak_0 rfl) ?_
  refine GO.lift (fun _ => G_callSi C kd_X10_isAhead ut_X10_isAhead um_X10_257 (c_X10_isAhead l K (mo_W K b X) x1) dX10_bestSpeak_1 rfl rfl (Nat.le_of_ble_eq_true rfl) (Nat.le_of_ble_eq_true rfl)) ?_
  refine GO_if_ne C 9 dX10_bestSpeak_4 rfl (fun h1 => ?_) (fun h1 => ?_)
  · refine GO.lift (fun _ => G_iconst C dX10_bestSpeak_7 (v := -1) rfl) ?_
    exact GO.fin (G_iret C dX10_bestSpeak_8 rfl)
  · refine GO.lift (fun _ => G_bipush C dX10_bestSpeak_9 (v := -2) rfl) ?_
    refine GO.lift (fun _ => G_istore_n (lv' := [(2, .int (-2)), (0, .ref (b 0)), (1, .int x1)]) C dX10_bestSpeak_11 (by decide) rfl) ?_
    refine GO.lift (fun _ => G_iconst C dX10_bestSpeak_12 (v := 0) rfl) ?_
    refine GO.lift (fun _ => G_istore_n (lv' := [(3, .int 0), (2, .int (-2)), (0, .ref (b 0)), (1, .int x1)]) C dX10_bestSpeak_13 (by decide) rfl) ?_
    refine GO.lift (fun _ => G_iconst C dX10_bestSpeak_14 (v := 1) rfl) ?_
    refine GO.lift (fun _ => G_istore (lv' := [(4, .int 1), (3, .int 0), (2, .int (-2)), (0, .ref (b 0)), (1, .int x1)]) C dX10_bestSpeak_15 (by decide) rfl) ?_
    refine GO.sub [3, 4, 2, 1, 0] rfl ?_
    exact g_X10_bestSpeak_L17 C _ X x1 (-2) 0 1
/-! X10_leastQuota -/
theorem kd_X10_leastQuota : Card yX10_leastQuota cX10_leastQuota 3 (some .int) 0 := ⟨uc_X10_leastQuota, un_X10, ⟨by decide, by decide, by decide⟩, by decide⟩
def o_X10_leastQuota_L14 : Nat → SM → Int32 → Int32 → Option (Int32 × SM)
  | 0, _, _, _ => none
  | fuel + 1, X, x1, x2 => if 60 < x2 then some ((-2, X)) else (o_X10_takesSpare X ).bind (fun r1 => lt1 (sU r1 2 (upd (r1 2) (2 : Int32).toNatClampNeg x2)) (fun r2 => (o_X10_doneInSpare r2 ).bind (fun r3 => if (v_X10_in r3.1 0 x1) = 0 then o_X10_leastQuota_L14 fuel r3.2 x1 (x2 + 1) else some ((x2, r3.2)))))
theorem g_X10_leastQuota_L14 {l : Launch} {K : gK} {Γ : gT} {b : Nat → Nat} (C : Cx l K Γ RX10 cX10_leastQuota 3 (some .int) 9) : ∀ (k : Nat) (X : SM) (x1 : Int32) (x2 : Int32), GO l K Γ (mo_W K b X) 14 3 [(0, .ref (b 0)), (1, .int x1), (2, .int x2)] [] (fun (z : Int32 × SM) => (some (.int z.1), mo_W K b z.2)) (o_X10_leastQuota_L14 k X x1 x2) := by
  intro k
  induction k with
  | zero =>
    intro X x1 x2
    exact fun r hr => nomatch hr
  | succ k ih =>
    intro X x1 x2
    rw [o_X10_leastQuota_L14]
    refine GO.lift (fun _ => G_iload_n C 2 dX10_leastQuota_14 rfl) ?_
    refine GO.lift (fun _ => G_bipush C dX10_leastQuota_15 (v := 60) rfl) ?_
    refine GO_icmp_gt C 51 dX10_leastQuota_17 rfl (fun h1 => ?_) (fun h1 => ?_)
    · refine GO.lift (fun _ => G_bipush C dX10_leastQuota_51 (v := -2) rfl) ?_
      exact GO.fin (G_iret C dX10_leastQuota_53 rfl)
    · refine GO.lift (fun _ => G_aload_n C 0 dX10_leastQuota_20 rfl) ?_
      refine GO.bind (fun r1 hr1 => ?_)
      refine GO.lift (fun _ => G_callVv C 0 10 kd_X10_takesSpare ui_X10_takesSpare us_X10_takesSpare um_X10_251 rfl rfl (c_X10_takesSpare l K b X  r1 hr1) dX10_leastQuota_21 rfl rfl (Nat.le_of_ble_eq_true rfl) (Nat.le_of_ble_eq_true rfl)) ?_
      refine GO.lift (fun _ => G_aload_n C 0 dX10_leastQuota_24 rfl) ?_
      refine GO.lift (fun _ => G_get C 0 2 dX10_leastQuota_25 inlX10 uf_X10_16 rfl (by decide) rfl rfl rfl) ?_
      refine GO.lift (fun _ => G_iconst C dX10_leastQuota_28 (v := 2) rfl) ?_
      refine GO.lift (fun _ => G_iload_n C 2 dX10_leastQuota_29 rfl) ?_
      refine GO.letS (fun r2 hr2 => ?_)
      refine GO.lift (fun _ => G_iast (ws' := mo_W K b r2) C 3 dX10_leastQuota_30 rfl (by unfold vp_in; decide) (by cases hr2; rfl)) ?_
      refine GO.lift (fun _ => G_aload_n C 0 dX10_leastQuota_31 rfl) ?_
      refine GO.bind (fun r3 hr3 => ?_)
      refine GO.lift (fun _ => G_callVi C 0 10 kd_X10_doneInSpare ui_X10_doneInSpare us_X10_doneInSpare um_X10_254 rfl rfl (c_X10_doneInSpare l K b r2  r3 hr3) dX10_leastQuota_32 rfl rfl (Nat.le_of_ble_eq_true rfl) (Nat.le_of_ble_eq_true rfl)) ?_
      refine GO.lift (fun _ => G_iconst C dX10_leastQuota_35 (v := 0) rfl) ?_
      refine GO.lift (fun _ => G_iload_n C 1 dX10_leastQuota_36 rfl) ?_
      refine GO.lift (fun _ => G_callSi C kd_X10_in ut_X10_in um_X10_58 (c_X10_in l K (mo_W K b r3.2) r3.1 0 x1) dX10_leastQuota_37 rfl rfl (Nat.le_of_ble_eq_true rfl) (Nat.le_of_ble_eq_true rfl)) ?_
      refine GO_if_eq C 45 dX10_leastQuota_40 rfl (fun h2 => ?_) (fun h2 => ?_)
      · refine GO.lift (fun _ => G_iinc (lv' := [(2, .int (x2 + 1)), (0, .ref (b 0)), (1, .int x1)]) C 2 dX10_leastQuota_45 rfl rfl (by decide) rfl) ?_
        refine GO.lift (fun _ => G_goto C 14 dX10_leastQuota_48 rfl) ?_
        refine GO.sub [1, 2, 0] rfl ?_
        exact ih r3.2 x1 (x2 + 1)
      · refine GO.lift (fun _ => G_iload_n C 2 dX10_leastQuota_43 rfl) ?_
        exact GO.fin (G_iret C dX10_leastQuota_44 rfl)
def o_X10_leastQuota (X : SM) : Option (Int32 × SM) := (o_X10_doneIn X ).bind (fun r1 => if r1.1 < 0 then some ((-2, r1.2)) else o_X10_leastQuota_L14 4000 r1.2 r1.1 1)
theorem c_X10_leastQuota (l : Launch) (K : gK) (b : Nat → Nat) (X : SM) (r : Int32 × SM) (hr : o_X10_leastQuota X = some r) : Ct l K yX10_leastQuota cX10_leastQuota 3 (some .int) 9 [.ref (b 0)] (mo_W K b X) (some (.int r.1), mo_W K b r.2) := by
  refine Ct.of (own := RX10) (fun (z : Int32 × SM) => (some (.int z.1), mo_W K b z.2)) (x := r) (by decide) rfl (Nat.le_of_ble_eq_true rfl) (fun Γ C => GO.out (x := o_X10_leastQuota X) ?_ hr)
  unfold o_X10_leastQuota
  refine GO.lift (fun _ => G_aload_n C 0 dX10_leastQuota_0 rfl) ?_
  refine GO.bind (fun r1 hr1 => ?_)
  refine GO.lift (fun _ => G_callVi C 0 10 kd_X10_doneIn ui_X10_doneIn us_X10_doneIn um_X10_266 rfl rfl (c_X10_doneIn l K b X  r1 hr1) dX10_leastQuota_1 rfl rfl (Nat.le_of_ble_eq_true rfl) (Nat.le_of_ble_eq_true rfl)) ?_
  refine GO.lift (fun _ => G_istore_n (lv' := [(1, .int r1.1), (0, .ref (b 0))]) C dX10_leastQuota_4 (by decide) rfl) ?_
  refine GO.lift (fun _ => G_iload_n C 0 dX10_leastQuota_5 rfl) ?_
  refine GO_if_ge C 12 dX10_leastQuota_6 rfl (fun h1 => ?_) (fun h1 => ?_)
  · refine GO.lift (fun _ => G_bipush C dX10_leastQuota_9 (v := -2) rfl) ?_
    exact GO.fin (G_iret C dX10_leastQuota_11 rfl)
  · refine GO.lift (fun _ => G_iconst C dX10_leastQuota_12 (v := 1) rfl) ?_
    refine GO.lift (fun _ => G_istore_n (lv' := [(2, .int 1), (1, .int r1.1), (0, .ref (b 0))]) C dX10_leastQuota_13 (by decide) rfl) ?_
    refine GO.sub [2, 1, 0] rfl ?_
    exact g_X10_leastQuota_L14 C _ r1.2 r1.1 1
/-! X10_log -/
theorem kd_X10_log : Card yX10_log cX10_log 3 (some .int) 2 := ⟨uc_X10_log, un_X10, ⟨by decide, by decide, by decide⟩, by decide⟩
def o_X10_log (X : SM) (x1 : Int32) (x2 : Int32) : Option (Int32) := if x1 < 0 then some (-1) else if (v_X10_in x2 0 2) = 0 then some (-1) else if x1 < ((X 0) (215 : Int32).toNatClampNeg) then if gin ((216 + (3 * x1)) + x2) 336 = true then (some ((X 0) ((216 + (3 * x1)) + x2).toNatClampNeg)) else none else some (-2)
theorem c_X10_log (l : Launch) (K : gK) (b : Nat → Nat) (X : SM) (x1 : Int32) (x2 : Int32) (r : Int32) (hr : o_X10_log X x1 x2 = some r) : Ct l K yX10_log cX10_log 3 (some .int) 1 [.ref (b 0), .int x1, .int x2] (mo_W K b X) (some (.int r), mo_W K b X) := by
  refine Ct.of (own := RX10) (fun z => (some (.int z), mo_W K b X)) (x := r) (by decide) rfl (Nat.le_of_ble_eq_true rfl) (fun Γ C => GO.out (x := o_X10_log X x1 x2) ?_ hr)
  unfold o_X10_log
  refine GO.lift (fun _ => G_iload_n C 1 dX10_log_0 rfl) ?_
  refine GO_if_lt C 13 dX10_log_1 rfl (fun h1 => ?_) (fun h1 => ?_)
  · refine GO.lift (fun _ => G_iconst C dX10_log_13 (v := -1) rfl) ?_
    exact GO.fin (G_iret C dX10_log_14 rfl)
  · refine GO.lift (fun _ => G_iload_n C 2 dX10_log_4 rfl) ?_
    refine GO.lift (fun _ => G_iconst C dX10_log_5 (v := 0) rfl) ?_
    refine GO.lift (fun _ => G_iconst C dX10_log_6 (v := 2) rfl) ?_
    refine GO.lift (fun _ => G_callSi C kd_X10_in ut_X10_in um_X10_58 (c_X10_in l K (mo_W K b X) x2 0 2) dX10_log_7 rfl rfl (Nat.le_of_ble_eq_true rfl) (Nat.le_of_ble_eq_true rfl)) ?_
    refine GO_if_ne C 15 dX10_log_10 rfl (fun h2 => ?_) (fun h2 => ?_)
    · refine GO.lift (fun _ => G_iconst C dX10_log_13 (v := -1) rfl) ?_
      exact GO.fin (G_iret C dX10_log_14 rfl)
    · refine GO.lift (fun _ => G_iload_n C 1 dX10_log_15 rfl) ?_
      refine GO.lift (fun _ => G_aload_n C 0 dX10_log_16 rfl) ?_
      refine GO.lift (fun _ => G_get C 0 0 dX10_log_17 inlX10 uf_X10_7 rfl (by decide) rfl rfl rfl) ?_
      refine GO.lift (fun _ => G_sipush C dX10_log_20 (v := 215) rfl) ?_
      refine GO.lift (fun _ => G_iald C 1 dX10_log_23 rfl (by unfold vp_in; decide)) ?_
      refine GO_icmp_ge C 44 dX10_log_24 rfl (fun h3 => ?_) (fun h3 => ?_)
      · refine GO.lift (fun _ => G_aload_n C 0 dX10_log_27 rfl) ?_
        refine GO.lift (fun _ => G_get C 0 0 dX10_log_28 inlX10 uf_X10_7 rfl (by decide) rfl rfl rfl) ?_
        refine GO.lift (fun _ => G_sipush C dX10_log_31 (v := 216) rfl) ?_
        refine GO.lift (fun _ => G_iconst C dX10_log_34 (v := 3) rfl) ?_
        refine GO.lift (fun _ => G_iload_n C 1 dX10_log_35 rfl) ?_
        refine GO.lift (fun _ => G_imul C dX10_log_36) ?_
        refine GO.lift (fun _ => G_iadd C dX10_log_37) ?_
        refine GO.lift (fun _ => G_iload_n C 2 dX10_log_38 rfl) ?_
        refine GO.lift (fun _ => G_iadd C dX10_log_39) ?_
        refine GO.guard (fun h4 => ?_)
        refine GO.lift (fun _ => G_iald C 1 dX10_log_40 rfl (gin_in h4)) ?_
        refine GO.lift (fun _ => G_goto C 46 dX10_log_41 rfl) ?_
        exact GO.fin (G_iret C dX10_log_46 rfl)
      · refine GO.lift (fun _ => G_bipush C dX10_log_44 (v := -2) rfl) ?_
        exact GO.fin (G_iret C dX10_log_46 rfl)
/-! X10_puts -/
theorem kd_X10_puts : Card yX10_puts cX10_puts 2 none 1 := ⟨uc_X10_puts, un_X10, ⟨by decide, by decide, by decide⟩, by decide⟩
def o_X10_puts (X : SM) (x1 : Int32) : Option (SM) := if gin (X 8 9) 1300 = true then (lt1 (sU X 7 (upd (X 7) (X 8 9).toNatClampNeg x1)) (fun r1 => lt1 (sU r1 8 (upd (r1 8) 9 ((r1 8 9) + 1))) (fun r2 => some r2))) else none
theorem c_X10_puts (l : Launch) (K : gK) (b : Nat → Nat) (X : SM) (x1 : Int32) (r : SM) (hr : o_X10_puts X x1 = some r) : Ct l K yX10_puts cX10_puts 2 none 0 [.ref (b 0), .int x1] (mo_W K b X) (none, mo_W K b r) := by
  refine Ct.of (own := RX10) (fun z => (none, mo_W K b z)) (x := r) (by decide) rfl (Nat.le_of_ble_eq_true rfl) (fun Γ C => GO.out (x := o_X10_puts X x1) ?_ hr)
  unfold o_X10_puts
  refine GO.lift (fun _ => G_aload_n C 0 dX10_puts_0 rfl) ?_
  refine GO.lift (fun _ => G_get C 0 16 dX10_puts_1 inlX10 uf_X10_36 rfl (by decide) rfl rfl rfl) ?_
  refine GO.lift (fun _ => G_aload_n C 0 dX10_puts_4 rfl) ?_
  refine GO.lift (fun _ => G_get C 0 17 dX10_puts_5 inlX10 uf_X10_269 rfl (by decide) rfl rfl rfl) ?_
  refine GO.lift (fun _ => G_iload_n C 1 dX10_puts_8 rfl) ?_
  refine GO.guard (fun h1 => ?_)
  refine GO.letS (fun r1 hr1 => ?_)
  refine GO.lift (fun _ => G_iast (ws' := mo_W K b r1) C 8 dX10_puts_9 rfl (gin_in h1) (by cases hr1; rfl)) ?_
  refine GO.lift (fun _ => G_aload_n C 0 dX10_puts_10 rfl) ?_
  refine GO.lift (fun _ => G_dup C dX10_puts_11 rfl) ?_
  refine GO.lift (fun _ => G_get C 0 17 dX10_puts_12 inlX10 uf_X10_269 rfl (by decide) rfl rfl rfl) ?_
  refine GO.lift (fun _ => G_iconst C dX10_puts_15 (v := 1) rfl) ?_
  refine GO.lift (fun _ => G_iadd C dX10_puts_16) ?_
  refine GO.letS (fun r2 hr2 => ?_)
  refine GO.lift (fun _ => G_put (ws' := mo_W K b r2) C 0 17 tyX10 .int dX10_puts_17 inlX10 uf_X10_269 tyX10_ok nmX10 rfl (by decide) rfl rfl rfl rfl rfl rfl (Nat.le_of_ble_eq_true rfl) (by cases hr2; rfl)) ?_
  exact GO.fin (G_vret C dX10_puts_20 rfl)
