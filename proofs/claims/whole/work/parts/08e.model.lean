-- PART 08, go on (by gen/mkmodel.py)
/-! X10_next -/
theorem kd_X10_next : Card yX10_next cX10_next 1 none 0 := ⟨uc_X10_next, un_X10, ⟨by decide, by decide, by decide⟩, by decide⟩
def o_X10_next_L140 (X : SM) (t0 : Int32) : Option (SM) := lt1 (sU X 8 (upd (X 8) 6 t0)) (fun r1 => lt1 (sU r1 8 (upd (r1 8) 4 ((r1 8 4) + 1))) (fun r2 => some r2))
theorem g_X10_next_L140 {l : Launch} {K : gK} {Γ : gT} {b : Nat → Nat} (C : Cx l K Γ RX10 cX10_next 1 none 2) (X : SM) (t0 : Int32) : GO l K Γ (mo_W K b X) 140 1 [(0, .ref (b 0))] [.int t0, .ref (b 0)] (fun z => (none, mo_W K b z)) (o_X10_next_L140 X t0) := by
  unfold o_X10_next_L140
  refine GO.letS (fun r1 hr1 => ?_)
  refine GO.lift (fun _ => G_put (ws' := mo_W K b r1) C 0 13 tyX10 .int dX10_next_140 inlX10 uf_X10_151 tyX10_ok nmX10 rfl (by decide) rfl rfl rfl rfl rfl rfl (Nat.le_of_ble_eq_true rfl) (by cases hr1; rfl)) ?_
  refine GO.lift (fun _ => G_aload_n C 0 dX10_next_143 rfl) ?_
  refine GO.lift (fun _ => G_dup C dX10_next_144 rfl) ?_
  refine GO.lift (fun _ => G_get C 0 11 dX10_next_145 inlX10 uf_X10_142 rfl (by decide) rfl rfl rfl) ?_
  refine GO.lift (fun _ => G_iconst C dX10_next_148 (v := 1) rfl) ?_
  refine GO.lift (fun _ => G_iadd C dX10_next_149) ?_
  refine GO.letS (fun r2 hr2 => ?_)
  refine GO.lift (fun _ => G_put (ws' := mo_W K b r2) C 0 11 tyX10 .int dX10_next_150 inlX10 uf_X10_142 tyX10_ok nmX10 rfl (by decide) rfl rfl rfl rfl rfl rfl (Nat.le_of_ble_eq_true rfl) (by cases hr2; rfl)) ?_
  exact GO.fin (G_vret C dX10_next_153 rfl)
def o_X10_next_L52 (X : SM) : Option (SM) := lt1 (sU X 8 (upd (X 8) 5 (X 8 4))) (fun r1 => lt1 (sU r1 8 (upd (r1 8) 7 0)) (fun r2 => if (r2 8 4) = (r2 8 1) then lt1 (sU r2 8 (upd (r2 8) 6 0)) (fun r3 => some r3) else (o_X10_isSmall r2 (r2 8 4)).bind (fun r4 => if r4 = 0 then (o_X10_isDigit r2 (r2 8 4)).bind (fun r5 => if r5 = 0 then if gin (r2 8 4) 1200 = true then (if ((r2 6) (r2 8 4).toNatClampNeg) = 59 then o_X10_next_L140 r2 3 else o_X10_next_L140 r2 4) else none else (o_X10_nextNumber r2 ).bind (fun r6 => some r6)) else (o_X10_nextWord r2 ).bind (fun r7 => some r7))))
theorem g_X10_next_L52 {l : Launch} {K : gK} {Γ : gT} {b : Nat → Nat} (C : Cx l K Γ RX10 cX10_next 1 none 2) (X : SM) : GO l K Γ (mo_W K b X) 52 1 [(0, .ref (b 0))] [] (fun z => (none, mo_W K b z)) (o_X10_next_L52 X) := by
  unfold o_X10_next_L52
  refine GO.lift (fun _ => G_aload_n C 0 dX10_next_52 rfl) ?_
  refine GO.lift (fun _ => G_aload_n C 0 dX10_next_53 rfl) ?_
  refine GO.lift (fun _ => G_get C 0 11 dX10_next_54 inlX10 uf_X10_142 rfl (by decide) rfl rfl rfl) ?_
  refine GO.letS (fun r1 hr1 => ?_)
  refine GO.lift (fun _ => G_put (ws' := mo_W K b r1) C 0 12 tyX10 .int dX10_next_57 inlX10 uf_X10_145 tyX10_ok nmX10 rfl (by decide) rfl rfl rfl rfl rfl rfl (Nat.le_of_ble_eq_true rfl) (by cases hr1; rfl)) ?_
  refine GO.lift (fun _ => G_aload_n C 0 dX10_next_60 rfl) ?_
  refine GO.lift (fun _ => G_iconst C dX10_next_61 (v := 0) rfl) ?_
  refine GO.letS (fun r2 hr2 => ?_)
  refine GO.lift (fun _ => G_put (ws' := mo_W K b r2) C 0 14 tyX10 .int dX10_next_62 inlX10 uf_X10_148 tyX10_ok nmX10 rfl (by decide) rfl rfl rfl rfl rfl rfl (Nat.le_of_ble_eq_true rfl) (by cases hr2; rfl)) ?_
  refine GO.lift (fun _ => G_aload_n C 0 dX10_next_65 rfl) ?_
  refine GO.lift (fun _ => G_get C 0 11 dX10_next_66 inlX10 uf_X10_142 rfl (by decide) rfl rfl rfl) ?_
  refine GO.lift (fun _ => G_aload_n C 0 dX10_next_69 rfl) ?_
  refine GO.lift (fun _ => G_get C 0 8 dX10_next_70 inlX10 uf_X10_139 rfl (by decide) rfl rfl rfl) ?_
  refine GO_icmp_ne C 84 dX10_next_73 rfl (fun h1 => ?_) (fun h1 => ?_)
  · refine GO.lift (fun _ => G_aload_n C 0 dX10_next_76 rfl) ?_
    refine GO.lift (fun _ => G_iconst C dX10_next_77 (v := 0) rfl) ?_
    refine GO.letS (fun r3 hr3 => ?_)
    refine GO.lift (fun _ => G_put (ws' := mo_W K b r3) C 0 13 tyX10 .int dX10_next_78 inlX10 uf_X10_151 tyX10_ok nmX10 rfl (by decide) rfl rfl rfl rfl rfl rfl (Nat.le_of_ble_eq_true rfl) (by cases hr3; rfl)) ?_
    refine GO.lift (fun _ => G_goto C 153 dX10_next_81 rfl) ?_
    exact GO.fin (G_vret C dX10_next_153 rfl)
  · refine GO.lift (fun _ => G_aload_n C 0 dX10_next_84 rfl) ?_
    refine GO.lift (fun _ => G_aload_n C 0 dX10_next_85 rfl) ?_
    refine GO.lift (fun _ => G_get C 0 11 dX10_next_86 inlX10 uf_X10_142 rfl (by decide) rfl rfl rfl) ?_
    refine GO.bind (fun r4 hr4 => ?_)
    refine GO.lift (fun _ => G_callVi C 0 10 kd_X10_isSmall ui_X10_isSmall us_X10_isSmall um_X10_154 rfl rfl (c_X10_isSmall l K b r2 (r2 8 4) r4 hr4) dX10_next_89 rfl rfl (Nat.le_of_ble_eq_true rfl) (Nat.le_of_ble_eq_true rfl)) ?_
    refine GO_if_eq C 102 dX10_next_92 rfl (fun h2 => ?_) (fun h2 => ?_)
    · refine GO.lift (fun _ => G_aload_n C 0 dX10_next_102 rfl) ?_
      refine GO.lift (fun _ => G_aload_n C 0 dX10_next_103 rfl) ?_
      refine GO.lift (fun _ => G_get C 0 11 dX10_next_104 inlX10 uf_X10_142 rfl (by decide) rfl rfl rfl) ?_
      refine GO.bind (fun r5 hr5 => ?_)
      refine GO.lift (fun _ => G_callVi C 0 10 kd_X10_isDigit ui_X10_isDigit us_X10_isDigit um_X10_161 rfl rfl (c_X10_isDigit l K b r2 (r2 8 4) r5 hr5) dX10_next_107 rfl rfl (Nat.le_of_ble_eq_true rfl) (Nat.le_of_ble_eq_true rfl)) ?_
      refine GO_if_eq C 120 dX10_next_110 rfl (fun h3 => ?_) (fun h3 => ?_)
      · refine GO.lift (fun _ => G_aload_n C 0 dX10_next_120 rfl) ?_
        refine GO.lift (fun _ => G_aload_n C 0 dX10_next_121 rfl) ?_
        refine GO.lift (fun _ => G_get C 0 7 dX10_next_122 inlX10 uf_X10_29 rfl (by decide) rfl rfl rfl) ?_
        refine GO.lift (fun _ => G_aload_n C 0 dX10_next_125 rfl) ?_
        refine GO.lift (fun _ => G_get C 0 11 dX10_next_126 inlX10 uf_X10_142 rfl (by decide) rfl rfl rfl) ?_
        refine GO.guard (fun h4 => ?_)
        refine GO.lift (fun _ => G_iald C 7 dX10_next_129 rfl (gin_in h4)) ?_
        refine GO.lift (fun _ => G_bipush C dX10_next_130 (v := 59) rfl) ?_
        refine GO_icmp_ne C 139 dX10_next_132 rfl (fun h5 => ?_) (fun h5 => ?_)
        · refine GO.lift (fun _ => G_iconst C dX10_next_135 (v := 3) rfl) ?_
          refine GO.lift (fun _ => G_goto C 140 dX10_next_136 rfl) ?_
          refine GO.sub [0] rfl ?_
          exact g_X10_next_L140 C r2 3
        · refine GO.lift (fun _ => G_iconst C dX10_next_139 (v := 4) rfl) ?_
          refine GO.sub [0] rfl ?_
          exact g_X10_next_L140 C r2 4
      · refine GO.lift (fun _ => G_aload_n C 0 dX10_next_113 rfl) ?_
        refine GO.bind (fun r6 hr6 => ?_)
        refine GO.lift (fun _ => G_callVv C 0 10 kd_X10_nextNumber ui_X10_nextNumber us_X10_nextNumber um_X10_164 rfl rfl (c_X10_nextNumber l K b r2  r6 hr6) dX10_next_114 rfl rfl (Nat.le_of_ble_eq_true rfl) (Nat.le_of_ble_eq_true rfl)) ?_
        refine GO.lift (fun _ => G_goto C 153 dX10_next_117 rfl) ?_
        exact GO.fin (G_vret C dX10_next_153 rfl)
    · refine GO.lift (fun _ => G_aload_n C 0 dX10_next_95 rfl) ?_
      refine GO.bind (fun r7 hr7 => ?_)
      refine GO.lift (fun _ => G_callVv C 0 10 kd_X10_nextWord ui_X10_nextWord us_X10_nextWord um_X10_158 rfl rfl (c_X10_nextWord l K b r2  r7 hr7) dX10_next_96 rfl rfl (Nat.le_of_ble_eq_true rfl) (Nat.le_of_ble_eq_true rfl)) ?_
      refine GO.lift (fun _ => G_goto C 153 dX10_next_99 rfl) ?_
      exact GO.fin (G_vret C dX10_next_153 rfl)
def o_X10_next_L0 : Nat → SM → Option (SM)
  | 0, _ => none
  | fuel + 1, X => if (X 8 4) < (X 8 1) then if gin (X 8 4) 1200 = true then (if ((X 6) (X 8 4).toNatClampNeg) = 32 then lt1 (sU X 8 (upd (X 8) 4 ((X 8 4) + 1))) (fun r1 => o_X10_next_L0 fuel r1) else if gin (X 8 4) 1200 = true then (if ((X 6) (X 8 4).toNatClampNeg) = 10 then lt1 (sU X 8 (upd (X 8) 4 ((X 8 4) + 1))) (fun r2 => o_X10_next_L0 fuel r2) else o_X10_next_L52 X) else none) else none else o_X10_next_L52 X
theorem g_X10_next_L0 {l : Launch} {K : gK} {Γ : gT} {b : Nat → Nat} (C : Cx l K Γ RX10 cX10_next 1 none 2) : ∀ (k : Nat) (X : SM), GO l K Γ (mo_W K b X) 0 1 [(0, .ref (b 0))] [] (fun z => (none, mo_W K b z)) (o_X10_next_L0 k X) := by
  intro k
  induction k with
  | zero =>
    intro X
    exact fun r hr => nomatch hr
  | succ k ih =>
    intro X
    rw [o_X10_next_L0]
    refine GO.lift (fun _ => G_aload_n C 0 dX10_next_0 rfl) ?_
    refine GO.lift (fun _ => G_get C 0 11 dX10_next_1 inlX10 uf_X10_142 rfl (by decide) rfl rfl rfl) ?_
    refine GO.lift (fun _ => G_aload_n C 0 dX10_next_4 rfl) ?_
    refine GO.lift (fun _ => G_get C 0 8 dX10_next_5 inlX10 uf_X10_139 rfl (by decide) rfl rfl rfl) ?_
    refine GO_icmp_ge C 52 dX10_next_8 rfl (fun h1 => ?_) (fun h1 => ?_)
    · refine GO.lift (fun _ => G_aload_n C 0 dX10_next_11 rfl) ?_
      refine GO.lift (fun _ => G_get C 0 7 dX10_next_12 inlX10 uf_X10_29 rfl (by decide) rfl rfl rfl) ?_
      refine GO.lift (fun _ => G_aload_n C 0 dX10_next_15 rfl) ?_
      refine GO.lift (fun _ => G_get C 0 11 dX10_next_16 inlX10 uf_X10_142 rfl (by decide) rfl rfl rfl) ?_
      refine GO.guard (fun h2 => ?_)
      refine GO.lift (fun _ => G_iald C 7 dX10_next_19 rfl (gin_in h2)) ?_
      refine GO.lift (fun _ => G_bipush C dX10_next_20 (v := 32) rfl) ?_
      refine GO_icmp_eq C 39 dX10_next_22 rfl (fun h3 => ?_) (fun h3 => ?_)
      · refine GO.lift (fun _ => G_aload_n C 0 dX10_next_39 rfl) ?_
        refine GO.lift (fun _ => G_dup C dX10_next_40 rfl) ?_
        refine GO.lift (fun _ => G_get C 0 11 dX10_next_41 inlX10 uf_X10_142 rfl (by decide) rfl rfl rfl) ?_
        refine GO.lift (fun _ => G_iconst C dX10_next_44 (v := 1) rfl) ?_
        refine GO.lift (fun _ => G_iadd C dX10_next_45) ?_
        refine GO.letS (fun r1 hr1 => ?_)
        refine GO.lift (fun _ => G_put (ws' := mo_W K b r1) C 0 11 tyX10 .int dX10_next_46 inlX10 uf_X10_142 tyX10_ok nmX10 rfl (by decide) rfl rfl rfl rfl rfl rfl (Nat.le_of_ble_eq_true rfl) (by cases hr1; rfl)) ?_
        refine GO.lift (fun _ => G_goto C 0 dX10_next_49 rfl) ?_
        refine GO.sub [0] rfl ?_
        exact ih r1
      · refine GO.lift (fun _ => G_aload_n C 0 dX10_next_25 rfl) ?_
        refine GO.lift (fun _ => G_get C 0 7 dX10_next_26 inlX10 uf_X10_29 rfl (by decide) rfl rfl rfl) ?_
        refine GO.lift (fun _ => G_aload_n C 0 dX10_next_29 rfl) ?_
        refine GO.lift (fun _ => G_get C 0 11 dX10_next_30 inlX10 uf_X10_142 rfl (by decide) rfl rfl rfl) ?_
        refine GO.guard (fun h4 => ?_)
        refine GO.lift (fun _ => G_iald C 7 dX10_next_33 rfl (gin_in h4)) ?_
        refine GO.lift (fun _ => G_bipush C dX10_next_34 (v := 10) rfl) ?_
        refine GO_icmp_ne C 52 dX10_next_36 rfl (fun h5 => ?_) (fun h5 => ?_)
        · refine GO.lift (fun _ => G_aload_n C 0 dX10_next_39 rfl) ?_
          refine GO.lift (fun _ => G_dup C dX10_next_40 rfl) ?_
          refine GO.lift (fun _ => G_get C 0 11 dX10_next_41 inlX10 uf_X10_142 rfl (by decide) rfl rfl rfl) ?_
          refine GO.lift (fun _ => G_iconst C dX10_next_44 (v := 1) rfl) ?_
          refine GO.lift (fun _ => G_iadd C dX10_next_45) ?_
          refine GO.letS (fun r2 hr2 => ?_)
          refine GO.lift (fun _ => G_put (ws' := mo_W K b r2) C 0 11 tyX10 .int dX10_next_46 inlX10 uf_X10_142 tyX10_ok nmX10 rfl (by decide) rfl rfl rfl rfl rfl rfl (Nat.le_of_ble_eq_true rfl) (by cases hr2; rfl)) ?_
          refine GO.lift (fun _ => G_goto C 0 dX10_next_49 rfl) ?_
          refine GO.sub [0] rfl ?_
          exact ih r2
        · refine GO.sub [0] rfl ?_
          exact g_X10_next_L52 C X
    · refine GO.sub [0] rfl ?_
      exact g_X10_next_L52 C X
def o_X10_next (X : SM) : Option (SM) := o_X10_next_L0 4000 X
theorem c_X10_next (l : Launch) (K : gK) (b : Nat → Nat) (X : SM) (r : SM) (hr : o_X10_next X = some r) : Ct l K yX10_next cX10_next 1 none 2 [.ref (b 0)] (mo_W K b X) (none, mo_W K b r) := by
  refine Ct.of (own := RX10) (fun z => (none, mo_W K b z)) (x := r) (by decide) rfl (Nat.le_of_ble_eq_true rfl) (fun Γ C => GO.out (x := o_X10_next X) ?_ hr)
  unfold o_X10_next
  refine GO.sub [0] rfl ?_
  exact g_X10_next_L0 C _ X
/-! X10_is -/
theorem kd_X10_is : Card yX10_is cX10_is 2 (some .boolean) 1 := ⟨uc_X10_is, un_X10, ⟨by decide, by decide, by decide⟩, by decide⟩
def o_X10_is (X : SM) (x1 : Int32) : Option (Int32) := if (X 8 6) = 1 then if (X 8 7) = x1 then some 1 else some 0 else some 0
theorem c_X10_is (l : Launch) (K : gK) (b : Nat → Nat) (X : SM) (x1 : Int32) (r : Int32) (hr : o_X10_is X x1 = some r) : Ct l K yX10_is cX10_is 2 (some .boolean) 0 [.ref (b 0), .int x1] (mo_W K b X) (some (.int r), mo_W K b X) := by
  refine Ct.of (own := RX10) (fun z => (some (.int z), mo_W K b X)) (x := r) (by decide) rfl (Nat.le_of_ble_eq_true rfl) (fun Γ C => GO.out (x := o_X10_is X x1) ?_ hr)
  unfold o_X10_is
  refine GO.lift (fun _ => G_aload_n C 0 dX10_is_0 rfl) ?_
  refine GO.lift (fun _ => G_get C 0 13 dX10_is_1 inlX10 uf_X10_151 rfl (by decide) rfl rfl rfl) ?_
  refine GO.lift (fun _ => G_iconst C dX10_is_4 (v := 1) rfl) ?_
  refine GO_icmp_ne C 20 dX10_is_5 rfl (fun h1 => ?_) (fun h1 => ?_)
  · refine GO.lift (fun _ => G_aload_n C 0 dX10_is_8 rfl) ?_
    refine GO.lift (fun _ => G_get C 0 14 dX10_is_9 inlX10 uf_X10_148 rfl (by decide) rfl rfl rfl) ?_
    refine GO.lift (fun _ => G_iload_n C 1 dX10_is_12 rfl) ?_
    refine GO_icmp_ne C 20 dX10_is_13 rfl (fun h2 => ?_) (fun h2 => ?_)
    · refine GO.lift (fun _ => G_iconst C dX10_is_16 (v := 1) rfl) ?_
      refine GO.lift (fun _ => G_goto C 21 dX10_is_17 rfl) ?_
      exact GO.fin (G_zret C dX10_is_21 rfl rfl)
    · refine GO.lift (fun _ => G_iconst C dX10_is_20 (v := 0) rfl) ?_
      exact GO.fin (G_zret C dX10_is_21 rfl rfl)
  · refine GO.lift (fun _ => G_iconst C dX10_is_20 (v := 0) rfl) ?_
    exact GO.fin (G_zret C dX10_is_21 rfl rfl)
/-! X10_takes -/
theorem kd_X10_takes : Card yX10_takes cX10_takes 2 (some .boolean) 1 := ⟨uc_X10_takes, un_X10, ⟨by decide, by decide, by decide⟩, by decide⟩
def o_X10_takes (X : SM) (x1 : Int32) : Option (Int32 × SM) := if (X 8 8) = 0 then if x1 = 0 then lt1 (sU X 8 (upd (X 8) 8 1)) (fun r1 => lt1 (sU r1 8 (upd (r1 8) 2 (r1 8 5))) (fun r2 => some ((0, r2)))) else (o_X10_next X ).bind (fun r3 => some ((1, r3))) else some ((0, X))
theorem c_X10_takes (l : Launch) (K : gK) (b : Nat → Nat) (X : SM) (x1 : Int32) (r : Int32 × SM) (hr : o_X10_takes X x1 = some r) : Ct l K yX10_takes cX10_takes 2 (some .boolean) 3 [.ref (b 0), .int x1] (mo_W K b X) (some (.int r.1), mo_W K b r.2) := by
  refine Ct.of (own := RX10) (fun (z : Int32 × SM) => (some (.int z.1), mo_W K b z.2)) (x := r) (by decide) rfl (Nat.le_of_ble_eq_true rfl) (fun Γ C => GO.out (x := o_X10_takes X x1) ?_ hr)
  unfold o_X10_takes
  refine GO.lift (fun _ => G_aload_n C 0 dX10_takes_0 rfl) ?_
  refine GO.lift (fun _ => G_get C 0 15 dX10_takes_1 inlX10 uf_X10_167 rfl (by decide) rfl rfl rfl) ?_
  refine GO_if_eq C 9 dX10_takes_4 rfl (fun h1 => ?_) (fun h1 => ?_)
  · refine GO.lift (fun _ => G_iload_n C 1 dX10_takes_9 rfl) ?_
    refine GO_if_ne C 28 dX10_takes_10 rfl (fun h2 => ?_) (fun h2 => ?_)
    · refine GO.lift (fun _ => G_aload_n C 0 dX10_takes_13 rfl) ?_
      refine GO.lift (fun _ => G_iconst C dX10_takes_14 (v := 1) rfl) ?_
      refine GO.letS (fun r1 hr1 => ?_)
      refine GO.lift (fun _ => G_put (ws' := mo_W K b r1) C 0 15 tyX10 .boolean dX10_takes_15 inlX10 uf_X10_167 tyX10_ok nmX10 rfl (by decide) rfl rfl rfl rfl rfl rfl (Nat.le_of_ble_eq_true rfl) (by cases hr1; rfl)) ?_
      refine GO.lift (fun _ => G_aload_n C 0 dX10_takes_18 rfl) ?_
      refine GO.lift (fun _ => G_aload_n C 0 dX10_takes_19 rfl) ?_
      refine GO.lift (fun _ => G_get C 0 12 dX10_takes_20 inlX10 uf_X10_145 rfl (by decide) rfl rfl rfl) ?_
      refine GO.letS (fun r2 hr2 => ?_)
      refine GO.lift (fun _ => G_put (ws' := mo_W K b r2) C 0 9 tyX10 .int dX10_takes_23 inlX10 uf_X10_32 tyX10_ok nmX10 rfl (by decide) rfl rfl rfl rfl rfl rfl (Nat.le_of_ble_eq_true rfl) (by cases hr2; rfl)) ?_
      refine GO.lift (fun _ => G_iconst C dX10_takes_26 (v := 0) rfl) ?_
      exact GO.fin (G_zret C dX10_takes_27 rfl rfl)
    · refine GO.lift (fun _ => G_aload_n C 0 dX10_takes_28 rfl) ?_
      refine GO.bind (fun r3 hr3 => ?_)
      refine GO.lift (fun _ => G_callVv C 0 10 kd_X10_next ui_X10_next us_X10_next um_X10_171 rfl rfl (c_X10_next l K b X  r3 hr3) dX10_takes_29 rfl rfl (Nat.le_of_ble_eq_true rfl) (Nat.le_of_ble_eq_true rfl)) ?_
      refine GO.lift (fun _ => G_iconst C dX10_takes_32 (v := 1) rfl) ?_
      exact GO.fin (G_zret C dX10_takes_33 rfl rfl)
  · refine GO.lift (fun _ => G_iconst C dX10_takes_7 (v := 0) rfl) ?_
    exact GO.fin (G_zret C dX10_takes_8 rfl rfl)
/-! X10_takesNumber -/
theorem kd_X10_takesNumber : Card yX10_takesNumber cX10_takesNumber 4 (some .int) 2 := ⟨uc_X10_takesNumber, un_X10, ⟨by decide, by decide, by decide⟩, by decide⟩
def o_X10_takesNumber_L28 (X : SM) (x1 : Int32) (x2 : Int32) (x3 : Int32) (t0 : Int32) : Option (Int32 × SM) := (o_X10_takes X t0).bind (fun r1 => if r1.1 = 0 then some ((0, r1.2)) else some ((x3, r1.2)))
theorem g_X10_takesNumber_L28 {l : Launch} {K : gK} {Γ : gT} {b : Nat → Nat} (C : Cx l K Γ RX10 cX10_takesNumber 4 (some .int) 4) (X : SM) (x1 : Int32) (x2 : Int32) (x3 : Int32) (t0 : Int32) : GO l K Γ (mo_W K b X) 28 4 [(0, .ref (b 0)), (1, .int x1), (2, .int x2), (3, .int x3)] [.int t0, .ref (b 0)] (fun (z : Int32 × SM) => (some (.int z.1), mo_W K b z.2)) (o_X10_takesNumber_L28 X x1 x2 x3 t0) := by
  unfold o_X10_takesNumber_L28
  refine GO.bind (fun r1 hr1 => ?_)
  refine GO.lift (fun _ => G_callVi C 0 10 kd_X10_takes ui_X10_takes us_X10_takes um_X10_174 rfl rfl (c_X10_takes l K b X t0 r1 hr1) dX10_takesNumber_28 rfl rfl (Nat.le_of_ble_eq_true rfl) (Nat.le_of_ble_eq_true rfl)) ?_
  refine GO_if_eq C 38 dX10_takesNumber_31 rfl (fun h1 => ?_) (fun h1 => ?_)
  · refine GO.lift (fun _ => G_iconst C dX10_takesNumber_38 (v := 0) rfl) ?_
    exact GO.fin (G_iret C dX10_takesNumber_39 rfl)
  · refine GO.lift (fun _ => G_iload_n C 3 dX10_takesNumber_34 rfl) ?_
    refine GO.lift (fun _ => G_goto C 39 dX10_takesNumber_35 rfl) ?_
    exact GO.fin (G_iret C dX10_takesNumber_39 rfl)
def o_X10_takesNumber_L27 (X : SM) (x1 : Int32) (x2 : Int32) (x3 : Int32) : Option (Int32 × SM) := o_X10_takesNumber_L28 X x1 x2 x3 0
theorem g_X10_takesNumber_L27 {l : Launch} {K : gK} {Γ : gT} {b : Nat → Nat} (C : Cx l K Γ RX10 cX10_takesNumber 4 (some .int) 4) (X : SM) (x1 : Int32) (x2 : Int32) (x3 : Int32) : GO l K Γ (mo_W K b X) 27 4 [(0, .ref (b 0)), (1, .int x1), (2, .int x2), (3, .int x3)] [.ref (b 0)] (fun (z : Int32 × SM) => (some (.int z.1), mo_W K b z.2)) (o_X10_takesNumber_L27 X x1 x2 x3) := by
  unfold o_X10_takesNumber_L27
  refine GO.lift (fun _ => G_iconst C dX10_takesNumber_27 (v := 0) rfl) ?_
  refine GO.sub [0, 1, 2, 3] rfl ?_
  exact g_X10_takesNumber_L28 C X x1 x2 x3 0
def o_X10_takesNumber (X : SM) (x1 : Int32) (x2 : Int32) : Option (Int32 × SM) := if (X 8 6) = 2 then if (v_X10_in (X 8 7) x1 x2) = 0 then o_X10_takesNumber_L27 X x1 x2 (X 8 7) else o_X10_takesNumber_L28 X x1 x2 (X 8 7) 1 else o_X10_takesNumber_L27 X x1 x2 (X 8 7)
theorem c_X10_takesNumber (l : Launch) (K : gK) (b : Nat → Nat) (X : SM) (x1 : Int32) (x2 : Int32) (r : Int32 × SM) (hr : o_X10_takesNumber X x1 x2 = some r) : Ct l K yX10_takesNumber cX10_takesNumber 4 (some .int) 4 [.ref (b 0), .int x1, .int x2] (mo_W K b X) (some (.int r.1), mo_W K b r.2) := by
  refine Ct.of (own := RX10) (fun (z : Int32 × SM) => (some (.int z.1), mo_W K b z.2)) (x := r) (by decide) rfl (Nat.le_of_ble_eq_true rfl) (fun Γ C => GO.out (x := o_X10_takesNumber X x1 x2) ?_ hr)
  unfold o_X10_takesNumber
  refine GO.lift (fun _ => G_aload_n C 0 dX10_takesNumber_0 rfl) ?_
  refine GO.lift (fun _ => G_get C 0 14 dX10_takesNumber_1 inlX10 uf_X10_148 rfl (by decide) rfl rfl rfl) ?_
  refine GO.lift (fun _ => G_istore_n (lv' := [(3, .int (X 8 7)), (0, .ref (b 0)), (1, .int x1), (2, .int x2)]) C dX10_takesNumber_4 (by decide) rfl) ?_
  refine GO.lift (fun _ => G_aload_n C 1 dX10_takesNumber_5 rfl) ?_
  refine GO.lift (fun _ => G_aload_n C 1 dX10_takesNumber_6 rfl) ?_
  refine GO.lift (fun _ => G_get C 0 13 dX10_takesNumber_7 inlX10 uf_X10_151 rfl (by decide) rfl rfl rfl) ?_
  refine GO.lift (fun _ => G_iconst C dX10_takesNumber_10 (v := 2) rfl) ?_
  refine GO_icmp_ne C 27 dX10_takesNumber_11 rfl (fun h1 => ?_) (fun h1 => ?_)
  · refine GO.lift (fun _ => G_iload_n C 0 dX10_takesNumber_14 rfl) ?_
    refine GO.lift (fun _ => G_iload_n C 2 dX10_takesNumber_15 rfl) ?_
    refine GO.lift (fun _ => G_iload_n C 3 dX10_takesNumber_16 rfl) ?_
    refine GO.lift (fun _ => G_callSi C kd_X10_in ut_X10_in um_X10_58 (c_X10_in l K (mo_W K b X) (X 8 7) x1 x2) dX10_takesNumber_17 rfl rfl (Nat.le_of_ble_eq_true rfl) (Nat.le_of_ble_eq_true rfl)) ?_
    refine GO_if_eq C 27 dX10_takesNumber_20 rfl (fun h2 => ?_) (fun h2 => ?_)
    · refine GO.sub [1, 2, 3, 0] rfl ?_
      exact g_X10_takesNumber_L27 C X x1 x2 (X 8 7)
    · refine GO.lift (fun _ => G_iconst C dX10_takesNumber_23 (v := 1) rfl) ?_
      refine GO.lift (fun _ => G_goto C 28 dX10_takesNumber_24 rfl) ?_
      refine GO.sub [1, 2, 3, 0] rfl ?_
      exact g_X10_takesNumber_L28 C X x1 x2 (X 8 7) 1
  · refine GO.sub [1, 2, 3, 0] rfl ?_
    exact g_X10_takesNumber_L27 C X x1 x2 (X 8 7)
/-! X10_takesRule -/
theorem kd_X10_takesRule : Card yX10_takesRule cX10_takesRule 3 (some .int) 2 := ⟨uc_X10_takesRule, un_X10, ⟨by decide, by decide, by decide⟩, by decide⟩
def o_X10_takesRule (X : SM) (x1 : Int32) (x2 : Int32) : Option (Int32 × SM) := (o_X10_is X x1).bind (fun r1 => (o_X10_takes X r1).bind (fun r2 => (o_X10_takesNumber r2.2 1 x2).bind (fun r3 => some ((r3.1, r3.2)))))
theorem c_X10_takesRule (l : Launch) (K : gK) (b : Nat → Nat) (X : SM) (x1 : Int32) (x2 : Int32) (r : Int32 × SM) (hr : o_X10_takesRule X x1 x2 = some r) : Ct l K yX10_takesRule cX10_takesRule 3 (some .int) 5 [.ref (b 0), .int x1, .int x2] (mo_W K b X) (some (.int r.1), mo_W K b r.2) := by
  refine Ct.of (own := RX10) (fun (z : Int32 × SM) => (some (.int z.1), mo_W K b z.2)) (x := r) (by decide) rfl (Nat.le_of_ble_eq_true rfl) (fun Γ C => GO.out (x := o_X10_takesRule X x1 x2) ?_ hr)
  unfold o_X10_takesRule
  refine GO.lift (fun _ => G_aload_n C 0 dX10_takesRule_0 rfl) ?_
  refine GO.lift (fun _ => G_aload_n C 0 dX10_takesRule_1 rfl) ?_
  refine GO.lift (fun _ => G_iload_n C 1 dX10_takesRule_2 rfl) ?_
  refine GO.bind (fun r1 hr1 => ?_)
  refine GO.lift (fun _ => G_callVi C 0 10 kd_X10_is ui_X10_is us_X10_is um_X10_178 rfl rfl (c_X10_is l K b X x1 r1 hr1) dX10_takesRule_3 rfl rfl (Nat.le_of_ble_eq_true rfl) (Nat.le_of_ble_eq_true rfl)) ?_
  refine GO.bind (fun r2 hr2 => ?_)
  refine GO.lift (fun _ => G_callVi C 0 10 kd_X10_takes ui_X10_takes us_X10_takes um_X10_174 rfl rfl (c_X10_takes l K b X r1 r2 hr2) dX10_takesRule_6 rfl rfl (Nat.le_of_ble_eq_true rfl) (Nat.le_of_ble_eq_true rfl)) ?_
  refine GO.lift (fun _ => G_pop C dX10_takesRule_9 rfl) ?_
  refine GO.lift (fun _ => G_aload_n C 0 dX10_takesRule_10 rfl) ?_
  refine GO.lift (fun _ => G_iconst C dX10_takesRule_11 (v := 1) rfl) ?_
  refine GO.lift (fun _ => G_iload_n C 2 dX10_takesRule_12 rfl) ?_
  refine GO.bind (fun r3 hr3 => ?_)
  refine GO.lift (fun _ => G_callVi C 0 10 kd_X10_takesNumber ui_X10_takesNumber us_X10_takesNumber um_X10_181 rfl rfl (c_X10_takesNumber l K b r2.2 1 x2 r3 hr3) dX10_takesRule_13 rfl rfl (Nat.le_of_ble_eq_true rfl) (Nat.le_of_ble_eq_true rfl)) ?_
  exact GO.fin (G_iret C dX10_takesRule_16 rfl)
/-! X10_isNamed -/
theorem kd_X10_isNamed : Card yX10_isNamed cX10_isNamed 3 (some .boolean) 2 := ⟨uc_X10_isNamed, un_X10, ⟨by decide, by decide, by decide⟩, by decide⟩
def o_X10_isNamed_L2 : Nat → (Nat → Int32) → Int32 → Int32 → Option (Int32)
  | 0, _, _, _ => none
  | fuel + 1, g, x1, x2 => if x2 < (g (4 : Int32).toNatClampNeg) then if gin (v_X10_officeAt x2 1) 336 = true then (if (g (v_X10_officeAt x2 1).toNatClampNeg) = x1 then some 1 else o_X10_isNamed_L2 fuel g x1 (x2 + 1)) else none else some 0
theorem g_X10_isNamed_L2 {l : Launch} {K : gK} {Γ : gT} {ws : va_W} {q ad : Nat} (hq : q < ws.length) (C : Cx l K Γ RX10 cX10_isNamed 3 (some .boolean) 1) : ∀ (k : Nat) (g : Nat → Int32) (x1 : Int32) (x2 : Int32), GO l K Γ (mW K ws q ad 336 g) 2 3 [(0, .ref ad), (1, .int x1), (2, .int x2)] [] (fun z => (some (.int z), mW K ws q ad 336 g)) (o_X10_isNamed_L2 k g x1 x2) := by
  intro k
  induction k with
  | zero =>
    intro g x1 x2
    exact fun r hr => nomatch hr
  | succ k ih =>
    intro g x1 x2
    rw [o_X10_isNamed_L2]
    refine GO.lift (fun _ => G_iload_n C 2 dX10_isNamed_2 rfl) ?_
    refine GO.lift (fun _ => G_aload_n C 0 dX10_isNamed_3 rfl) ?_
    refine GO.lift (fun _ => G_iconst C dX10_isNamed_4 (v := 4) rfl) ?_
    refine GO.lift (fun _ => G_iald C q dX10_isNamed_5 (mW_at hq) (by unfold vp_in; decide)) ?_
    refine GO_icmp_ge C 28 dX10_isNamed_6 rfl (fun h1 => ?_) (fun h1 => ?_)
    · refine GO.lift (fun _ => G_aload_n C 0 dX10_isNamed_9 rfl) ?_
      refine GO.lift (fun _ => G_iload_n C 2 dX10_isNamed_10 rfl) ?_
      refine GO.lift (fun _ => G_iconst C dX10_isNamed_11 (v := 1) rfl) ?_
      refine GO.lift (fun _ => G_callSi C kd_X10_officeAt ut_X10_officeAt um_X10_54 (c_X10_officeAt l K (mW K ws q ad 336 g) x2 1) dX10_isNamed_12 rfl rfl (Nat.le_of_ble_eq_true rfl) (Nat.le_of_ble_eq_true rfl)) ?_
      refine GO.guard (fun h2 => ?_)
      refine GO.lift (fun _ => G_iald C q dX10_isNamed_15 (mW_at hq) (gin_in h2)) ?_
      refine GO.lift (fun _ => G_iload_n C 1 dX10_isNamed_16 rfl) ?_
      refine GO_icmp_ne C 22 dX10_isNamed_17 rfl (fun h3 => ?_) (fun h3 => ?_)
      · refine GO.lift (fun _ => G_iconst C dX10_isNamed_20 (v := 1) rfl) ?_
        exact GO.fin (G_zret C dX10_isNamed_21 rfl rfl)
      · refine GO.lift (fun _ => G_iinc (lv' := [(2, .int (x2 + 1)), (0, .ref ad), (1, .int x1)]) C 2 dX10_isNamed_22 rfl rfl (by decide) rfl) ?_
        refine GO.lift (fun _ => G_goto C 2 dX10_isNamed_25 rfl) ?_
        refine GO.sub [1, 2, 0] rfl ?_
        exact ih g x1 (x2 + 1)
    · refine GO.lift (fun _ => G_iconst C dX10_isNamed_28 (v := 0) rfl) ?_
      exact GO.fin (G_zret C dX10_isNamed_29 rfl rfl)
def o_X10_isNamed (g : Nat → Int32) (x1 : Int32) : Option (Int32) := o_X10_isNamed_L2 4000 g x1 0
theorem c_X10_isNamed (l : Launch) (K : gK) {ws : va_W} {q ad : Nat} (hq : q < ws.length) (g : Nat → Int32) (x1 : Int32) (r : Int32) (hr : o_X10_isNamed g x1 = some r) : Ct l K yX10_isNamed cX10_isNamed 3 (some .boolean) 1 [.ref ad, .int x1] (mW K ws q ad 336 g) (some (.int r), mW K ws q ad 336 g) := by
  refine Ct.of (own := RX10) (fun z => (some (.int z), mW K ws q ad 336 g)) (x := r) (by decide) rfl (Nat.le_of_ble_eq_true rfl) (fun Γ C => GO.out (x := o_X10_isNamed g x1) ?_ hr)
  unfold o_X10_isNamed
  refine GO.lift (fun _ => G_iconst C dX10_isNamed_0 (v := 0) rfl) ?_
  refine GO.lift (fun _ => G_istore_n (lv' := [(2, .int 0), (0, .ref ad), (1, .int x1)]) C dX10_isNamed_1 (by decide) rfl) ?_
  refine GO.sub [1, 2, 0] rfl ?_
  exact g_X10_isNamed_L2 hq C _ g x1 0
/-! X10_readOffice -/
theorem kd_X10_readOffice : Card yX10_readOffice cX10_readOffice 4 none 0 := ⟨uc_X10_readOffice, un_X10, ⟨by decide, by decide, by decide⟩, by decide⟩
def o_X10_readOffice_L123 (X : SM) (x1 : Int32) (x2 : Int32) (x3 : Int32) (t0 : Int32) : Option (SM) := (o_X10_takes X t0).bind (fun r1 => if r1.1 = 0 then some r1.2 else (o_X10_addOffice (r1.2 1) x1 x2 x3).bind (fun r2 => lt1 (sU r1.2 1 r2) (fun r3 => some r3)))
theorem g_X10_readOffice_L123 {l : Launch} {K : gK} {Γ : gT} {b : Nat → Nat} (C : Cx l K Γ RX10 cX10_readOffice 4 none 5) (X : SM) (x1 : Int32) (x2 : Int32) (x3 : Int32) (t0 : Int32) : GO l K Γ (mo_W K b X) 123 4 [(0, .ref (b 0)), (1, .int x1), (2, .int x2), (3, .int x3)] [.int t0, .ref (b 0)] (fun z => (none, mo_W K b z)) (o_X10_readOffice_L123 X x1 x2 x3 t0) := by
  unfold o_X10_readOffice_L123
  refine GO.bind (fun r1 hr1 => ?_)
  refine GO.lift (fun _ => G_callVi C 0 10 kd_X10_takes ui_X10_takes us_X10_takes um_X10_174 rfl rfl (c_X10_takes l K b X t0 r1 hr1) dX10_readOffice_123 rfl rfl (Nat.le_of_ble_eq_true rfl) (Nat.le_of_ble_eq_true rfl)) ?_
  refine GO_if_eq C 139 dX10_readOffice_126 rfl (fun h1 => ?_) (fun h1 => ?_)
  · exact GO.fin (G_vret C dX10_readOffice_139 rfl)
  · refine GO.lift (fun _ => G_aload_n C 0 dX10_readOffice_129 rfl) ?_
    refine GO.lift (fun _ => G_get C 0 1 dX10_readOffice_130 inlX10 uf_X10_13 rfl (by decide) rfl rfl rfl) ?_
    refine GO.lift (fun _ => G_iload_n C 1 dX10_readOffice_133 rfl) ?_
    refine GO.lift (fun _ => G_iload_n C 2 dX10_readOffice_134 rfl) ?_
    refine GO.lift (fun _ => G_iload_n C 3 dX10_readOffice_135 rfl) ?_
    refine GO.bind (fun r2 hr2 => ?_)
    refine GO.letS (fun r3 hr3 => ?_)
    refine GO.lift (fun _ => G_callSv C kd_X10_addOffice ut_X10_addOffice um_X10_39 (Ct.to (r' := (none, mo_W K b r3)) (Ct.from (c_X10_addOffice l K (ws := mo_W K b r1.2) (q := 2) (ad := b 2) (Nat.le_of_ble_eq_true rfl) (r1.2 1) x1 x2 x3 r2 hr2) rfl) (by cases hr3; rfl)) dX10_readOffice_136 rfl rfl (Nat.le_of_ble_eq_true rfl) (Nat.le_of_ble_eq_true rfl)) ?_
    exact GO.fin (G_vret C dX10_readOffice_139 rfl)
def o_X10_readOffice_L109 (X : SM) (x1 : Int32) (x2 : Int32) (x3 : Int32) : Option (SM) := if (X 8 6) = 3 then o_X10_readOffice_L123 X x1 x2 x3 1 else o_X10_readOffice_L123 X x1 x2 x3 0
theorem g_X10_readOffice_L109 {l : Launch} {K : gK} {Γ : gT} {b : Nat → Nat} (C : Cx l K Γ RX10 cX10_readOffice 4 none 5) (X : SM) (x1 : Int32) (x2 : Int32) (x3 : Int32) : GO l K Γ (mo_W K b X) 109 4 [(0, .ref (b 0)), (1, .int x1), (2, .int x2), (3, .int x3)] [] (fun z => (none, mo_W K b z)) (o_X10_readOffice_L109 X x1 x2 x3) := by
  unfold o_X10_readOffice_L109
  refine GO.lift (fun _ => G_aload_n C 0 dX10_readOffice_109 rfl) ?_
  refine GO.lift (fun _ => G_aload_n C 0 dX10_readOffice_110 rfl) ?_
  refine GO.lift (fun _ => G_get C 0 13 dX10_readOffice_111 inlX10 uf_X10_151 rfl (by decide) rfl rfl rfl) ?_
  refine GO.lift (fun _ => G_iconst C dX10_readOffice_114 (v := 3) rfl) ?_
  refine GO_icmp_ne C 122 dX10_readOffice_115 rfl (fun h1 => ?_) (fun h1 => ?_)
  · refine GO.lift (fun _ => G_iconst C dX10_readOffice_118 (v := 1) rfl) ?_
    refine GO.lift (fun _ => G_goto C 123 dX10_readOffice_119 rfl) ?_
    refine GO.sub [0, 1, 2, 3] rfl ?_
    exact g_X10_readOffice_L123 C X x1 x2 x3 1
  · refine GO.lift (fun _ => G_iconst C dX10_readOffice_122 (v := 0) rfl) ?_
    refine GO.sub [0, 1, 2, 3] rfl ?_
    exact g_X10_readOffice_L123 C X x1 x2 x3 0
def o_X10_readOffice_L83 (X : SM) (x1 : Int32) (x2 : Int32) (x3 : Int32) (t0 : Int32) : Option (SM) := (o_X10_takes X t0).bind (fun r1 => if (r1.2 8 8) = 0 then (o_X10_is r1.2 380396).bind (fun r2 => if r2 = 0 then o_X10_readOffice_L109 r1.2 x1 x2 x3 else (o_X10_next r1.2 ).bind (fun r3 => o_X10_readOffice_L109 r3 x1 x2 0)) else o_X10_readOffice_L109 r1.2 x1 x2 x3)
theorem g_X10_readOffice_L83 {l : Launch} {K : gK} {Γ : gT} {b : Nat → Nat} (C : Cx l K Γ RX10 cX10_readOffice 4 none 5) (X : SM) (x1 : Int32) (x2 : Int32) (x3 : Int32) (t0 : Int32) : GO l K Γ (mo_W K b X) 83 4 [(0, .ref (b 0)), (1, .int x1), (2, .int x2), (3, .int x3)] [.int t0, .ref (b 0)] (fun z => (none, mo_W K b z)) (o_X10_readOffice_L83 X x1 x2 x3 t0) := by
  unfold o_X10_readOffice_L83
  refine GO.bind (fun r1 hr1 => ?_)
  refine GO.lift (fun _ => G_callVi C 0 10 kd_X10_takes ui_X10_takes us_X10_takes um_X10_174 rfl rfl (c_X10_takes l K b X t0 r1 hr1) dX10_readOffice_83 rfl rfl (Nat.le_of_ble_eq_true rfl) (Nat.le_of_ble_eq_true rfl)) ?_
  refine GO.lift (fun _ => G_pop C dX10_readOffice_86 rfl) ?_
  refine GO.lift (fun _ => G_aload_n C 0 dX10_readOffice_87 rfl) ?_
  refine GO.lift (fun _ => G_get C 0 15 dX10_readOffice_88 inlX10 uf_X10_167 rfl (by decide) rfl rfl rfl) ?_
  refine GO_if_ne C 109 dX10_readOffice_91 rfl (fun h1 => ?_) (fun h1 => ?_)
  · refine GO.lift (fun _ => G_aload_n C 0 dX10_readOffice_94 rfl) ?_
    refine GO.lift (fun _ => G_ldc C dX10_readOffice_95 uk_X10_188) ?_
    refine GO.bind (fun r2 hr2 => ?_)
    refine GO.lift (fun _ => G_callVi C 0 10 kd_X10_is ui_X10_is us_X10_is um_X10_178 rfl rfl (c_X10_is l K b r1.2 380396 r2 hr2) dX10_readOffice_97 rfl rfl (Nat.le_of_ble_eq_true rfl) (Nat.le_of_ble_eq_true rfl)) ?_
    refine GO_if_eq C 109 dX10_readOffice_100 rfl (fun h2 => ?_) (fun h2 => ?_)
    · refine GO.sub [0, 1, 2, 3] rfl ?_
      exact g_X10_readOffice_L109 C r1.2 x1 x2 x3
    · refine GO.lift (fun _ => G_aload_n C 0 dX10_readOffice_103 rfl) ?_
      refine GO.bind (fun r3 hr3 => ?_)
      refine GO.lift (fun _ => G_callVv C 0 10 kd_X10_next ui_X10_next us_X10_next um_X10_171 rfl rfl (c_X10_next l K b r1.2  r3 hr3) dX10_readOffice_104 rfl rfl (Nat.le_of_ble_eq_true rfl) (Nat.le_of_ble_eq_true rfl)) ?_
      refine GO.lift (fun _ => G_iconst C dX10_readOffice_107 (v := 0) rfl) ?_
      refine GO.lift (fun _ => G_istore_n (lv' := [(3, .int 0), (0, .ref (b 0)), (1, .int x1), (2, .int x2)]) C dX10_readOffice_108 (by decide) rfl) ?_
      refine GO.sub [1, 2, 3, 0] rfl ?_
      exact g_X10_readOffice_L109 C r3 x1 x2 0
  · refine GO.sub [0, 1, 2, 3] rfl ?_
    exact g_X10_readOffice_L109 C r1.2 x1 x2 x3
def o_X10_readOffice_L82 (X : SM) (x1 : Int32) (x2 : Int32) (x3 : Int32) : Option (SM) := o_X10_readOffice_L83 X x1 x2 x3 0
theorem g_X10_readOffice_L82 {l : Launch} {K : gK} {Γ : gT} {b : Nat → Nat} (C : Cx l K Γ RX10 cX10_readOffice 4 none 5) (X : SM) (x1 : Int32) (x2 : Int32) (x3 : Int32) : GO l K Γ (mo_W K b X) 82 4 [(0, .ref (b 0)), (1, .int x1), (2, .int x2), (3, .int x3)] [.ref (b 0)] (fun z => (none, mo_W K b z)) (o_X10_readOffice_L82 X x1 x2 x3) := by
  unfold o_X10_readOffice_L82
  refine GO.lift (fun _ => G_iconst C dX10_readOffice_82 (v := 0) rfl) ?_
  refine GO.sub [0, 1, 2, 3] rfl ?_
  exact g_X10_readOffice_L83 C X x1 x2 x3 0
def o_X10_readOffice_L26 (X : SM) (t0 : Int32) : Option (SM) := (o_X10_takes X t0).bind (fun r1 => if r1.1 = 0 then some r1.2 else (o_X10_takesNumber r1.2 1 9).bind (fun r2 => if (r2.2 8 6) = 2 then if (v_X10_in (r2.2 8 7) 1 99) = 0 then o_X10_readOffice_L82 r2.2 r2.1 (r2.2 8 7) 1 else (o_X10_isNamed (r2.2 1) (r2.2 8 7)).bind (fun r3 => if r3 = 0 then o_X10_readOffice_L83 r2.2 r2.1 (r2.2 8 7) 1 1 else o_X10_readOffice_L82 r2.2 r2.1 (r2.2 8 7) 1) else o_X10_readOffice_L82 r2.2 r2.1 (r2.2 8 7) 1))
theorem g_X10_readOffice_L26 {l : Launch} {K : gK} {Γ : gT} {b : Nat → Nat} (C : Cx l K Γ RX10 cX10_readOffice 4 none 5) (X : SM) (t0 : Int32) : GO l K Γ (mo_W K b X) 26 4 [(0, .ref (b 0))] [.int t0, .ref (b 0)] (fun z => (none, mo_W K b z)) (o_X10_readOffice_L26 X t0) := by
  unfold o_X10_readOffice_L26
  refine GO.bind (fun r1 hr1 => ?_)
  refine GO.lift (fun _ => G_callVi C 0 10 kd_X10_takes ui_X10_takes us_X10_takes um_X10_174 rfl rfl (c_X10_takes l K b X t0 r1 hr1) dX10_readOffice_26 rfl rfl (Nat.le_of_ble_eq_true rfl) (Nat.le_of_ble_eq_true rfl)) ?_
  refine GO_if_ne C 33 dX10_readOffice_29 rfl (fun h1 => ?_) (fun h1 => ?_)
  · exact GO.fin (G_vret C dX10_readOffice_32 rfl)
  · refine GO.lift (fun _ => G_aload_n C 0 dX10_readOffice_33 rfl) ?_
    refine GO.lift (fun _ => G_iconst C dX10_readOffice_34 (v := 1) rfl) ?_
    refine GO.lift (fun _ => G_bipush C dX10_readOffice_35 (v := 9) rfl) ?_
    refine GO.bind (fun r2 hr2 => ?_)
    refine GO.lift (fun _ => G_callVi C 0 10 kd_X10_takesNumber ui_X10_takesNumber us_X10_takesNumber um_X10_181 rfl rfl (c_X10_takesNumber l K b r1.2 1 9 r2 hr2) dX10_readOffice_37 rfl rfl (Nat.le_of_ble_eq_true rfl) (Nat.le_of_ble_eq_true rfl)) ?_
    refine GO.lift (fun _ => G_istore_n (lv' := [(1, .int r2.1), (0, .ref (b 0))]) C dX10_readOffice_40 (by decide) rfl) ?_
    refine GO.lift (fun _ => G_aload_n C 1 dX10_readOffice_41 rfl) ?_
    refine GO.lift (fun _ => G_get C 0 14 dX10_readOffice_42 inlX10 uf_X10_148 rfl (by decide) rfl rfl rfl) ?_
    refine GO.lift (fun _ => G_istore_n (lv' := [(2, .int (r2.2 8 7)), (1, .int r2.1), (0, .ref (b 0))]) C dX10_readOffice_45 (by decide) rfl) ?_
    refine GO.lift (fun _ => G_iconst C dX10_readOffice_46 (v := 1) rfl) ?_
    refine GO.lift (fun _ => G_istore_n (lv' := [(3, .int 1), (2, .int (r2.2 8 7)), (1, .int r2.1), (0, .ref (b 0))]) C dX10_readOffice_47 (by decide) rfl) ?_
    refine GO.lift (fun _ => G_aload_n C 3 dX10_readOffice_48 rfl) ?_
    refine GO.lift (fun _ => G_aload_n C 3 dX10_readOffice_49 rfl) ?_
    refine GO.lift (fun _ => G_get C 0 13 dX10_readOffice_50 inlX10 uf_X10_151 rfl (by decide) rfl rfl rfl) ?_
    refine GO.lift (fun _ => G_iconst C dX10_readOffice_53 (v := 2) rfl) ?_
    refine GO_icmp_ne C 82 dX10_readOffice_54 rfl (fun h2 => ?_) (fun h2 => ?_)
    · refine GO.lift (fun _ => G_iload_n C 1 dX10_readOffice_57 rfl) ?_
      refine GO.lift (fun _ => G_iconst C dX10_readOffice_58 (v := 1) rfl) ?_
      refine GO.lift (fun _ => G_bipush C dX10_readOffice_59 (v := 99) rfl) ?_
      refine GO.lift (fun _ => G_callSi C kd_X10_in ut_X10_in um_X10_58 (c_X10_in l K (mo_W K b r2.2) (r2.2 8 7) 1 99) dX10_readOffice_61 rfl rfl (Nat.le_of_ble_eq_true rfl) (Nat.le_of_ble_eq_true rfl)) ?_
      refine GO_if_eq C 82 dX10_readOffice_64 rfl (fun h3 => ?_) (fun h3 => ?_)
      · refine GO.sub [3, 2, 1, 0] rfl ?_
        exact g_X10_readOffice_L82 C r2.2 r2.1 (r2.2 8 7) 1
      · refine GO.lift (fun _ => G_aload_n C 3 dX10_readOffice_67 rfl) ?_
        refine GO.lift (fun _ => G_get C 0 1 dX10_readOffice_68 inlX10 uf_X10_13 rfl (by decide) rfl rfl rfl) ?_
        refine GO.lift (fun _ => G_iload_n C 1 dX10_readOffice_71 rfl) ?_
        refine GO.bind (fun r3 hr3 => ?_)
        refine GO.lift (fun _ => G_callSi C kd_X10_isNamed ut_X10_isNamed um_X10_185 (Ct.to (r' := (some (.int r3), mo_W K b r2.2)) (Ct.from (c_X10_isNamed l K (ws := mo_W K b r2.2) (q := 2) (ad := b 2) (Nat.le_of_ble_eq_true rfl) (r2.2 1) (r2.2 8 7) r3 hr3) rfl) rfl) dX10_readOffice_72 rfl rfl (Nat.le_of_ble_eq_true rfl) (Nat.le_of_ble_eq_true rfl)) ?_
        refine GO_if_ne C 82 dX10_readOffice_75 rfl (fun h4 => ?_) (fun h4 => ?_)
        · refine GO.lift (fun _ => G_iconst C dX10_readOffice_78 (v := 1) rfl) ?_
          refine GO.lift (fun _ => G_goto C 83 dX10_readOffice_79 rfl) ?_
          refine GO.sub [3, 2, 1, 0] rfl ?_
          exact g_X10_readOffice_L83 C r2.2 r2.1 (r2.2 8 7) 1 1
        · refine GO.sub [3, 2, 1, 0] rfl ?_
          exact g_X10_readOffice_L82 C r2.2 r2.1 (r2.2 8 7) 1
    · refine GO.sub [3, 2, 1, 0] rfl ?_
      exact g_X10_readOffice_L82 C r2.2 r2.1 (r2.2 8 7) 1
def o_X10_readOffice_L25 (X : SM) : Option (SM) := o_X10_readOffice_L26 X 0
theorem g_X10_readOffice_L25 {l : Launch} {K : gK} {Γ : gT} {b : Nat → Nat} (C : Cx l K Γ RX10 cX10_readOffice 4 none 5) (X : SM) : GO l K Γ (mo_W K b X) 25 4 [(0, .ref (b 0))] [.ref (b 0)] (fun z => (none, mo_W K b z)) (o_X10_readOffice_L25 X) := by
  unfold o_X10_readOffice_L25
  refine GO.lift (fun _ => G_iconst C dX10_readOffice_25 (v := 0) rfl) ?_
  refine GO.sub [0] rfl ?_
  exact g_X10_readOffice_L26 C X 0
def o_X10_readOffice (X : SM) : Option (SM) := (o_X10_is X 218546996).bind (fun r1 => if r1 = 0 then o_X10_readOffice_L25 X else if ((X 1) (4 : Int32).toNatClampNeg) < 10 then o_X10_readOffice_L26 X 1 else o_X10_readOffice_L25 X)
theorem c_X10_readOffice (l : Launch) (K : gK) (b : Nat → Nat) (X : SM) (r : SM) (hr : o_X10_readOffice X = some r) : Ct l K yX10_readOffice cX10_readOffice 4 none 5 [.ref (b 0)] (mo_W K b X) (none, mo_W K b r) := by
  refine Ct.of (own := RX10) (fun z => (none, mo_W K b z)) (x := r) (by decide) rfl (Nat.le_of_ble_eq_true rfl) (fun Γ C => GO.out (x := o_X10_readOffice X) ?_ hr)
  unfold o_X10_readOffice
  refine GO.lift (fun _ => G_aload_n C 0 dX10_readOffice_0 rfl) ?_
  refine GO.lift (fun _ => G_aload_n C 0 dX10_readOffice_1 rfl) ?_
  refine GO.lift (fun _ => G_ldc C dX10_readOffice_2 uk_X10_184) ?_
  refine GO.bind (fun r1 hr1 => ?_)
  refine GO.lift (fun _ => G_callVi C 0 10 kd_X10_is ui_X10_is us_X10_is um_X10_178 rfl rfl (c_X10_is l K b X 218546996 r1 hr1) dX10_readOffice_4 rfl rfl (Nat.le_of_ble_eq_true rfl) (Nat.le_of_ble_eq_true rfl)) ?_
  refine GO_if_eq C 25 dX10_readOffice_7 rfl (fun h1 => ?_) (fun h1 => ?_)
  · refine GO.sub [0] rfl ?_
    exact g_X10_readOffice_L25 C X
  · refine GO.lift (fun _ => G_aload_n C 0 dX10_readOffice_10 rfl) ?_
    refine GO.lift (fun _ => G_get C 0 1 dX10_readOffice_11 inlX10 uf_X10_13 rfl (by decide) rfl rfl rfl) ?_
    refine GO.lift (fun _ => G_iconst C dX10_readOffice_14 (v := 4) rfl) ?_
    refine GO.lift (fun _ => G_iald C 2 dX10_readOffice_15 rfl (by unfold vp_in; decide)) ?_
    refine GO.lift (fun _ => G_bipush C dX10_readOffice_16 (v := 10) rfl) ?_
    refine GO_icmp_ge C 25 dX10_readOffice_18 rfl (fun h2 => ?_) (fun h2 => ?_)
    · refine GO.lift (fun _ => G_iconst C dX10_readOffice_21 (v := 1) rfl) ?_
      refine GO.lift (fun _ => G_goto C 26 dX10_readOffice_22 rfl) ?_
      refine GO.sub [0] rfl ?_
      exact g_X10_readOffice_L26 C X 1
    · refine GO.sub [0] rfl ?_
      exact g_X10_readOffice_L25 C X
/-! X10_readLetter -/
theorem kd_X10_readLetter : Card yX10_readLetter cX10_readLetter 4 none 0 := ⟨uc_X10_readLetter, un_X10, ⟨by decide, by decide, by decide⟩, by decide⟩
def o_X10_readLetter_L115 (X : SM) (x1 : Int32) (x2 : Int32) (x3 : Int32) (t0 : Int32) : Option (SM) := (o_X10_takes X t0).bind (fun r1 => if r1.1 = 0 then some r1.2 else (o_X10_addLetter (r1.2 1) x1 x2 x3).bind (fun r2 => lt1 (sU r1.2 1 r2) (fun r3 => some r3)))
theorem g_X10_readLetter_L115 {l : Launch} {K : gK} {Γ : gT} {b : Nat → Nat} (C : Cx l K Γ RX10 cX10_readLetter 4 none 5) (X : SM) (x1 : Int32) (x2 : Int32) (x3 : Int32) (t0 : Int32) : GO l K Γ (mo_W K b X) 115 4 [(0, .ref (b 0)), (1, .int x1), (2, .int x2), (3, .int x3)] [.int t0, .ref (b 0)] (fun z => (none, mo_W K b z)) (o_X10_readLetter_L115 X x1 x2 x3 t0) := by
  unfold o_X10_readLetter_L115
  refine GO.bind (fun r1 hr1 => ?_)
  refine GO.lift (fun _ => G_callVi C 0 10 kd_X10_takes ui_X10_takes us_X10_takes um_X10_174 rfl rfl (c_X10_takes l K b X t0 r1 hr1) dX10_readLetter_115 rfl rfl (Nat.le_of_ble_eq_true rfl) (Nat.le_of_ble_eq_true rfl)) ?_
  refine GO_if_eq C 131 dX10_readLetter_118 rfl (fun h1 => ?_) (fun h1 => ?_)
  · exact GO.fin (G_vret C dX10_readLetter_131 rfl)
  · refine GO.lift (fun _ => G_aload_n C 0 dX10_readLetter_121 rfl) ?_
    refine GO.lift (fun _ => G_get C 0 1 dX10_readLetter_122 inlX10 uf_X10_13 rfl (by decide) rfl rfl rfl) ?_
    refine GO.lift (fun _ => G_iload_n C 1 dX10_readLetter_125 rfl) ?_
    refine GO.lift (fun _ => G_iload_n C 2 dX10_readLetter_126 rfl) ?_
    refine GO.lift (fun _ => G_iload_n C 3 dX10_readLetter_127 rfl) ?_
    refine GO.bind (fun r2 hr2 => ?_)
    refine GO.letS (fun r3 hr3 => ?_)
    refine GO.lift (fun _ => G_callSv C kd_X10_addLetter ut_X10_addLetter um_X10_189 (Ct.to (r' := (none, mo_W K b r3)) (Ct.from (c_X10_addLetter l K (ws := mo_W K b r1.2) (q := 2) (ad := b 2) (Nat.le_of_ble_eq_true rfl) (r1.2 1) x1 x2 x3 r2 hr2) rfl) (by cases hr3; rfl)) dX10_readLetter_128 rfl rfl (Nat.le_of_ble_eq_true rfl) (Nat.le_of_ble_eq_true rfl)) ?_
    exact GO.fin (G_vret C dX10_readLetter_131 rfl)
def o_X10_readLetter_L89 (X : SM) (x1 : Int32) (x2 : Int32) (t0 : Int32) : Option (SM) := (o_X10_takes X t0).bind (fun r1 => (o_X10_takesNumber r1.2 1 9).bind (fun r2 => if (r2.2 8 6) = 3 then o_X10_readLetter_L115 r2.2 x1 x2 r2.1 1 else o_X10_readLetter_L115 r2.2 x1 x2 r2.1 0))
theorem g_X10_readLetter_L89 {l : Launch} {K : gK} {Γ : gT} {b : Nat → Nat} (C : Cx l K Γ RX10 cX10_readLetter 4 none 5) (X : SM) (x1 : Int32) (x2 : Int32) (t0 : Int32) : GO l K Γ (mo_W K b X) 89 4 [(0, .ref (b 0)), (1, .int x1), (2, .int x2)] [.int t0, .ref (b 0)] (fun z => (none, mo_W K b z)) (o_X10_readLetter_L89 X x1 x2 t0) := by
  unfold o_X10_readLetter_L89
  refine GO.bind (fun r1 hr1 => ?_)
  refine GO.lift (fun _ => G_callVi C 0 10 kd_X10_takes ui_X10_takes us_X10_takes um_X10_174 rfl rfl (c_X10_takes l K b X t0 r1 hr1) dX10_readLetter_89 rfl rfl (Nat.le_of_ble_eq_true rfl) (Nat.le_of_ble_eq_true rfl)) ?_
  refine GO.lift (fun _ => G_pop C dX10_readLetter_92 rfl) ?_
  refine GO.lift (fun _ => G_aload_n C 0 dX10_readLetter_93 rfl) ?_
  refine GO.lift (fun _ => G_iconst C dX10_readLetter_94 (v := 1) rfl) ?_
  refine GO.lift (fun _ => G_bipush C dX10_readLetter_95 (v := 9) rfl) ?_
  refine GO.bind (fun r2 hr2 => ?_)
  refine GO.lift (fun _ => G_callVi C 0 10 kd_X10_takesNumber ui_X10_takesNumber us_X10_takesNumber um_X10_181 rfl rfl (c_X10_takesNumber l K b r1.2 1 9 r2 hr2) dX10_readLetter_97 rfl rfl (Nat.le_of_ble_eq_true rfl) (Nat.le_of_ble_eq_true rfl)) ?_
  refine GO.lift (fun _ => G_istore_n (lv' := [(3, .int r2.1), (0, .ref (b 0)), (1, .int x1), (2, .int x2)]) C dX10_readLetter_100 (by decide) rfl) ?_
  refine GO.lift (fun _ => G_aload_n C 1 dX10_readLetter_101 rfl) ?_
  refine GO.lift (fun _ => G_aload_n C 1 dX10_readLetter_102 rfl) ?_
  refine GO.lift (fun _ => G_get C 0 13 dX10_readLetter_103 inlX10 uf_X10_151 rfl (by decide) rfl rfl rfl) ?_
  refine GO.lift (fun _ => G_iconst C dX10_readLetter_106 (v := 3) rfl) ?_
  refine GO_icmp_ne C 114 dX10_readLetter_107 rfl (fun h1 => ?_) (fun h1 => ?_)
  · refine GO.lift (fun _ => G_iconst C dX10_readLetter_110 (v := 1) rfl) ?_
    refine GO.lift (fun _ => G_goto C 115 dX10_readLetter_111 rfl) ?_
    refine GO.sub [1, 2, 3, 0] rfl ?_
    exact g_X10_readLetter_L115 C r2.2 x1 x2 r2.1 1
  · refine GO.lift (fun _ => G_iconst C dX10_readLetter_114 (v := 0) rfl) ?_
    refine GO.sub [1, 2, 3, 0] rfl ?_
    exact g_X10_readLetter_L115 C r2.2 x1 x2 r2.1 0
def o_X10_readLetter_L88 (X : SM) (x1 : Int32) (x2 : Int32) : Option (SM) := o_X10_readLetter_L89 X x1 x2 0
theorem g_X10_readLetter_L88 {l : Launch} {K : gK} {Γ : gT} {b : Nat → Nat} (C : Cx l K Γ RX10 cX10_readLetter 4 none 5) (X : SM) (x1 : Int32) (x2 : Int32) : GO l K Γ (mo_W K b X) 88 4 [(0, .ref (b 0)), (1, .int x1), (2, .int x2)] [.ref (b 0)] (fun z => (none, mo_W K b z)) (o_X10_readLetter_L88 X x1 x2) := by
  unfold o_X10_readLetter_L88
  refine GO.lift (fun _ => G_iconst C dX10_readLetter_88 (v := 0) rfl) ?_
  refine GO.sub [0, 1, 2] rfl ?_
  exact g_X10_readLetter_L89 C X x1 x2 0
def o_X10_readLetter_L48 (X : SM) (x1 : Int32) (t0 : Int32) : Option (SM) := (o_X10_takes X t0).bind (fun r1 => if r1.1 = 0 then some r1.2 else if (r1.2 8 6) = 2 then if (r1.2 8 7) < ((r1.2 1) (4 : Int32).toNatClampNeg) then if (r1.2 8 7) = x1 then o_X10_readLetter_L88 r1.2 x1 (r1.2 8 7) else o_X10_readLetter_L89 r1.2 x1 (r1.2 8 7) 1 else o_X10_readLetter_L88 r1.2 x1 (r1.2 8 7) else o_X10_readLetter_L88 r1.2 x1 (r1.2 8 7))
theorem g_X10_readLetter_L48 {l : Launch} {K : gK} {Γ : gT} {b : Nat → Nat} (C : Cx l K Γ RX10 cX10_readLetter 4 none 5) (X : SM) (x1 : Int32) (t0 : Int32) : GO l K Γ (mo_W K b X) 48 4 [(0, .ref (b 0)), (1, .int x1)] [.int t0, .ref (b 0)] (fun z => (none, mo_W K b z)) (o_X10_readLetter_L48 X x1 t0) := by
  unfold o_X10_readLetter_L48
  refine GO.bind (fun r1 hr1 => ?_)
  refine GO.lift (fun _ => G_callVi C 0 10 kd_X10_takes ui_X10_takes us_X10_takes um_X10_174 rfl rfl (c_X10_takes l K b X t0 r1 hr1) dX10_readLetter_48 rfl rfl (Nat.le_of_ble_eq_true rfl) (Nat.le_of_ble_eq_true rfl)) ?_
  refine GO_if_ne C 55 dX10_readLetter_51 rfl (fun h1 => ?_) (fun h1 => ?_)
  · exact GO.fin (G_vret C dX10_readLetter_54 rfl)
  · refine GO.lift (fun _ => G_aload_n C 0 dX10_readLetter_55 rfl) ?_
    refine GO.lift (fun _ => G_get C 0 14 dX10_readLetter_56 inlX10 uf_X10_148 rfl (by decide) rfl rfl rfl) ?_
    refine GO.lift (fun _ => G_istore_n (lv' := [(2, .int (r1.2 8 7)), (0, .ref (b 0)), (1, .int x1)]) C dX10_readLetter_59 (by decide) rfl) ?_
    refine GO.lift (fun _ => G_aload_n C 1 dX10_readLetter_60 rfl) ?_
    refine GO.lift (fun _ => G_aload_n C 1 dX10_readLetter_61 rfl) ?_
    refine GO.lift (fun _ => G_get C 0 13 dX10_readLetter_62 inlX10 uf_X10_151 rfl (by decide) rfl rfl rfl) ?_
    refine GO.lift (fun _ => G_iconst C dX10_readLetter_65 (v := 2) rfl) ?_
    refine GO_icmp_ne C 88 dX10_readLetter_66 rfl (fun h2 => ?_) (fun h2 => ?_)
    · refine GO.lift (fun _ => G_iload_n C 0 dX10_readLetter_69 rfl) ?_
      refine GO.lift (fun _ => G_aload_n C 1 dX10_readLetter_70 rfl) ?_
      refine GO.lift (fun _ => G_get C 0 1 dX10_readLetter_71 inlX10 uf_X10_13 rfl (by decide) rfl rfl rfl) ?_
      refine GO.lift (fun _ => G_iconst C dX10_readLetter_74 (v := 4) rfl) ?_
      refine GO.lift (fun _ => G_iald C 2 dX10_readLetter_75 rfl (by unfold vp_in; decide)) ?_
      refine GO_icmp_ge C 88 dX10_readLetter_76 rfl (fun h3 => ?_) (fun h3 => ?_)
      · refine GO.lift (fun _ => G_iload_n C 0 dX10_readLetter_79 rfl) ?_
        refine GO.lift (fun _ => G_iload_n C 2 dX10_readLetter_80 rfl) ?_
        refine GO_icmp_eq C 88 dX10_readLetter_81 rfl (fun h4 => ?_) (fun h4 => ?_)
        · refine GO.sub [1, 2, 0] rfl ?_
          exact g_X10_readLetter_L88 C r1.2 x1 (r1.2 8 7)
        · refine GO.lift (fun _ => G_iconst C dX10_readLetter_84 (v := 1) rfl) ?_
          refine GO.lift (fun _ => G_goto C 89 dX10_readLetter_85 rfl) ?_
          refine GO.sub [1, 2, 0] rfl ?_
          exact g_X10_readLetter_L89 C r1.2 x1 (r1.2 8 7) 1
      · refine GO.sub [1, 2, 0] rfl ?_
        exact g_X10_readLetter_L88 C r1.2 x1 (r1.2 8 7)
    · refine GO.sub [1, 2, 0] rfl ?_
      exact g_X10_readLetter_L88 C r1.2 x1 (r1.2 8 7)
def o_X10_readLetter_L47 (X : SM) (x1 : Int32) : Option (SM) := o_X10_readLetter_L48 X x1 0
theorem g_X10_readLetter_L47 {l : Launch} {K : gK} {Γ : gT} {b : Nat → Nat} (C : Cx l K Γ RX10 cX10_readLetter 4 none 5) (X : SM) (x1 : Int32) : GO l K Γ (mo_W K b X) 47 4 [(0, .ref (b 0)), (1, .int x1)] [.ref (b 0)] (fun z => (none, mo_W K b z)) (o_X10_readLetter_L47 X x1) := by
  unfold o_X10_readLetter_L47
  refine GO.lift (fun _ => G_iconst C dX10_readLetter_47 (v := 0) rfl) ?_
  refine GO.sub [0, 1] rfl ?_
  exact g_X10_readLetter_L48 C X x1 0
def o_X10_readLetter (X : SM) : Option (SM) := (o_X10_next X ).bind (fun r1 => if (r1 8 6) = 2 then if (r1 8 7) < ((r1 1) (4 : Int32).toNatClampNeg) then if gin (v_X10_officeAt (r1 8 7) 4) 336 = true then (if ((r1 1) (v_X10_officeAt (r1 8 7) 4).toNatClampNeg) < 6 then o_X10_readLetter_L48 r1 (r1 8 7) 1 else o_X10_readLetter_L47 r1 (r1 8 7)) else none else o_X10_readLetter_L47 r1 (r1 8 7) else o_X10_readLetter_L47 r1 (r1 8 7))
theorem c_X10_readLetter (l : Launch) (K : gK) (b : Nat → Nat) (X : SM) (r : SM) (hr : o_X10_readLetter X = some r) : Ct l K yX10_readLetter cX10_readLetter 4 none 5 [.ref (b 0)] (mo_W K b X) (none, mo_W K b r) := by
  refine Ct.of (own := RX10) (fun z => (none, mo_W K b z)) (x := r) (by decide) rfl (Nat.le_of_ble_eq_true rfl) (fun Γ C => GO.out (x := o_X10_readLetter X) ?_ hr)
  unfold o_X10_readLetter
  refine GO.lift (fun _ => G_aload_n C 0 dX10_readLetter_0 rfl) ?_
  refine GO.bind (fun r1 hr1 => ?_)
  refine GO.lift (fun _ => G_callVv C 0 10 kd_X10_next ui_X10_next us_X10_next um_X10_171 rfl rfl (c_X10_next l K b X  r1 hr1) dX10_readLetter_1 rfl rfl (Nat.le_of_ble_eq_true rfl) (Nat.le_of_ble_eq_true rfl)) ?_
  refine GO.lift (fun _ => G_aload_n C 0 dX10_readLetter_4 rfl) ?_
  refine GO.lift (fun _ => G_get C 0 14 dX10_readLetter_5 inlX10 uf_X10_148 rfl (by decide) rfl rfl rfl) ?_
  refine GO.lift (fun _ => G_istore_n (lv' := [(1, .int (r1 8 7)), (0, .ref (b 0))]) C dX10_readLetter_8 (by decide) rfl) ?_
  refine GO.lift (fun _ => G_aload_n C 1 dX10_readLetter_9 rfl) ?_
  refine GO.lift (fun _ => G_aload_n C 1 dX10_readLetter_10 rfl) ?_
  refine GO.lift (fun _ => G_get C 0 13 dX10_readLetter_11 inlX10 uf_X10_151 rfl (by decide) rfl rfl rfl) ?_
  refine GO.lift (fun _ => G_iconst C dX10_readLetter_14 (v := 2) rfl) ?_
  refine GO_icmp_ne C 47 dX10_readLetter_15 rfl (fun h1 => ?_) (fun h1 => ?_)
  · refine GO.lift (fun _ => G_iload_n C 0 dX10_readLetter_18 rfl) ?_
    refine GO.lift (fun _ => G_aload_n C 1 dX10_readLetter_19 rfl) ?_
    refine GO.lift (fun _ => G_get C 0 1 dX10_readLetter_20 inlX10 uf_X10_13 rfl (by decide) rfl rfl rfl) ?_
    refine GO.lift (fun _ => G_iconst C dX10_readLetter_23 (v := 4) rfl) ?_
    refine GO.lift (fun _ => G_iald C 2 dX10_readLetter_24 rfl (by unfold vp_in; decide)) ?_
    refine GO_icmp_ge C 47 dX10_readLetter_25 rfl (fun h2 => ?_) (fun h2 => ?_)
    · refine GO.lift (fun _ => G_aload_n C 1 dX10_readLetter_28 rfl) ?_
      refine GO.lift (fun _ => G_get C 0 1 dX10_readLetter_29 inlX10 uf_X10_13 rfl (by decide) rfl rfl rfl) ?_
      refine GO.lift (fun _ => G_iload_n C 0 dX10_readLetter_32 rfl) ?_
      refine GO.lift (fun _ => G_iconst C dX10_readLetter_33 (v := 4) rfl) ?_
      refine GO.lift (fun _ => G_callSi C kd_X10_officeAt ut_X10_officeAt um_X10_54 (c_X10_officeAt l K (mo_W K b r1) (r1 8 7) 4) dX10_readLetter_34 rfl rfl (Nat.le_of_ble_eq_true rfl) (Nat.le_of_ble_eq_true rfl)) ?_
      refine GO.guard (fun h3 => ?_)
      refine GO.lift (fun _ => G_iald C 2 dX10_readLetter_37 rfl (gin_in h3)) ?_
      refine GO.lift (fun _ => G_bipush C dX10_readLetter_38 (v := 6) rfl) ?_
      refine GO_icmp_ge C 47 dX10_readLetter_40 rfl (fun h4 => ?_) (fun h4 => ?_)
      · refine GO.lift (fun _ => G_iconst C dX10_readLetter_43 (v := 1) rfl) ?_
        refine GO.lift (fun _ => G_goto C 48 dX10_readLetter_44 rfl) ?_
        refine GO.sub [1, 0] rfl ?_
        exact g_X10_readLetter_L48 C r1 (r1 8 7) 1
      · refine GO.sub [1, 0] rfl ?_
        exact g_X10_readLetter_L47 C r1 (r1 8 7)
    · refine GO.sub [1, 0] rfl ?_
      exact g_X10_readLetter_L47 C r1 (r1 8 7)
  · refine GO.sub [1, 0] rfl ?_
    exact g_X10_readLetter_L47 C r1 (r1 8 7)
