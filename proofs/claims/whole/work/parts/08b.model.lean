-- PART 08, go on (by gen/mkmodel.py)
/-! X10_dropToken -/
theorem kd_X10_dropToken : Card yX10_dropToken cX10_dropToken 3 none 2 := ⟨uc_X10_dropToken, un_X10, ⟨by decide, by decide, by decide⟩, by decide⟩
def o_X10_dropToken_L13 : Nat → (Nat → Int32) → Int32 → Int32 → Option ((Nat → Int32))
  | 0, _, _, _ => none
  | fuel + 1, g, x1, x2 => if x2 < (v_X10_tokenAt (g (5 : Int32).toNatClampNeg) 0) then if gin (x2 + 6) 336 = true then (if gin x2 336 = true then (lt1 (upd g x2.toNatClampNeg (g (x2 + 6).toNatClampNeg)) (fun r1 => o_X10_dropToken_L13 fuel r1 x1 (x2 + 1))) else none) else none else some g
theorem g_X10_dropToken_L13 {l : Launch} {K : gK} {Γ : gT} {ws : va_W} {q ad : Nat} (hq : q < ws.length) (C : Cx l K Γ RX10 cX10_dropToken 3 none 1) : ∀ (k : Nat) (g : Nat → Int32) (x1 : Int32) (x2 : Int32), GO l K Γ (mW K ws q ad 336 g) 13 3 [(0, .ref ad), (1, .int x1), (2, .int x2)] [] (fun z => (none, mW K ws q ad 336 z)) (o_X10_dropToken_L13 k g x1 x2) := by
  intro k
  induction k with
  | zero =>
    intro g x1 x2
    exact fun r hr => nomatch hr
  | succ k ih =>
    intro g x1 x2
    rw [o_X10_dropToken_L13]
    refine GO.lift (fun _ => G_iload_n C 2 dX10_dropToken_13 rfl) ?_
    refine GO.lift (fun _ => G_aload_n C 0 dX10_dropToken_14 rfl) ?_
    refine GO.lift (fun _ => G_iconst C dX10_dropToken_15 (v := 5) rfl) ?_
    refine GO.lift (fun _ => G_iald C q dX10_dropToken_16 (mW_at hq) (by unfold vp_in; decide)) ?_
    refine GO.lift (fun _ => G_iconst C dX10_dropToken_17 (v := 0) rfl) ?_
    refine GO.lift (fun _ => G_callSi C kd_X10_tokenAt ut_X10_tokenAt um_X10_66 (c_X10_tokenAt l K (mW K ws q ad 336 g) (g (5 : Int32).toNatClampNeg) 0) dX10_dropToken_18 rfl rfl (Nat.le_of_ble_eq_true rfl) (Nat.le_of_ble_eq_true rfl)) ?_
    refine GO_icmp_ge C 39 dX10_dropToken_21 rfl (fun h1 => ?_) (fun h1 => ?_)
    · refine GO.lift (fun _ => G_aload_n C 0 dX10_dropToken_24 rfl) ?_
      refine GO.lift (fun _ => G_iload_n C 2 dX10_dropToken_25 rfl) ?_
      refine GO.lift (fun _ => G_aload_n C 0 dX10_dropToken_26 rfl) ?_
      refine GO.lift (fun _ => G_iload_n C 2 dX10_dropToken_27 rfl) ?_
      refine GO.lift (fun _ => G_bipush C dX10_dropToken_28 (v := 6) rfl) ?_
      refine GO.lift (fun _ => G_iadd C dX10_dropToken_30) ?_
      refine GO.guard (fun h2 => ?_)
      refine GO.lift (fun _ => G_iald C q dX10_dropToken_31 (mW_at hq) (gin_in h2)) ?_
      refine GO.guard (fun h3 => ?_)
      refine GO.letS (fun r1 hr1 => ?_)
      refine GO.lift (fun _ => G_iast (ws' := mW K ws q ad 336 r1) C q dX10_dropToken_32 (mW_at hq) (gin_in h3) (mW_set hr1)) ?_
      refine GO.lift (fun _ => G_iinc (lv' := [(2, .int (x2 + 1)), (0, .ref ad), (1, .int x1)]) C 2 dX10_dropToken_33 rfl rfl (by decide) rfl) ?_
      refine GO.lift (fun _ => G_goto C 13 dX10_dropToken_36 rfl) ?_
      refine GO.sub [1, 2, 0] rfl ?_
      exact ih r1 x1 (x2 + 1)
    · exact GO.fin (G_vret C dX10_dropToken_39 rfl)
def o_X10_dropToken (g : Nat → Int32) (x1 : Int32) : Option ((Nat → Int32)) := lt1 (upd g (5 : Int32).toNatClampNeg ((g (5 : Int32).toNatClampNeg) - 1)) (fun r1 => o_X10_dropToken_L13 4000 r1 x1 (v_X10_tokenAt x1 0))
theorem c_X10_dropToken (l : Launch) (K : gK) {ws : va_W} {q ad : Nat} (hq : q < ws.length) (g : Nat → Int32) (x1 : Int32) (r : (Nat → Int32)) (hr : o_X10_dropToken g x1 = some r) : Ct l K yX10_dropToken cX10_dropToken 3 none 1 [.ref ad, .int x1] (mW K ws q ad 336 g) (none, mW K ws q ad 336 r) := by
  refine Ct.of (own := RX10) (fun z => (none, mW K ws q ad 336 z)) (x := r) (by decide) rfl (Nat.le_of_ble_eq_true rfl) (fun Γ C => GO.out (x := o_X10_dropToken g x1) ?_ hr)
  unfold o_X10_dropToken
  refine GO.lift (fun _ => G_aload_n C 0 dX10_dropToken_0 rfl) ?_
  refine GO.lift (fun _ => G_iconst C dX10_dropToken_1 (v := 5) rfl) ?_
  refine GO.lift (fun _ => G_dup2 C dX10_dropToken_2 rfl rfl) ?_
  refine GO.lift (fun _ => G_iald C q dX10_dropToken_3 (mW_at hq) (by unfold vp_in; decide)) ?_
  refine GO.lift (fun _ => G_iconst C dX10_dropToken_4 (v := 1) rfl) ?_
  refine GO.lift (fun _ => G_isub C dX10_dropToken_5) ?_
  refine GO.letS (fun r1 hr1 => ?_)
  refine GO.lift (fun _ => G_iast (ws' := mW K ws q ad 336 r1) C q dX10_dropToken_6 (mW_at hq) (by unfold vp_in; decide) (mW_set hr1)) ?_
  refine GO.lift (fun _ => G_iload_n C 1 dX10_dropToken_7 rfl) ?_
  refine GO.lift (fun _ => G_iconst C dX10_dropToken_8 (v := 0) rfl) ?_
  refine GO.lift (fun _ => G_callSi C kd_X10_tokenAt ut_X10_tokenAt um_X10_66 (c_X10_tokenAt l K (mW K ws q ad 336 r1) x1 0) dX10_dropToken_9 rfl rfl (Nat.le_of_ble_eq_true rfl) (Nat.le_of_ble_eq_true rfl)) ?_
  refine GO.lift (fun _ => G_istore_n (lv' := [(2, .int (v_X10_tokenAt x1 0)), (0, .ref ad), (1, .int x1)]) C dX10_dropToken_12 (by decide) rfl) ?_
  refine GO.sub [1, 2, 0] rfl ?_
  exact g_X10_dropToken_L13 hq C _ r1 x1 (v_X10_tokenAt x1 0)
/-! X10_isOpen -/
theorem kd_X10_isOpen : Card yX10_isOpen cX10_isOpen 2 (some .boolean) 2 := ⟨uc_X10_isOpen, un_X10, ⟨by decide, by decide, by decide⟩, by decide⟩
def o_X10_isOpen (g : Nat → Int32) (x1 : Int32) : Option (Int32) := if gin (v_X10_officeAt x1 2) 336 = true then (if (g (v_X10_officeAt x1 2).toNatClampNeg) = 1 then some 1 else some 0) else none
theorem c_X10_isOpen (l : Launch) (K : gK) {ws : va_W} {q ad : Nat} (hq : q < ws.length) (g : Nat → Int32) (x1 : Int32) (r : Int32) (hr : o_X10_isOpen g x1 = some r) : Ct l K yX10_isOpen cX10_isOpen 2 (some .boolean) 1 [.ref ad, .int x1] (mW K ws q ad 336 g) (some (.int r), mW K ws q ad 336 g) := by
  refine Ct.of (own := RX10) (fun z => (some (.int z), mW K ws q ad 336 g)) (x := r) (by decide) rfl (Nat.le_of_ble_eq_true rfl) (fun Γ C => GO.out (x := o_X10_isOpen g x1) ?_ hr)
  unfold o_X10_isOpen
  refine GO.lift (fun _ => G_aload_n C 0 dX10_isOpen_0 rfl) ?_
  refine GO.lift (fun _ => G_iload_n C 1 dX10_isOpen_1 rfl) ?_
  refine GO.lift (fun _ => G_iconst C dX10_isOpen_2 (v := 2) rfl) ?_
  refine GO.lift (fun _ => G_callSi C kd_X10_officeAt ut_X10_officeAt um_X10_54 (c_X10_officeAt l K (mW K ws q ad 336 g) x1 2) dX10_isOpen_3 rfl rfl (Nat.le_of_ble_eq_true rfl) (Nat.le_of_ble_eq_true rfl)) ?_
  refine GO.guard (fun h1 => ?_)
  refine GO.lift (fun _ => G_iald C q dX10_isOpen_6 (mW_at hq) (gin_in h1)) ?_
  refine GO.lift (fun _ => G_iconst C dX10_isOpen_7 (v := 1) rfl) ?_
  refine GO_icmp_ne C 15 dX10_isOpen_8 rfl (fun h2 => ?_) (fun h2 => ?_)
  · refine GO.lift (fun _ => G_iconst C dX10_isOpen_11 (v := 1) rfl) ?_
    refine GO.lift (fun _ => G_goto C 16 dX10_isOpen_12 rfl) ?_
    exact GO.fin (G_zret C dX10_isOpen_16 rfl rfl)
  · refine GO.lift (fun _ => G_iconst C dX10_isOpen_15 (v := 0) rfl) ?_
    exact GO.fin (G_zret C dX10_isOpen_16 rfl rfl)
/-! X10_isAt -/
theorem kd_X10_isAt : Card yX10_isAt cX10_isAt 3 (some .boolean) 3 := ⟨uc_X10_isAt, un_X10, ⟨by decide, by decide, by decide⟩, by decide⟩
def o_X10_isAt (g : Nat → Int32) (x1 : Int32) (x2 : Int32) : Option (Int32) := if gin (v_X10_tokenAt x1 5) 336 = true then (if (g (v_X10_tokenAt x1 5).toNatClampNeg) = 1 then if gin (v_X10_tokenAt x1 1) 336 = true then (if (g (v_X10_tokenAt x1 1).toNatClampNeg) = x2 then some 1 else some 0) else none else some 0) else none
theorem c_X10_isAt (l : Launch) (K : gK) {ws : va_W} {q ad : Nat} (hq : q < ws.length) (g : Nat → Int32) (x1 : Int32) (x2 : Int32) (r : Int32) (hr : o_X10_isAt g x1 x2 = some r) : Ct l K yX10_isAt cX10_isAt 3 (some .boolean) 1 [.ref ad, .int x1, .int x2] (mW K ws q ad 336 g) (some (.int r), mW K ws q ad 336 g) := by
  refine Ct.of (own := RX10) (fun z => (some (.int z), mW K ws q ad 336 g)) (x := r) (by decide) rfl (Nat.le_of_ble_eq_true rfl) (fun Γ C => GO.out (x := o_X10_isAt g x1 x2) ?_ hr)
  unfold o_X10_isAt
  refine GO.lift (fun _ => G_aload_n C 0 dX10_isAt_0 rfl) ?_
  refine GO.lift (fun _ => G_iload_n C 1 dX10_isAt_1 rfl) ?_
  refine GO.lift (fun _ => G_iconst C dX10_isAt_2 (v := 5) rfl) ?_
  refine GO.lift (fun _ => G_callSi C kd_X10_tokenAt ut_X10_tokenAt um_X10_66 (c_X10_tokenAt l K (mW K ws q ad 336 g) x1 5) dX10_isAt_3 rfl rfl (Nat.le_of_ble_eq_true rfl) (Nat.le_of_ble_eq_true rfl)) ?_
  refine GO.guard (fun h1 => ?_)
  refine GO.lift (fun _ => G_iald C q dX10_isAt_6 (mW_at hq) (gin_in h1)) ?_
  refine GO.lift (fun _ => G_iconst C dX10_isAt_7 (v := 1) rfl) ?_
  refine GO_icmp_ne C 26 dX10_isAt_8 rfl (fun h2 => ?_) (fun h2 => ?_)
  · refine GO.lift (fun _ => G_aload_n C 0 dX10_isAt_11 rfl) ?_
    refine GO.lift (fun _ => G_iload_n C 1 dX10_isAt_12 rfl) ?_
    refine GO.lift (fun _ => G_iconst C dX10_isAt_13 (v := 1) rfl) ?_
    refine GO.lift (fun _ => G_callSi C kd_X10_tokenAt ut_X10_tokenAt um_X10_66 (c_X10_tokenAt l K (mW K ws q ad 336 g) x1 1) dX10_isAt_14 rfl rfl (Nat.le_of_ble_eq_true rfl) (Nat.le_of_ble_eq_true rfl)) ?_
    refine GO.guard (fun h3 => ?_)
    refine GO.lift (fun _ => G_iald C q dX10_isAt_17 (mW_at hq) (gin_in h3)) ?_
    refine GO.lift (fun _ => G_iload_n C 2 dX10_isAt_18 rfl) ?_
    refine GO_icmp_ne C 26 dX10_isAt_19 rfl (fun h4 => ?_) (fun h4 => ?_)
    · refine GO.lift (fun _ => G_iconst C dX10_isAt_22 (v := 1) rfl) ?_
      refine GO.lift (fun _ => G_goto C 27 dX10_isAt_23 rfl) ?_
      exact GO.fin (G_zret C dX10_isAt_27 rfl rfl)
    · refine GO.lift (fun _ => G_iconst C dX10_isAt_26 (v := 0) rfl) ?_
      exact GO.fin (G_zret C dX10_isAt_27 rfl rfl)
  · refine GO.lift (fun _ => G_iconst C dX10_isAt_26 (v := 0) rfl) ?_
    exact GO.fin (G_zret C dX10_isAt_27 rfl rfl)
/-! X10_tokenOn -/
theorem kd_X10_tokenOn : Card yX10_tokenOn cX10_tokenOn 4 (some .int) 3 := ⟨uc_X10_tokenOn, un_X10, ⟨by decide, by decide, by decide⟩, by decide⟩
def o_X10_tokenOn_L2 : Nat → (Nat → Int32) → Int32 → Int32 → Int32 → Option (Int32)
  | 0, _, _, _, _ => none
  | fuel + 1, g, x1, x2, x3 => if x3 < (g (5 : Int32).toNatClampNeg) then (o_X10_isAt g x3 x1).bind (fun r1 => if r1 = 0 then o_X10_tokenOn_L2 fuel g x1 x2 (x3 + 1) else some x3) else some (-2)
theorem g_X10_tokenOn_L2 {l : Launch} {K : gK} {Γ : gT} {ws : va_W} {q ad : Nat} (hq : q < ws.length) (C : Cx l K Γ RX10 cX10_tokenOn 4 (some .int) 2) : ∀ (k : Nat) (g : Nat → Int32) (x1 : Int32) (x2 : Int32) (x3 : Int32), GO l K Γ (mW K ws q ad 336 g) 2 4 [(0, .ref ad), (1, .int x1), (2, .int x2), (3, .int x3)] [] (fun z => (some (.int z), mW K ws q ad 336 g)) (o_X10_tokenOn_L2 k g x1 x2 x3) := by
  intro k
  induction k with
  | zero =>
    intro g x1 x2 x3
    exact fun r hr => nomatch hr
  | succ k ih =>
    intro g x1 x2 x3
    rw [o_X10_tokenOn_L2]
    refine GO.lift (fun _ => G_iload_n C 3 dX10_tokenOn_2 rfl) ?_
    refine GO.lift (fun _ => G_aload_n C 0 dX10_tokenOn_3 rfl) ?_
    refine GO.lift (fun _ => G_iconst C dX10_tokenOn_4 (v := 5) rfl) ?_
    refine GO.lift (fun _ => G_iald C q dX10_tokenOn_5 (mW_at hq) (by unfold vp_in; decide)) ?_
    refine GO_icmp_ge C 26 dX10_tokenOn_6 rfl (fun h1 => ?_) (fun h1 => ?_)
    · refine GO.lift (fun _ => G_aload_n C 0 dX10_tokenOn_9 rfl) ?_
      refine GO.lift (fun _ => G_iload_n C 3 dX10_tokenOn_10 rfl) ?_
      refine GO.lift (fun _ => G_iload_n C 1 dX10_tokenOn_11 rfl) ?_
      refine GO.bind (fun r1 hr1 => ?_)
      refine GO.lift (fun _ => G_callSi C kd_X10_isAt ut_X10_isAt um_X10_69 (c_X10_isAt l K hq g x3 x1 r1 hr1) dX10_tokenOn_12 rfl rfl (Nat.le_of_ble_eq_true rfl) (Nat.le_of_ble_eq_true rfl)) ?_
      refine GO_if_eq C 20 dX10_tokenOn_15 rfl (fun h2 => ?_) (fun h2 => ?_)
      · refine GO.lift (fun _ => G_iinc (lv' := [(3, .int (x3 + 1)), (0, .ref ad), (1, .int x1), (2, .int x2)]) C 3 dX10_tokenOn_20 rfl rfl (by decide) rfl) ?_
        refine GO.lift (fun _ => G_goto C 2 dX10_tokenOn_23 rfl) ?_
        refine GO.sub [1, 2, 3, 0] rfl ?_
        exact ih g x1 x2 (x3 + 1)
      · refine GO.lift (fun _ => G_iload_n C 3 dX10_tokenOn_18 rfl) ?_
        exact GO.fin (G_iret C dX10_tokenOn_19 rfl)
    · refine GO.lift (fun _ => G_bipush C dX10_tokenOn_26 (v := -2) rfl) ?_
      exact GO.fin (G_iret C dX10_tokenOn_28 rfl)
def o_X10_tokenOn (g : Nat → Int32) (x1 : Int32) (x2 : Int32) : Option (Int32) := o_X10_tokenOn_L2 4000 g x1 x2 x2
theorem c_X10_tokenOn (l : Launch) (K : gK) {ws : va_W} {q ad : Nat} (hq : q < ws.length) (g : Nat → Int32) (x1 : Int32) (x2 : Int32) (r : Int32) (hr : o_X10_tokenOn g x1 x2 = some r) : Ct l K yX10_tokenOn cX10_tokenOn 4 (some .int) 2 [.ref ad, .int x1, .int x2] (mW K ws q ad 336 g) (some (.int r), mW K ws q ad 336 g) := by
  refine Ct.of (own := RX10) (fun z => (some (.int z), mW K ws q ad 336 g)) (x := r) (by decide) rfl (Nat.le_of_ble_eq_true rfl) (fun Γ C => GO.out (x := o_X10_tokenOn g x1 x2) ?_ hr)
  unfold o_X10_tokenOn
  refine GO.lift (fun _ => G_iload_n C 2 dX10_tokenOn_0 rfl) ?_
  refine GO.lift (fun _ => G_istore_n (lv' := [(3, .int x2), (0, .ref ad), (1, .int x1), (2, .int x2)]) C dX10_tokenOn_1 (by decide) rfl) ?_
  refine GO.sub [1, 2, 3, 0] rfl ?_
  exact g_X10_tokenOn_L2 hq C _ g x1 x2 x2
/-! X10_lettersAll -/
theorem kd_X10_lettersAll : Card yX10_lettersAll cX10_lettersAll 3 (some .int) 1 := ⟨uc_X10_lettersAll, un_X10, ⟨by decide, by decide, by decide⟩, by decide⟩
def o_X10_lettersAll_L4 : Nat → (Nat → Int32) → Int32 → Int32 → Option (Int32)
  | 0, _, _, _ => none
  | fuel + 1, g, x1, x2 => if x2 < (g (4 : Int32).toNatClampNeg) then if gin (v_X10_officeAt x2 4) 336 = true then (o_X10_lettersAll_L4 fuel g (x1 + (g (v_X10_officeAt x2 4).toNatClampNeg)) (x2 + 1)) else none else some x1
theorem g_X10_lettersAll_L4 {l : Launch} {K : gK} {Γ : gT} {ws : va_W} {q ad : Nat} (hq : q < ws.length) (C : Cx l K Γ RX10 cX10_lettersAll 3 (some .int) 1) : ∀ (k : Nat) (g : Nat → Int32) (x1 : Int32) (x2 : Int32), GO l K Γ (mW K ws q ad 336 g) 4 3 [(0, .ref ad), (1, .int x1), (2, .int x2)] [] (fun z => (some (.int z), mW K ws q ad 336 g)) (o_X10_lettersAll_L4 k g x1 x2) := by
  intro k
  induction k with
  | zero =>
    intro g x1 x2
    exact fun r hr => nomatch hr
  | succ k ih =>
    intro g x1 x2
    rw [o_X10_lettersAll_L4]
    refine GO.lift (fun _ => G_iload_n C 2 dX10_lettersAll_4 rfl) ?_
    refine GO.lift (fun _ => G_aload_n C 0 dX10_lettersAll_5 rfl) ?_
    refine GO.lift (fun _ => G_iconst C dX10_lettersAll_6 (v := 4) rfl) ?_
    refine GO.lift (fun _ => G_iald C q dX10_lettersAll_7 (mW_at hq) (by unfold vp_in; decide)) ?_
    refine GO_icmp_ge C 27 dX10_lettersAll_8 rfl (fun h1 => ?_) (fun h1 => ?_)
    · refine GO.lift (fun _ => G_iload_n C 1 dX10_lettersAll_11 rfl) ?_
      refine GO.lift (fun _ => G_aload_n C 0 dX10_lettersAll_12 rfl) ?_
      refine GO.lift (fun _ => G_iload_n C 2 dX10_lettersAll_13 rfl) ?_
      refine GO.lift (fun _ => G_iconst C dX10_lettersAll_14 (v := 4) rfl) ?_
      refine GO.lift (fun _ => G_callSi C kd_X10_officeAt ut_X10_officeAt um_X10_54 (c_X10_officeAt l K (mW K ws q ad 336 g) x2 4) dX10_lettersAll_15 rfl rfl (Nat.le_of_ble_eq_true rfl) (Nat.le_of_ble_eq_true rfl)) ?_
      refine GO.guard (fun h2 => ?_)
      refine GO.lift (fun _ => G_iald C q dX10_lettersAll_18 (mW_at hq) (gin_in h2)) ?_
      refine GO.lift (fun _ => G_iadd C dX10_lettersAll_19) ?_
      refine GO.lift (fun _ => G_istore_n (lv' := [(1, .int (x1 + (g (v_X10_officeAt x2 4).toNatClampNeg))), (0, .ref ad), (2, .int x2)]) C dX10_lettersAll_20 (by decide) rfl) ?_
      refine GO.lift (fun _ => G_iinc (lv' := [(2, .int (x2 + 1)), (1, .int (x1 + (g (v_X10_officeAt x2 4).toNatClampNeg))), (0, .ref ad)]) C 2 dX10_lettersAll_21 rfl rfl (by decide) rfl) ?_
      refine GO.lift (fun _ => G_goto C 4 dX10_lettersAll_24 rfl) ?_
      refine GO.sub [2, 1, 0] rfl ?_
      exact ih g (x1 + (g (v_X10_officeAt x2 4).toNatClampNeg)) (x2 + 1)
    · refine GO.lift (fun _ => G_iload_n C 1 dX10_lettersAll_27 rfl) ?_
      exact GO.fin (G_iret C dX10_lettersAll_28 rfl)
def o_X10_lettersAll (g : Nat → Int32) : Option (Int32) := o_X10_lettersAll_L4 4000 g 0 0
theorem c_X10_lettersAll (l : Launch) (K : gK) {ws : va_W} {q ad : Nat} (hq : q < ws.length) (g : Nat → Int32) (r : Int32) (hr : o_X10_lettersAll g = some r) : Ct l K yX10_lettersAll cX10_lettersAll 3 (some .int) 1 [.ref ad] (mW K ws q ad 336 g) (some (.int r), mW K ws q ad 336 g) := by
  refine Ct.of (own := RX10) (fun z => (some (.int z), mW K ws q ad 336 g)) (x := r) (by decide) rfl (Nat.le_of_ble_eq_true rfl) (fun Γ C => GO.out (x := o_X10_lettersAll g) ?_ hr)
  unfold o_X10_lettersAll
  refine GO.lift (fun _ => G_iconst C dX10_lettersAll_0 (v := 0) rfl) ?_
  refine GO.lift (fun _ => G_istore_n (lv' := [(1, .int 0), (0, .ref ad)]) C dX10_lettersAll_1 (by decide) rfl) ?_
  refine GO.lift (fun _ => G_iconst C dX10_lettersAll_2 (v := 0) rfl) ?_
  refine GO.lift (fun _ => G_istore_n (lv' := [(2, .int 0), (1, .int 0), (0, .ref ad)]) C dX10_lettersAll_3 (by decide) rfl) ?_
  refine GO.sub [2, 1, 0] rfl ?_
  exact g_X10_lettersAll_L4 hq C _ g 0 0
/-! X10_lengthOf -/
theorem kd_X10_lengthOf : Card yX10_lengthOf cX10_lengthOf 4 (some .int) 2 := ⟨uc_X10_lengthOf, un_X10, ⟨by decide, by decide, by decide⟩, by decide⟩
def o_X10_lengthOf_L4 : Nat → (Nat → Int32) → Int32 → Int32 → Int32 → Option (Int32)
  | 0, _, _, _, _ => none
  | fuel + 1, g, x1, x2, x3 => if gin (v_X10_officeAt x1 4) 336 = true then (if x3 < (g (v_X10_officeAt x1 4).toNatClampNeg) then if gin (v_X10_letterAt x1 x3 1) 336 = true then (o_X10_lengthOf_L4 fuel g x1 (x2 + (g (v_X10_letterAt x1 x3 1).toNatClampNeg)) (x3 + 1)) else none else some x2) else none
theorem g_X10_lengthOf_L4 {l : Launch} {K : gK} {Γ : gT} {ws : va_W} {q ad : Nat} (hq : q < ws.length) (C : Cx l K Γ RX10 cX10_lengthOf 4 (some .int) 2) : ∀ (k : Nat) (g : Nat → Int32) (x1 : Int32) (x2 : Int32) (x3 : Int32), GO l K Γ (mW K ws q ad 336 g) 4 4 [(0, .ref ad), (1, .int x1), (2, .int x2), (3, .int x3)] [] (fun z => (some (.int z), mW K ws q ad 336 g)) (o_X10_lengthOf_L4 k g x1 x2 x3) := by
  intro k
  induction k with
  | zero =>
    intro g x1 x2 x3
    exact fun r hr => nomatch hr
  | succ k ih =>
    intro g x1 x2 x3
    rw [o_X10_lengthOf_L4]
    refine GO.lift (fun _ => G_iload_n C 3 dX10_lengthOf_4 rfl) ?_
    refine GO.lift (fun _ => G_aload_n C 0 dX10_lengthOf_5 rfl) ?_
    refine GO.lift (fun _ => G_iload_n C 1 dX10_lengthOf_6 rfl) ?_
    refine GO.lift (fun _ => G_iconst C dX10_lengthOf_7 (v := 4) rfl) ?_
    refine GO.lift (fun _ => G_callSi C kd_X10_officeAt ut_X10_officeAt um_X10_54 (c_X10_officeAt l K (mW K ws q ad 336 g) x1 4) dX10_lengthOf_8 rfl rfl (Nat.le_of_ble_eq_true rfl) (Nat.le_of_ble_eq_true rfl)) ?_
    refine GO.guard (fun h1 => ?_)
    refine GO.lift (fun _ => G_iald C q dX10_lengthOf_11 (mW_at hq) (gin_in h1)) ?_
    refine GO_icmp_ge C 32 dX10_lengthOf_12 rfl (fun h2 => ?_) (fun h2 => ?_)
    · refine GO.lift (fun _ => G_iload_n C 2 dX10_lengthOf_15 rfl) ?_
      refine GO.lift (fun _ => G_aload_n C 0 dX10_lengthOf_16 rfl) ?_
      refine GO.lift (fun _ => G_iload_n C 1 dX10_lengthOf_17 rfl) ?_
      refine GO.lift (fun _ => G_iload_n C 3 dX10_lengthOf_18 rfl) ?_
      refine GO.lift (fun _ => G_iconst C dX10_lengthOf_19 (v := 1) rfl) ?_
      refine GO.lift (fun _ => G_callSi C kd_X10_letterAt ut_X10_letterAt um_X10_62 (c_X10_letterAt l K (mW K ws q ad 336 g) x1 x3 1) dX10_lengthOf_20 rfl rfl (Nat.le_of_ble_eq_true rfl) (Nat.le_of_ble_eq_true rfl)) ?_
      refine GO.guard (fun h3 => ?_)
      refine GO.lift (fun _ => G_iald C q dX10_lengthOf_23 (mW_at hq) (gin_in h3)) ?_
      refine GO.lift (fun _ => G_iadd C dX10_lengthOf_24) ?_
      refine GO.lift (fun _ => G_istore_n (lv' := [(2, .int (x2 + (g (v_X10_letterAt x1 x3 1).toNatClampNeg))), (0, .ref ad), (1, .int x1), (3, .int x3)]) C dX10_lengthOf_25 (by decide) rfl) ?_
      refine GO.lift (fun _ => G_iinc (lv' := [(3, .int (x3 + 1)), (2, .int (x2 + (g (v_X10_letterAt x1 x3 1).toNatClampNeg))), (0, .ref ad), (1, .int x1)]) C 3 dX10_lengthOf_26 rfl rfl (by decide) rfl) ?_
      refine GO.lift (fun _ => G_goto C 4 dX10_lengthOf_29 rfl) ?_
      refine GO.sub [2, 3, 1, 0] rfl ?_
      exact ih g x1 (x2 + (g (v_X10_letterAt x1 x3 1).toNatClampNeg)) (x3 + 1)
    · refine GO.lift (fun _ => G_iload_n C 2 dX10_lengthOf_32 rfl) ?_
      exact GO.fin (G_iret C dX10_lengthOf_33 rfl)
def o_X10_lengthOf (g : Nat → Int32) (x1 : Int32) : Option (Int32) := o_X10_lengthOf_L4 4000 g x1 0 0
theorem c_X10_lengthOf (l : Launch) (K : gK) {ws : va_W} {q ad : Nat} (hq : q < ws.length) (g : Nat → Int32) (x1 : Int32) (r : Int32) (hr : o_X10_lengthOf g x1 = some r) : Ct l K yX10_lengthOf cX10_lengthOf 4 (some .int) 2 [.ref ad, .int x1] (mW K ws q ad 336 g) (some (.int r), mW K ws q ad 336 g) := by
  refine Ct.of (own := RX10) (fun z => (some (.int z), mW K ws q ad 336 g)) (x := r) (by decide) rfl (Nat.le_of_ble_eq_true rfl) (fun Γ C => GO.out (x := o_X10_lengthOf g x1) ?_ hr)
  unfold o_X10_lengthOf
  refine GO.lift (fun _ => G_iconst C dX10_lengthOf_0 (v := 0) rfl) ?_
  refine GO.lift (fun _ => G_istore_n (lv' := [(2, .int 0), (0, .ref ad), (1, .int x1)]) C dX10_lengthOf_1 (by decide) rfl) ?_
  refine GO.lift (fun _ => G_iconst C dX10_lengthOf_2 (v := 0) rfl) ?_
  refine GO.lift (fun _ => G_istore_n (lv' := [(3, .int 0), (2, .int 0), (0, .ref ad), (1, .int x1)]) C dX10_lengthOf_3 (by decide) rfl) ?_
  refine GO.sub [2, 3, 1, 0] rfl ?_
  exact g_X10_lengthOf_L4 hq C _ g x1 0 0
/-! X10_winnerOf -/
theorem kd_X10_winnerOf : Card yX10_winnerOf cX10_winnerOf 3 (some .int) 1 := ⟨uc_X10_winnerOf, un_X10, ⟨by decide, by decide, by decide⟩, by decide⟩
def o_X10_winnerOf_L5 : Nat → (Nat → Int32) → Int32 → Int32 → Option (Int32)
  | 0, _, _, _ => none
  | fuel + 1, g, x1, x2 => if x2 < (g (4 : Int32).toNatClampNeg) then (o_X10_isOpen g x2).bind (fun r1 => if r1 = 0 then o_X10_winnerOf_L5 fuel g x1 (x2 + 1) else if x1 < 0 then o_X10_winnerOf_L5 fuel g x2 (x2 + 1) else if gin (v_X10_officeAt x2 1) 336 = true then (if gin (v_X10_officeAt x1 1) 336 = true then (if (g (v_X10_officeAt x1 1).toNatClampNeg) < (g (v_X10_officeAt x2 1).toNatClampNeg) then o_X10_winnerOf_L5 fuel g x2 (x2 + 1) else o_X10_winnerOf_L5 fuel g x1 (x2 + 1)) else none) else none) else some x1
theorem g_X10_winnerOf_L5 {l : Launch} {K : gK} {Γ : gT} {ws : va_W} {q ad : Nat} (hq : q < ws.length) (C : Cx l K Γ RX10 cX10_winnerOf 3 (some .int) 2) : ∀ (k : Nat) (g : Nat → Int32) (x1 : Int32) (x2 : Int32), GO l K Γ (mW K ws q ad 336 g) 5 3 [(0, .ref ad), (1, .int x1), (2, .int x2)] [] (fun z => (some (.int z), mW K ws q ad 336 g)) (o_X10_winnerOf_L5 k g x1 x2) := by
  intro k
  induction k with
  | zero =>
    intro g x1 x2
    exact fun r hr => nomatch hr
  | succ k ih =>
    intro g x1 x2
    rw [o_X10_winnerOf_L5]
    refine GO.lift (fun _ => G_iload_n C 2 dX10_winnerOf_5 rfl) ?_
    refine GO.lift (fun _ => G_aload_n C 0 dX10_winnerOf_6 rfl) ?_
    refine GO.lift (fun _ => G_iconst C dX10_winnerOf_7 (v := 4) rfl) ?_
    refine GO.lift (fun _ => G_iald C q dX10_winnerOf_8 (mW_at hq) (by unfold vp_in; decide)) ?_
    refine GO_icmp_ge C 49 dX10_winnerOf_9 rfl (fun h1 => ?_) (fun h1 => ?_)
    · refine GO.lift (fun _ => G_aload_n C 0 dX10_winnerOf_12 rfl) ?_
      refine GO.lift (fun _ => G_iload_n C 2 dX10_winnerOf_13 rfl) ?_
      refine GO.bind (fun r1 hr1 => ?_)
      refine GO.lift (fun _ => G_callSi C kd_X10_isOpen ut_X10_isOpen um_X10_73 (c_X10_isOpen l K hq g x2 r1 hr1) dX10_winnerOf_14 rfl rfl (Nat.le_of_ble_eq_true rfl) (Nat.le_of_ble_eq_true rfl)) ?_
      refine GO_if_eq C 43 dX10_winnerOf_17 rfl (fun h2 => ?_) (fun h2 => ?_)
      · refine GO.lift (fun _ => G_iinc (lv' := [(2, .int (x2 + 1)), (0, .ref ad), (1, .int x1)]) C 2 dX10_winnerOf_43 rfl rfl (by decide) rfl) ?_
        refine GO.lift (fun _ => G_goto C 5 dX10_winnerOf_46 rfl) ?_
        refine GO.sub [1, 2, 0] rfl ?_
        exact ih g x1 (x2 + 1)
      · refine GO.lift (fun _ => G_iload_n C 1 dX10_winnerOf_20 rfl) ?_
        refine GO_if_lt C 41 dX10_winnerOf_21 rfl (fun h3 => ?_) (fun h3 => ?_)
        · refine GO.lift (fun _ => G_iload_n C 2 dX10_winnerOf_41 rfl) ?_
          refine GO.lift (fun _ => G_istore_n (lv' := [(1, .int x2), (0, .ref ad), (2, .int x2)]) C dX10_winnerOf_42 (by decide) rfl) ?_
          refine GO.lift (fun _ => G_iinc (lv' := [(2, .int (x2 + 1)), (1, .int x2), (0, .ref ad)]) C 2 dX10_winnerOf_43 rfl rfl (by decide) rfl) ?_
          refine GO.lift (fun _ => G_goto C 5 dX10_winnerOf_46 rfl) ?_
          refine GO.sub [2, 1, 0] rfl ?_
          exact ih g x2 (x2 + 1)
        · refine GO.lift (fun _ => G_aload_n C 0 dX10_winnerOf_24 rfl) ?_
          refine GO.lift (fun _ => G_iload_n C 2 dX10_winnerOf_25 rfl) ?_
          refine GO.lift (fun _ => G_iconst C dX10_winnerOf_26 (v := 1) rfl) ?_
          refine GO.lift (fun _ => G_callSi C kd_X10_officeAt ut_X10_officeAt um_X10_54 (c_X10_officeAt l K (mW K ws q ad 336 g) x2 1) dX10_winnerOf_27 rfl rfl (Nat.le_of_ble_eq_true rfl) (Nat.le_of_ble_eq_true rfl)) ?_
          refine GO.guard (fun h4 => ?_)
          refine GO.lift (fun _ => G_iald C q dX10_winnerOf_30 (mW_at hq) (gin_in h4)) ?_
          refine GO.lift (fun _ => G_aload_n C 0 dX10_winnerOf_31 rfl) ?_
          refine GO.lift (fun _ => G_iload_n C 1 dX10_winnerOf_32 rfl) ?_
          refine GO.lift (fun _ => G_iconst C dX10_winnerOf_33 (v := 1) rfl) ?_
          refine GO.lift (fun _ => G_callSi C kd_X10_officeAt ut_X10_officeAt um_X10_54 (c_X10_officeAt l K (mW K ws q ad 336 g) x1 1) dX10_winnerOf_34 rfl rfl (Nat.le_of_ble_eq_true rfl) (Nat.le_of_ble_eq_true rfl)) ?_
          refine GO.guard (fun h5 => ?_)
          refine GO.lift (fun _ => G_iald C q dX10_winnerOf_37 (mW_at hq) (gin_in h5)) ?_
          refine GO_icmp_le C 43 dX10_winnerOf_38 rfl (fun h6 => ?_) (fun h6 => ?_)
          · refine GO.lift (fun _ => G_iload_n C 2 dX10_winnerOf_41 rfl) ?_
            refine GO.lift (fun _ => G_istore_n (lv' := [(1, .int x2), (0, .ref ad), (2, .int x2)]) C dX10_winnerOf_42 (by decide) rfl) ?_
            refine GO.lift (fun _ => G_iinc (lv' := [(2, .int (x2 + 1)), (1, .int x2), (0, .ref ad)]) C 2 dX10_winnerOf_43 rfl rfl (by decide) rfl) ?_
            refine GO.lift (fun _ => G_goto C 5 dX10_winnerOf_46 rfl) ?_
            refine GO.sub [2, 1, 0] rfl ?_
            exact ih g x2 (x2 + 1)
          · refine GO.lift (fun _ => G_iinc (lv' := [(2, .int (x2 + 1)), (0, .ref ad), (1, .int x1)]) C 2 dX10_winnerOf_43 rfl rfl (by decide) rfl) ?_
            refine GO.lift (fun _ => G_goto C 5 dX10_winnerOf_46 rfl) ?_
            refine GO.sub [1, 2, 0] rfl ?_
            exact ih g x1 (x2 + 1)
    · refine GO.lift (fun _ => G_iload_n C 1 dX10_winnerOf_49 rfl) ?_
      exact GO.fin (G_iret C dX10_winnerOf_50 rfl)
def o_X10_winnerOf (g : Nat → Int32) : Option (Int32) := o_X10_winnerOf_L5 4000 g (-2) 0
theorem c_X10_winnerOf (l : Launch) (K : gK) {ws : va_W} {q ad : Nat} (hq : q < ws.length) (g : Nat → Int32) (r : Int32) (hr : o_X10_winnerOf g = some r) : Ct l K yX10_winnerOf cX10_winnerOf 3 (some .int) 2 [.ref ad] (mW K ws q ad 336 g) (some (.int r), mW K ws q ad 336 g) := by
  refine Ct.of (own := RX10) (fun z => (some (.int z), mW K ws q ad 336 g)) (x := r) (by decide) rfl (Nat.le_of_ble_eq_true rfl) (fun Γ C => GO.out (x := o_X10_winnerOf g) ?_ hr)
  unfold o_X10_winnerOf
  refine GO.lift (fun _ => G_bipush C dX10_winnerOf_0 (v := -2) rfl) ?_
  refine GO.lift (fun _ => G_istore_n (lv' := [(1, .int (-2)), (0, .ref ad)]) C dX10_winnerOf_2 (by decide) rfl) ?_
  refine GO.lift (fun _ => G_iconst C dX10_winnerOf_3 (v := 0) rfl) ?_
  refine GO.lift (fun _ => G_istore_n (lv' := [(2, .int 0), (1, .int (-2)), (0, .ref ad)]) C dX10_winnerOf_4 (by decide) rfl) ?_
  refine GO.sub [2, 1, 0] rfl ?_
  exact g_X10_winnerOf_L5 hq C _ g (-2) 0
/-! X10_tells -/
theorem kd_X10_tells : Card yX10_tells cX10_tells 5 none 4 := ⟨uc_X10_tells, un_X10, ⟨by decide, by decide, by decide⟩, by decide⟩
def o_X10_tells_L53 (g : Nat → Int32) (x1 : Int32) (x2 : Int32) (x3 : Int32) : Option ((Nat → Int32)) := if gin (216 + (3 * (g (215 : Int32).toNatClampNeg))) 336 = true then (lt1 (upd g (216 + (3 * (g (215 : Int32).toNatClampNeg))).toNatClampNeg x1) (fun r1 => if gin ((216 + (3 * (g (215 : Int32).toNatClampNeg))) + 1) 336 = true then (lt1 (upd r1 ((216 + (3 * (g (215 : Int32).toNatClampNeg))) + 1).toNatClampNeg x2) (fun r2 => if gin ((216 + (3 * (g (215 : Int32).toNatClampNeg))) + 2) 336 = true then (lt1 (upd r2 ((216 + (3 * (g (215 : Int32).toNatClampNeg))) + 2).toNatClampNeg x3) (fun r3 => lt1 (upd r3 (215 : Int32).toNatClampNeg ((r3 (215 : Int32).toNatClampNeg) + 1)) (fun r4 => some r4))) else none)) else none)) else none
theorem g_X10_tells_L53 {l : Launch} {K : gK} {Γ : gT} {ws : va_W} {q ad : Nat} (hq : q < ws.length) (C : Cx l K Γ RX10 cX10_tells 5 none 0) (g : Nat → Int32) (x1 : Int32) (x2 : Int32) (x3 : Int32) : GO l K Γ (mW K ws q ad 336 g) 53 5 [(0, .ref ad), (1, .int x1), (2, .int x2), (3, .int x3)] [] (fun z => (none, mW K ws q ad 336 z)) (o_X10_tells_L53 g x1 x2 x3) := by
  unfold o_X10_tells_L53
  refine GO.lift (fun _ => G_sipush C dX10_tells_53 (v := 216) rfl) ?_
  refine GO.lift (fun _ => G_iconst C dX10_tells_56 (v := 3) rfl) ?_
  refine GO.lift (fun _ => G_aload_n C 0 dX10_tells_57 rfl) ?_
  refine GO.lift (fun _ => G_sipush C dX10_tells_58 (v := 215) rfl) ?_
  refine GO.lift (fun _ => G_iald C q dX10_tells_61 (mW_at hq) (by unfold vp_in; decide)) ?_
  refine GO.lift (fun _ => G_imul C dX10_tells_62) ?_
  refine GO.lift (fun _ => G_iadd C dX10_tells_63) ?_
  refine GO.lift (fun _ => G_istore (lv' := [(4, .int (216 + (3 * (g (215 : Int32).toNatClampNeg)))), (0, .ref ad), (1, .int x1), (2, .int x2), (3, .int x3)]) C dX10_tells_64 (by decide) rfl) ?_
  refine GO.lift (fun _ => G_aload_n C 1 dX10_tells_66 rfl) ?_
  refine GO.lift (fun _ => G_iload C 0 dX10_tells_67 rfl) ?_
  refine GO.lift (fun _ => G_iload_n C 2 dX10_tells_69 rfl) ?_
  refine GO.guard (fun h1 => ?_)
  refine GO.letS (fun r1 hr1 => ?_)
  refine GO.lift (fun _ => G_iast (ws' := mW K ws q ad 336 r1) C q dX10_tells_70 (mW_at hq) (gin_in h1) (mW_set hr1)) ?_
  refine GO.lift (fun _ => G_aload_n C 1 dX10_tells_71 rfl) ?_
  refine GO.lift (fun _ => G_iload C 0 dX10_tells_72 rfl) ?_
  refine GO.lift (fun _ => G_iconst C dX10_tells_74 (v := 1) rfl) ?_
  refine GO.lift (fun _ => G_iadd C dX10_tells_75) ?_
  refine GO.lift (fun _ => G_iload_n C 3 dX10_tells_76 rfl) ?_
  refine GO.guard (fun h2 => ?_)
  refine GO.letS (fun r2 hr2 => ?_)
  refine GO.lift (fun _ => G_iast (ws' := mW K ws q ad 336 r2) C q dX10_tells_77 (mW_at hq) (gin_in h2) (mW_set hr2)) ?_
  refine GO.lift (fun _ => G_aload_n C 1 dX10_tells_78 rfl) ?_
  refine GO.lift (fun _ => G_iload C 0 dX10_tells_79 rfl) ?_
  refine GO.lift (fun _ => G_iconst C dX10_tells_81 (v := 2) rfl) ?_
  refine GO.lift (fun _ => G_iadd C dX10_tells_82) ?_
  refine GO.lift (fun _ => G_iload_n C 4 dX10_tells_83 rfl) ?_
  refine GO.guard (fun h3 => ?_)
  refine GO.letS (fun r3 hr3 => ?_)
  refine GO.lift (fun _ => G_iast (ws' := mW K ws q ad 336 r3) C q dX10_tells_84 (mW_at hq) (gin_in h3) (mW_set hr3)) ?_
  refine GO.lift (fun _ => G_aload_n C 1 dX10_tells_85 rfl) ?_
  refine GO.lift (fun _ => G_sipush C dX10_tells_86 (v := 215) rfl) ?_
  refine GO.lift (fun _ => G_dup2 C dX10_tells_89 rfl rfl) ?_
  refine GO.lift (fun _ => G_iald C q dX10_tells_90 (mW_at hq) (by unfold vp_in; decide)) ?_
  refine GO.lift (fun _ => G_iconst C dX10_tells_91 (v := 1) rfl) ?_
  refine GO.lift (fun _ => G_iadd C dX10_tells_92) ?_
  refine GO.letS (fun r4 hr4 => ?_)
  refine GO.lift (fun _ => G_iast (ws' := mW K ws q ad 336 r4) C q dX10_tells_93 (mW_at hq) (by unfold vp_in; decide) (mW_set hr4)) ?_
  exact GO.fin (G_vret C dX10_tells_94 rfl)
def o_X10_tells_L13 : Nat → (Nat → Int32) → Int32 → Int32 → Int32 → Int32 → Option ((Nat → Int32))
  | 0, _, _, _, _, _ => none
  | fuel + 1, g, x1, x2, x3, x4 => if x4 < 117 then if gin ((216 + x4) + 3) 336 = true then (if gin (216 + x4) 336 = true then (lt1 (upd g (216 + x4).toNatClampNeg (g ((216 + x4) + 3).toNatClampNeg)) (fun r1 => o_X10_tells_L13 fuel r1 x1 x2 x3 (x4 + 1))) else none) else none else lt1 (upd g (215 : Int32).toNatClampNeg ((g (215 : Int32).toNatClampNeg) - 1)) (fun r2 => o_X10_tells_L53 r2 x1 x2 x3)
theorem g_X10_tells_L13 {l : Launch} {K : gK} {Γ : gT} {ws : va_W} {q ad : Nat} (hq : q < ws.length) (C : Cx l K Γ RX10 cX10_tells 5 none 0) : ∀ (k : Nat) (g : Nat → Int32) (x1 : Int32) (x2 : Int32) (x3 : Int32) (x4 : Int32), GO l K Γ (mW K ws q ad 336 g) 13 5 [(0, .ref ad), (1, .int x1), (2, .int x2), (3, .int x3), (4, .int x4)] [] (fun z => (none, mW K ws q ad 336 z)) (o_X10_tells_L13 k g x1 x2 x3 x4) := by
  intro k
  induction k with
  | zero =>
    intro g x1 x2 x3 x4
    exact fun r hr => nomatch hr
  | succ k ih =>
    intro g x1 x2 x3 x4
    rw [o_X10_tells_L13]
    refine GO.lift (fun _ => G_iload C 4 dX10_tells_13 rfl) ?_
    refine GO.lift (fun _ => G_bipush C dX10_tells_15 (v := 117) rfl) ?_
    refine GO_icmp_ge C 44 dX10_tells_17 rfl (fun h1 => ?_) (fun h1 => ?_)
    · refine GO.lift (fun _ => G_aload_n C 0 dX10_tells_20 rfl) ?_
      refine GO.lift (fun _ => G_sipush C dX10_tells_21 (v := 216) rfl) ?_
      refine GO.lift (fun _ => G_iload C 4 dX10_tells_24 rfl) ?_
      refine GO.lift (fun _ => G_iadd C dX10_tells_26) ?_
      refine GO.lift (fun _ => G_aload_n C 0 dX10_tells_27 rfl) ?_
      refine GO.lift (fun _ => G_sipush C dX10_tells_28 (v := 216) rfl) ?_
      refine GO.lift (fun _ => G_iload C 4 dX10_tells_31 rfl) ?_
      refine GO.lift (fun _ => G_iadd C dX10_tells_33) ?_
      refine GO.lift (fun _ => G_iconst C dX10_tells_34 (v := 3) rfl) ?_
      refine GO.lift (fun _ => G_iadd C dX10_tells_35) ?_
      refine GO.guard (fun h2 => ?_)
      refine GO.lift (fun _ => G_iald C q dX10_tells_36 (mW_at hq) (gin_in h2)) ?_
      refine GO.guard (fun h3 => ?_)
      refine GO.letS (fun r1 hr1 => ?_)
      refine GO.lift (fun _ => G_iast (ws' := mW K ws q ad 336 r1) C q dX10_tells_37 (mW_at hq) (gin_in h3) (mW_set hr1)) ?_
      refine GO.lift (fun _ => G_iinc (lv' := [(4, .int (x4 + 1)), (0, .ref ad), (1, .int x1), (2, .int x2), (3, .int x3)]) C 4 dX10_tells_38 rfl rfl (by decide) rfl) ?_
      refine GO.lift (fun _ => G_goto C 13 dX10_tells_41 rfl) ?_
      refine GO.sub [1, 2, 3, 4, 0] rfl ?_
      exact ih r1 x1 x2 x3 (x4 + 1)
    · refine GO.lift (fun _ => G_aload_n C 0 dX10_tells_44 rfl) ?_
      refine GO.lift (fun _ => G_sipush C dX10_tells_45 (v := 215) rfl) ?_
      refine GO.lift (fun _ => G_dup2 C dX10_tells_48 rfl rfl) ?_
      refine GO.lift (fun _ => G_iald C q dX10_tells_49 (mW_at hq) (by unfold vp_in; decide)) ?_
      refine GO.lift (fun _ => G_iconst C dX10_tells_50 (v := 1) rfl) ?_
      refine GO.lift (fun _ => G_isub C dX10_tells_51) ?_
      refine GO.letS (fun r2 hr2 => ?_)
      refine GO.lift (fun _ => G_iast (ws' := mW K ws q ad 336 r2) C q dX10_tells_52 (mW_at hq) (by unfold vp_in; decide) (mW_set hr2)) ?_
      refine GO.sub [0, 1, 2, 3] rfl ?_
      exact g_X10_tells_L53 hq C r2 x1 x2 x3
def o_X10_tells (g : Nat → Int32) (x1 : Int32) (x2 : Int32) (x3 : Int32) : Option ((Nat → Int32)) := if (g (215 : Int32).toNatClampNeg) = 40 then o_X10_tells_L13 4000 g x1 x2 x3 0 else o_X10_tells_L53 g x1 x2 x3
theorem c_X10_tells (l : Launch) (K : gK) {ws : va_W} {q ad : Nat} (hq : q < ws.length) (g : Nat → Int32) (x1 : Int32) (x2 : Int32) (x3 : Int32) (r : (Nat → Int32)) (hr : o_X10_tells g x1 x2 x3 = some r) : Ct l K yX10_tells cX10_tells 5 none 0 [.ref ad, .int x1, .int x2, .int x3] (mW K ws q ad 336 g) (none, mW K ws q ad 336 r) := by
  refine Ct.of (own := RX10) (fun z => (none, mW K ws q ad 336 z)) (x := r) (by decide) rfl (Nat.le_of_ble_eq_true rfl) (fun Γ C => GO.out (x := o_X10_tells g x1 x2 x3) ?_ hr)
  unfold o_X10_tells
  refine GO.lift (fun _ => G_aload_n C 0 dX10_tells_0 rfl) ?_
  refine GO.lift (fun _ => G_sipush C dX10_tells_1 (v := 215) rfl) ?_
  refine GO.lift (fun _ => G_iald C q dX10_tells_4 (mW_at hq) (by unfold vp_in; decide)) ?_
  refine GO.lift (fun _ => G_bipush C dX10_tells_5 (v := 40) rfl) ?_
  refine GO_icmp_ne C 53 dX10_tells_7 rfl (fun h1 => ?_) (fun h1 => ?_)
  · refine GO.lift (fun _ => G_iconst C dX10_tells_10 (v := 0) rfl) ?_
    refine GO.lift (fun _ => G_istore (lv' := [(4, .int 0), (0, .ref ad), (1, .int x1), (2, .int x2), (3, .int x3)]) C dX10_tells_11 (by decide) rfl) ?_
    refine GO.sub [1, 2, 3, 4, 0] rfl ?_
    exact g_X10_tells_L13 hq C _ g x1 x2 x3 0
  · refine GO.sub [0, 1, 2, 3] rfl ?_
    exact g_X10_tells_L53 hq C g x1 x2 x3
/-! X10_setsOut -/
theorem kd_X10_setsOut : Card yX10_setsOut cX10_setsOut 3 none 2 := ⟨uc_X10_setsOut, un_X10, ⟨by decide, by decide, by decide⟩, by decide⟩
def o_X10_setsOut (g : Nat → Int32) (x1 : Int32) : Option ((Nat → Int32)) := if gin (v_X10_tokenAt x1 1) 336 = true then (if ¬ (g (4 : Int32).toNatClampNeg) = 0 then (if gin (v_X10_tokenAt x1 1) 336 = true then (lt1 (upd g (v_X10_tokenAt x1 1).toNatClampNeg (jrem ((g (v_X10_tokenAt x1 1).toNatClampNeg) + 1) (g (4 : Int32).toNatClampNeg))) (fun r1 => if gin (v_X10_officeAt (g (v_X10_tokenAt x1 1).toNatClampNeg) 0) 336 = true then (if gin (v_X10_tokenAt x1 2) 336 = true then (lt1 (upd r1 (v_X10_tokenAt x1 2).toNatClampNeg (r1 (v_X10_officeAt (g (v_X10_tokenAt x1 1).toNatClampNeg) 0).toNatClampNeg)) (fun r2 => if gin (v_X10_tokenAt x1 3) 336 = true then (lt1 (upd r2 (v_X10_tokenAt x1 3).toNatClampNeg 0) (fun r3 => if gin (v_X10_tokenAt x1 4) 336 = true then (lt1 (upd r3 (v_X10_tokenAt x1 4).toNatClampNeg 0) (fun r4 => if gin (v_X10_tokenAt x1 5) 336 = true then (lt1 (upd r4 (v_X10_tokenAt x1 5).toNatClampNeg 0) (fun r5 => some r5)) else none)) else none)) else none)) else none) else none)) else none) else none) else none
theorem c_X10_setsOut (l : Launch) (K : gK) {ws : va_W} {q ad : Nat} (hq : q < ws.length) (g : Nat → Int32) (x1 : Int32) (r : (Nat → Int32)) (hr : o_X10_setsOut g x1 = some r) : Ct l K yX10_setsOut cX10_setsOut 3 none 1 [.ref ad, .int x1] (mW K ws q ad 336 g) (none, mW K ws q ad 336 r) := by
  refine Ct.of (own := RX10) (fun z => (none, mW K ws q ad 336 z)) (x := r) (by decide) rfl (Nat.le_of_ble_eq_true rfl) (fun Γ C => GO.out (x := o_X10_setsOut g x1) ?_ hr)
  unfold o_X10_setsOut
  refine GO.lift (fun _ => G_aload_n C 0 dX10_setsOut_0 rfl) ?_
  refine GO.lift (fun _ => G_iload_n C 1 dX10_setsOut_1 rfl) ?_
  refine GO.lift (fun _ => G_iconst C dX10_setsOut_2 (v := 1) rfl) ?_
  refine GO.lift (fun _ => G_callSi C kd_X10_tokenAt ut_X10_tokenAt um_X10_66 (c_X10_tokenAt l K (mW K ws q ad 336 g) x1 1) dX10_setsOut_3 rfl rfl (Nat.le_of_ble_eq_true rfl) (Nat.le_of_ble_eq_true rfl)) ?_
  refine GO.guard (fun h1 => ?_)
  refine GO.lift (fun _ => G_iald C q dX10_setsOut_6 (mW_at hq) (gin_in h1)) ?_
  refine GO.lift (fun _ => G_istore_n (lv' := [(2, .int (g (v_X10_tokenAt x1 1).toNatClampNeg)), (0, .ref ad), (1, .int x1)]) C dX10_setsOut_7 (by decide) rfl) ?_
  refine GO.lift (fun _ => G_aload_n C 1 dX10_setsOut_8 rfl) ?_
  refine GO.lift (fun _ => G_iload_n C 2 dX10_setsOut_9 rfl) ?_
  refine GO.lift (fun _ => G_iconst C dX10_setsOut_10 (v := 1) rfl) ?_
  refine GO.lift (fun _ => G_callSi C kd_X10_tokenAt ut_X10_tokenAt um_X10_66 (c_X10_tokenAt l K (mW K ws q ad 336 g) x1 1) dX10_setsOut_11 rfl rfl (Nat.le_of_ble_eq_true rfl) (Nat.le_of_ble_eq_true rfl)) ?_
  refine GO.lift (fun _ => G_iload_n C 0 dX10_setsOut_14 rfl) ?_
  refine GO.lift (fun _ => G_iconst C dX10_setsOut_15 (v := 1) rfl) ?_
  refine GO.lift (fun _ => G_iadd C dX10_setsOut_16) ?_
  refine GO.lift (fun _ => G_aload_n C 1 dX10_setsOut_17 rfl) ?_
  refine GO.lift (fun _ => G_iconst C dX10_setsOut_18 (v := 4) rfl) ?_
  refine GO.lift (fun _ => G_iald C q dX10_setsOut_19 (mW_at hq) (by unfold vp_in; decide)) ?_
  refine GO.guard (fun h2 => ?_)
  refine GO.lift (fun _ => G_irem C dX10_setsOut_20 h2) ?_
  refine GO.guard (fun h3 => ?_)
  refine GO.letS (fun r1 hr1 => ?_)
  refine GO.lift (fun _ => G_iast (ws' := mW K ws q ad 336 r1) C q dX10_setsOut_21 (mW_at hq) (gin_in h3) (mW_set hr1)) ?_
  refine GO.lift (fun _ => G_aload_n C 1 dX10_setsOut_22 rfl) ?_
  refine GO.lift (fun _ => G_iload_n C 2 dX10_setsOut_23 rfl) ?_
  refine GO.lift (fun _ => G_iconst C dX10_setsOut_24 (v := 2) rfl) ?_
  refine GO.lift (fun _ => G_callSi C kd_X10_tokenAt ut_X10_tokenAt um_X10_66 (c_X10_tokenAt l K (mW K ws q ad 336 r1) x1 2) dX10_setsOut_25 rfl rfl (Nat.le_of_ble_eq_true rfl) (Nat.le_of_ble_eq_true rfl)) ?_
  refine GO.lift (fun _ => G_aload_n C 1 dX10_setsOut_28 rfl) ?_
  refine GO.lift (fun _ => G_iload_n C 0 dX10_setsOut_29 rfl) ?_
  refine GO.lift (fun _ => G_iconst C dX10_setsOut_30 (v := 0) rfl) ?_
  refine GO.lift (fun _ => G_callSi C kd_X10_officeAt ut_X10_officeAt um_X10_54 (c_X10_officeAt l K (mW K ws q ad 336 r1) (g (v_X10_tokenAt x1 1).toNatClampNeg) 0) dX10_setsOut_31 rfl rfl (Nat.le_of_ble_eq_true rfl) (Nat.le_of_ble_eq_true rfl)) ?_
  refine GO.guard (fun h4 => ?_)
  refine GO.lift (fun _ => G_iald C q dX10_setsOut_34 (mW_at hq) (gin_in h4)) ?_
  refine GO.guard (fun h5 => ?_)
  refine GO.letS (fun r2 hr2 => ?_)
  refine GO.lift (fun _ => G_iast (ws' := mW K ws q ad 336 r2) C q dX10_setsOut_35 (mW_at hq) (gin_in h5) (mW_set hr2)) ?_
  refine GO.lift (fun _ => G_aload_n C 1 dX10_setsOut_36 rfl) ?_
  refine GO.lift (fun _ => G_iload_n C 2 dX10_setsOut_37 rfl) ?_
  refine GO.lift (fun _ => G_iconst C dX10_setsOut_38 (v := 3) rfl) ?_
  refine GO.lift (fun _ => G_callSi C kd_X10_tokenAt ut_X10_tokenAt um_X10_66 (c_X10_tokenAt l K (mW K ws q ad 336 r2) x1 3) dX10_setsOut_39 rfl rfl (Nat.le_of_ble_eq_true rfl) (Nat.le_of_ble_eq_true rfl)) ?_
  refine GO.lift (fun _ => G_iconst C dX10_setsOut_42 (v := 0) rfl) ?_
  refine GO.guard (fun h6 => ?_)
  refine GO.letS (fun r3 hr3 => ?_)
  refine GO.lift (fun _ => G_iast (ws' := mW K ws q ad 336 r3) C q dX10_setsOut_43 (mW_at hq) (gin_in h6) (mW_set hr3)) ?_
  refine GO.lift (fun _ => G_aload_n C 1 dX10_setsOut_44 rfl) ?_
  refine GO.lift (fun _ => G_iload_n C 2 dX10_setsOut_45 rfl) ?_
  refine GO.lift (fun _ => G_iconst C dX10_setsOut_46 (v := 4) rfl) ?_
  refine GO.lift (fun _ => G_callSi C kd_X10_tokenAt ut_X10_tokenAt um_X10_66 (c_X10_tokenAt l K (mW K ws q ad 336 r3) x1 4) dX10_setsOut_47 rfl rfl (Nat.le_of_ble_eq_true rfl) (Nat.le_of_ble_eq_true rfl)) ?_
  refine GO.lift (fun _ => G_iconst C dX10_setsOut_50 (v := 0) rfl) ?_
  refine GO.guard (fun h7 => ?_)
  refine GO.letS (fun r4 hr4 => ?_)
  refine GO.lift (fun _ => G_iast (ws' := mW K ws q ad 336 r4) C q dX10_setsOut_51 (mW_at hq) (gin_in h7) (mW_set hr4)) ?_
  refine GO.lift (fun _ => G_aload_n C 1 dX10_setsOut_52 rfl) ?_
  refine GO.lift (fun _ => G_iload_n C 2 dX10_setsOut_53 rfl) ?_
  refine GO.lift (fun _ => G_iconst C dX10_setsOut_54 (v := 5) rfl) ?_
  refine GO.lift (fun _ => G_callSi C kd_X10_tokenAt ut_X10_tokenAt um_X10_66 (c_X10_tokenAt l K (mW K ws q ad 336 r4) x1 5) dX10_setsOut_55 rfl rfl (Nat.le_of_ble_eq_true rfl) (Nat.le_of_ble_eq_true rfl)) ?_
  refine GO.lift (fun _ => G_iconst C dX10_setsOut_58 (v := 0) rfl) ?_
  refine GO.guard (fun h8 => ?_)
  refine GO.letS (fun r5 hr5 => ?_)
  refine GO.lift (fun _ => G_iast (ws' := mW K ws q ad 336 r5) C q dX10_setsOut_59 (mW_at hq) (gin_in h8) (mW_set hr5)) ?_
  exact GO.fin (G_vret C dX10_setsOut_60 rfl)
/-! X10_drives -/
theorem kd_X10_drives : Card yX10_drives cX10_drives 2 none 2 := ⟨uc_X10_drives, un_X10, ⟨by decide, by decide, by decide⟩, by decide⟩
def o_X10_drives (g : Nat → Int32) (x1 : Int32) : Option ((Nat → Int32)) := if gin (v_X10_tokenAt x1 2) 336 = true then (if gin (v_X10_tokenAt x1 2) 336 = true then (lt1 (upd g (v_X10_tokenAt x1 2).toNatClampNeg ((g (v_X10_tokenAt x1 2).toNatClampNeg) - 1)) (fun r1 => if gin (v_X10_tokenAt x1 2) 336 = true then (if 0 < (r1 (v_X10_tokenAt x1 2).toNatClampNeg) then some r1 else if gin (v_X10_tokenAt x1 5) 336 = true then (lt1 (upd r1 (v_X10_tokenAt x1 5).toNatClampNeg 1) (fun r2 => if gin (v_X10_tokenAt x1 3) 336 = true then (lt1 (upd r2 (v_X10_tokenAt x1 3).toNatClampNeg 0) (fun r3 => if gin (v_X10_tokenAt x1 1) 336 = true then ((o_X10_isOpen r3 (r3 (v_X10_tokenAt x1 1).toNatClampNeg)).bind (fun r4 => if r4 = 0 then (o_X10_setsOut r3 x1).bind (fun r5 => some r5) else some r3)) else none)) else none)) else none) else none)) else none) else none
theorem c_X10_drives (l : Launch) (K : gK) {ws : va_W} {q ad : Nat} (hq : q < ws.length) (g : Nat → Int32) (x1 : Int32) (r : (Nat → Int32)) (hr : o_X10_drives g x1 = some r) : Ct l K yX10_drives cX10_drives 2 none 2 [.ref ad, .int x1] (mW K ws q ad 336 g) (none, mW K ws q ad 336 r) := by
  refine Ct.of (own := RX10) (fun z => (none, mW K ws q ad 336 z)) (x := r) (by decide) rfl (Nat.le_of_ble_eq_true rfl) (fun Γ C => GO.out (x := o_X10_drives g x1) ?_ hr)
  unfold o_X10_drives
  refine GO.lift (fun _ => G_aload_n C 0 dX10_drives_0 rfl) ?_
  refine GO.lift (fun _ => G_iload_n C 1 dX10_drives_1 rfl) ?_
  refine GO.lift (fun _ => G_iconst C dX10_drives_2 (v := 2) rfl) ?_
  refine GO.lift (fun _ => G_callSi C kd_X10_tokenAt ut_X10_tokenAt um_X10_66 (c_X10_tokenAt l K (mW K ws q ad 336 g) x1 2) dX10_drives_3 rfl rfl (Nat.le_of_ble_eq_true rfl) (Nat.le_of_ble_eq_true rfl)) ?_
  refine GO.lift (fun _ => G_dup2 C dX10_drives_6 rfl rfl) ?_
  refine GO.guard (fun h1 => ?_)
  refine GO.lift (fun _ => G_iald C q dX10_drives_7 (mW_at hq) (gin_in h1)) ?_
  refine GO.lift (fun _ => G_iconst C dX10_drives_8 (v := 1) rfl) ?_
  refine GO.lift (fun _ => G_isub C dX10_drives_9) ?_
  refine GO.guard (fun h2 => ?_)
  refine GO.letS (fun r1 hr1 => ?_)
  refine GO.lift (fun _ => G_iast (ws' := mW K ws q ad 336 r1) C q dX10_drives_10 (mW_at hq) (gin_in h2) (mW_set hr1)) ?_
  refine GO.lift (fun _ => G_aload_n C 0 dX10_drives_11 rfl) ?_
  refine GO.lift (fun _ => G_iload_n C 1 dX10_drives_12 rfl) ?_
  refine GO.lift (fun _ => G_iconst C dX10_drives_13 (v := 2) rfl) ?_
  refine GO.lift (fun _ => G_callSi C kd_X10_tokenAt ut_X10_tokenAt um_X10_66 (c_X10_tokenAt l K (mW K ws q ad 336 r1) x1 2) dX10_drives_14 rfl rfl (Nat.le_of_ble_eq_true rfl) (Nat.le_of_ble_eq_true rfl)) ?_
  refine GO.guard (fun h3 => ?_)
  refine GO.lift (fun _ => G_iald C q dX10_drives_17 (mW_at hq) (gin_in h3)) ?_
  refine GO_if_le C 22 dX10_drives_18 rfl (fun h4 => ?_) (fun h4 => ?_)
  · exact GO.fin (G_vret C dX10_drives_21 rfl)
  · refine GO.lift (fun _ => G_aload_n C 0 dX10_drives_22 rfl) ?_
    refine GO.lift (fun _ => G_iload_n C 1 dX10_drives_23 rfl) ?_
    refine GO.lift (fun _ => G_iconst C dX10_drives_24 (v := 5) rfl) ?_
    refine GO.lift (fun _ => G_callSi C kd_X10_tokenAt ut_X10_tokenAt um_X10_66 (c_X10_tokenAt l K (mW K ws q ad 336 r1) x1 5) dX10_drives_25 rfl rfl (Nat.le_of_ble_eq_true rfl) (Nat.le_of_ble_eq_true rfl)) ?_
    refine GO.lift (fun _ => G_iconst C dX10_drives_28 (v := 1) rfl) ?_
    refine GO.guard (fun h5 => ?_)
    refine GO.letS (fun r2 hr2 => ?_)
    refine GO.lift (fun _ => G_iast (ws' := mW K ws q ad 336 r2) C q dX10_drives_29 (mW_at hq) (gin_in h5) (mW_set hr2)) ?_
    refine GO.lift (fun _ => G_aload_n C 0 dX10_drives_30 rfl) ?_
    refine GO.lift (fun _ => G_iload_n C 1 dX10_drives_31 rfl) ?_
    refine GO.lift (fun _ => G_iconst C dX10_drives_32 (v := 3) rfl) ?_
    refine GO.lift (fun _ => G_callSi C kd_X10_tokenAt ut_X10_tokenAt um_X10_66 (c_X10_tokenAt l K (mW K ws q ad 336 r2) x1 3) dX10_drives_33 rfl rfl (Nat.le_of_ble_eq_true rfl) (Nat.le_of_ble_eq_true rfl)) ?_
    refine GO.lift (fun _ => G_iconst C dX10_drives_36 (v := 0) rfl) ?_
    refine GO.guard (fun h6 => ?_)
    refine GO.letS (fun r3 hr3 => ?_)
    refine GO.lift (fun _ => G_iast (ws' := mW K ws q ad 336 r3) C q dX10_drives_37 (mW_at hq) (gin_in h6) (mW_set hr3)) ?_
    refine GO.lift (fun _ => G_aload_n C 0 dX10_drives_38 rfl) ?_
    refine GO.lift (fun _ => G_aload_n C 0 dX10_drives_39 rfl) ?_
    refine GO.lift (fun _ => G_iload_n C 1 dX10_drives_40 rfl) ?_
    refine GO.lift (fun _ => G_iconst C dX10_drives_41 (v := 1) rfl) ?_
    refine GO.lift (fun _ => G_callSi C kd_X10_tokenAt ut_X10_tokenAt um_X10_66 (c_X10_tokenAt l K (mW K ws q ad 336 r3) x1 1) dX10_drives_42 rfl rfl (Nat.le_of_ble_eq_true rfl) (Nat.le_of_ble_eq_true rfl)) ?_
    refine GO.guard (fun h7 => ?_)
    refine GO.lift (fun _ => G_iald C q dX10_drives_45 (mW_at hq) (gin_in h7)) ?_
    refine GO.bind (fun r4 hr4 => ?_)
    refine GO.lift (fun _ => G_callSi C kd_X10_isOpen ut_X10_isOpen um_X10_73 (c_X10_isOpen l K hq r3 (r3 (v_X10_tokenAt x1 1).toNatClampNeg) r4 hr4) dX10_drives_46 rfl rfl (Nat.le_of_ble_eq_true rfl) (Nat.le_of_ble_eq_true rfl)) ?_
    refine GO_if_ne C 57 dX10_drives_49 rfl (fun h8 => ?_) (fun h8 => ?_)
    · refine GO.lift (fun _ => G_aload_n C 0 dX10_drives_52 rfl) ?_
      refine GO.lift (fun _ => G_iload_n C 1 dX10_drives_53 rfl) ?_
      refine GO.bind (fun r5 hr5 => ?_)
      refine GO.lift (fun _ => G_callSv C kd_X10_setsOut ut_X10_setsOut um_X10_77 (c_X10_setsOut l K hq r3 x1 r5 hr5) dX10_drives_54 rfl rfl (Nat.le_of_ble_eq_true rfl) (Nat.le_of_ble_eq_true rfl)) ?_
      exact GO.fin (G_vret C dX10_drives_57 rfl)
    · exact GO.fin (G_vret C dX10_drives_57 rfl)
/-! X10_isThrough -/
theorem kd_X10_isThrough : Card yX10_isThrough cX10_isThrough 4 none 2 := ⟨uc_X10_isThrough, un_X10, ⟨by decide, by decide, by decide⟩, by decide⟩
def o_X10_isThrough (g : Nat → Int32) (x1 : Int32) : Option ((Nat → Int32)) := if gin (v_X10_letterAt x1 0 0) 336 = true then (if gin (v_X10_letterAt x1 0 1) 336 = true then ((o_X10_dropLetter g x1 0).bind (fun r1 => (o_X10_isOpen r1 (g (v_X10_letterAt x1 0 0).toNatClampNeg)).bind (fun r2 => if r2 = 0 then lt1 (upd r1 (10 : Int32).toNatClampNeg ((r1 (10 : Int32).toNatClampNeg) + 1)) (fun r3 => (o_X10_tells r3 2 ((100 * x1) + (g (v_X10_letterAt x1 0 0).toNatClampNeg)) (g (v_X10_letterAt x1 0 1).toNatClampNeg)).bind (fun r4 => some r4)) else lt1 (upd r1 (9 : Int32).toNatClampNeg ((r1 (9 : Int32).toNatClampNeg) + 1)) (fun r5 => if gin (v_X10_officeAt (g (v_X10_letterAt x1 0 0).toNatClampNeg) 5) 336 = true then (if gin (v_X10_officeAt (g (v_X10_letterAt x1 0 0).toNatClampNeg) 5) 336 = true then (lt1 (upd r5 (v_X10_officeAt (g (v_X10_letterAt x1 0 0).toNatClampNeg) 5).toNatClampNeg ((r5 (v_X10_officeAt (g (v_X10_letterAt x1 0 0).toNatClampNeg) 5).toNatClampNeg) + 1)) (fun r6 => (o_X10_tells r6 1 ((100 * x1) + (g (v_X10_letterAt x1 0 0).toNatClampNeg)) (g (v_X10_letterAt x1 0 1).toNatClampNeg)).bind (fun r7 => some r7))) else none) else none)))) else none) else none
theorem c_X10_isThrough (l : Launch) (K : gK) {ws : va_W} {q ad : Nat} (hq : q < ws.length) (g : Nat → Int32) (x1 : Int32) (r : (Nat → Int32)) (hr : o_X10_isThrough g x1 = some r) : Ct l K yX10_isThrough cX10_isThrough 4 none 3 [.ref ad, .int x1] (mW K ws q ad 336 g) (none, mW K ws q ad 336 r) := by
  refine Ct.of (own := RX10) (fun z => (none, mW K ws q ad 336 z)) (x := r) (by decide) rfl (Nat.le_of_ble_eq_true rfl) (fun Γ C => GO.out (x := o_X10_isThrough g x1) ?_ hr)
  unfold o_X10_isThrough
  refine GO.lift (fun _ => G_aload_n C 0 dX10_isThrough_0 rfl) ?_
  refine GO.lift (fun _ => G_iload_n C 1 dX10_isThrough_1 rfl) ?_
  refine GO.lift (fun _ => G_iconst C dX10_isThrough_2 (v := 0) rfl) ?_
  refine GO.lift (fun _ => G_iconst C dX10_isThrough_3 (v := 0) rfl) ?_
  refine GO.lift (fun _ => G_callSi C kd_X10_letterAt ut_X10_letterAt um_X10_62 (c_X10_letterAt l K (mW K ws q ad 336 g) x1 0 0) dX10_isThrough_4 rfl rfl (Nat.le_of_ble_eq_true rfl) (Nat.le_of_ble_eq_true rfl)) ?_
  refine GO.guard (fun h1 => ?_)
  refine GO.lift (fun _ => G_iald C q dX10_isThrough_7 (mW_at hq) (gin_in h1)) ?_
  refine GO.lift (fun _ => G_istore_n (lv' := [(2, .int (g (v_X10_letterAt x1 0 0).toNatClampNeg)), (0, .ref ad), (1, .int x1)]) C dX10_isThrough_8 (by decide) rfl) ?_
  refine GO.lift (fun _ => G_aload_n C 1 dX10_isThrough_9 rfl) ?_
  refine GO.lift (fun _ => G_iload_n C 2 dX10_isThrough_10 rfl) ?_
  refine GO.lift (fun _ => G_iconst C dX10_isThrough_11 (v := 0) rfl) ?_
  refine GO.lift (fun _ => G_iconst C dX10_isThrough_12 (v := 1) rfl) ?_
  refine GO.lift (fun _ => G_callSi C kd_X10_letterAt ut_X10_letterAt um_X10_62 (c_X10_letterAt l K (mW K ws q ad 336 g) x1 0 1) dX10_isThrough_13 rfl rfl (Nat.le_of_ble_eq_true rfl) (Nat.le_of_ble_eq_true rfl)) ?_
  refine GO.guard (fun h2 => ?_)
  refine GO.lift (fun _ => G_iald C q dX10_isThrough_16 (mW_at hq) (gin_in h2)) ?_
  refine GO.lift (fun _ => G_istore_n (lv' := [(3, .int (g (v_X10_letterAt x1 0 1).toNatClampNeg)), (2, .int (g (v_X10_letterAt x1 0 0).toNatClampNeg)), (0, .ref ad), (1, .int x1)]) C dX10_isThrough_17 (by decide) rfl) ?_
  refine GO.lift (fun _ => G_aload_n C 2 dX10_isThrough_18 rfl) ?_
  refine GO.lift (fun _ => G_iload_n C 3 dX10_isThrough_19 rfl) ?_
  refine GO.lift (fun _ => G_iconst C dX10_isThrough_20 (v := 0) rfl) ?_
  refine GO.bind (fun r1 hr1 => ?_)
  refine GO.lift (fun _ => G_callSv C kd_X10_dropLetter ut_X10_dropLetter um_X10_84 (c_X10_dropLetter l K hq g x1 0 r1 hr1) dX10_isThrough_21 rfl rfl (Nat.le_of_ble_eq_true rfl) (Nat.le_of_ble_eq_true rfl)) ?_
  refine GO.lift (fun _ => G_aload_n C 2 dX10_isThrough_24 rfl) ?_
  refine GO.lift (fun _ => G_iload_n C 1 dX10_isThrough_25 rfl) ?_
  refine GO.bind (fun r2 hr2 => ?_)
  refine GO.lift (fun _ => G_callSi C kd_X10_isOpen ut_X10_isOpen um_X10_73 (c_X10_isOpen l K hq r1 (g (v_X10_letterAt x1 0 0).toNatClampNeg) r2 hr2) dX10_isThrough_26 rfl rfl (Nat.le_of_ble_eq_true rfl) (Nat.le_of_ble_eq_true rfl)) ?_
  refine GO_if_eq C 66 dX10_isThrough_29 rfl (fun h3 => ?_) (fun h3 => ?_)
  · refine GO.lift (fun _ => G_aload_n C 2 dX10_isThrough_66 rfl) ?_
    refine GO.lift (fun _ => G_bipush C dX10_isThrough_67 (v := 10) rfl) ?_
    refine GO.lift (fun _ => G_dup2 C dX10_isThrough_69 rfl rfl) ?_
    refine GO.lift (fun _ => G_iald C q dX10_isThrough_70 (mW_at hq) (by unfold vp_in; decide)) ?_
    refine GO.lift (fun _ => G_iconst C dX10_isThrough_71 (v := 1) rfl) ?_
    refine GO.lift (fun _ => G_iadd C dX10_isThrough_72) ?_
    refine GO.letS (fun r3 hr3 => ?_)
    refine GO.lift (fun _ => G_iast (ws' := mW K ws q ad 336 r3) C q dX10_isThrough_73 (mW_at hq) (by unfold vp_in; decide) (mW_set hr3)) ?_
    refine GO.lift (fun _ => G_aload_n C 2 dX10_isThrough_74 rfl) ?_
    refine GO.lift (fun _ => G_iconst C dX10_isThrough_75 (v := 2) rfl) ?_
    refine GO.lift (fun _ => G_bipush C dX10_isThrough_76 (v := 100) rfl) ?_
    refine GO.lift (fun _ => G_iload_n C 3 dX10_isThrough_78 rfl) ?_
    refine GO.lift (fun _ => G_imul C dX10_isThrough_79) ?_
    refine GO.lift (fun _ => G_iload_n C 1 dX10_isThrough_80 rfl) ?_
    refine GO.lift (fun _ => G_iadd C dX10_isThrough_81) ?_
    refine GO.lift (fun _ => G_iload_n C 0 dX10_isThrough_82 rfl) ?_
    refine GO.bind (fun r4 hr4 => ?_)
    refine GO.lift (fun _ => G_callSv C kd_X10_tells ut_X10_tells um_X10_88 (c_X10_tells l K hq r3 2 ((100 * x1) + (g (v_X10_letterAt x1 0 0).toNatClampNeg)) (g (v_X10_letterAt x1 0 1).toNatClampNeg) r4 hr4) dX10_isThrough_83 rfl rfl (Nat.le_of_ble_eq_true rfl) (Nat.le_of_ble_eq_true rfl)) ?_
    exact GO.fin (G_vret C dX10_isThrough_86 rfl)
  · refine GO.lift (fun _ => G_aload_n C 2 dX10_isThrough_32 rfl) ?_
    refine GO.lift (fun _ => G_bipush C dX10_isThrough_33 (v := 9) rfl) ?_
    refine GO.lift (fun _ => G_dup2 C dX10_isThrough_35 rfl rfl) ?_
    refine GO.lift (fun _ => G_iald C q dX10_isThrough_36 (mW_at hq) (by unfold vp_in; decide)) ?_
    refine GO.lift (fun _ => G_iconst C dX10_isThrough_37 (v := 1) rfl) ?_
    refine GO.lift (fun _ => G_iadd C dX10_isThrough_38) ?_
    refine GO.letS (fun r5 hr5 => ?_)
    refine GO.lift (fun _ => G_iast (ws' := mW K ws q ad 336 r5) C q dX10_isThrough_39 (mW_at hq) (by unfold vp_in; decide) (mW_set hr5)) ?_
    refine GO.lift (fun _ => G_aload_n C 2 dX10_isThrough_40 rfl) ?_
    refine GO.lift (fun _ => G_iload_n C 1 dX10_isThrough_41 rfl) ?_
    refine GO.lift (fun _ => G_iconst C dX10_isThrough_42 (v := 5) rfl) ?_
    refine GO.lift (fun _ => G_callSi C kd_X10_officeAt ut_X10_officeAt um_X10_54 (c_X10_officeAt l K (mW K ws q ad 336 r5) (g (v_X10_letterAt x1 0 0).toNatClampNeg) 5) dX10_isThrough_43 rfl rfl (Nat.le_of_ble_eq_true rfl) (Nat.le_of_ble_eq_true rfl)) ?_
    refine GO.lift (fun _ => G_dup2 C dX10_isThrough_46 rfl rfl) ?_
    refine GO.guard (fun h4 => ?_)
    refine GO.lift (fun _ => G_iald C q dX10_isThrough_47 (mW_at hq) (gin_in h4)) ?_
    refine GO.lift (fun _ => G_iconst C dX10_isThrough_48 (v := 1) rfl) ?_
    refine GO.lift (fun _ => G_iadd C dX10_isThrough_49) ?_
    refine GO.guard (fun h5 => ?_)
    refine GO.letS (fun r6 hr6 => ?_)
    refine GO.lift (fun _ => G_iast (ws' := mW K ws q ad 336 r6) C q dX10_isThrough_50 (mW_at hq) (gin_in h5) (mW_set hr6)) ?_
    refine GO.lift (fun _ => G_aload_n C 2 dX10_isThrough_51 rfl) ?_
    refine GO.lift (fun _ => G_iconst C dX10_isThrough_52 (v := 1) rfl) ?_
    refine GO.lift (fun _ => G_bipush C dX10_isThrough_53 (v := 100) rfl) ?_
    refine GO.lift (fun _ => G_iload_n C 3 dX10_isThrough_55 rfl) ?_
    refine GO.lift (fun _ => G_imul C dX10_isThrough_56) ?_
    refine GO.lift (fun _ => G_iload_n C 1 dX10_isThrough_57 rfl) ?_
    refine GO.lift (fun _ => G_iadd C dX10_isThrough_58) ?_
    refine GO.lift (fun _ => G_iload_n C 0 dX10_isThrough_59 rfl) ?_
    refine GO.bind (fun r7 hr7 => ?_)
    refine GO.lift (fun _ => G_callSv C kd_X10_tells ut_X10_tells um_X10_88 (c_X10_tells l K hq r6 1 ((100 * x1) + (g (v_X10_letterAt x1 0 0).toNatClampNeg)) (g (v_X10_letterAt x1 0 1).toNatClampNeg) r7 hr7) dX10_isThrough_60 rfl rfl (Nat.le_of_ble_eq_true rfl) (Nat.le_of_ble_eq_true rfl)) ?_
    refine GO.lift (fun _ => G_goto C 86 dX10_isThrough_63 rfl) ?_
    exact GO.fin (G_vret C dX10_isThrough_86 rfl)
