-- PART 06: Text, Scanner, SetupParser (by gen/mkro.py)
theorem kd_X7_addWord : Card yX7_addWord cX7_addWord 3 none 1 := ⟨uc_X7_addWord, un_X7, ⟨by decide, by decide, by decide⟩, by decide⟩
theorem kd_X7_isWord : Card yX7_isWord cX7_isWord 5 (some .boolean) 3 := ⟨uc_X7_isWord, un_X7, ⟨by decide, by decide, by decide⟩, by decide⟩
theorem kd_X3_isWhiteSpace : Card yX3_isWhiteSpace cX3_isWhiteSpace 1 (some .boolean) 1 := ⟨uc_X3_isWhiteSpace, un_X3, ⟨by decide, by decide, by decide⟩, by decide⟩
def v_X3_isWhiteSpace (x0 : Int32) : Int32 := if x0 = 32 then 1 else if x0 = 10 then 1 else 0
theorem c_X3_isWhiteSpace (l : Launch) (K : gK) (ws : va_W) (x0 : Int32) : Ct l K yX3_isWhiteSpace cX3_isWhiteSpace 1 (some .boolean) 0 [.int x0] (ws) (some (.int (v_X3_isWhiteSpace x0)), ws) := by
  refine Ct.of (own := RX3) (fun z => (some (.int z), ws)) (x := v_X3_isWhiteSpace x0) (by decide) rfl (Nat.le_of_ble_eq_true rfl) (fun Γ C => ?_)
  unfold v_X3_isWhiteSpace
  refine G_iload_n C 0 dX3_isWhiteSpace_0 rfl ?_
  refine G_bipush C dX3_isWhiteSpace_1 (v := 32) rfl ?_
  refine G_icmp_eq C 12 dX3_isWhiteSpace_3 rfl (fun h1 => ?_) (fun h1 => ?_)
  · refine G_iconst C dX3_isWhiteSpace_12 (v := 1) rfl ?_
    refine G_goto C 17 dX3_isWhiteSpace_13 rfl ?_
    exact G_zret C dX3_isWhiteSpace_17 rfl rfl
  · refine G_iload_n C 0 dX3_isWhiteSpace_6 rfl ?_
    refine G_bipush C dX3_isWhiteSpace_7 (v := 10) rfl ?_
    refine G_icmp_ne C 16 dX3_isWhiteSpace_9 rfl (fun h2 => ?_) (fun h2 => ?_)
    · refine G_iconst C dX3_isWhiteSpace_12 (v := 1) rfl ?_
      refine G_goto C 17 dX3_isWhiteSpace_13 rfl ?_
      exact G_zret C dX3_isWhiteSpace_17 rfl rfl
    · refine G_iconst C dX3_isWhiteSpace_16 (v := 0) rfl ?_
      exact G_zret C dX3_isWhiteSpace_17 rfl rfl
theorem bz_X3_isWhiteSpace (x0 : Int32) : narrow .boolean (.int (v_X3_isWhiteSpace x0)) = .int (v_X3_isWhiteSpace x0) := by
  unfold v_X3_isWhiteSpace
  repeat' split
  all_goals first | rfl | exact bz_X9_isWithin ..
theorem kd_X3_isDigit : Card yX3_isDigit cX3_isDigit 1 (some .boolean) 1 := ⟨uc_X3_isDigit, un_X3, ⟨by decide, by decide, by decide⟩, by decide⟩
def v_X3_isDigit (x0 : Int32) : Int32 := if x0 < 48 then 0 else if 57 < x0 then 0 else 1
theorem c_X3_isDigit (l : Launch) (K : gK) (ws : va_W) (x0 : Int32) : Ct l K yX3_isDigit cX3_isDigit 1 (some .boolean) 0 [.int x0] (ws) (some (.int (v_X3_isDigit x0)), ws) := by
  refine Ct.of (own := RX3) (fun z => (some (.int z), ws)) (x := v_X3_isDigit x0) (by decide) rfl (Nat.le_of_ble_eq_true rfl) (fun Γ C => ?_)
  unfold v_X3_isDigit
  refine G_iload_n C 0 dX3_isDigit_0 rfl ?_
  refine G_bipush C dX3_isDigit_1 (v := 48) rfl ?_
  refine G_icmp_lt C 16 dX3_isDigit_3 rfl (fun h1 => ?_) (fun h1 => ?_)
  · refine G_iconst C dX3_isDigit_16 (v := 0) rfl ?_
    exact G_zret C dX3_isDigit_17 rfl rfl
  · refine G_iload_n C 0 dX3_isDigit_6 rfl ?_
    refine G_bipush C dX3_isDigit_7 (v := 57) rfl ?_
    refine G_icmp_gt C 16 dX3_isDigit_9 rfl (fun h2 => ?_) (fun h2 => ?_)
    · refine G_iconst C dX3_isDigit_16 (v := 0) rfl ?_
      exact G_zret C dX3_isDigit_17 rfl rfl
    · refine G_iconst C dX3_isDigit_12 (v := 1) rfl ?_
      refine G_goto C 17 dX3_isDigit_13 rfl ?_
      exact G_zret C dX3_isDigit_17 rfl rfl
theorem bz_X3_isDigit (x0 : Int32) : narrow .boolean (.int (v_X3_isDigit x0)) = .int (v_X3_isDigit x0) := by
  unfold v_X3_isDigit
  repeat' split
  all_goals first | rfl | exact bz_X9_isWithin ..
theorem kd_X3_isSmallLetter : Card yX3_isSmallLetter cX3_isSmallLetter 1 (some .boolean) 1 := ⟨uc_X3_isSmallLetter, un_X3, ⟨by decide, by decide, by decide⟩, by decide⟩
def v_X3_isSmallLetter (x0 : Int32) : Int32 := if x0 < 97 then 0 else if 122 < x0 then 0 else 1
theorem c_X3_isSmallLetter (l : Launch) (K : gK) (ws : va_W) (x0 : Int32) : Ct l K yX3_isSmallLetter cX3_isSmallLetter 1 (some .boolean) 0 [.int x0] (ws) (some (.int (v_X3_isSmallLetter x0)), ws) := by
  refine Ct.of (own := RX3) (fun z => (some (.int z), ws)) (x := v_X3_isSmallLetter x0) (by decide) rfl (Nat.le_of_ble_eq_true rfl) (fun Γ C => ?_)
  unfold v_X3_isSmallLetter
  refine G_iload_n C 0 dX3_isSmallLetter_0 rfl ?_
  refine G_bipush C dX3_isSmallLetter_1 (v := 97) rfl ?_
  refine G_icmp_lt C 16 dX3_isSmallLetter_3 rfl (fun h1 => ?_) (fun h1 => ?_)
  · refine G_iconst C dX3_isSmallLetter_16 (v := 0) rfl ?_
    exact G_zret C dX3_isSmallLetter_17 rfl rfl
  · refine G_iload_n C 0 dX3_isSmallLetter_6 rfl ?_
    refine G_bipush C dX3_isSmallLetter_7 (v := 122) rfl ?_
    refine G_icmp_gt C 16 dX3_isSmallLetter_9 rfl (fun h2 => ?_) (fun h2 => ?_)
    · refine G_iconst C dX3_isSmallLetter_16 (v := 0) rfl ?_
      exact G_zret C dX3_isSmallLetter_17 rfl rfl
    · refine G_iconst C dX3_isSmallLetter_12 (v := 1) rfl ?_
      refine G_goto C 17 dX3_isSmallLetter_13 rfl ?_
      exact G_zret C dX3_isSmallLetter_17 rfl rfl
theorem bz_X3_isSmallLetter (x0 : Int32) : narrow .boolean (.int (v_X3_isSmallLetter x0)) = .int (v_X3_isSmallLetter x0) := by
  unfold v_X3_isSmallLetter
  repeat' split
  all_goals first | rfl | exact bz_X9_isWithin ..
theorem kd_X7_byteAt : Card yX7_byteAt cX7_byteAt 2 (some .int) 1 := ⟨uc_X7_byteAt, un_X7, ⟨by decide, by decide, by decide⟩, by decide⟩
def v_X7_byteAt (X : SM) (x1 : Int32) : Int32 := if x1 < 0 then -2 else if x1 < (X 1 0) then if x1 < 1200 then (X 0 x1.toNatClampNeg) &&& 255 else -2 else -2
theorem c_X7_byteAt (l : Launch) (K : gK) (t : Nat → Nat) (X : SM) (x1 : Int32) : Ct l K yX7_byteAt cX7_byteAt 2 (some .int) 0 [.ref (t 0), .int x1] (tx_W K t 1200 X) (some (.int (v_X7_byteAt X x1)), tx_W K t 1200 X) := by
  refine Ct.of (own := RX7) (fun z => (some (.int z), tx_W K t 1200 X)) (x := v_X7_byteAt X x1) (by decide) rfl (Nat.le_of_ble_eq_true rfl) (fun Γ C => ?_)
  unfold v_X7_byteAt
  refine G_iload_n C 1 dX7_byteAt_0 rfl ?_
  refine G_if_lt C 21 dX7_byteAt_1 rfl (fun h1 => ?_) (fun h1 => ?_)
  · refine G_bipush C dX7_byteAt_21 (v := -2) rfl ?_
    exact G_iret C dX7_byteAt_23 rfl
  · refine G_iload_n C 1 dX7_byteAt_4 rfl ?_
    refine G_aload_n C 0 dX7_byteAt_5 rfl ?_
    refine G_get C 0 1 dX7_byteAt_6 inlX7 uf_X7_15 rfl (by decide) rfl rfl rfl ?_
    refine G_icmp_ge C 21 dX7_byteAt_9 rfl (fun h2 => ?_) (fun h2 => ?_)
    · refine G_iload_n C 1 dX7_byteAt_12 rfl ?_
      refine G_aload_n C 0 dX7_byteAt_13 rfl ?_
      refine G_get C 0 0 dX7_byteAt_14 inlX7 uf_X7_9 rfl (by decide) rfl rfl rfl ?_
      refine G_alen C 1 1 dX7_byteAt_17 rfl rfl (v := 1200) rfl ?_
      refine G_icmp_lt C 24 dX7_byteAt_18 rfl (fun h3 => ?_) (fun h3 => ?_)
      · refine G_aload_n C 0 dX7_byteAt_24 rfl ?_
        refine G_get C 0 0 dX7_byteAt_25 inlX7 uf_X7_9 rfl (by decide) rfl rfl rfl ?_
        refine G_iload_n C 1 dX7_byteAt_28 rfl ?_
        refine G_bald C 1 dX7_byteAt_29 rfl (g_in_of (by decide) h1 h3) ?_
        refine G_sipush C dX7_byteAt_30 (v := 255) rfl ?_
        refine G_iand C dX7_byteAt_33 ?_
        exact G_iret C dX7_byteAt_34 rfl
      · refine G_bipush C dX7_byteAt_21 (v := -2) rfl ?_
        exact G_iret C dX7_byteAt_23 rfl
    · refine G_bipush C dX7_byteAt_21 (v := -2) rfl ?_
      exact G_iret C dX7_byteAt_23 rfl
def v_X7_byteAt_p (X : SM) (x1 : Int32) : Int32 := if x1 < 0 then -2 else if x1 < (X 1 0) then if x1 < 1024 then (X 0 x1.toNatClampNeg) &&& 255 else -2 else -2
theorem c_X7_byteAt_p (l : Launch) (K : gK) (t : Nat → Nat) (X : SM) (x1 : Int32) : Ct l K yX7_byteAt cX7_byteAt 2 (some .int) 0 [.ref (t 0), .int x1] (tx_W K t 1024 X) (some (.int (v_X7_byteAt_p X x1)), tx_W K t 1024 X) := by
  refine Ct.of (own := RX7) (fun z => (some (.int z), tx_W K t 1024 X)) (x := v_X7_byteAt_p X x1) (by decide) rfl (Nat.le_of_ble_eq_true rfl) (fun Γ C => ?_)
  unfold v_X7_byteAt_p
  refine G_iload_n C 1 dX7_byteAt_0 rfl ?_
  refine G_if_lt C 21 dX7_byteAt_1 rfl (fun h1 => ?_) (fun h1 => ?_)
  · refine G_bipush C dX7_byteAt_21 (v := -2) rfl ?_
    exact G_iret C dX7_byteAt_23 rfl
  · refine G_iload_n C 1 dX7_byteAt_4 rfl ?_
    refine G_aload_n C 0 dX7_byteAt_5 rfl ?_
    refine G_get C 0 1 dX7_byteAt_6 inlX7 uf_X7_15 rfl (by decide) rfl rfl rfl ?_
    refine G_icmp_ge C 21 dX7_byteAt_9 rfl (fun h2 => ?_) (fun h2 => ?_)
    · refine G_iload_n C 1 dX7_byteAt_12 rfl ?_
      refine G_aload_n C 0 dX7_byteAt_13 rfl ?_
      refine G_get C 0 0 dX7_byteAt_14 inlX7 uf_X7_9 rfl (by decide) rfl rfl rfl ?_
      refine G_alen C 1 1 dX7_byteAt_17 rfl rfl (v := 1024) rfl ?_
      refine G_icmp_lt C 24 dX7_byteAt_18 rfl (fun h3 => ?_) (fun h3 => ?_)
      · refine G_aload_n C 0 dX7_byteAt_24 rfl ?_
        refine G_get C 0 0 dX7_byteAt_25 inlX7 uf_X7_9 rfl (by decide) rfl rfl rfl ?_
        refine G_iload_n C 1 dX7_byteAt_28 rfl ?_
        refine G_bald C 1 dX7_byteAt_29 rfl (g_in_of (by decide) h1 h3) ?_
        refine G_sipush C dX7_byteAt_30 (v := 255) rfl ?_
        refine G_iand C dX7_byteAt_33 ?_
        exact G_iret C dX7_byteAt_34 rfl
      · refine G_bipush C dX7_byteAt_21 (v := -2) rfl ?_
        exact G_iret C dX7_byteAt_23 rfl
    · refine G_bipush C dX7_byteAt_21 (v := -2) rfl ?_
      exact G_iret C dX7_byteAt_23 rfl
theorem kd_X7_add : Card yX7_add cX7_add 2 none 1 := ⟨uc_X7_add, un_X7, ⟨by decide, by decide, by decide⟩, by decide⟩
def s_X7_add_L31 (X : SM) (x1 : Int32) : SM := sU X 1 (upd (X 1) 0 ((X 1 0) + 1))
theorem g_X7_add_L31 {l : Launch} {K : gK} {Γ : gT} {t : Nat → Nat} (C : Cx l K Γ RX7 cX7_add 2 none 0) (X : SM) (x1 : Int32) : G l K Γ (tx_W K t 1200 X) 31 2 [(0, .ref (t 0)), (1, .int x1)] [] (fun z => (none, tx_W K t 1200 z)) (s_X7_add_L31 X x1) := by
  unfold s_X7_add_L31
  refine G_aload_n C 0 dX7_add_31 rfl ?_
  refine G_dup C dX7_add_32 rfl ?_
  refine G_get C 0 1 dX7_add_33 inlX7 uf_X7_15 rfl (by decide) rfl rfl rfl ?_
  refine G_iconst C dX7_add_36 (v := 1) rfl ?_
  refine G_iadd C dX7_add_37 ?_
  refine G_put (ws' := tx_W K t 1200 (sU X 1 (upd (X 1) 0 ((X 1 0) + 1)))) C 0 1 tyX7 .int dX7_add_38 inlX7 uf_X7_15 tyX7_ok nmX7 rfl (by decide) rfl rfl rfl rfl rfl rfl (Nat.le_of_ble_eq_true rfl) rfl ?_
  exact G_vret C dX7_add_41 rfl
def s_X7_add (X : SM) (x1 : Int32) : SM := if (X 1 0) < 0 then X else if (X 1 0) < 1200 then s_X7_add_L31 (sU X 0 (upd (X 0) (X 1 0).toNatClampNeg (vp_nar .byte x1.toInt8.toInt32))) x1 else X
theorem c_X7_add (l : Launch) (K : gK) (t : Nat → Nat) (X : SM) (x1 : Int32) : Ct l K yX7_add cX7_add 2 none 0 [.ref (t 0), .int x1] (tx_W K t 1200 X) (none, tx_W K t 1200 (s_X7_add X x1)) := by
  refine Ct.of (own := RX7) (fun z => (none, tx_W K t 1200 z)) (x := s_X7_add X x1) (by decide) rfl (Nat.le_of_ble_eq_true rfl) (fun Γ C => ?_)
  unfold s_X7_add
  refine G_aload_n C 0 dX7_add_0 rfl ?_
  refine G_get C 0 1 dX7_add_1 inlX7 uf_X7_15 rfl (by decide) rfl rfl rfl ?_
  refine G_if_lt C 19 dX7_add_4 rfl (fun h1 => ?_) (fun h1 => ?_)
  · exact G_vret C dX7_add_19 rfl
  · refine G_aload_n C 0 dX7_add_7 rfl ?_
    refine G_get C 0 1 dX7_add_8 inlX7 uf_X7_15 rfl (by decide) rfl rfl rfl ?_
    refine G_aload_n C 0 dX7_add_11 rfl ?_
    refine G_get C 0 0 dX7_add_12 inlX7 uf_X7_9 rfl (by decide) rfl rfl rfl ?_
    refine G_alen C 1 1 dX7_add_15 rfl rfl (v := 1200) rfl ?_
    refine G_icmp_lt C 20 dX7_add_16 rfl (fun h2 => ?_) (fun h2 => ?_)
    · refine G_aload_n C 0 dX7_add_20 rfl ?_
      refine G_get C 0 0 dX7_add_21 inlX7 uf_X7_9 rfl (by decide) rfl rfl rfl ?_
      refine G_aload_n C 0 dX7_add_24 rfl ?_
      refine G_get C 0 1 dX7_add_25 inlX7 uf_X7_15 rfl (by decide) rfl rfl rfl ?_
      refine G_iload_n C 1 dX7_add_28 rfl ?_
      refine G_i2b C dX7_add_29 rfl ?_
      refine G_bast (ws' := tx_W K t 1200 (sU X 0 (upd (X 0) (X 1 0).toNatClampNeg (vp_nar .byte x1.toInt8.toInt32)))) C 1 dX7_add_30 rfl (g_in_of (by decide) h1 h2) rfl ?_
      refine G_sub [0, 1] rfl ?_
      exact g_X7_add_L31 C (sU X 0 (upd (X 0) (X 1 0).toNatClampNeg (vp_nar .byte x1.toInt8.toInt32))) x1
    · exact G_vret C dX7_add_19 rfl
def s_X7_add_p_L31 (X : SM) (x1 : Int32) : SM := sU X 1 (upd (X 1) 0 ((X 1 0) + 1))
theorem g_X7_add_p_L31 {l : Launch} {K : gK} {Γ : gT} {t : Nat → Nat} (C : Cx l K Γ RX7 cX7_add 2 none 0) (X : SM) (x1 : Int32) : G l K Γ (tx_W K t 1024 X) 31 2 [(0, .ref (t 0)), (1, .int x1)] [] (fun z => (none, tx_W K t 1024 z)) (s_X7_add_p_L31 X x1) := by
  unfold s_X7_add_p_L31
  refine G_aload_n C 0 dX7_add_31 rfl ?_
  refine G_dup C dX7_add_32 rfl ?_
  refine G_get C 0 1 dX7_add_33 inlX7 uf_X7_15 rfl (by decide) rfl rfl rfl ?_
  refine G_iconst C dX7_add_36 (v := 1) rfl ?_
  refine G_iadd C dX7_add_37 ?_
  refine G_put (ws' := tx_W K t 1024 (sU X 1 (upd (X 1) 0 ((X 1 0) + 1)))) C 0 1 tyX7 .int dX7_add_38 inlX7 uf_X7_15 tyX7_ok nmX7 rfl (by decide) rfl rfl rfl rfl rfl rfl (Nat.le_of_ble_eq_true rfl) rfl ?_
  exact G_vret C dX7_add_41 rfl
def s_X7_add_p (X : SM) (x1 : Int32) : SM := if (X 1 0) < 0 then X else if (X 1 0) < 1024 then s_X7_add_p_L31 (sU X 0 (upd (X 0) (X 1 0).toNatClampNeg (vp_nar .byte x1.toInt8.toInt32))) x1 else X
theorem c_X7_add_p (l : Launch) (K : gK) (t : Nat → Nat) (X : SM) (x1 : Int32) : Ct l K yX7_add cX7_add 2 none 0 [.ref (t 0), .int x1] (tx_W K t 1024 X) (none, tx_W K t 1024 (s_X7_add_p X x1)) := by
  refine Ct.of (own := RX7) (fun z => (none, tx_W K t 1024 z)) (x := s_X7_add_p X x1) (by decide) rfl (Nat.le_of_ble_eq_true rfl) (fun Γ C => ?_)
  unfold s_X7_add_p
  refine G_aload_n C 0 dX7_add_0 rfl ?_
  refine G_get C 0 1 dX7_add_1 inlX7 uf_X7_15 rfl (by decide) rfl rfl rfl ?_
  refine G_if_lt C 19 dX7_add_4 rfl (fun h1 => ?_) (fun h1 => ?_)
  · exact G_vret C dX7_add_19 rfl
  · refine G_aload_n C 0 dX7_add_7 rfl ?_
    refine G_get C 0 1 dX7_add_8 inlX7 uf_X7_15 rfl (by decide) rfl rfl rfl ?_
    refine G_aload_n C 0 dX7_add_11 rfl ?_
    refine G_get C 0 0 dX7_add_12 inlX7 uf_X7_9 rfl (by decide) rfl rfl rfl ?_
    refine G_alen C 1 1 dX7_add_15 rfl rfl (v := 1024) rfl ?_
    refine G_icmp_lt C 20 dX7_add_16 rfl (fun h2 => ?_) (fun h2 => ?_)
    · refine G_aload_n C 0 dX7_add_20 rfl ?_
      refine G_get C 0 0 dX7_add_21 inlX7 uf_X7_9 rfl (by decide) rfl rfl rfl ?_
      refine G_aload_n C 0 dX7_add_24 rfl ?_
      refine G_get C 0 1 dX7_add_25 inlX7 uf_X7_15 rfl (by decide) rfl rfl rfl ?_
      refine G_iload_n C 1 dX7_add_28 rfl ?_
      refine G_i2b C dX7_add_29 rfl ?_
      refine G_bast (ws' := tx_W K t 1024 (sU X 0 (upd (X 0) (X 1 0).toNatClampNeg (vp_nar .byte x1.toInt8.toInt32)))) C 1 dX7_add_30 rfl (g_in_of (by decide) h1 h2) rfl ?_
      refine G_sub [0, 1] rfl ?_
      exact g_X7_add_p_L31 C (sU X 0 (upd (X 0) (X 1 0).toNatClampNeg (vp_nar .byte x1.toInt8.toInt32))) x1
    · exact G_vret C dX7_add_19 rfl
theorem kd_X7_addFourBytes : Card yX7_addFourBytes cX7_addFourBytes 2 none 1 := ⟨uc_X7_addFourBytes, un_X7, ⟨by decide, by decide, by decide⟩, by decide⟩
def s_X7_addFourBytes_L24 (X : SM) (x1 : Int32) : SM := s_X7_add X x1
theorem g_X7_addFourBytes_L24 {l : Launch} {K : gK} {Γ : gT} {t : Nat → Nat} (C : Cx l K Γ RX7 cX7_addFourBytes 2 none 1) (X : SM) (x1 : Int32) : G l K Γ (tx_W K t 1200 X) 24 2 [(0, .ref (t 0)), (1, .int x1)] [] (fun z => (none, tx_W K t 1200 z)) (s_X7_addFourBytes_L24 X x1) := by
  unfold s_X7_addFourBytes_L24
  refine G_aload_n C 0 dX7_addFourBytes_24 rfl ?_
  refine G_iload_n C 1 dX7_addFourBytes_25 rfl ?_
  refine G_callVv C 0 7 kd_X7_add ui_X7_add us_X7_add um_X7_28 rfl rfl (c_X7_add l K t X x1) dX7_addFourBytes_26 rfl rfl (Nat.le_of_ble_eq_true rfl) (Nat.le_of_ble_eq_true rfl) ?_
  exact G_vret C dX7_addFourBytes_29 rfl
def s_X7_addFourBytes_L16 (X : SM) (x1 : Int32) : SM := s_X7_addFourBytes_L24 (s_X7_add X ((x1.toUInt32 >>> ((8 : Int32).toUInt32 &&& Int32.toUInt32 31)).toInt32)) x1
theorem g_X7_addFourBytes_L16 {l : Launch} {K : gK} {Γ : gT} {t : Nat → Nat} (C : Cx l K Γ RX7 cX7_addFourBytes 2 none 1) (X : SM) (x1 : Int32) : G l K Γ (tx_W K t 1200 X) 16 2 [(0, .ref (t 0)), (1, .int x1)] [] (fun z => (none, tx_W K t 1200 z)) (s_X7_addFourBytes_L16 X x1) := by
  unfold s_X7_addFourBytes_L16
  refine G_aload_n C 0 dX7_addFourBytes_16 rfl ?_
  refine G_iload_n C 1 dX7_addFourBytes_17 rfl ?_
  refine G_bipush C dX7_addFourBytes_18 (v := 8) rfl ?_
  refine G_iushr C dX7_addFourBytes_20 rfl ?_
  refine G_callVv C 0 7 kd_X7_add ui_X7_add us_X7_add um_X7_28 rfl rfl (c_X7_add l K t X ((x1.toUInt32 >>> ((8 : Int32).toUInt32 &&& Int32.toUInt32 31)).toInt32)) dX7_addFourBytes_21 rfl rfl (Nat.le_of_ble_eq_true rfl) (Nat.le_of_ble_eq_true rfl) ?_
  refine G_sub [0, 1] rfl ?_
  exact g_X7_addFourBytes_L24 C (s_X7_add X ((x1.toUInt32 >>> ((8 : Int32).toUInt32 &&& Int32.toUInt32 31)).toInt32)) x1
def s_X7_addFourBytes_L8 (X : SM) (x1 : Int32) : SM := s_X7_addFourBytes_L16 (s_X7_add X ((x1.toUInt32 >>> ((16 : Int32).toUInt32 &&& Int32.toUInt32 31)).toInt32)) x1
theorem g_X7_addFourBytes_L8 {l : Launch} {K : gK} {Γ : gT} {t : Nat → Nat} (C : Cx l K Γ RX7 cX7_addFourBytes 2 none 1) (X : SM) (x1 : Int32) : G l K Γ (tx_W K t 1200 X) 8 2 [(0, .ref (t 0)), (1, .int x1)] [] (fun z => (none, tx_W K t 1200 z)) (s_X7_addFourBytes_L8 X x1) := by
  unfold s_X7_addFourBytes_L8
  refine G_aload_n C 0 dX7_addFourBytes_8 rfl ?_
  refine G_iload_n C 1 dX7_addFourBytes_9 rfl ?_
  refine G_bipush C dX7_addFourBytes_10 (v := 16) rfl ?_
  refine G_iushr C dX7_addFourBytes_12 rfl ?_
  refine G_callVv C 0 7 kd_X7_add ui_X7_add us_X7_add um_X7_28 rfl rfl (c_X7_add l K t X ((x1.toUInt32 >>> ((16 : Int32).toUInt32 &&& Int32.toUInt32 31)).toInt32)) dX7_addFourBytes_13 rfl rfl (Nat.le_of_ble_eq_true rfl) (Nat.le_of_ble_eq_true rfl) ?_
  refine G_sub [0, 1] rfl ?_
  exact g_X7_addFourBytes_L16 C (s_X7_add X ((x1.toUInt32 >>> ((16 : Int32).toUInt32 &&& Int32.toUInt32 31)).toInt32)) x1
def s_X7_addFourBytes (X : SM) (x1 : Int32) : SM := s_X7_addFourBytes_L8 (s_X7_add X ((x1.toUInt32 >>> ((24 : Int32).toUInt32 &&& Int32.toUInt32 31)).toInt32)) x1
theorem c_X7_addFourBytes (l : Launch) (K : gK) (t : Nat → Nat) (X : SM) (x1 : Int32) : Ct l K yX7_addFourBytes cX7_addFourBytes 2 none 1 [.ref (t 0), .int x1] (tx_W K t 1200 X) (none, tx_W K t 1200 (s_X7_addFourBytes X x1)) := by
  refine Ct.of (own := RX7) (fun z => (none, tx_W K t 1200 z)) (x := s_X7_addFourBytes X x1) (by decide) rfl (Nat.le_of_ble_eq_true rfl) (fun Γ C => ?_)
  unfold s_X7_addFourBytes
  refine G_aload_n C 0 dX7_addFourBytes_0 rfl ?_
  refine G_iload_n C 1 dX7_addFourBytes_1 rfl ?_
  refine G_bipush C dX7_addFourBytes_2 (v := 24) rfl ?_
  refine G_iushr C dX7_addFourBytes_4 rfl ?_
  refine G_callVv C 0 7 kd_X7_add ui_X7_add us_X7_add um_X7_28 rfl rfl (c_X7_add l K t X ((x1.toUInt32 >>> ((24 : Int32).toUInt32 &&& Int32.toUInt32 31)).toInt32)) dX7_addFourBytes_5 rfl rfl (Nat.le_of_ble_eq_true rfl) (Nat.le_of_ble_eq_true rfl) ?_
  refine G_sub [0, 1] rfl ?_
  exact g_X7_addFourBytes_L8 C (s_X7_add X ((x1.toUInt32 >>> ((24 : Int32).toUInt32 &&& Int32.toUInt32 31)).toInt32)) x1
theorem kd_X7_addNumber : Card yX7_addNumber cX7_addNumber 5 none 1 := ⟨uc_X7_addNumber, un_X7, ⟨by decide, by decide, by decide⟩, by decide⟩
def s_X7_addNumber_p_L5 : Nat → SM → Int32 → Int32 → Int32 → SM
  | 0, X, _, _, _ => X
  | fuel + 1, X, x1, x2, x3 => if 0 < x3 then if x2 = 0 then if 0 < (jrem (x1 / x3) 10) then s_X7_addNumber_p_L5 fuel (s_X7_add_p X (48 + (jrem (x1 / x3) 10))) x1 1 (x3 / 10) else if x3 = 1 then s_X7_addNumber_p_L5 fuel (s_X7_add_p X (48 + (jrem (x1 / x3) 10))) x1 1 (x3 / 10) else s_X7_addNumber_p_L5 fuel X x1 0 (x3 / 10) else s_X7_addNumber_p_L5 fuel (s_X7_add_p X (48 + (jrem (x1 / x3) 10))) x1 1 (x3 / 10) else X
theorem g_X7_addNumber_p_L5 {l : Launch} {K : gK} {Γ : gT} {t : Nat → Nat} (C : Cx l K Γ RX7 cX7_addNumber 5 none 1) : ∀ (n : Nat) (X : SM) (x1 : Int32) (x2 : Int32) (x3 : Int32), Int32.toNatClampNeg x3 < n → G l K Γ (tx_W K t 1024 X) 5 5 [(0, .ref (t 0)), (1, .int x1), (2, .int x2), (3, .int x3)] [] (fun z => (none, tx_W K t 1024 z)) (s_X7_addNumber_p_L5 n X x1 x2 x3) := by
  intro n
  induction n with
  | zero =>
    intro X x1 x2 x3 hm
    exact absurd hm (Nat.not_lt_zero _)
  | succ n ih =>
    intro X x1 x2 x3 hm
    rw [s_X7_addNumber_p_L5]
    refine G_iload_n C 3 dX7_addNumber_5 rfl ?_
    refine G_if_le C 58 dX7_addNumber_6 rfl (fun h1 => ?_) (fun h1 => ?_)
    · refine G_iload_n C 1 dX7_addNumber_9 rfl ?_
      refine G_iload_n C 3 dX7_addNumber_10 rfl ?_
      refine G_idiv C dX7_addNumber_11 (ne_of_pos h1) ?_
      refine G_bipush C dX7_addNumber_12 (v := 10) rfl ?_
      refine G_irem C dX7_addNumber_14 (by decide) ?_
      refine G_istore (lv' := [(4, .int (jrem (x1 / x3) 10)), (0, .ref (t 0)), (1, .int x1), (2, .int x2), (3, .int x3)]) C dX7_addNumber_15 (by decide) rfl ?_
      refine G_iload_n C 3 dX7_addNumber_17 rfl ?_
      refine G_if_ne C 31 dX7_addNumber_18 rfl (fun h2 => ?_) (fun h2 => ?_)
      · refine G_iload C 0 dX7_addNumber_21 rfl ?_
        refine G_if_gt C 31 dX7_addNumber_23 rfl (fun h3 => ?_) (fun h3 => ?_)
        · refine G_iconst C dX7_addNumber_31 (v := 1) rfl ?_
          refine G_goto C 36 dX7_addNumber_32 rfl ?_
          refine G_istore_n (lv' := [(2, .int 1), (4, .int (jrem (x1 / x3) 10)), (0, .ref (t 0)), (1, .int x1), (3, .int x3)]) C dX7_addNumber_36 (by decide) rfl ?_
          refine G_iload_n C 0 dX7_addNumber_37 rfl ?_
          refine G_if_eq_n C 50 (by decide) dX7_addNumber_38 rfl ?_
          refine G_aload_n C 2 dX7_addNumber_41 rfl ?_
          refine G_bipush C dX7_addNumber_42 (v := 48) rfl ?_
          refine G_iload C 1 dX7_addNumber_44 rfl ?_
          refine G_iadd C dX7_addNumber_46 ?_
          refine G_callVv C 0 7 kd_X7_add ui_X7_add us_X7_add um_X7_28 rfl rfl (c_X7_add_p l K t X (48 + (jrem (x1 / x3) 10))) dX7_addNumber_47 rfl rfl (Nat.le_of_ble_eq_true rfl) (Nat.le_of_ble_eq_true rfl) ?_
          refine G_iload_n C 4 dX7_addNumber_50 rfl ?_
          refine G_bipush C dX7_addNumber_51 (v := 10) rfl ?_
          refine G_idiv C dX7_addNumber_53 (by decide) ?_
          refine G_istore_n (lv' := [(3, .int (x3 / 10)), (2, .int 1), (4, .int (jrem (x1 / x3) 10)), (0, .ref (t 0)), (1, .int x1)]) C dX7_addNumber_54 (by decide) rfl ?_
          refine G_goto C 5 dX7_addNumber_55 rfl ?_
          refine G_sub [3, 4, 1, 0] rfl ?_
          exact ih (s_X7_add_p X (48 + (jrem (x1 / x3) 10))) x1 1 (x3 / 10) (by have := div10_lt h1; omega)
        · refine G_iload_n C 4 dX7_addNumber_26 rfl ?_
          refine G_iconst C dX7_addNumber_27 (v := 1) rfl ?_
          refine G_icmp_ne C 35 dX7_addNumber_28 rfl (fun h4 => ?_) (fun h4 => ?_)
          · refine G_iconst C dX7_addNumber_31 (v := 1) rfl ?_
            refine G_goto C 36 dX7_addNumber_32 rfl ?_
            refine G_istore_n (lv' := [(2, .int 1), (4, .int (jrem (x1 / x3) 10)), (0, .ref (t 0)), (1, .int x1), (3, .int x3)]) C dX7_addNumber_36 (by decide) rfl ?_
            refine G_iload_n C 0 dX7_addNumber_37 rfl ?_
            refine G_if_eq_n C 50 (by decide) dX7_addNumber_38 rfl ?_
            refine G_aload_n C 2 dX7_addNumber_41 rfl ?_
            refine G_bipush C dX7_addNumber_42 (v := 48) rfl ?_
            refine G_iload C 1 dX7_addNumber_44 rfl ?_
            refine G_iadd C dX7_addNumber_46 ?_
            refine G_callVv C 0 7 kd_X7_add ui_X7_add us_X7_add um_X7_28 rfl rfl (c_X7_add_p l K t X (48 + (jrem (x1 / x3) 10))) dX7_addNumber_47 rfl rfl (Nat.le_of_ble_eq_true rfl) (Nat.le_of_ble_eq_true rfl) ?_
            refine G_iload_n C 4 dX7_addNumber_50 rfl ?_
            refine G_bipush C dX7_addNumber_51 (v := 10) rfl ?_
            refine G_idiv C dX7_addNumber_53 (by decide) ?_
            refine G_istore_n (lv' := [(3, .int (x3 / 10)), (2, .int 1), (4, .int (jrem (x1 / x3) 10)), (0, .ref (t 0)), (1, .int x1)]) C dX7_addNumber_54 (by decide) rfl ?_
            refine G_goto C 5 dX7_addNumber_55 rfl ?_
            refine G_sub [3, 4, 1, 0] rfl ?_
            exact ih (s_X7_add_p X (48 + (jrem (x1 / x3) 10))) x1 1 (x3 / 10) (by have := div10_lt h1; omega)
          · refine G_iconst C dX7_addNumber_35 (v := 0) rfl ?_
            refine G_istore_n (lv' := [(2, .int 0), (4, .int (jrem (x1 / x3) 10)), (0, .ref (t 0)), (1, .int x1), (3, .int x3)]) C dX7_addNumber_36 (by decide) rfl ?_
            refine G_iload_n C 0 dX7_addNumber_37 rfl ?_
            refine G_if_eq_y C 50 (by decide) dX7_addNumber_38 rfl ?_
            refine G_iload_n C 4 dX7_addNumber_50 rfl ?_
            refine G_bipush C dX7_addNumber_51 (v := 10) rfl ?_
            refine G_idiv C dX7_addNumber_53 (by decide) ?_
            refine G_istore_n (lv' := [(3, .int (x3 / 10)), (2, .int 0), (4, .int (jrem (x1 / x3) 10)), (0, .ref (t 0)), (1, .int x1)]) C dX7_addNumber_54 (by decide) rfl ?_
            refine G_goto C 5 dX7_addNumber_55 rfl ?_
            refine G_sub [3, 4, 1, 0] rfl ?_
            exact ih X x1 0 (x3 / 10) (by have := div10_lt h1; omega)
      · refine G_iconst C dX7_addNumber_31 (v := 1) rfl ?_
        refine G_goto C 36 dX7_addNumber_32 rfl ?_
        refine G_istore_n (lv' := [(2, .int 1), (4, .int (jrem (x1 / x3) 10)), (0, .ref (t 0)), (1, .int x1), (3, .int x3)]) C dX7_addNumber_36 (by decide) rfl ?_
        refine G_iload_n C 0 dX7_addNumber_37 rfl ?_
        refine G_if_eq_n C 50 (by decide) dX7_addNumber_38 rfl ?_
        refine G_aload_n C 2 dX7_addNumber_41 rfl ?_
        refine G_bipush C dX7_addNumber_42 (v := 48) rfl ?_
        refine G_iload C 1 dX7_addNumber_44 rfl ?_
        refine G_iadd C dX7_addNumber_46 ?_
        refine G_callVv C 0 7 kd_X7_add ui_X7_add us_X7_add um_X7_28 rfl rfl (c_X7_add_p l K t X (48 + (jrem (x1 / x3) 10))) dX7_addNumber_47 rfl rfl (Nat.le_of_ble_eq_true rfl) (Nat.le_of_ble_eq_true rfl) ?_
        refine G_iload_n C 4 dX7_addNumber_50 rfl ?_
        refine G_bipush C dX7_addNumber_51 (v := 10) rfl ?_
        refine G_idiv C dX7_addNumber_53 (by decide) ?_
        refine G_istore_n (lv' := [(3, .int (x3 / 10)), (2, .int 1), (4, .int (jrem (x1 / x3) 10)), (0, .ref (t 0)), (1, .int x1)]) C dX7_addNumber_54 (by decide) rfl ?_
        refine G_goto C 5 dX7_addNumber_55 rfl ?_
        refine G_sub [3, 4, 1, 0] rfl ?_
        exact ih (s_X7_add_p X (48 + (jrem (x1 / x3) 10))) x1 1 (x3 / 10) (by have := div10_lt h1; omega)
    · exact G_vret C dX7_addNumber_58 rfl
def s_X7_addNumber_p (X : SM) (x1 : Int32) : SM := s_X7_addNumber_p_L5 (Int32.toNatClampNeg 1000000000 + 1) X x1 0 1000000000
theorem c_X7_addNumber_p (l : Launch) (K : gK) (t : Nat → Nat) (X : SM) (x1 : Int32) : Ct l K yX7_addNumber cX7_addNumber 5 none 1 [.ref (t 0), .int x1] (tx_W K t 1024 X) (none, tx_W K t 1024 (s_X7_addNumber_p X x1)) := by
  refine Ct.of (own := RX7) (fun z => (none, tx_W K t 1024 z)) (x := s_X7_addNumber_p X x1) (by decide) rfl (Nat.le_of_ble_eq_true rfl) (fun Γ C => ?_)
  unfold s_X7_addNumber_p
  refine G_iconst C dX7_addNumber_0 (v := 0) rfl ?_
  refine G_istore_n (lv' := [(2, .int 0), (0, .ref (t 0)), (1, .int x1)]) C dX7_addNumber_1 (by decide) rfl ?_
  refine G_ldc C dX7_addNumber_2 uk_X7_32 ?_
  refine G_istore_n (lv' := [(3, .int 1000000000), (2, .int 0), (0, .ref (t 0)), (1, .int x1)]) C dX7_addNumber_4 (by decide) rfl ?_
  refine G_sub [2, 3, 1, 0] rfl ?_
  exact g_X7_addNumber_p_L5 C _ X x1 0 1000000000 (Nat.lt_succ_self _)
theorem inv_ite {α : Type} {P : α → Prop} {c : Prop} [Decidable c] {x y : α} (a : c → P x) (b : ¬ c → P y) : P (if c then x else y) := by
  by_cases h : c
  · rw [if_pos h]; exact a h
  · rw [if_neg h]; exact b h
theorem add_ge0 {i b : Int32} (h0 : ¬ i < 0) (h : i < b) : ¬ (i + 1) < 0 := by
  have h1 := ge0_of h0
  have h2 := Int32.lt_iff_toInt_lt.mp h
  have h3 := toInt_lt b
  exact not_lt0 (by rw [toInt_add1 (by omega)]; omega)
def s_X7_addWord_p_L2 : Nat → SM → Nat → Int32 → SM
  | 0, X, _, _ => X
  | fuel + 1, X, j, x2 => if x2 < Int32.ofNat (slen.getD j 0) then s_X7_addWord_p_L2 fuel (s_X7_add_p X (sch j x2)) j (x2 + 1) else X
theorem g_X7_addWord_p_L2 {l : Launch} {K : gK} {Γ : gT} {t : Nat → Nat} (C : Cx l K Γ RX7 cX7_addWord 3 none 6) {j : Nat} (hj : j < 16) : ∀ (n : Nat) (X : SM) (x2 : Int32), ¬ x2 < 0 → mu x2 < n → G l K Γ (tx_W K t 1024 X) 2 3 [(0, .ref (t 0)), (1, .ref (K.2 (100 + j))), (2, .int x2)] [] (fun z => (none, tx_W K t 1024 z)) (s_X7_addWord_p_L2 n X j x2) := by
  intro n
  induction n with
  | zero =>
    intro X x2 h0 hm
    exact absurd hm (Nat.not_lt_zero _)
  | succ n ih =>
    intro X x2 h0 hm
    rw [s_X7_addWord_p_L2]
    refine G_iload_n C 2 dX7_addWord_2 rfl ?_
    refine G_aload_n C 1 dX7_addWord_3 rfl ?_
    refine G_callVSi C hj rfl kd_J0_length_8abf5 ui_J0_length_8abf5 us_J0_length_8abf5 um_X7_19 (c_slength l K _ hj) dX7_addWord_4 rfl rfl (Nat.le_of_ble_eq_true rfl) (Nat.le_of_ble_eq_true rfl) ?_
    refine G_icmp_ge C 25 dX7_addWord_7 rfl (fun h1 => ?_) (fun h1 => ?_)
    · refine G_aload_n C 0 dX7_addWord_10 rfl ?_
      refine G_aload_n C 1 dX7_addWord_11 rfl ?_
      refine G_iload_n C 2 dX7_addWord_12 rfl ?_
      refine G_callVSi C hj rfl kd_J0_charAt_5068e ui_J0_charAt_5068e us_J0_charAt_5068e um_X7_24 (c_charAt l K _ hj h0 h1) dX7_addWord_13 rfl rfl (Nat.le_of_ble_eq_true rfl) (Nat.le_of_ble_eq_true rfl) ?_
      refine G_callVv C 0 7 kd_X7_add ui_X7_add us_X7_add um_X7_28 rfl rfl (c_X7_add_p l K t X (sch j x2)) dX7_addWord_16 rfl rfl (Nat.le_of_ble_eq_true rfl) (Nat.le_of_ble_eq_true rfl) ?_
      refine G_iinc (lv' := [(2, .int (x2 + 1)), (0, .ref (t 0)), (1, .ref (K.2 (100 + j)))]) C 2 dX7_addWord_19 rfl rfl (by decide) rfl ?_
      refine G_goto C 2 dX7_addWord_22 rfl ?_
      refine G_sub [1, 2, 0] rfl ?_
      exact ih _ _ (add_ge0 h0 h1) (by have := mu_up h1; omega)
    · exact G_vret C dX7_addWord_25 rfl
def s_X7_addWord_p (X : SM) (j : Nat) : SM := s_X7_addWord_p_L2 (mu 0 + 1) X j 0
theorem c_X7_addWord_p (l : Launch) (K : gK) (t : Nat → Nat) (X : SM) {j : Nat} (hj : j < 16) : Ct l K yX7_addWord cX7_addWord 3 none 6 [.ref (t 0), .ref (K.2 (100 + j))] (tx_W K t 1024 X) (none, tx_W K t 1024 (s_X7_addWord_p X j)) := by
  refine Ct.of (own := RX7) (fun z => (none, tx_W K t 1024 z)) (x := s_X7_addWord_p X j) (by decide) rfl (Nat.le_of_ble_eq_true rfl) (fun Γ C => ?_)
  unfold s_X7_addWord_p
  refine G_iconst C dX7_addWord_0 (v := 0) rfl ?_
  refine G_istore_n (lv' := [(2, .int 0), (0, .ref (t 0)), (1, .ref (K.2 (100 + j)))]) C dX7_addWord_1 (by decide) rfl ?_
  refine G_sub [1, 2, 0] rfl ?_
  exact g_X7_addWord_p_L2 C hj _ X 0 (by decide) (Nat.lt_succ_self _)
def v_X7_isWord_L28 : Nat → SM → Nat → Int32 → Int32 → Int32
  | 0, _, _, _, _ => 0
  | fuel + 1, X, j, x2, x4 => if x4 < Int32.ofNat (slen.getD j 0) then (if X 0 (x2 + x4).toNatClampNeg = sch j x4 then v_X7_isWord_L28 fuel X j x2 (x4 + 1) else 0) else 1
theorem isWord_in {x2 x3 x4 : Int32} {j : Nat} (hj : j < 16) (h1 : ¬ x2 < 0) (h5 : ¬ x3 < 0) (h2 : ¬ (1200 : Int32) < x3) (h3 : x3 - x2 = Int32.ofNat (slen.getD j 0)) (h0 : ¬ x4 < 0) (h4 : x4 < Int32.ofNat (slen.getD j 0)) : vp_in (x2 + x4) 1200 := by
  have s1 : ∀ j, j < 16 → slen.getD j 0 < 100 := by decide +kernel
  have s2 := s1 j hj
  have e0 := ge0_of h1
  have e1 := ge0_of h0
  have e2 := Int32.lt_iff_toInt_lt.mp h4
  rw [Int32.toInt_ofNat_of_lt (by omega)] at e2
  have e3 : ¬ (1200 : Int32).toInt < x3.toInt := fun q => h2 (Int32.lt_iff_toInt_lt.mpr q)
  have e4 : (1200 : Int32).toInt = 1200 := rfl
  have e5 := toInt_ge x3
  have e8 := congrArg Int32.toInt h3
  rw [Int32.toInt_ofNat_of_lt (by omega)] at e8
  have e9 := toInt_lt x2
  have e10 := ge0_of h5
  rw [toInt_sub_of (by omega) (by omega)] at e8
  have e6 := e8
  have e7 : (x2 + x4).toInt = x2.toInt + x4.toInt := toInt_add_of (by omega) (by omega)
  have g := toNat_of (not_lt0 (i := x2 + x4) (by omega))
  rintro (q | q)
  · exact not_lt0 (by omega) q
  · omega
theorem g_X7_isWord_L28 {l : Launch} {K : gK} {Γ : gT} {t : Nat → Nat} (C : Cx l K Γ RX7 cX7_isWord 5 (some .boolean) 6) {j : Nat} (hj : j < 16) (X : SM) {x2 x3 : Int32} (h1 : ¬ x2 < 0) (h5 : ¬ x3 < 0) (h2 : ¬ (1200 : Int32) < x3) (h3 : x3 - x2 = Int32.ofNat (slen.getD j 0)) : ∀ (n : Nat) (x4 : Int32), ¬ x4 < 0 → mu x4 < n → G l K Γ (tx_W K t 1200 X) 28 5 [(0, .ref (t 0)), (1, .ref (K.2 (100 + j))), (2, .int x2), (3, .int x3), (4, .int x4)] [] (fun z => (some (.int z), tx_W K t 1200 X)) (v_X7_isWord_L28 n X j x2 x4) := by
  intro n
  induction n with
  | zero =>
    intro x4 h0 hm
    exact absurd hm (Nat.not_lt_zero _)
  | succ n ih =>
    intro x4 h0 hm
    rw [v_X7_isWord_L28]
    refine G_iload C 4 dX7_isWord_28 rfl ?_
    refine G_aload_n C 1 dX7_isWord_30 rfl ?_
    refine G_callVSi C hj rfl kd_J0_length_8abf5 ui_J0_length_8abf5 us_J0_length_8abf5 um_X7_19 (c_slength l K _ hj) dX7_isWord_31 rfl rfl (Nat.le_of_ble_eq_true rfl) (Nat.le_of_ble_eq_true rfl) ?_
    refine G_icmp_ge C 63 dX7_isWord_34 rfl (fun h4 => ?_) (fun h4 => ?_)
    · refine G_aload_n C 0 dX7_isWord_37 rfl ?_
      refine G_get C 0 0 dX7_isWord_38 inlX7 uf_X7_9 rfl (by decide) rfl rfl rfl ?_
      refine G_iload_n C 2 dX7_isWord_41 rfl ?_
      refine G_iload C 4 dX7_isWord_42 rfl ?_
      refine G_iadd C dX7_isWord_44 ?_
      refine G_bald C 1 dX7_isWord_45 rfl (isWord_in hj h1 h5 h2 h3 h0 h4) ?_
      refine G_aload_n C 1 dX7_isWord_46 rfl ?_
      refine G_iload C 4 dX7_isWord_47 rfl ?_
      refine G_callVSi C hj rfl kd_J0_charAt_5068e ui_J0_charAt_5068e us_J0_charAt_5068e um_X7_24 (c_charAt l K _ hj h0 h4) dX7_isWord_49 rfl rfl (Nat.le_of_ble_eq_true rfl) (Nat.le_of_ble_eq_true rfl) ?_
      refine G_icmp_eq C 57 dX7_isWord_52 rfl (fun h6 => ?_) (fun h6 => ?_)
      · refine G_iinc (lv' := [(4, .int (x4 + 1)), (0, .ref (t 0)), (1, .ref (K.2 (100 + j))), (2, .int x2), (3, .int x3)]) C 4 dX7_isWord_57 rfl rfl (by decide) rfl ?_
        refine G_goto C 28 dX7_isWord_60 rfl ?_
        refine G_sub [1, 2, 3, 4, 0] rfl ?_
        exact ih _ (add_ge0 h0 h4) (by have := mu_up h4; omega)
      · refine G_iconst C dX7_isWord_55 (v := 0) rfl ?_
        exact G_zret C dX7_isWord_56 rfl rfl
    · refine G_iconst C dX7_isWord_63 (v := 1) rfl ?_
      exact G_zret C dX7_isWord_64 rfl rfl
def v_X7_isWord (X : SM) (j : Nat) (x2 x3 : Int32) : Int32 := if x2 < 0 then 0 else if 1200 < x3 then 0 else if x3 - x2 = Int32.ofNat (slen.getD j 0) then v_X7_isWord_L28 (mu 0 + 1) X j x2 0 else 0
theorem c_X7_isWord (l : Launch) (K : gK) (t : Nat → Nat) (X : SM) {j : Nat} (hj : j < 16) (x2 x3 : Int32) (h5 : ¬ x3 < 0) : Ct l K yX7_isWord cX7_isWord 5 (some .boolean) 6 [.ref (t 0), .ref (K.2 (100 + j)), .int x2, .int x3] (tx_W K t 1200 X) (some (.int (v_X7_isWord X j x2 x3)), tx_W K t 1200 X) := by
  refine Ct.of (own := RX7) (fun z => (some (.int z), tx_W K t 1200 X)) (x := v_X7_isWord X j x2 x3) (by decide) rfl (Nat.le_of_ble_eq_true rfl) (fun Γ C => ?_)
  unfold v_X7_isWord
  refine G_iload_n C 2 dX7_isWord_0 rfl ?_
  refine G_if_lt C 23 dX7_isWord_1 rfl (fun h1 => ?_) (fun h1 => ?_)
  · refine G_iconst C dX7_isWord_23 (v := 0) rfl ?_
    exact G_zret C dX7_isWord_24 rfl rfl
  · refine G_iload_n C 3 dX7_isWord_4 rfl ?_
    refine G_aload_n C 0 dX7_isWord_5 rfl ?_
    refine G_get C 0 0 dX7_isWord_6 inlX7 uf_X7_9 rfl (by decide) rfl rfl rfl ?_
    refine G_alen C 1 1 dX7_isWord_9 rfl rfl (v := 1200) rfl ?_
    refine G_icmp_gt C 23 dX7_isWord_10 rfl (fun h2 => ?_) (fun h2 => ?_)
    · refine G_iconst C dX7_isWord_23 (v := 0) rfl ?_
      exact G_zret C dX7_isWord_24 rfl rfl
    · refine G_iload_n C 3 dX7_isWord_13 rfl ?_
      refine G_iload_n C 2 dX7_isWord_14 rfl ?_
      refine G_isub C dX7_isWord_15 ?_
      refine G_aload_n C 1 dX7_isWord_16 rfl ?_
      refine G_callVSi C hj rfl kd_J0_length_8abf5 ui_J0_length_8abf5 us_J0_length_8abf5 um_X7_19 (c_slength l K _ hj) dX7_isWord_17 rfl rfl (Nat.le_of_ble_eq_true rfl) (Nat.le_of_ble_eq_true rfl) ?_
      refine G_icmp_eq C 25 dX7_isWord_20 rfl (fun h3 => ?_) (fun h3 => ?_)
      · refine G_iconst C dX7_isWord_25 (v := 0) rfl ?_
        refine G_istore (lv' := [(4, .int 0), (0, .ref (t 0)), (1, .ref (K.2 (100 + j))), (2, .int x2), (3, .int x3)]) C dX7_isWord_26 (by decide) rfl ?_
        refine G_sub [1, 2, 3, 4, 0] rfl ?_
        exact g_X7_isWord_L28 C hj X h1 h5 h2 h3 _ 0 (by decide) (Nat.lt_succ_self _)
      · refine G_iconst C dX7_isWord_23 (v := 0) rfl ?_
        exact G_zret C dX7_isWord_24 rfl rfl

theorem kd_X3_skipWhiteSpace : Card yX3_skipWhiteSpace cX3_skipWhiteSpace 1 none 0 := ⟨uc_X3_skipWhiteSpace, un_X3, ⟨by decide, by decide, by decide⟩, by decide⟩
def s_X3_skipWhiteSpace_L52 (c : Nat → Int32) (X : SM) : Nat → Int32 := upd c 1 (c 0)
theorem g_X3_skipWhiteSpace_L52 {l : Launch} {K : gK} {Γ : gT} {t : Nat → Nat} (C : Cx l K Γ RX3 cX3_skipWhiteSpace 1 none 1) (c : Nat → Int32) (X : SM) (hc0 : ¬ c 0 < 0) (hc1 : ¬ c 1 < 0) : G l K Γ (sc_W K t X c) 52 1 [(0, .ref (t 2))] [] (fun z => (none, sc_W K t X z)) (s_X3_skipWhiteSpace_L52 c X) := by
  unfold s_X3_skipWhiteSpace_L52
  refine G_aload_n C 0 dX3_skipWhiteSpace_52 rfl ?_
  refine G_aload_n C 0 dX3_skipWhiteSpace_53 rfl ?_
  refine G_get C 0 1 dX3_skipWhiteSpace_54 inlX3 uf_X3_30 rfl (by decide) rfl rfl rfl ?_
  refine G_put (ws' := sc_W K t X (upd c 1 (c 0))) C 0 2 tyX3 .int dX3_skipWhiteSpace_57 inlX3 uf_X3_20 tyX3_ok nmX3 rfl (by decide) rfl rfl rfl rfl rfl rfl (Nat.le_of_ble_eq_true rfl) rfl ?_
  exact G_vret C dX3_skipWhiteSpace_60 rfl
theorem inv_X3_skipWhiteSpace_L52 (c : Nat → Int32) (X : SM) (hc0 : ¬ c 0 < 0) (hc1 : ¬ c 1 < 0) : (fun z : Nat → Int32 => ¬ z 0 < 0 ∧ ¬ z 1 < 0) (s_X3_skipWhiteSpace_L52 c X) := by
  unfold s_X3_skipWhiteSpace_L52
  exact ⟨hc0, hc0⟩
def s_X3_skipWhiteSpace_L8 : Nat → (Nat → Int32) → SM → Nat → Int32
  | 0, c, _ => c
  | fuel + 1, c, X => if (c 0) < (X 1 0) then if (v_X3_isWhiteSpace (v_X7_byteAt X (c 0))) = 0 then s_X3_skipWhiteSpace_L52 c X else s_X3_skipWhiteSpace_L8 fuel (upd c 0 ((c 0) + 1)) X else s_X3_skipWhiteSpace_L52 c X
theorem g_X3_skipWhiteSpace_L8 {l : Launch} {K : gK} {Γ : gT} {t : Nat → Nat} (C : Cx l K Γ RX3 cX3_skipWhiteSpace 1 none 1) : ∀ (n : Nat) (c : Nat → Int32) (X : SM) (hc0 : ¬ c 0 < 0) (hc1 : ¬ c 1 < 0), mu (c 0) < n → G l K Γ (sc_W K t X c) 8 1 [(0, .ref (t 2))] [] (fun z => (none, sc_W K t X z)) (s_X3_skipWhiteSpace_L8 n c X) := by
  intro n
  induction n with
  | zero =>
    intro c X hc0 hc1 hm
    exact absurd hm (Nat.not_lt_zero _)
  | succ n ih =>
    intro c X hc0 hc1 hm
    rw [s_X3_skipWhiteSpace_L8]
    refine G_aload_n C 0 dX3_skipWhiteSpace_8 rfl ?_
    refine G_get C 0 1 dX3_skipWhiteSpace_9 inlX3 uf_X3_30 rfl (by decide) rfl rfl rfl ?_
    refine G_aload_n C 0 dX3_skipWhiteSpace_12 rfl ?_
    refine G_get C 0 0 dX3_skipWhiteSpace_13 inlX3 uf_X3_14 rfl (by decide) rfl rfl rfl ?_
    refine G_get C 1 1 dX3_skipWhiteSpace_16 inlX7 uf_X3_37 rfl (by decide) rfl rfl rfl ?_
    refine G_icmp_ge C 52 dX3_skipWhiteSpace_19 rfl (fun h1 => ?_) (fun h1 => ?_)
    · refine G_aload_n C 0 dX3_skipWhiteSpace_22 rfl ?_
      refine G_get C 0 0 dX3_skipWhiteSpace_23 inlX3 uf_X3_14 rfl (by decide) rfl rfl rfl ?_
      refine G_aload_n C 0 dX3_skipWhiteSpace_26 rfl ?_
      refine G_get C 0 1 dX3_skipWhiteSpace_27 inlX3 uf_X3_30 rfl (by decide) rfl rfl rfl ?_
      refine G_callVi C 1 7 kd_X7_byteAt ui_X7_byteAt us_X7_byteAt um_X3_33 rfl rfl (Ct.right _ (c_X7_byteAt l K t X (c 0))) dX3_skipWhiteSpace_30 rfl rfl (Nat.le_of_ble_eq_true rfl) (Nat.le_of_ble_eq_true rfl) ?_
      refine G_callSi C kd_X3_isWhiteSpace ut_X3_isWhiteSpace um_X3_59 (c_X3_isWhiteSpace l K (sc_W K t X c) (v_X7_byteAt X (c 0))) dX3_skipWhiteSpace_33 rfl rfl (Nat.le_of_ble_eq_true rfl) (Nat.le_of_ble_eq_true rfl) ?_
      refine G_if_eq C 52 dX3_skipWhiteSpace_36 rfl (fun h2 => ?_) (fun h2 => ?_)
      · refine G_sub [0] rfl ?_
        exact g_X3_skipWhiteSpace_L52 C c X hc0 hc1
      · refine G_aload_n C 0 dX3_skipWhiteSpace_39 rfl ?_
        refine G_dup C dX3_skipWhiteSpace_40 rfl ?_
        refine G_get C 0 1 dX3_skipWhiteSpace_41 inlX3 uf_X3_30 rfl (by decide) rfl rfl rfl ?_
        refine G_iconst C dX3_skipWhiteSpace_44 (v := 1) rfl ?_
        refine G_iadd C dX3_skipWhiteSpace_45 ?_
        refine G_put (ws' := sc_W K t X (upd c 0 ((c 0) + 1))) C 0 1 tyX3 .int dX3_skipWhiteSpace_46 inlX3 uf_X3_30 tyX3_ok nmX3 rfl (by decide) rfl rfl rfl rfl rfl rfl (Nat.le_of_ble_eq_true rfl) rfl ?_
        refine G_goto C 8 dX3_skipWhiteSpace_49 rfl ?_
        refine G_sub [0] rfl ?_
        exact ih (upd c 0 ((c 0) + 1)) X (add_ge0 hc0 h1) hc1 (by have := mu_up h1; exact (show mu (c 0 + 1) < n by omega))
    · refine G_sub [0] rfl ?_
      exact g_X3_skipWhiteSpace_L52 C c X hc0 hc1
theorem inv_X3_skipWhiteSpace_L8 : ∀ (n : Nat) (c : Nat → Int32) (X : SM) (hc0 : ¬ c 0 < 0) (hc1 : ¬ c 1 < 0), mu (c 0) < n → (fun z : Nat → Int32 => ¬ z 0 < 0 ∧ ¬ z 1 < 0) (s_X3_skipWhiteSpace_L8 n c X) := by
  intro n
  induction n with
  | zero =>
    intro c X hc0 hc1 hm
    exact absurd hm (Nat.not_lt_zero _)
  | succ n ih =>
    intro c X hc0 hc1 hm
    rw [s_X3_skipWhiteSpace_L8]
    refine inv_ite (P := (fun z : Nat → Int32 => ¬ z 0 < 0 ∧ ¬ z 1 < 0)) (c := (c 0) < (X 1 0)) (fun h1 => ?_) (fun h1 => ?_)
    · refine inv_ite (P := (fun z : Nat → Int32 => ¬ z 0 < 0 ∧ ¬ z 1 < 0)) (c := (v_X3_isWhiteSpace (v_X7_byteAt X (c 0))) = 0) (fun h2 => ?_) (fun h2 => ?_)
      · exact inv_X3_skipWhiteSpace_L52 c X hc0 hc1
      · exact ih (upd c 0 ((c 0) + 1)) X (add_ge0 hc0 h1) hc1 (by have := mu_up h1; exact (show mu (c 0 + 1) < n by omega))
    · exact inv_X3_skipWhiteSpace_L52 c X hc0 hc1
def s_X3_skipWhiteSpace (c : Nat → Int32) (X : SM) : Nat → Int32 := s_X3_skipWhiteSpace_L8 (mu ((upd c 0 (c 1)) 0) + 1) (upd c 0 (c 1)) X
theorem inv_X3_skipWhiteSpace (c : Nat → Int32) (X : SM) (hc1 : ¬ c 1 < 0) : (fun z : Nat → Int32 => ¬ z 0 < 0 ∧ ¬ z 1 < 0) (s_X3_skipWhiteSpace c X) := by
  unfold s_X3_skipWhiteSpace
  exact inv_X3_skipWhiteSpace_L8 _ (upd c 0 (c 1)) X hc1 hc1 (Nat.lt_succ_self _)
theorem c_X3_skipWhiteSpace (l : Launch) (K : gK) (t : Nat → Nat) (c : Nat → Int32) (X : SM) (hc1 : ¬ c 1 < 0) : Ct l K yX3_skipWhiteSpace cX3_skipWhiteSpace 1 none 1 [.ref (t 2)] (sc_W K t X c) (none, sc_W K t X (s_X3_skipWhiteSpace c X)) := by
  refine Ct.of (own := RX3) (fun z => (none, sc_W K t X z)) (x := s_X3_skipWhiteSpace c X) (by decide) rfl (Nat.le_of_ble_eq_true rfl) (fun Γ C => ?_)
  unfold s_X3_skipWhiteSpace
  refine G_aload_n C 0 dX3_skipWhiteSpace_0 rfl ?_
  refine G_aload_n C 0 dX3_skipWhiteSpace_1 rfl ?_
  refine G_get C 0 2 dX3_skipWhiteSpace_2 inlX3 uf_X3_20 rfl (by decide) rfl rfl rfl ?_
  refine G_put (ws' := sc_W K t X (upd c 0 (c 1))) C 0 1 tyX3 .int dX3_skipWhiteSpace_5 inlX3 uf_X3_30 tyX3_ok nmX3 rfl (by decide) rfl rfl rfl rfl rfl rfl (Nat.le_of_ble_eq_true rfl) rfl ?_
  refine G_sub [0] rfl ?_
  exact g_X3_skipWhiteSpace_L8 C _ (upd c 0 (c 1)) X hc1 hc1 (Nat.lt_succ_self _)
theorem kd_X3_readNumeral : Card yX3_readNumeral cX3_readNumeral 1 none 0 := ⟨uc_X3_readNumeral, un_X3, ⟨by decide, by decide, by decide⟩, by decide⟩
def s_X3_readNumeral_L109 (c : Nat → Int32) (X : SM) (t0 : Int32) : Nat → Int32 := upd c 2 t0
theorem g_X3_readNumeral_L109 {l : Launch} {K : gK} {Γ : gT} {t : Nat → Nat} (C : Cx l K Γ RX3 cX3_readNumeral 1 none 1) (c : Nat → Int32) (X : SM) (t0 : Int32) (hc0 : ¬ c 0 < 0) (hc1 : ¬ c 1 < 0) : G l K Γ (sc_W K t X c) 109 1 [(0, .ref (t 2))] [.int t0, .ref (t 2)] (fun z => (none, sc_W K t X z)) (s_X3_readNumeral_L109 c X t0) := by
  unfold s_X3_readNumeral_L109
  refine G_put (ws' := sc_W K t X (upd c 2 t0)) C 0 3 tyX3 .int dX3_readNumeral_109 inlX3 uf_X3_40 tyX3_ok nmX3 rfl (by decide) rfl rfl rfl rfl rfl rfl (Nat.le_of_ble_eq_true rfl) rfl ?_
  exact G_vret C dX3_readNumeral_112 rfl
theorem inv_X3_readNumeral_L109 (c : Nat → Int32) (X : SM) (t0 : Int32) (hc0 : ¬ c 0 < 0) (hc1 : ¬ c 1 < 0) : (fun z : Nat → Int32 => ¬ z 1 < 0) (s_X3_readNumeral_L109 c X t0) := by
  unfold s_X3_readNumeral_L109
  exact hc1
def s_X3_readNumeral_L88 (c : Nat → Int32) (X : SM) : Nat → Int32 := if 2 < ((c 1) - (c 0)) then s_X3_readNumeral_L109 c X 10 else s_X3_readNumeral_L109 c X 7
theorem g_X3_readNumeral_L88 {l : Launch} {K : gK} {Γ : gT} {t : Nat → Nat} (C : Cx l K Γ RX3 cX3_readNumeral 1 none 1) (c : Nat → Int32) (X : SM) (hc0 : ¬ c 0 < 0) (hc1 : ¬ c 1 < 0) : G l K Γ (sc_W K t X c) 88 1 [(0, .ref (t 2))] [] (fun z => (none, sc_W K t X z)) (s_X3_readNumeral_L88 c X) := by
  unfold s_X3_readNumeral_L88
  refine G_aload_n C 0 dX3_readNumeral_88 rfl ?_
  refine G_aload_n C 0 dX3_readNumeral_89 rfl ?_
  refine G_get C 0 2 dX3_readNumeral_90 inlX3 uf_X3_20 rfl (by decide) rfl rfl rfl ?_
  refine G_aload_n C 0 dX3_readNumeral_93 rfl ?_
  refine G_get C 0 1 dX3_readNumeral_94 inlX3 uf_X3_30 rfl (by decide) rfl rfl rfl ?_
  refine G_isub C dX3_readNumeral_97 ?_
  refine G_iconst C dX3_readNumeral_98 (v := 2) rfl ?_
  refine G_icmp_le C 107 dX3_readNumeral_99 rfl (fun h4 => ?_) (fun h4 => ?_)
  · refine G_bipush C dX3_readNumeral_102 (v := 10) rfl ?_
    refine G_goto C 109 dX3_readNumeral_104 rfl ?_
    refine G_sub [0] rfl ?_
    exact g_X3_readNumeral_L109 C c X 10 hc0 hc1
  · refine G_bipush C dX3_readNumeral_107 (v := 7) rfl ?_
    refine G_sub [0] rfl ?_
    exact g_X3_readNumeral_L109 C c X 7 hc0 hc1
theorem inv_X3_readNumeral_L88 (c : Nat → Int32) (X : SM) (hc0 : ¬ c 0 < 0) (hc1 : ¬ c 1 < 0) : (fun z : Nat → Int32 => ¬ z 1 < 0) (s_X3_readNumeral_L88 c X) := by
  unfold s_X3_readNumeral_L88
  refine inv_ite (P := (fun z : Nat → Int32 => ¬ z 1 < 0)) (c := 2 < ((c 1) - (c 0))) (fun h4 => ?_) (fun h4 => ?_)
  · exact inv_X3_readNumeral_L109 c X 10 hc0 hc1
  · exact inv_X3_readNumeral_L109 c X 7 hc0 hc1
def s_X3_readNumeral_L5 : Nat → (Nat → Int32) → SM → Nat → Int32
  | 0, c, _ => c
  | fuel + 1, c, X => if (c 1) < (X 1 0) then if (v_X3_isDigit (v_X7_byteAt X (c 1))) = 0 then s_X3_readNumeral_L88 c X else if ((c 1) - (c 0)) < 2 then s_X3_readNumeral_L5 fuel (upd (upd c 3 ((((c 3) * 10) + (v_X7_byteAt X (c 1))) - 48)) 1 (((upd c 3 ((((c 3) * 10) + (v_X7_byteAt X (c 1))) - 48)) 1) + 1)) X else s_X3_readNumeral_L5 fuel (upd c 1 ((c 1) + 1)) X else s_X3_readNumeral_L88 c X
theorem g_X3_readNumeral_L5 {l : Launch} {K : gK} {Γ : gT} {t : Nat → Nat} (C : Cx l K Γ RX3 cX3_readNumeral 1 none 1) : ∀ (n : Nat) (c : Nat → Int32) (X : SM) (hc0 : ¬ c 0 < 0) (hc1 : ¬ c 1 < 0), mu (c 1) < n → G l K Γ (sc_W K t X c) 5 1 [(0, .ref (t 2))] [] (fun z => (none, sc_W K t X z)) (s_X3_readNumeral_L5 n c X) := by
  intro n
  induction n with
  | zero =>
    intro c X hc0 hc1 hm
    exact absurd hm (Nat.not_lt_zero _)
  | succ n ih =>
    intro c X hc0 hc1 hm
    rw [s_X3_readNumeral_L5]
    refine G_aload_n C 0 dX3_readNumeral_5 rfl ?_
    refine G_get C 0 2 dX3_readNumeral_6 inlX3 uf_X3_20 rfl (by decide) rfl rfl rfl ?_
    refine G_aload_n C 0 dX3_readNumeral_9 rfl ?_
    refine G_get C 0 0 dX3_readNumeral_10 inlX3 uf_X3_14 rfl (by decide) rfl rfl rfl ?_
    refine G_get C 1 1 dX3_readNumeral_13 inlX7 uf_X3_37 rfl (by decide) rfl rfl rfl ?_
    refine G_icmp_ge C 88 dX3_readNumeral_16 rfl (fun h1 => ?_) (fun h1 => ?_)
    · refine G_aload_n C 0 dX3_readNumeral_19 rfl ?_
      refine G_get C 0 0 dX3_readNumeral_20 inlX3 uf_X3_14 rfl (by decide) rfl rfl rfl ?_
      refine G_aload_n C 0 dX3_readNumeral_23 rfl ?_
      refine G_get C 0 2 dX3_readNumeral_24 inlX3 uf_X3_20 rfl (by decide) rfl rfl rfl ?_
      refine G_callVi C 1 7 kd_X7_byteAt ui_X7_byteAt us_X7_byteAt um_X3_33 rfl rfl (Ct.right _ (c_X7_byteAt l K t X (c 1))) dX3_readNumeral_27 rfl rfl (Nat.le_of_ble_eq_true rfl) (Nat.le_of_ble_eq_true rfl) ?_
      refine G_callSi C kd_X3_isDigit ut_X3_isDigit um_X3_43 (c_X3_isDigit l K (sc_W K t X c) (v_X7_byteAt X (c 1))) dX3_readNumeral_30 rfl rfl (Nat.le_of_ble_eq_true rfl) (Nat.le_of_ble_eq_true rfl) ?_
      refine G_if_eq C 88 dX3_readNumeral_33 rfl (fun h2 => ?_) (fun h2 => ?_)
      · refine G_sub [0] rfl ?_
        exact g_X3_readNumeral_L88 C c X hc0 hc1
      · refine G_aload_n C 0 dX3_readNumeral_36 rfl ?_
        refine G_get C 0 2 dX3_readNumeral_37 inlX3 uf_X3_20 rfl (by decide) rfl rfl rfl ?_
        refine G_aload_n C 0 dX3_readNumeral_40 rfl ?_
        refine G_get C 0 1 dX3_readNumeral_41 inlX3 uf_X3_30 rfl (by decide) rfl rfl rfl ?_
        refine G_isub C dX3_readNumeral_44 ?_
        refine G_iconst C dX3_readNumeral_45 (v := 2) rfl ?_
        refine G_icmp_ge C 75 dX3_readNumeral_46 rfl (fun h3 => ?_) (fun h3 => ?_)
        · refine G_aload_n C 0 dX3_readNumeral_49 rfl ?_
          refine G_aload_n C 0 dX3_readNumeral_50 rfl ?_
          refine G_get C 0 4 dX3_readNumeral_51 inlX3 uf_X3_62 rfl (by decide) rfl rfl rfl ?_
          refine G_bipush C dX3_readNumeral_54 (v := 10) rfl ?_
          refine G_imul C dX3_readNumeral_56 ?_
          refine G_aload_n C 0 dX3_readNumeral_57 rfl ?_
          refine G_get C 0 0 dX3_readNumeral_58 inlX3 uf_X3_14 rfl (by decide) rfl rfl rfl ?_
          refine G_aload_n C 0 dX3_readNumeral_61 rfl ?_
          refine G_get C 0 2 dX3_readNumeral_62 inlX3 uf_X3_20 rfl (by decide) rfl rfl rfl ?_
          refine G_callVi C 1 7 kd_X7_byteAt ui_X7_byteAt us_X7_byteAt um_X3_33 rfl rfl (Ct.right _ (c_X7_byteAt l K t X (c 1))) dX3_readNumeral_65 rfl rfl (Nat.le_of_ble_eq_true rfl) (Nat.le_of_ble_eq_true rfl) ?_
          refine G_iadd C dX3_readNumeral_68 ?_
          refine G_bipush C dX3_readNumeral_69 (v := 48) rfl ?_
          refine G_isub C dX3_readNumeral_71 ?_
          refine G_put (ws' := sc_W K t X (upd c 3 ((((c 3) * 10) + (v_X7_byteAt X (c 1))) - 48))) C 0 4 tyX3 .int dX3_readNumeral_72 inlX3 uf_X3_62 tyX3_ok nmX3 rfl (by decide) rfl rfl rfl rfl rfl rfl (Nat.le_of_ble_eq_true rfl) rfl ?_
          refine G_aload_n C 0 dX3_readNumeral_75 rfl ?_
          refine G_dup C dX3_readNumeral_76 rfl ?_
          refine G_get C 0 2 dX3_readNumeral_77 inlX3 uf_X3_20 rfl (by decide) rfl rfl rfl ?_
          refine G_iconst C dX3_readNumeral_80 (v := 1) rfl ?_
          refine G_iadd C dX3_readNumeral_81 ?_
          refine G_put (ws' := sc_W K t X (upd (upd c 3 ((((c 3) * 10) + (v_X7_byteAt X (c 1))) - 48)) 1 (((upd c 3 ((((c 3) * 10) + (v_X7_byteAt X (c 1))) - 48)) 1) + 1))) C 0 2 tyX3 .int dX3_readNumeral_82 inlX3 uf_X3_20 tyX3_ok nmX3 rfl (by decide) rfl rfl rfl rfl rfl rfl (Nat.le_of_ble_eq_true rfl) rfl ?_
          refine G_goto C 5 dX3_readNumeral_85 rfl ?_
          refine G_sub [0] rfl ?_
          exact ih (upd (upd c 3 ((((c 3) * 10) + (v_X7_byteAt X (c 1))) - 48)) 1 (((upd c 3 ((((c 3) * 10) + (v_X7_byteAt X (c 1))) - 48)) 1) + 1)) X hc0 (add_ge0 hc1 h1) (by have := mu_up h1; exact (show mu (c 1 + 1) < n by omega))
        · refine G_aload_n C 0 dX3_readNumeral_75 rfl ?_
          refine G_dup C dX3_readNumeral_76 rfl ?_
          refine G_get C 0 2 dX3_readNumeral_77 inlX3 uf_X3_20 rfl (by decide) rfl rfl rfl ?_
          refine G_iconst C dX3_readNumeral_80 (v := 1) rfl ?_
          refine G_iadd C dX3_readNumeral_81 ?_
          refine G_put (ws' := sc_W K t X (upd c 1 ((c 1) + 1))) C 0 2 tyX3 .int dX3_readNumeral_82 inlX3 uf_X3_20 tyX3_ok nmX3 rfl (by decide) rfl rfl rfl rfl rfl rfl (Nat.le_of_ble_eq_true rfl) rfl ?_
          refine G_goto C 5 dX3_readNumeral_85 rfl ?_
          refine G_sub [0] rfl ?_
          exact ih (upd c 1 ((c 1) + 1)) X hc0 (add_ge0 hc1 h1) (by have := mu_up h1; exact (show mu (c 1 + 1) < n by omega))
    · refine G_sub [0] rfl ?_
      exact g_X3_readNumeral_L88 C c X hc0 hc1
theorem inv_X3_readNumeral_L5 : ∀ (n : Nat) (c : Nat → Int32) (X : SM) (hc0 : ¬ c 0 < 0) (hc1 : ¬ c 1 < 0), mu (c 1) < n → (fun z : Nat → Int32 => ¬ z 1 < 0) (s_X3_readNumeral_L5 n c X) := by
  intro n
  induction n with
  | zero =>
    intro c X hc0 hc1 hm
    exact absurd hm (Nat.not_lt_zero _)
  | succ n ih =>
    intro c X hc0 hc1 hm
    rw [s_X3_readNumeral_L5]
    refine inv_ite (P := (fun z : Nat → Int32 => ¬ z 1 < 0)) (c := (c 1) < (X 1 0)) (fun h1 => ?_) (fun h1 => ?_)
    · refine inv_ite (P := (fun z : Nat → Int32 => ¬ z 1 < 0)) (c := (v_X3_isDigit (v_X7_byteAt X (c 1))) = 0) (fun h2 => ?_) (fun h2 => ?_)
      · exact inv_X3_readNumeral_L88 c X hc0 hc1
      · refine inv_ite (P := (fun z : Nat → Int32 => ¬ z 1 < 0)) (c := ((c 1) - (c 0)) < 2) (fun h3 => ?_) (fun h3 => ?_)
        · exact ih (upd (upd c 3 ((((c 3) * 10) + (v_X7_byteAt X (c 1))) - 48)) 1 (((upd c 3 ((((c 3) * 10) + (v_X7_byteAt X (c 1))) - 48)) 1) + 1)) X hc0 (add_ge0 hc1 h1) (by have := mu_up h1; exact (show mu (c 1 + 1) < n by omega))
        · exact ih (upd c 1 ((c 1) + 1)) X hc0 (add_ge0 hc1 h1) (by have := mu_up h1; exact (show mu (c 1 + 1) < n by omega))
    · exact inv_X3_readNumeral_L88 c X hc0 hc1
def s_X3_readNumeral (c : Nat → Int32) (X : SM) : Nat → Int32 := s_X3_readNumeral_L5 (mu ((upd c 3 0) 1) + 1) (upd c 3 0) X
theorem inv_X3_readNumeral (c : Nat → Int32) (X : SM) (hc0 : ¬ c 0 < 0) (hc1 : ¬ c 1 < 0) : (fun z : Nat → Int32 => ¬ z 1 < 0) (s_X3_readNumeral c X) := by
  unfold s_X3_readNumeral
  exact inv_X3_readNumeral_L5 _ (upd c 3 0) X hc0 hc1 (Nat.lt_succ_self _)
theorem c_X3_readNumeral (l : Launch) (K : gK) (t : Nat → Nat) (c : Nat → Int32) (X : SM) (hc0 : ¬ c 0 < 0) (hc1 : ¬ c 1 < 0) : Ct l K yX3_readNumeral cX3_readNumeral 1 none 1 [.ref (t 2)] (sc_W K t X c) (none, sc_W K t X (s_X3_readNumeral c X)) := by
  refine Ct.of (own := RX3) (fun z => (none, sc_W K t X z)) (x := s_X3_readNumeral c X) (by decide) rfl (Nat.le_of_ble_eq_true rfl) (fun Γ C => ?_)
  unfold s_X3_readNumeral
  refine G_aload_n C 0 dX3_readNumeral_0 rfl ?_
  refine G_iconst C dX3_readNumeral_1 (v := 0) rfl ?_
  refine G_put (ws' := sc_W K t X (upd c 3 0)) C 0 4 tyX3 .int dX3_readNumeral_2 inlX3 uf_X3_62 tyX3_ok nmX3 rfl (by decide) rfl rfl rfl rfl rfl rfl (Nat.le_of_ble_eq_true rfl) rfl ?_
  refine G_sub [0] rfl ?_
  exact g_X3_readNumeral_L5 C _ (upd c 3 0) X hc0 hc1 (Nat.lt_succ_self _)
theorem kd_X3_readWord : Card yX3_readWord cX3_readWord 2 none 0 := ⟨uc_X3_readWord, un_X3, ⟨by decide, by decide, by decide⟩, by decide⟩
def s_X3_readWord_L52 : Nat → (Nat → Int32) → SM → Int32 → Nat → Int32
  | 0, c, _, _ => c
  | fuel + 1, c, X, x1 => if 6 < x1 then c else if (v_X7_isWord X (v_X3_keyword x1) (c 0) (c 1)) = 0 then s_X3_readWord_L52 fuel c X (x1 + 1) else s_X3_readWord_L52 fuel (upd c 2 x1) X (x1 + 1)
theorem g_X3_readWord_L52 {l : Launch} {K : gK} {Γ : gT} {t : Nat → Nat} (C : Cx l K Γ RX3 cX3_readWord 2 none 7) : ∀ (n : Nat) (c : Nat → Int32) (X : SM) (x1 : Int32) (hc0 : ¬ c 0 < 0) (hc1 : ¬ c 1 < 0), mu x1 < n → G l K Γ (sc_W K t X c) 52 2 [(0, .ref (t 2)), (1, .int x1)] [] (fun z => (none, sc_W K t X z)) (s_X3_readWord_L52 n c X x1) := by
  intro n
  induction n with
  | zero =>
    intro c X x1 hc0 hc1 hm
    exact absurd hm (Nat.not_lt_zero _)
  | succ n ih =>
    intro c X x1 hc0 hc1 hm
    rw [s_X3_readWord_L52]
    refine G_iload_n C 1 dX3_readWord_52 rfl ?_
    refine G_bipush C dX3_readWord_53 (v := 6) rfl ?_
    refine G_icmp_gt C 91 dX3_readWord_55 rfl (fun h3 => ?_) (fun h3 => ?_)
    · exact G_vret C dX3_readWord_91 rfl
    · refine G_aload_n C 0 dX3_readWord_58 rfl ?_
      refine G_get C 0 0 dX3_readWord_59 inlX3 uf_X3_14 rfl (by decide) rfl rfl rfl ?_
      refine G_iload_n C 1 dX3_readWord_62 rfl ?_
      refine G_callS C kd_X3_keyword ut_X3_keyword um_X3_65 (c_X3_keyword l K (sc_W K t X c) x1) dX3_readWord_63 rfl rfl (Nat.le_of_ble_eq_true rfl) (Nat.le_of_ble_eq_true rfl) ?_
      refine G_aload_n C 0 dX3_readWord_66 rfl ?_
      refine G_get C 0 1 dX3_readWord_67 inlX3 uf_X3_30 rfl (by decide) rfl rfl rfl ?_
      refine G_aload_n C 0 dX3_readWord_70 rfl ?_
      refine G_get C 0 2 dX3_readWord_71 inlX3 uf_X3_20 rfl (by decide) rfl rfl rfl ?_
      refine G_callVi C 1 7 kd_X7_isWord ui_X7_isWord us_X7_isWord um_X3_69 rfl rfl (Ct.right _ (c_X7_isWord l K t X (kw_lt _) (c 0) (c 1) hc1)) dX3_readWord_74 rfl rfl (Nat.le_of_ble_eq_true rfl) (Nat.le_of_ble_eq_true rfl) ?_
      refine G_if_eq C 85 dX3_readWord_77 rfl (fun h4 => ?_) (fun h4 => ?_)
      · refine G_iinc (lv' := [(1, .int (x1 + 1)), (0, .ref (t 2))]) C 1 dX3_readWord_85 rfl rfl (by decide) rfl ?_
        refine G_goto C 52 dX3_readWord_88 rfl ?_
        refine G_sub [1, 0] rfl ?_
        exact ih c X (x1 + 1) hc0 hc1 (by have := mu_upc h3 (by decide); omega)
      · refine G_aload_n C 0 dX3_readWord_80 rfl ?_
        refine G_iload_n C 1 dX3_readWord_81 rfl ?_
        refine G_put (ws' := sc_W K t X (upd c 2 x1)) C 0 3 tyX3 .int dX3_readWord_82 inlX3 uf_X3_40 tyX3_ok nmX3 rfl (by decide) rfl rfl rfl rfl rfl rfl (Nat.le_of_ble_eq_true rfl) rfl ?_
        refine G_iinc (lv' := [(1, .int (x1 + 1)), (0, .ref (t 2))]) C 1 dX3_readWord_85 rfl rfl (by decide) rfl ?_
        refine G_goto C 52 dX3_readWord_88 rfl ?_
        refine G_sub [1, 0] rfl ?_
        exact ih (upd c 2 x1) X (x1 + 1) hc0 hc1 (by have := mu_upc h3 (by decide); omega)
theorem inv_X3_readWord_L52 : ∀ (n : Nat) (c : Nat → Int32) (X : SM) (x1 : Int32) (hc0 : ¬ c 0 < 0) (hc1 : ¬ c 1 < 0), mu x1 < n → (fun z : Nat → Int32 => ¬ z 1 < 0) (s_X3_readWord_L52 n c X x1) := by
  intro n
  induction n with
  | zero =>
    intro c X x1 hc0 hc1 hm
    exact absurd hm (Nat.not_lt_zero _)
  | succ n ih =>
    intro c X x1 hc0 hc1 hm
    rw [s_X3_readWord_L52]
    refine inv_ite (P := (fun z : Nat → Int32 => ¬ z 1 < 0)) (c := 6 < x1) (fun h3 => ?_) (fun h3 => ?_)
    · exact hc1
    · refine inv_ite (P := (fun z : Nat → Int32 => ¬ z 1 < 0)) (c := (v_X7_isWord X (v_X3_keyword x1) (c 0) (c 1)) = 0) (fun h4 => ?_) (fun h4 => ?_)
      · exact ih c X (x1 + 1) hc0 hc1 (by have := mu_upc h3 (by decide); omega)
      · exact ih (upd c 2 x1) X (x1 + 1) hc0 hc1 (by have := mu_upc h3 (by decide); omega)
def s_X3_readWord_L50 (c : Nat → Int32) (X : SM) : Nat → Int32 := s_X3_readWord_L52 (mu 0 + 1) c X 0
theorem g_X3_readWord_L50 {l : Launch} {K : gK} {Γ : gT} {t : Nat → Nat} (C : Cx l K Γ RX3 cX3_readWord 2 none 7) (c : Nat → Int32) (X : SM) (hc0 : ¬ c 0 < 0) (hc1 : ¬ c 1 < 0) : G l K Γ (sc_W K t X c) 50 2 [(0, .ref (t 2))] [] (fun z => (none, sc_W K t X z)) (s_X3_readWord_L50 c X) := by
  unfold s_X3_readWord_L50
  refine G_iconst C dX3_readWord_50 (v := 0) rfl ?_
  refine G_istore_n (lv' := [(1, .int 0), (0, .ref (t 2))]) C dX3_readWord_51 (by decide) rfl ?_
  refine G_sub [1, 0] rfl ?_
  exact g_X3_readWord_L52 C _ c X 0 hc0 hc1 (Nat.lt_succ_self _)
theorem inv_X3_readWord_L50 (c : Nat → Int32) (X : SM) (hc0 : ¬ c 0 < 0) (hc1 : ¬ c 1 < 0) : (fun z : Nat → Int32 => ¬ z 1 < 0) (s_X3_readWord_L50 c X) := by
  unfold s_X3_readWord_L50
  exact inv_X3_readWord_L52 _ c X 0 hc0 hc1 (Nat.lt_succ_self _)
def s_X3_readWord_L44 (c : Nat → Int32) (X : SM) : Nat → Int32 := s_X3_readWord_L50 (upd c 2 10) X
theorem g_X3_readWord_L44 {l : Launch} {K : gK} {Γ : gT} {t : Nat → Nat} (C : Cx l K Γ RX3 cX3_readWord 2 none 7) (c : Nat → Int32) (X : SM) (hc0 : ¬ c 0 < 0) (hc1 : ¬ c 1 < 0) : G l K Γ (sc_W K t X c) 44 2 [(0, .ref (t 2))] [] (fun z => (none, sc_W K t X z)) (s_X3_readWord_L44 c X) := by
  unfold s_X3_readWord_L44
  refine G_aload_n C 0 dX3_readWord_44 rfl ?_
  refine G_bipush C dX3_readWord_45 (v := 10) rfl ?_
  refine G_put (ws' := sc_W K t X (upd c 2 10)) C 0 3 tyX3 .int dX3_readWord_47 inlX3 uf_X3_40 tyX3_ok nmX3 rfl (by decide) rfl rfl rfl rfl rfl rfl (Nat.le_of_ble_eq_true rfl) rfl ?_
  refine G_sub [0] rfl ?_
  exact g_X3_readWord_L50 C (upd c 2 10) X hc0 hc1
theorem inv_X3_readWord_L44 (c : Nat → Int32) (X : SM) (hc0 : ¬ c 0 < 0) (hc1 : ¬ c 1 < 0) : (fun z : Nat → Int32 => ¬ z 1 < 0) (s_X3_readWord_L44 c X) := by
  unfold s_X3_readWord_L44
  exact inv_X3_readWord_L50 (upd c 2 10) X hc0 hc1
def s_X3_readWord_L0 : Nat → (Nat → Int32) → SM → Nat → Int32
  | 0, c, _ => c
  | fuel + 1, c, X => if (c 1) < (X 1 0) then if (v_X3_isSmallLetter (v_X7_byteAt X (c 1))) = 0 then s_X3_readWord_L44 c X else s_X3_readWord_L0 fuel (upd c 1 ((c 1) + 1)) X else s_X3_readWord_L44 c X
theorem g_X3_readWord_L0 {l : Launch} {K : gK} {Γ : gT} {t : Nat → Nat} (C : Cx l K Γ RX3 cX3_readWord 2 none 7) : ∀ (n : Nat) (c : Nat → Int32) (X : SM) (hc0 : ¬ c 0 < 0) (hc1 : ¬ c 1 < 0), mu (c 1) < n → G l K Γ (sc_W K t X c) 0 2 [(0, .ref (t 2))] [] (fun z => (none, sc_W K t X z)) (s_X3_readWord_L0 n c X) := by
  intro n
  induction n with
  | zero =>
    intro c X hc0 hc1 hm
    exact absurd hm (Nat.not_lt_zero _)
  | succ n ih =>
    intro c X hc0 hc1 hm
    rw [s_X3_readWord_L0]
    refine G_aload_n C 0 dX3_readWord_0 rfl ?_
    refine G_get C 0 2 dX3_readWord_1 inlX3 uf_X3_20 rfl (by decide) rfl rfl rfl ?_
    refine G_aload_n C 0 dX3_readWord_4 rfl ?_
    refine G_get C 0 0 dX3_readWord_5 inlX3 uf_X3_14 rfl (by decide) rfl rfl rfl ?_
    refine G_get C 1 1 dX3_readWord_8 inlX7 uf_X3_37 rfl (by decide) rfl rfl rfl ?_
    refine G_icmp_ge C 44 dX3_readWord_11 rfl (fun h1 => ?_) (fun h1 => ?_)
    · refine G_aload_n C 0 dX3_readWord_14 rfl ?_
      refine G_get C 0 0 dX3_readWord_15 inlX3 uf_X3_14 rfl (by decide) rfl rfl rfl ?_
      refine G_aload_n C 0 dX3_readWord_18 rfl ?_
      refine G_get C 0 2 dX3_readWord_19 inlX3 uf_X3_20 rfl (by decide) rfl rfl rfl ?_
      refine G_callVi C 1 7 kd_X7_byteAt ui_X7_byteAt us_X7_byteAt um_X3_33 rfl rfl (Ct.right _ (c_X7_byteAt l K t X (c 1))) dX3_readWord_22 rfl rfl (Nat.le_of_ble_eq_true rfl) (Nat.le_of_ble_eq_true rfl) ?_
      refine G_callSi C kd_X3_isSmallLetter ut_X3_isSmallLetter um_X3_50 (c_X3_isSmallLetter l K (sc_W K t X c) (v_X7_byteAt X (c 1))) dX3_readWord_25 rfl rfl (Nat.le_of_ble_eq_true rfl) (Nat.le_of_ble_eq_true rfl) ?_
      refine G_if_eq C 44 dX3_readWord_28 rfl (fun h2 => ?_) (fun h2 => ?_)
      · refine G_sub [0] rfl ?_
        exact g_X3_readWord_L44 C c X hc0 hc1
      · refine G_aload_n C 0 dX3_readWord_31 rfl ?_
        refine G_dup C dX3_readWord_32 rfl ?_
        refine G_get C 0 2 dX3_readWord_33 inlX3 uf_X3_20 rfl (by decide) rfl rfl rfl ?_
        refine G_iconst C dX3_readWord_36 (v := 1) rfl ?_
        refine G_iadd C dX3_readWord_37 ?_
        refine G_put (ws' := sc_W K t X (upd c 1 ((c 1) + 1))) C 0 2 tyX3 .int dX3_readWord_38 inlX3 uf_X3_20 tyX3_ok nmX3 rfl (by decide) rfl rfl rfl rfl rfl rfl (Nat.le_of_ble_eq_true rfl) rfl ?_
        refine G_goto C 0 dX3_readWord_41 rfl ?_
        refine G_sub [0] rfl ?_
        exact ih (upd c 1 ((c 1) + 1)) X hc0 (add_ge0 hc1 h1) (by have := mu_up h1; exact (show mu (c 1 + 1) < n by omega))
    · refine G_sub [0] rfl ?_
      exact g_X3_readWord_L44 C c X hc0 hc1
theorem inv_X3_readWord_L0 : ∀ (n : Nat) (c : Nat → Int32) (X : SM) (hc0 : ¬ c 0 < 0) (hc1 : ¬ c 1 < 0), mu (c 1) < n → (fun z : Nat → Int32 => ¬ z 1 < 0) (s_X3_readWord_L0 n c X) := by
  intro n
  induction n with
  | zero =>
    intro c X hc0 hc1 hm
    exact absurd hm (Nat.not_lt_zero _)
  | succ n ih =>
    intro c X hc0 hc1 hm
    rw [s_X3_readWord_L0]
    refine inv_ite (P := (fun z : Nat → Int32 => ¬ z 1 < 0)) (c := (c 1) < (X 1 0)) (fun h1 => ?_) (fun h1 => ?_)
    · refine inv_ite (P := (fun z : Nat → Int32 => ¬ z 1 < 0)) (c := (v_X3_isSmallLetter (v_X7_byteAt X (c 1))) = 0) (fun h2 => ?_) (fun h2 => ?_)
      · exact inv_X3_readWord_L44 c X hc0 hc1
      · exact ih (upd c 1 ((c 1) + 1)) X hc0 (add_ge0 hc1 h1) (by have := mu_up h1; exact (show mu (c 1 + 1) < n by omega))
    · exact inv_X3_readWord_L44 c X hc0 hc1
def s_X3_readWord (c : Nat → Int32) (X : SM) : Nat → Int32 := s_X3_readWord_L0 (mu (c 1) + 1) c X
theorem inv_X3_readWord (c : Nat → Int32) (X : SM) (hc0 : ¬ c 0 < 0) (hc1 : ¬ c 1 < 0) : (fun z : Nat → Int32 => ¬ z 1 < 0) (s_X3_readWord c X) := by
  unfold s_X3_readWord
  exact inv_X3_readWord_L0 _ c X hc0 hc1 (Nat.lt_succ_self _)
theorem c_X3_readWord (l : Launch) (K : gK) (t : Nat → Nat) (c : Nat → Int32) (X : SM) (hc0 : ¬ c 0 < 0) (hc1 : ¬ c 1 < 0) : Ct l K yX3_readWord cX3_readWord 2 none 7 [.ref (t 2)] (sc_W K t X c) (none, sc_W K t X (s_X3_readWord c X)) := by
  refine Ct.of (own := RX3) (fun z => (none, sc_W K t X z)) (x := s_X3_readWord c X) (by decide) rfl (Nat.le_of_ble_eq_true rfl) (fun Γ C => ?_)
  unfold s_X3_readWord
  refine G_sub [0] rfl ?_
  exact g_X3_readWord_L0 C _ c X hc0 hc1 (Nat.lt_succ_self _)
theorem kd_X3_readOther : Card yX3_readOther cX3_readOther 2 none 1 := ⟨uc_X3_readOther, un_X3, ⟨by decide, by decide, by decide⟩, by decide⟩
def s_X3_readOther (c : Nat → Int32) (X : SM) (x1 : Int32) : Nat → Int32 := if x1 = 59 then upd (upd c 2 8) 1 (((upd c 2 8) 0) + 1) else upd (upd c 2 10) 1 (((upd c 2 10) 0) + 1)
theorem inv_X3_readOther (c : Nat → Int32) (X : SM) (x1 : Int32) (hc0 : ¬ c 0 < 0) (hc1 : ¬ c 1 < 0) (hlt : c 0 < X 1 0) : (fun z : Nat → Int32 => ¬ z 1 < 0) (s_X3_readOther c X x1) := by
  unfold s_X3_readOther
  refine inv_ite (P := (fun z : Nat → Int32 => ¬ z 1 < 0)) (c := x1 = 59) (fun h1 => ?_) (fun h1 => ?_)
  · exact (add_ge0 hc0 hlt)
  · exact (add_ge0 hc0 hlt)
theorem c_X3_readOther (l : Launch) (K : gK) (t : Nat → Nat) (c : Nat → Int32) (X : SM) (x1 : Int32) (hc0 : ¬ c 0 < 0) (hc1 : ¬ c 1 < 0) (hlt : c 0 < X 1 0) : Ct l K yX3_readOther cX3_readOther 2 none 0 [.ref (t 2), .int x1] (sc_W K t X c) (none, sc_W K t X (s_X3_readOther c X x1)) := by
  refine Ct.of (own := RX3) (fun z => (none, sc_W K t X z)) (x := s_X3_readOther c X x1) (by decide) rfl (Nat.le_of_ble_eq_true rfl) (fun Γ C => ?_)
  unfold s_X3_readOther
  refine G_aload_n C 0 dX3_readOther_0 rfl ?_
  refine G_iload_n C 1 dX3_readOther_1 rfl ?_
  refine G_bipush C dX3_readOther_2 (v := 59) rfl ?_
  refine G_icmp_ne C 12 dX3_readOther_4 rfl (fun h1 => ?_) (fun h1 => ?_)
  · refine G_bipush C dX3_readOther_7 (v := 8) rfl ?_
    refine G_goto C 14 dX3_readOther_9 rfl ?_
    refine G_put (ws' := sc_W K t X (upd c 2 8)) C 0 3 tyX3 .int dX3_readOther_14 inlX3 uf_X3_40 tyX3_ok nmX3 rfl (by decide) rfl rfl rfl rfl rfl rfl (Nat.le_of_ble_eq_true rfl) rfl ?_
    refine G_aload_n C 0 dX3_readOther_17 rfl ?_
    refine G_aload_n C 0 dX3_readOther_18 rfl ?_
    refine G_get C 0 1 dX3_readOther_19 inlX3 uf_X3_30 rfl (by decide) rfl rfl rfl ?_
    refine G_iconst C dX3_readOther_22 (v := 1) rfl ?_
    refine G_iadd C dX3_readOther_23 ?_
    refine G_put (ws' := sc_W K t X (upd (upd c 2 8) 1 (((upd c 2 8) 0) + 1))) C 0 2 tyX3 .int dX3_readOther_24 inlX3 uf_X3_20 tyX3_ok nmX3 rfl (by decide) rfl rfl rfl rfl rfl rfl (Nat.le_of_ble_eq_true rfl) rfl ?_
    exact G_vret C dX3_readOther_27 rfl
  · refine G_bipush C dX3_readOther_12 (v := 10) rfl ?_
    refine G_put (ws' := sc_W K t X (upd c 2 10)) C 0 3 tyX3 .int dX3_readOther_14 inlX3 uf_X3_40 tyX3_ok nmX3 rfl (by decide) rfl rfl rfl rfl rfl rfl (Nat.le_of_ble_eq_true rfl) rfl ?_
    refine G_aload_n C 0 dX3_readOther_17 rfl ?_
    refine G_aload_n C 0 dX3_readOther_18 rfl ?_
    refine G_get C 0 1 dX3_readOther_19 inlX3 uf_X3_30 rfl (by decide) rfl rfl rfl ?_
    refine G_iconst C dX3_readOther_22 (v := 1) rfl ?_
    refine G_iadd C dX3_readOther_23 ?_
    refine G_put (ws' := sc_W K t X (upd (upd c 2 10) 1 (((upd c 2 10) 0) + 1))) C 0 2 tyX3 .int dX3_readOther_24 inlX3 uf_X3_20 tyX3_ok nmX3 rfl (by decide) rfl rfl rfl rfl rfl rfl (Nat.le_of_ble_eq_true rfl) rfl ?_
    exact G_vret C dX3_readOther_27 rfl
theorem kd_X3_advance : Card yX3_advance cX3_advance 2 none 0 := ⟨uc_X3_advance, un_X3, ⟨by decide, by decide, by decide⟩, by decide⟩
def s_X3_advance (c : Nat → Int32) (X : SM) : Nat → Int32 := if ((s_X3_skipWhiteSpace c X) 0) < (X 1 0) then if (v_X3_isDigit (v_X7_byteAt X ((s_X3_skipWhiteSpace c X) 0))) = 0 then if (v_X3_isSmallLetter (v_X7_byteAt X ((s_X3_skipWhiteSpace c X) 0))) = 0 then s_X3_readOther (s_X3_skipWhiteSpace c X) X (v_X7_byteAt X ((s_X3_skipWhiteSpace c X) 0)) else s_X3_readWord (s_X3_skipWhiteSpace c X) X else s_X3_readNumeral (s_X3_skipWhiteSpace c X) X else upd (s_X3_skipWhiteSpace c X) 2 9
theorem inv_X3_advance (c : Nat → Int32) (X : SM) (hc1 : ¬ c 1 < 0) : (fun z : Nat → Int32 => ¬ z 1 < 0) (s_X3_advance c X) := by
  unfold s_X3_advance
  refine inv_ite (P := (fun z : Nat → Int32 => ¬ z 1 < 0)) (c := ((s_X3_skipWhiteSpace c X) 0) < (X 1 0)) (fun h1 => ?_) (fun h1 => ?_)
  · refine inv_ite (P := (fun z : Nat → Int32 => ¬ z 1 < 0)) (c := (v_X3_isDigit (v_X7_byteAt X ((s_X3_skipWhiteSpace c X) 0))) = 0) (fun h2 => ?_) (fun h2 => ?_)
    · refine inv_ite (P := (fun z : Nat → Int32 => ¬ z 1 < 0)) (c := (v_X3_isSmallLetter (v_X7_byteAt X ((s_X3_skipWhiteSpace c X) 0))) = 0) (fun h3 => ?_) (fun h3 => ?_)
      · exact (inv_X3_readOther (s_X3_skipWhiteSpace c X) X (v_X7_byteAt X ((s_X3_skipWhiteSpace c X) 0)) (inv_X3_skipWhiteSpace c X hc1).1 (inv_X3_skipWhiteSpace c X hc1).2 h1)
      · exact (inv_X3_readWord (s_X3_skipWhiteSpace c X) X (inv_X3_skipWhiteSpace c X hc1).1 (inv_X3_skipWhiteSpace c X hc1).2)
    · exact (inv_X3_readNumeral (s_X3_skipWhiteSpace c X) X (inv_X3_skipWhiteSpace c X hc1).1 (inv_X3_skipWhiteSpace c X hc1).2)
  · exact (inv_X3_skipWhiteSpace c X hc1).2
theorem c_X3_advance (l : Launch) (K : gK) (t : Nat → Nat) (c : Nat → Int32) (X : SM) (hc1 : ¬ c 1 < 0) : Ct l K yX3_advance cX3_advance 2 none 8 [.ref (t 2)] (sc_W K t X c) (none, sc_W K t X (s_X3_advance c X)) := by
  refine Ct.of (own := RX3) (fun z => (none, sc_W K t X z)) (x := s_X3_advance c X) (by decide) rfl (Nat.le_of_ble_eq_true rfl) (fun Γ C => ?_)
  unfold s_X3_advance
  refine G_aload_n C 0 dX3_advance_0 rfl ?_
  refine G_callVv C 0 3 kd_X3_skipWhiteSpace ui_X3_skipWhiteSpace us_X3_skipWhiteSpace um_X3_27 rfl rfl (c_X3_skipWhiteSpace l K t c X hc1) dX3_advance_1 rfl rfl (Nat.le_of_ble_eq_true rfl) (Nat.le_of_ble_eq_true rfl) ?_
  refine G_aload_n C 0 dX3_advance_4 rfl ?_
  refine G_get C 0 0 dX3_advance_5 inlX3 uf_X3_14 rfl (by decide) rfl rfl rfl ?_
  refine G_aload_n C 0 dX3_advance_8 rfl ?_
  refine G_get C 0 1 dX3_advance_9 inlX3 uf_X3_30 rfl (by decide) rfl rfl rfl ?_
  refine G_callVi C 1 7 kd_X7_byteAt ui_X7_byteAt us_X7_byteAt um_X3_33 rfl rfl (Ct.right _ (c_X7_byteAt l K t X ((s_X3_skipWhiteSpace c X) 0))) dX3_advance_12 rfl rfl (Nat.le_of_ble_eq_true rfl) (Nat.le_of_ble_eq_true rfl) ?_
  refine G_istore_n (lv' := [(1, .int (v_X7_byteAt X ((s_X3_skipWhiteSpace c X) 0))), (0, .ref (t 2))]) C dX3_advance_15 (by decide) rfl ?_
  refine G_aload_n C 1 dX3_advance_16 rfl ?_
  refine G_get C 0 1 dX3_advance_17 inlX3 uf_X3_30 rfl (by decide) rfl rfl rfl ?_
  refine G_aload_n C 1 dX3_advance_20 rfl ?_
  refine G_get C 0 0 dX3_advance_21 inlX3 uf_X3_14 rfl (by decide) rfl rfl rfl ?_
  refine G_get C 1 1 dX3_advance_24 inlX7 uf_X3_37 rfl (by decide) rfl rfl rfl ?_
  refine G_icmp_lt C 39 dX3_advance_27 rfl (fun h1 => ?_) (fun h1 => ?_)
  · refine G_iload_n C 0 dX3_advance_39 rfl ?_
    refine G_callSi C kd_X3_isDigit ut_X3_isDigit um_X3_43 (c_X3_isDigit l K (sc_W K t X (s_X3_skipWhiteSpace c X)) (v_X7_byteAt X ((s_X3_skipWhiteSpace c X) 0))) dX3_advance_40 rfl rfl (Nat.le_of_ble_eq_true rfl) (Nat.le_of_ble_eq_true rfl) ?_
    refine G_if_eq C 53 dX3_advance_43 rfl (fun h2 => ?_) (fun h2 => ?_)
    · refine G_iload_n C 0 dX3_advance_53 rfl ?_
      refine G_callSi C kd_X3_isSmallLetter ut_X3_isSmallLetter um_X3_50 (c_X3_isSmallLetter l K (sc_W K t X (s_X3_skipWhiteSpace c X)) (v_X7_byteAt X ((s_X3_skipWhiteSpace c X) 0))) dX3_advance_54 rfl rfl (Nat.le_of_ble_eq_true rfl) (Nat.le_of_ble_eq_true rfl) ?_
      refine G_if_eq C 67 dX3_advance_57 rfl (fun h3 => ?_) (fun h3 => ?_)
      · refine G_aload_n C 1 dX3_advance_67 rfl ?_
        refine G_iload_n C 0 dX3_advance_68 rfl ?_
        refine G_callVv C 0 3 kd_X3_readOther ui_X3_readOther us_X3_readOther um_X3_56 rfl rfl (c_X3_readOther l K t (s_X3_skipWhiteSpace c X) X (v_X7_byteAt X ((s_X3_skipWhiteSpace c X) 0)) (inv_X3_skipWhiteSpace c X hc1).1 (inv_X3_skipWhiteSpace c X hc1).2 h1) dX3_advance_69 rfl rfl (Nat.le_of_ble_eq_true rfl) (Nat.le_of_ble_eq_true rfl) ?_
        exact G_vret C dX3_advance_72 rfl
      · refine G_aload_n C 1 dX3_advance_60 rfl ?_
        refine G_callVv C 0 3 kd_X3_readWord ui_X3_readWord us_X3_readWord um_X3_53 rfl rfl (c_X3_readWord l K t (s_X3_skipWhiteSpace c X) X (inv_X3_skipWhiteSpace c X hc1).1 (inv_X3_skipWhiteSpace c X hc1).2) dX3_advance_61 rfl rfl (Nat.le_of_ble_eq_true rfl) (Nat.le_of_ble_eq_true rfl) ?_
        refine G_goto C 72 dX3_advance_64 rfl ?_
        exact G_vret C dX3_advance_72 rfl
    · refine G_aload_n C 1 dX3_advance_46 rfl ?_
      refine G_callVv C 0 3 kd_X3_readNumeral ui_X3_readNumeral us_X3_readNumeral um_X3_47 rfl rfl (c_X3_readNumeral l K t (s_X3_skipWhiteSpace c X) X (inv_X3_skipWhiteSpace c X hc1).1 (inv_X3_skipWhiteSpace c X hc1).2) dX3_advance_47 rfl rfl (Nat.le_of_ble_eq_true rfl) (Nat.le_of_ble_eq_true rfl) ?_
      refine G_goto C 72 dX3_advance_50 rfl ?_
      exact G_vret C dX3_advance_72 rfl
  · refine G_aload_n C 1 dX3_advance_30 rfl ?_
    refine G_bipush C dX3_advance_31 (v := 9) rfl ?_
    refine G_put (ws' := sc_W K t X (upd (s_X3_skipWhiteSpace c X) 2 9)) C 0 3 tyX3 .int dX3_advance_33 inlX3 uf_X3_40 tyX3_ok nmX3 rfl (by decide) rfl rfl rfl rfl rfl rfl (Nat.le_of_ble_eq_true rfl) rfl ?_
    refine G_goto C 72 dX3_advance_36 rfl ?_
    exact G_vret C dX3_advance_72 rfl
theorem kd_X3_begin : Card yX3_begin cX3_begin 1 none 0 := ⟨uc_X3_begin, un_X3, ⟨by decide, by decide, by decide⟩, by decide⟩
def s_X3_begin (c : Nat → Int32) (X : SM) : Nat → Int32 := s_X3_advance (upd c 1 0) X
theorem inv_X3_begin (c : Nat → Int32) (X : SM) : (fun z : Nat → Int32 => ¬ z 1 < 0) (s_X3_begin c X) := by
  unfold s_X3_begin
  exact (inv_X3_advance (upd c 1 0) X (show ¬ (0 : Int32) < 0 by decide))
theorem c_X3_begin (l : Launch) (K : gK) (t : Nat → Nat) (c : Nat → Int32) (X : SM) : Ct l K yX3_begin cX3_begin 1 none 9 [.ref (t 2)] (sc_W K t X c) (none, sc_W K t X (s_X3_begin c X)) := by
  refine Ct.of (own := RX3) (fun z => (none, sc_W K t X z)) (x := s_X3_begin c X) (by decide) rfl (Nat.le_of_ble_eq_true rfl) (fun Γ C => ?_)
  unfold s_X3_begin
  refine G_aload_n C 0 dX3_begin_0 rfl ?_
  refine G_iconst C dX3_begin_1 (v := 0) rfl ?_
  refine G_put (ws' := sc_W K t X (upd c 1 0)) C 0 2 tyX3 .int dX3_begin_2 inlX3 uf_X3_20 tyX3_ok nmX3 rfl (by decide) rfl rfl rfl rfl rfl rfl (Nat.le_of_ble_eq_true rfl) rfl ?_
  refine G_aload_n C 0 dX3_begin_5 rfl ?_
  refine G_callVv C 0 3 kd_X3_advance ui_X3_advance us_X3_advance um_X3_24 rfl rfl (c_X3_advance l K t (upd c 1 0) X (show ¬ (0 : Int32) < 0 by decide)) dX3_begin_6 rfl rfl (Nat.le_of_ble_eq_true rfl) (Nat.le_of_ble_eq_true rfl) ?_
  exact G_vret C dX3_begin_9 rfl
theorem kd_X4_take : Card yX4_take cX4_take 2 (some .boolean) 1 := ⟨uc_X4_take, un_X4, ⟨by decide, by decide, by decide⟩, by decide⟩
def p_X4_take (q : PS) (X : SM) (x1 : Int32) : Int32 × PS := if (q.1 2) = x1 then (1, (s_X3_advance q.1 X , q.2.1, q.2.2)) else (0, q)
theorem inv_X4_take (q : PS) (X : SM) (x1 : Int32) (hc1 : ¬ q.1 1 < 0) : (fun z : Int32 × PS => ¬ z.2.1 1 < 0) (p_X4_take q X x1) := by
  unfold p_X4_take
  refine inv_ite (P := (fun z : Int32 × PS => ¬ z.2.1 1 < 0)) (c := (q.1 2) = x1) (fun h1 => ?_) (fun h1 => ?_)
  · exact (inv_X3_advance q.1 X  hc1)
  · exact hc1
theorem c_X4_take (l : Launch) (K : gK) (t a : Nat → Nat) (q : PS) (X : SM) (x1 : Int32) (hc1 : ¬ q.1 1 < 0) : Ct l K yX4_take cX4_take 2 (some .boolean) 9 [.ref (t 3), .int x1] (pa_W K t a X q) (some (.int (p_X4_take q X x1).1), pa_W K t a X ((p_X4_take q X x1).2)) := by
  refine Ct.of (own := RX4) (fun (z : Int32 × PS) => (some (.int z.1), pa_W K t a X z.2)) (x := p_X4_take q X x1) (by decide) rfl (Nat.le_of_ble_eq_true rfl) (fun Γ C => ?_)
  unfold p_X4_take
  refine G_aload_n C 0 dX4_take_0 rfl ?_
  refine G_get C 0 0 dX4_take_1 inlX4 uf_X4_12 rfl (by decide) rfl rfl rfl ?_
  refine G_get C 1 3 dX4_take_4 inlX3 uf_X4_49 rfl (by decide) rfl rfl rfl ?_
  refine G_iload_n C 1 dX4_take_7 rfl ?_
  refine G_icmp_eq C 13 dX4_take_8 rfl (fun h1 => ?_) (fun h1 => ?_)
  · refine G_aload_n C 0 dX4_take_13 rfl ?_
    refine G_get C 0 0 dX4_take_14 inlX4 uf_X4_12 rfl (by decide) rfl rfl rfl ?_
    refine G_callVv C 1 3 kd_X3_advance ui_X3_advance us_X3_advance um_X4_122 rfl rfl (Ct.to (r' := (none, pa_W K t a X ((s_X3_advance q.1 X , q.2.1, q.2.2)))) (Ct.left _ (Ct.right _ (c_X3_advance l K t q.1 X  hc1))) rfl) dX4_take_17 rfl rfl (Nat.le_of_ble_eq_true rfl) (Nat.le_of_ble_eq_true rfl) ?_
    refine G_iconst C dX4_take_20 (v := 1) rfl ?_
    exact G_zret C dX4_take_21 rfl rfl
  · refine G_iconst C dX4_take_11 (v := 0) rfl ?_
    exact G_zret C dX4_take_12 rfl rfl
theorem kd_X4_takeNumber : Card yX4_takeNumber cX4_takeNumber 3 (some .boolean) 2 := ⟨uc_X4_takeNumber, un_X4, ⟨by decide, by decide, by decide⟩, by decide⟩
def p_X4_takeNumber_L40 (q : PS) (X : SM) (x1 : Int32) (x2 : Int32) : Int32 × PS := (1, (s_X3_advance q.1 X , q.2.1, q.2.2))
theorem g_X4_takeNumber_L40 {l : Launch} {K : gK} {Γ : gT} {t a : Nat → Nat} (C : Cx l K Γ RX4 cX4_takeNumber 3 (some .boolean) 9) (q : PS) (X : SM) (x1 : Int32) (x2 : Int32) (hc1 : ¬ q.1 1 < 0) : G l K Γ (pa_W K t a X q) 40 3 [(0, .ref (t 3)), (1, .int x1), (2, .int x2)] [] (fun (z : Int32 × PS) => (some (.int z.1), pa_W K t a X z.2)) (p_X4_takeNumber_L40 q X x1 x2) := by
  unfold p_X4_takeNumber_L40
  refine G_aload_n C 0 dX4_takeNumber_40 rfl ?_
  refine G_get C 0 0 dX4_takeNumber_41 inlX4 uf_X4_12 rfl (by decide) rfl rfl rfl ?_
  refine G_callVv C 1 3 kd_X3_advance ui_X3_advance us_X3_advance um_X4_122 rfl rfl (Ct.to (r' := (none, pa_W K t a X ((s_X3_advance q.1 X , q.2.1, q.2.2)))) (Ct.left _ (Ct.right _ (c_X3_advance l K t q.1 X  hc1))) rfl) dX4_takeNumber_44 rfl rfl (Nat.le_of_ble_eq_true rfl) (Nat.le_of_ble_eq_true rfl) ?_
  refine G_iconst C dX4_takeNumber_47 (v := 1) rfl ?_
  exact G_zret C dX4_takeNumber_48 rfl rfl
theorem inv_X4_takeNumber_L40 (q : PS) (X : SM) (x1 : Int32) (x2 : Int32) (hc1 : ¬ q.1 1 < 0) : (fun z : Int32 × PS => ¬ z.2.1 1 < 0) (p_X4_takeNumber_L40 q X x1 x2) := by
  unfold p_X4_takeNumber_L40
  exact (inv_X3_advance q.1 X  hc1)
def p_X4_takeNumber (q : PS) (X : SM) (x1 : Int32) (x2 : Int32) : Int32 × PS := if (q.1 2) = 7 then if (v_X9_isWithin (q.1 3) x1 x2) = 0 then (0, q) else p_X4_takeNumber_L40 ((q.1, q.1 3, q.2.2)) X x1 x2 else (0, q)
theorem inv_X4_takeNumber (q : PS) (X : SM) (x1 : Int32) (x2 : Int32) (hc1 : ¬ q.1 1 < 0) : (fun z : Int32 × PS => ¬ z.2.1 1 < 0) (p_X4_takeNumber q X x1 x2) := by
  unfold p_X4_takeNumber
  refine inv_ite (P := (fun z : Int32 × PS => ¬ z.2.1 1 < 0)) (c := (q.1 2) = 7) (fun h1 => ?_) (fun h1 => ?_)
  · refine inv_ite (P := (fun z : Int32 × PS => ¬ z.2.1 1 < 0)) (c := (v_X9_isWithin (q.1 3) x1 x2) = 0) (fun h2 => ?_) (fun h2 => ?_)
    · exact hc1
    · exact inv_X4_takeNumber_L40 ((q.1, q.1 3, q.2.2)) X x1 x2 hc1
  · exact hc1
theorem c_X4_takeNumber (l : Launch) (K : gK) (t a : Nat → Nat) (q : PS) (X : SM) (x1 : Int32) (x2 : Int32) (hc1 : ¬ q.1 1 < 0) : Ct l K yX4_takeNumber cX4_takeNumber 3 (some .boolean) 9 [.ref (t 3), .int x1, .int x2] (pa_W K t a X q) (some (.int (p_X4_takeNumber q X x1 x2).1), pa_W K t a X ((p_X4_takeNumber q X x1 x2).2)) := by
  refine Ct.of (own := RX4) (fun (z : Int32 × PS) => (some (.int z.1), pa_W K t a X z.2)) (x := p_X4_takeNumber q X x1 x2) (by decide) rfl (Nat.le_of_ble_eq_true rfl) (fun Γ C => ?_)
  unfold p_X4_takeNumber
  refine G_aload_n C 0 dX4_takeNumber_0 rfl ?_
  refine G_get C 0 0 dX4_takeNumber_1 inlX4 uf_X4_12 rfl (by decide) rfl rfl rfl ?_
  refine G_get C 1 3 dX4_takeNumber_4 inlX3 uf_X4_49 rfl (by decide) rfl rfl rfl ?_
  refine G_bipush C dX4_takeNumber_7 (v := 7) rfl ?_
  refine G_icmp_ne C 27 dX4_takeNumber_9 rfl (fun h1 => ?_) (fun h1 => ?_)
  · refine G_aload_n C 0 dX4_takeNumber_12 rfl ?_
    refine G_get C 0 0 dX4_takeNumber_13 inlX4 uf_X4_12 rfl (by decide) rfl rfl rfl ?_
    refine G_get C 1 4 dX4_takeNumber_16 inlX3 uf_X4_78 rfl (by decide) rfl rfl rfl ?_
    refine G_iload_n C 1 dX4_takeNumber_19 rfl ?_
    refine G_iload_n C 2 dX4_takeNumber_20 rfl ?_
    refine G_callSNi C kd_X9_isWithin ut_X9_isWithin nw_13 (c_X9_isWithin l K (pa_W K t a X q) (q.1 3) x1 x2) dX4_takeNumber_21 rfl rfl (Nat.le_of_ble_eq_true rfl) (Nat.le_of_ble_eq_true rfl) ?_
    refine G_if_ne C 29 dX4_takeNumber_24 rfl (fun h2 => ?_) (fun h2 => ?_)
    · refine G_iconst C dX4_takeNumber_27 (v := 0) rfl ?_
      exact G_zret C dX4_takeNumber_28 rfl rfl
    · refine G_aload_n C 0 dX4_takeNumber_29 rfl ?_
      refine G_aload_n C 0 dX4_takeNumber_30 rfl ?_
      refine G_get C 0 0 dX4_takeNumber_31 inlX4 uf_X4_12 rfl (by decide) rfl rfl rfl ?_
      refine G_get C 1 4 dX4_takeNumber_34 inlX3 uf_X4_78 rfl (by decide) rfl rfl rfl ?_
      refine G_put (ws' := pa_W K t a X ((q.1, q.1 3, q.2.2))) C 0 2 tyX4 .int dX4_takeNumber_37 inlX4 uf_X4_67 tyX4_ok nmX4 rfl (by decide) rfl rfl rfl rfl rfl rfl (Nat.le_of_ble_eq_true rfl) rfl ?_
      refine G_sub [0, 1, 2] rfl ?_
      exact g_X4_takeNumber_L40 C ((q.1, q.1 3, q.2.2)) X x1 x2 hc1
  · refine G_iconst C dX4_takeNumber_27 (v := 0) rfl ?_
    exact G_zret C dX4_takeNumber_28 rfl rfl
theorem kd_X4_parseRule : Card yX4_parseRule cX4_parseRule 3 (some .boolean) 2 := ⟨uc_X4_parseRule, un_X4, ⟨by decide, by decide, by decide⟩, by decide⟩
def p_X4_parseRule_L17 (q : PS) (X : SM) (x1 : Int32) (x2 : Int32) (t0 : Int32) : Int32 × PS := if t0 = 0 then (0, q) else (1, (q.1, q.2.1, sU q.2.2 0 (put_ 3 (q.2.2 0) x2 q.2.1)))
theorem g_X4_parseRule_L17 {l : Launch} {K : gK} {Γ : gT} {t a : Nat → Nat} (C : Cx l K Γ RX4 cX4_parseRule 3 (some .boolean) 10) (q : PS) (X : SM) (x1 : Int32) (x2 : Int32) (t0 : Int32) (hc1 : ¬ q.1 1 < 0) : G l K Γ (pa_W K t a X q) 17 3 [(0, .ref (t 3)), (1, .int x1), (2, .int x2)] [.int t0] (fun (z : Int32 × PS) => (some (.int z.1), pa_W K t a X z.2)) (p_X4_parseRule_L17 q X x1 x2 t0) := by
  unfold p_X4_parseRule_L17
  refine G_if_ne C 22 dX4_parseRule_17 rfl (fun h2 => ?_) (fun h2 => ?_)
  · refine G_iconst C dX4_parseRule_20 (v := 0) rfl ?_
    exact G_zret C dX4_parseRule_21 rfl rfl
  · refine G_aload_n C 0 dX4_parseRule_22 rfl ?_
    refine G_get C 0 1 dX4_parseRule_23 inlX4 uf_X4_21 rfl (by decide) rfl rfl rfl ?_
    refine G_get C 4 0 dX4_parseRule_26 inlX6 uf_X4_63 rfl (by decide) rfl rfl rfl ?_
    refine G_iload_n C 2 dX4_parseRule_29 rfl ?_
    refine G_aload_n C 0 dX4_parseRule_30 rfl ?_
    refine G_get C 0 2 dX4_parseRule_31 inlX4 uf_X4_67 rfl (by decide) rfl rfl rfl ?_
    refine G_callSNv C kd_X9_put ut_X9_put nw_14 (Ct.to (r' := (none, pa_W K t a X ((q.1, q.2.1, sU q.2.2 0 (put_ 3 (q.2.2 0) x2 q.2.1))))) (c_put l K (ws := pa_W K t a X q) (q0 := 5) (n := 3) (g := q.2.2 0) (ad := (a 1)) (by decide) rfl x2 q.2.1) rfl) dX4_parseRule_34 rfl rfl (Nat.le_of_ble_eq_true rfl) (Nat.le_of_ble_eq_true rfl) ?_
    refine G_iconst C dX4_parseRule_37 (v := 1) rfl ?_
    exact G_zret C dX4_parseRule_38 rfl rfl
theorem inv_X4_parseRule_L17 (q : PS) (X : SM) (x1 : Int32) (x2 : Int32) (t0 : Int32) (hc1 : ¬ q.1 1 < 0) : (fun z : Int32 × PS => ¬ z.2.1 1 < 0) (p_X4_parseRule_L17 q X x1 x2 t0) := by
  unfold p_X4_parseRule_L17
  refine inv_ite (P := (fun z : Int32 × PS => ¬ z.2.1 1 < 0)) (c := t0 = 0) (fun h2 => ?_) (fun h2 => ?_)
  · exact hc1
  · exact hc1
def p_X4_parseRule_L5 (q : PS) (X : SM) (x1 : Int32) (x2 : Int32) (t0 : Int32) : Int32 × PS := if t0 = 0 then (0, q) else p_X4_parseRule_L17 ((p_X4_takeNumber q X 1 (v_X9_mostOfRule x2)).2) X x1 x2 ((p_X4_takeNumber q X 1 (v_X9_mostOfRule x2)).1)
theorem g_X4_parseRule_L5 {l : Launch} {K : gK} {Γ : gT} {t a : Nat → Nat} (C : Cx l K Γ RX4 cX4_parseRule 3 (some .boolean) 10) (q : PS) (X : SM) (x1 : Int32) (x2 : Int32) (t0 : Int32) (hc1 : ¬ q.1 1 < 0) : G l K Γ (pa_W K t a X q) 5 3 [(0, .ref (t 3)), (1, .int x1), (2, .int x2)] [.int t0] (fun (z : Int32 × PS) => (some (.int z.1), pa_W K t a X z.2)) (p_X4_parseRule_L5 q X x1 x2 t0) := by
  unfold p_X4_parseRule_L5
  refine G_if_eq C 20 dX4_parseRule_5 rfl (fun h1 => ?_) (fun h1 => ?_)
  · refine G_iconst C dX4_parseRule_20 (v := 0) rfl ?_
    exact G_zret C dX4_parseRule_21 rfl rfl
  · refine G_aload_n C 0 dX4_parseRule_8 rfl ?_
    refine G_iconst C dX4_parseRule_9 (v := 1) rfl ?_
    refine G_iload_n C 2 dX4_parseRule_10 rfl ?_
    refine G_callSNi C kd_X9_mostOfRule ut_X9_mostOfRule nw_12 (c_X9_mostOfRule l K (pa_W K t a X q) x2) dX4_parseRule_11 rfl rfl (Nat.le_of_ble_eq_true rfl) (Nat.le_of_ble_eq_true rfl) ?_
    refine G_callVi C 0 4 kd_X4_takeNumber ui_X4_takeNumber us_X4_takeNumber um_X4_60 rfl rfl (c_X4_takeNumber l K t a q X 1 (v_X9_mostOfRule x2) hc1) dX4_parseRule_14 rfl rfl (Nat.le_of_ble_eq_true rfl) (Nat.le_of_ble_eq_true rfl) ?_
    refine G_sub [0, 1, 2] rfl ?_
    exact g_X4_parseRule_L17 C ((p_X4_takeNumber q X 1 (v_X9_mostOfRule x2)).2) X x1 x2 ((p_X4_takeNumber q X 1 (v_X9_mostOfRule x2)).1) (inv_X4_takeNumber q X 1 (v_X9_mostOfRule x2) hc1)
theorem inv_X4_parseRule_L5 (q : PS) (X : SM) (x1 : Int32) (x2 : Int32) (t0 : Int32) (hc1 : ¬ q.1 1 < 0) : (fun z : Int32 × PS => ¬ z.2.1 1 < 0) (p_X4_parseRule_L5 q X x1 x2 t0) := by
  unfold p_X4_parseRule_L5
  refine inv_ite (P := (fun z : Int32 × PS => ¬ z.2.1 1 < 0)) (c := t0 = 0) (fun h1 => ?_) (fun h1 => ?_)
  · exact hc1
  · exact inv_X4_parseRule_L17 ((p_X4_takeNumber q X 1 (v_X9_mostOfRule x2)).2) X x1 x2 ((p_X4_takeNumber q X 1 (v_X9_mostOfRule x2)).1) (inv_X4_takeNumber q X 1 (v_X9_mostOfRule x2) hc1)
def p_X4_parseRule (q : PS) (X : SM) (x1 : Int32) (x2 : Int32) : Int32 × PS := p_X4_parseRule_L5 ((p_X4_take q X x1).2) X x1 x2 ((p_X4_take q X x1).1)
theorem inv_X4_parseRule (q : PS) (X : SM) (x1 : Int32) (x2 : Int32) (hc1 : ¬ q.1 1 < 0) : (fun z : Int32 × PS => ¬ z.2.1 1 < 0) (p_X4_parseRule q X x1 x2) := by
  unfold p_X4_parseRule
  exact inv_X4_parseRule_L5 ((p_X4_take q X x1).2) X x1 x2 ((p_X4_take q X x1).1) (inv_X4_take q X x1 hc1)
theorem c_X4_parseRule (l : Launch) (K : gK) (t a : Nat → Nat) (q : PS) (X : SM) (x1 : Int32) (x2 : Int32) (hc1 : ¬ q.1 1 < 0) : Ct l K yX4_parseRule cX4_parseRule 3 (some .boolean) 10 [.ref (t 3), .int x1, .int x2] (pa_W K t a X q) (some (.int (p_X4_parseRule q X x1 x2).1), pa_W K t a X ((p_X4_parseRule q X x1 x2).2)) := by
  refine Ct.of (own := RX4) (fun (z : Int32 × PS) => (some (.int z.1), pa_W K t a X z.2)) (x := p_X4_parseRule q X x1 x2) (by decide) rfl (Nat.le_of_ble_eq_true rfl) (fun Γ C => ?_)
  unfold p_X4_parseRule
  refine G_aload_n C 0 dX4_parseRule_0 rfl ?_
  refine G_iload_n C 1 dX4_parseRule_1 rfl ?_
  refine G_callVi C 0 4 kd_X4_take ui_X4_take us_X4_take um_X4_35 rfl rfl (c_X4_take l K t a q X x1 hc1) dX4_parseRule_2 rfl rfl (Nat.le_of_ble_eq_true rfl) (Nat.le_of_ble_eq_true rfl) ?_
  refine G_sub [0, 1, 2] rfl ?_
  exact g_X4_parseRule_L5 C ((p_X4_take q X x1).2) X x1 x2 ((p_X4_take q X x1).1) (inv_X4_take q X x1 hc1)
theorem kd_X4_parseOffices : Card yX4_parseOffices cX4_parseOffices 5 (some .boolean) 0 := ⟨uc_X4_parseOffices, un_X4, ⟨by decide, by decide, by decide⟩, by decide⟩
def p_X4_parseOffices_L116 (q : PS) (X : SM) (x1 : Int32) : Int32 × PS := if (q.2.2 18 2) < 2 then (0, q) else (1, q)
theorem g_X4_parseOffices_L116 {l : Launch} {K : gK} {Γ : gT} {t a : Nat → Nat} (C : Cx l K Γ RX4 cX4_parseOffices 5 (some .boolean) 10) (q : PS) (X : SM) (x1 : Int32) (hc1 : ¬ q.1 1 < 0) : G l K Γ (pa_W K t a X q) 116 5 [(0, .ref (t 3)), (1, .int x1)] [] (fun (z : Int32 × PS) => (some (.int z.1), pa_W K t a X z.2)) (p_X4_parseOffices_L116 q X x1) := by
  unfold p_X4_parseOffices_L116
  refine G_aload_n C 0 dX4_parseOffices_116 rfl ?_
  refine G_get C 0 1 dX4_parseOffices_117 inlX4 uf_X4_21 rfl (by decide) rfl rfl rfl ?_
  refine G_get C 4 2 dX4_parseOffices_120 inlX6 uf_X4_74 rfl (by decide) rfl rfl rfl ?_
  refine G_get C 7 8 dX4_parseOffices_123 inlX2 uf_X4_90 rfl (by decide) rfl rfl rfl ?_
  refine G_iconst C dX4_parseOffices_126 (v := 2) rfl ?_
  refine G_icmp_lt C 134 dX4_parseOffices_127 rfl (fun h3 => ?_) (fun h3 => ?_)
  · refine G_iconst C dX4_parseOffices_134 (v := 0) rfl ?_
    exact G_zret C dX4_parseOffices_135 rfl rfl
  · refine G_iconst C dX4_parseOffices_130 (v := 1) rfl ?_
    refine G_goto C 135 dX4_parseOffices_131 rfl ?_
    exact G_zret C dX4_parseOffices_135 rfl rfl
theorem inv_X4_parseOffices_L116 (q : PS) (X : SM) (x1 : Int32) (hc1 : ¬ q.1 1 < 0) : (fun z : Int32 × PS => ¬ z.2.1 1 < 0) (p_X4_parseOffices_L116 q X x1) := by
  unfold p_X4_parseOffices_L116
  refine inv_ite (P := (fun z : Int32 × PS => ¬ z.2.1 1 < 0)) (c := (q.2.2 18 2) < 2) (fun h3 => ?_) (fun h3 => ?_)
  · exact hc1
  · exact hc1
def p_X4_parseOffices_L91 (rc : PS → SM → Int32 → Int32 × PS) (q : PS) (X : SM) (x1 : Int32) (x2 : Int32) (x3 : Int32) (x4 : Int32) (t0 : Int32) : Int32 × PS := if t0 = 0 then (0, q) else rc ((q.1, q.2.1, s_X2_add q.2.2 x2 x3 x4)) X (x1 + 1)
theorem g_X4_parseOffices_L91 {l : Launch} {K : gK} {Γ : gT} {t a : Nat → Nat} (C : Cx l K Γ RX4 cX4_parseOffices 5 (some .boolean) 10) (rc : PS → SM → Int32 → Int32 × PS) (n : Nat) (hrc : ∀ (q : PS) (X : SM) (x1 : Int32) (hc1 : ¬ q.1 1 < 0), mu x1 < n → G l K Γ (pa_W K t a X q) 2 5 [(0, .ref (t 3)), (1, .int x1)] [] (fun (z : Int32 × PS) => (some (.int z.1), pa_W K t a X z.2)) (rc q X x1)) (q : PS) (X : SM) (x1 : Int32) (x2 : Int32) (x3 : Int32) (x4 : Int32) (t0 : Int32) (hc1 : ¬ q.1 1 < 0) (hb : mu (x1 + 1) < n) : G l K Γ (pa_W K t a X q) 91 5 [(0, .ref (t 3)), (1, .int x1), (2, .int x2), (3, .int x3), (4, .int x4)] [.int t0] (fun (z : Int32 × PS) => (some (.int z.1), pa_W K t a X z.2)) (p_X4_parseOffices_L91 rc q X x1 x2 x3 x4 t0) := by
  unfold p_X4_parseOffices_L91
  refine G_if_ne C 96 dX4_parseOffices_91 rfl (fun h8 => ?_) (fun h8 => ?_)
  · refine G_iconst C dX4_parseOffices_94 (v := 0) rfl ?_
    exact G_zret C dX4_parseOffices_95 rfl rfl
  · refine G_aload_n C 0 dX4_parseOffices_96 rfl ?_
    refine G_get C 0 1 dX4_parseOffices_97 inlX4 uf_X4_21 rfl (by decide) rfl rfl rfl ?_
    refine G_get C 4 2 dX4_parseOffices_100 inlX6 uf_X4_74 rfl (by decide) rfl rfl rfl ?_
    refine G_iload_n C 2 dX4_parseOffices_103 rfl ?_
    refine G_iload_n C 3 dX4_parseOffices_104 rfl ?_
    refine G_iload C 4 dX4_parseOffices_105 rfl ?_
    refine G_callVv C 7 2 kd_X2_add ui_X2_add us_X2_add um_X4_86 rfl rfl (Ct.to (r' := (none, pa_W K t a X ((q.1, q.2.1, s_X2_add q.2.2 x2 x3 x4)))) (Ct.right _ (c_X2_add l K a q.2.2 x2 x3 x4)) rfl) dX4_parseOffices_107 rfl rfl (Nat.le_of_ble_eq_true rfl) (Nat.le_of_ble_eq_true rfl) ?_
    refine G_iinc (lv' := [(1, .int (x1 + 1)), (0, .ref (t 3)), (2, .int x2), (3, .int x3), (4, .int x4)]) C 1 dX4_parseOffices_110 rfl rfl (by decide) rfl ?_
    refine G_goto C 2 dX4_parseOffices_113 rfl ?_
    refine G_sub [1, 0] rfl ?_
    exact hrc ((q.1, q.2.1, s_X2_add q.2.2 x2 x3 x4)) X (x1 + 1) hc1 hb
theorem inv_X4_parseOffices_L91 (rc : PS → SM → Int32 → Int32 × PS) (n : Nat) (hri : ∀ (q : PS) (X : SM) (x1 : Int32) (hc1 : ¬ q.1 1 < 0), mu x1 < n → (fun z : Int32 × PS => ¬ z.2.1 1 < 0) (rc q X x1)) (q : PS) (X : SM) (x1 : Int32) (x2 : Int32) (x3 : Int32) (x4 : Int32) (t0 : Int32) (hc1 : ¬ q.1 1 < 0) (hb : mu (x1 + 1) < n) : (fun z : Int32 × PS => ¬ z.2.1 1 < 0) (p_X4_parseOffices_L91 rc q X x1 x2 x3 x4 t0) := by
  unfold p_X4_parseOffices_L91
  refine inv_ite (P := (fun z : Int32 × PS => ¬ z.2.1 1 < 0)) (c := t0 = 0) (fun h8 => ?_) (fun h8 => ?_)
  · exact hc1
  · exact hri ((q.1, q.2.1, s_X2_add q.2.2 x2 x3 x4)) X (x1 + 1) hc1 hb
def p_X4_parseOffices_L75 (rc : PS → SM → Int32 → Int32 × PS) (q : PS) (X : SM) (x1 : Int32) (x2 : Int32) (x3 : Int32) (t0 : Int32) : Int32 × PS := if t0 = 0 then p_X4_parseOffices_L91 rc ((p_X4_take q X 8).2) X x1 x2 x3 1 ((p_X4_take q X 8).1) else p_X4_parseOffices_L91 rc ((p_X4_take q X 8).2) X x1 x2 x3 0 ((p_X4_take q X 8).1)
theorem g_X4_parseOffices_L75 {l : Launch} {K : gK} {Γ : gT} {t a : Nat → Nat} (C : Cx l K Γ RX4 cX4_parseOffices 5 (some .boolean) 10) (rc : PS → SM → Int32 → Int32 × PS) (n : Nat) (hrc : ∀ (q : PS) (X : SM) (x1 : Int32) (hc1 : ¬ q.1 1 < 0), mu x1 < n → G l K Γ (pa_W K t a X q) 2 5 [(0, .ref (t 3)), (1, .int x1)] [] (fun (z : Int32 × PS) => (some (.int z.1), pa_W K t a X z.2)) (rc q X x1)) (q : PS) (X : SM) (x1 : Int32) (x2 : Int32) (x3 : Int32) (t0 : Int32) (hc1 : ¬ q.1 1 < 0) (hb : mu (x1 + 1) < n) : G l K Γ (pa_W K t a X q) 75 5 [(0, .ref (t 3)), (1, .int x1), (2, .int x2), (3, .int x3)] [.int t0] (fun (z : Int32 × PS) => (some (.int z.1), pa_W K t a X z.2)) (p_X4_parseOffices_L75 rc q X x1 x2 x3 t0) := by
  unfold p_X4_parseOffices_L75
  refine G_if_eq C 82 dX4_parseOffices_75 rfl (fun h7 => ?_) (fun h7 => ?_)
  · refine G_iconst C dX4_parseOffices_82 (v := 1) rfl ?_
    refine G_istore (lv' := [(4, .int 1), (0, .ref (t 3)), (1, .int x1), (2, .int x2), (3, .int x3)]) C dX4_parseOffices_83 (by decide) rfl ?_
    refine G_aload_n C 1 dX4_parseOffices_85 rfl ?_
    refine G_bipush C dX4_parseOffices_86 (v := 8) rfl ?_
    refine G_callVi C 0 4 kd_X4_take ui_X4_take us_X4_take um_X4_35 rfl rfl (c_X4_take l K t a q X 8 hc1) dX4_parseOffices_88 rfl rfl (Nat.le_of_ble_eq_true rfl) (Nat.le_of_ble_eq_true rfl) ?_
    refine G_sub [1, 2, 3, 4, 0] rfl ?_
    exact g_X4_parseOffices_L91 C _ n hrc ((p_X4_take q X 8).2) X x1 x2 x3 1 ((p_X4_take q X 8).1) (inv_X4_take q X 8 hc1) hb
  · refine G_iconst C dX4_parseOffices_78 (v := 0) rfl ?_
    refine G_goto C 83 dX4_parseOffices_79 rfl ?_
    refine G_istore (lv' := [(4, .int 0), (0, .ref (t 3)), (1, .int x1), (2, .int x2), (3, .int x3)]) C dX4_parseOffices_83 (by decide) rfl ?_
    refine G_aload_n C 1 dX4_parseOffices_85 rfl ?_
    refine G_bipush C dX4_parseOffices_86 (v := 8) rfl ?_
    refine G_callVi C 0 4 kd_X4_take ui_X4_take us_X4_take um_X4_35 rfl rfl (c_X4_take l K t a q X 8 hc1) dX4_parseOffices_88 rfl rfl (Nat.le_of_ble_eq_true rfl) (Nat.le_of_ble_eq_true rfl) ?_
    refine G_sub [1, 2, 3, 4, 0] rfl ?_
    exact g_X4_parseOffices_L91 C _ n hrc ((p_X4_take q X 8).2) X x1 x2 x3 0 ((p_X4_take q X 8).1) (inv_X4_take q X 8 hc1) hb
theorem inv_X4_parseOffices_L75 (rc : PS → SM → Int32 → Int32 × PS) (n : Nat) (hri : ∀ (q : PS) (X : SM) (x1 : Int32) (hc1 : ¬ q.1 1 < 0), mu x1 < n → (fun z : Int32 × PS => ¬ z.2.1 1 < 0) (rc q X x1)) (q : PS) (X : SM) (x1 : Int32) (x2 : Int32) (x3 : Int32) (t0 : Int32) (hc1 : ¬ q.1 1 < 0) (hb : mu (x1 + 1) < n) : (fun z : Int32 × PS => ¬ z.2.1 1 < 0) (p_X4_parseOffices_L75 rc q X x1 x2 x3 t0) := by
  unfold p_X4_parseOffices_L75
  refine inv_ite (P := (fun z : Int32 × PS => ¬ z.2.1 1 < 0)) (c := t0 = 0) (fun h7 => ?_) (fun h7 => ?_)
  · exact inv_X4_parseOffices_L91 _ n hri ((p_X4_take q X 8).2) X x1 x2 x3 1 ((p_X4_take q X 8).1) (inv_X4_take q X 8 hc1) hb
  · exact inv_X4_parseOffices_L91 _ n hri ((p_X4_take q X 8).2) X x1 x2 x3 0 ((p_X4_take q X 8).1) (inv_X4_take q X 8 hc1) hb
def p_X4_parseOffices_L60 (rc : PS → SM → Int32 → Int32 × PS) (q : PS) (X : SM) (x1 : Int32) (x2 : Int32) (t0 : Int32) : Int32 × PS := if t0 = 0 then (0, q) else p_X4_parseOffices_L75 rc ((p_X4_take q X 4).2) X x1 x2 q.2.1 ((p_X4_take q X 4).1)
theorem g_X4_parseOffices_L60 {l : Launch} {K : gK} {Γ : gT} {t a : Nat → Nat} (C : Cx l K Γ RX4 cX4_parseOffices 5 (some .boolean) 10) (rc : PS → SM → Int32 → Int32 × PS) (n : Nat) (hrc : ∀ (q : PS) (X : SM) (x1 : Int32) (hc1 : ¬ q.1 1 < 0), mu x1 < n → G l K Γ (pa_W K t a X q) 2 5 [(0, .ref (t 3)), (1, .int x1)] [] (fun (z : Int32 × PS) => (some (.int z.1), pa_W K t a X z.2)) (rc q X x1)) (q : PS) (X : SM) (x1 : Int32) (x2 : Int32) (t0 : Int32) (hc1 : ¬ q.1 1 < 0) (hb : mu (x1 + 1) < n) : G l K Γ (pa_W K t a X q) 60 5 [(0, .ref (t 3)), (1, .int x1), (2, .int x2)] [.int t0] (fun (z : Int32 × PS) => (some (.int z.1), pa_W K t a X z.2)) (p_X4_parseOffices_L60 rc q X x1 x2 t0) := by
  unfold p_X4_parseOffices_L60
  refine G_if_ne C 65 dX4_parseOffices_60 rfl (fun h6 => ?_) (fun h6 => ?_)
  · refine G_iconst C dX4_parseOffices_63 (v := 0) rfl ?_
    exact G_zret C dX4_parseOffices_64 rfl rfl
  · refine G_aload_n C 0 dX4_parseOffices_65 rfl ?_
    refine G_get C 0 2 dX4_parseOffices_66 inlX4 uf_X4_67 rfl (by decide) rfl rfl rfl ?_
    refine G_istore_n (lv' := [(3, .int q.2.1), (0, .ref (t 3)), (1, .int x1), (2, .int x2)]) C dX4_parseOffices_69 (by decide) rfl ?_
    refine G_aload_n C 1 dX4_parseOffices_70 rfl ?_
    refine G_iconst C dX4_parseOffices_71 (v := 4) rfl ?_
    refine G_callVi C 0 4 kd_X4_take ui_X4_take us_X4_take um_X4_35 rfl rfl (c_X4_take l K t a q X 4 hc1) dX4_parseOffices_72 rfl rfl (Nat.le_of_ble_eq_true rfl) (Nat.le_of_ble_eq_true rfl) ?_
    refine G_sub [1, 2, 3, 0] rfl ?_
    exact g_X4_parseOffices_L75 C _ n hrc ((p_X4_take q X 4).2) X x1 x2 q.2.1 ((p_X4_take q X 4).1) (inv_X4_take q X 4 hc1) hb
theorem inv_X4_parseOffices_L60 (rc : PS → SM → Int32 → Int32 × PS) (n : Nat) (hri : ∀ (q : PS) (X : SM) (x1 : Int32) (hc1 : ¬ q.1 1 < 0), mu x1 < n → (fun z : Int32 × PS => ¬ z.2.1 1 < 0) (rc q X x1)) (q : PS) (X : SM) (x1 : Int32) (x2 : Int32) (t0 : Int32) (hc1 : ¬ q.1 1 < 0) (hb : mu (x1 + 1) < n) : (fun z : Int32 × PS => ¬ z.2.1 1 < 0) (p_X4_parseOffices_L60 rc q X x1 x2 t0) := by
  unfold p_X4_parseOffices_L60
  refine inv_ite (P := (fun z : Int32 × PS => ¬ z.2.1 1 < 0)) (c := t0 = 0) (fun h6 => ?_) (fun h6 => ?_)
  · exact hc1
  · exact inv_X4_parseOffices_L75 _ n hri ((p_X4_take q X 4).2) X x1 x2 q.2.1 ((p_X4_take q X 4).1) (inv_X4_take q X 4 hc1) hb
def p_X4_parseOffices_L23 (rc : PS → SM → Int32 → Int32 × PS) (q : PS) (X : SM) (x1 : Int32) (t0 : Int32) : Int32 × PS := if t0 = 0 then (0, q) else if (v_X2_isNameTaken q.2.2 (q.1 3)) = 0 then p_X4_parseOffices_L60 rc ((p_X4_takeNumber q X 1 99).2) X x1 q.2.1 ((p_X4_takeNumber q X 1 99).1) else (0, q)
theorem g_X4_parseOffices_L23 {l : Launch} {K : gK} {Γ : gT} {t a : Nat → Nat} (C : Cx l K Γ RX4 cX4_parseOffices 5 (some .boolean) 10) (rc : PS → SM → Int32 → Int32 × PS) (n : Nat) (hrc : ∀ (q : PS) (X : SM) (x1 : Int32) (hc1 : ¬ q.1 1 < 0), mu x1 < n → G l K Γ (pa_W K t a X q) 2 5 [(0, .ref (t 3)), (1, .int x1)] [] (fun (z : Int32 × PS) => (some (.int z.1), pa_W K t a X z.2)) (rc q X x1)) (q : PS) (X : SM) (x1 : Int32) (t0 : Int32) (hc1 : ¬ q.1 1 < 0) (hb : mu (x1 + 1) < n) : G l K Γ (pa_W K t a X q) 23 5 [(0, .ref (t 3)), (1, .int x1)] [.int t0] (fun (z : Int32 × PS) => (some (.int z.1), pa_W K t a X z.2)) (p_X4_parseOffices_L23 rc q X x1 t0) := by
  unfold p_X4_parseOffices_L23
  refine G_if_ne C 28 dX4_parseOffices_23 rfl (fun h4 => ?_) (fun h4 => ?_)
  · refine G_iconst C dX4_parseOffices_26 (v := 0) rfl ?_
    exact G_zret C dX4_parseOffices_27 rfl rfl
  · refine G_aload_n C 0 dX4_parseOffices_28 rfl ?_
    refine G_get C 0 2 dX4_parseOffices_29 inlX4 uf_X4_67 rfl (by decide) rfl rfl rfl ?_
    refine G_istore_n (lv' := [(2, .int q.2.1), (0, .ref (t 3)), (1, .int x1)]) C dX4_parseOffices_32 (by decide) rfl ?_
    refine G_aload_n C 1 dX4_parseOffices_33 rfl ?_
    refine G_get C 0 1 dX4_parseOffices_34 inlX4 uf_X4_21 rfl (by decide) rfl rfl rfl ?_
    refine G_get C 4 2 dX4_parseOffices_37 inlX6 uf_X4_74 rfl (by decide) rfl rfl rfl ?_
    refine G_aload_n C 1 dX4_parseOffices_40 rfl ?_
    refine G_get C 0 0 dX4_parseOffices_41 inlX4 uf_X4_12 rfl (by decide) rfl rfl rfl ?_
    refine G_get C 1 4 dX4_parseOffices_44 inlX3 uf_X4_78 rfl (by decide) rfl rfl rfl ?_
    refine G_callVi C 7 2 kd_X2_isNameTaken ui_X2_isNameTaken us_X2_isNameTaken um_X4_81 rfl rfl (Ct.to (r' := (some (.int (v_X2_isNameTaken q.2.2 (q.1 3))), pa_W K t a X q)) (Ct.right _ (c_X2_isNameTaken l K a q.2.2 (q.1 3))) rfl) dX4_parseOffices_47 rfl rfl (Nat.le_of_ble_eq_true rfl) (Nat.le_of_ble_eq_true rfl) ?_
    refine G_if_ne C 63 dX4_parseOffices_50 rfl (fun h5 => ?_) (fun h5 => ?_)
    · refine G_aload_n C 1 dX4_parseOffices_53 rfl ?_
      refine G_iconst C dX4_parseOffices_54 (v := 1) rfl ?_
      refine G_bipush C dX4_parseOffices_55 (v := 99) rfl ?_
      refine G_callVi C 0 4 kd_X4_takeNumber ui_X4_takeNumber us_X4_takeNumber um_X4_60 rfl rfl (c_X4_takeNumber l K t a q X 1 99 hc1) dX4_parseOffices_57 rfl rfl (Nat.le_of_ble_eq_true rfl) (Nat.le_of_ble_eq_true rfl) ?_
      refine G_sub [1, 2, 0] rfl ?_
      exact g_X4_parseOffices_L60 C _ n hrc ((p_X4_takeNumber q X 1 99).2) X x1 q.2.1 ((p_X4_takeNumber q X 1 99).1) (inv_X4_takeNumber q X 1 99 hc1) hb
    · refine G_iconst C dX4_parseOffices_63 (v := 0) rfl ?_
      exact G_zret C dX4_parseOffices_64 rfl rfl
theorem inv_X4_parseOffices_L23 (rc : PS → SM → Int32 → Int32 × PS) (n : Nat) (hri : ∀ (q : PS) (X : SM) (x1 : Int32) (hc1 : ¬ q.1 1 < 0), mu x1 < n → (fun z : Int32 × PS => ¬ z.2.1 1 < 0) (rc q X x1)) (q : PS) (X : SM) (x1 : Int32) (t0 : Int32) (hc1 : ¬ q.1 1 < 0) (hb : mu (x1 + 1) < n) : (fun z : Int32 × PS => ¬ z.2.1 1 < 0) (p_X4_parseOffices_L23 rc q X x1 t0) := by
  unfold p_X4_parseOffices_L23
  refine inv_ite (P := (fun z : Int32 × PS => ¬ z.2.1 1 < 0)) (c := t0 = 0) (fun h4 => ?_) (fun h4 => ?_)
  · exact hc1
  · refine inv_ite (P := (fun z : Int32 × PS => ¬ z.2.1 1 < 0)) (c := (v_X2_isNameTaken q.2.2 (q.1 3)) = 0) (fun h5 => ?_) (fun h5 => ?_)
    · exact inv_X4_parseOffices_L60 _ n hri ((p_X4_takeNumber q X 1 99).2) X x1 q.2.1 ((p_X4_takeNumber q X 1 99).1) (inv_X4_takeNumber q X 1 99 hc1) hb
    · exact hc1
def p_X4_parseOffices_L13 (rc : PS → SM → Int32 → Int32 × PS) (q : PS) (X : SM) (x1 : Int32) (t0 : Int32) : Int32 × PS := if t0 = 0 then p_X4_parseOffices_L116 q X x1 else p_X4_parseOffices_L23 rc ((p_X4_takeNumber q X 1 9).2) X x1 ((p_X4_takeNumber q X 1 9).1)
theorem g_X4_parseOffices_L13 {l : Launch} {K : gK} {Γ : gT} {t a : Nat → Nat} (C : Cx l K Γ RX4 cX4_parseOffices 5 (some .boolean) 10) (rc : PS → SM → Int32 → Int32 × PS) (n : Nat) (hrc : ∀ (q : PS) (X : SM) (x1 : Int32) (hc1 : ¬ q.1 1 < 0), mu x1 < n → G l K Γ (pa_W K t a X q) 2 5 [(0, .ref (t 3)), (1, .int x1)] [] (fun (z : Int32 × PS) => (some (.int z.1), pa_W K t a X z.2)) (rc q X x1)) (q : PS) (X : SM) (x1 : Int32) (t0 : Int32) (hc1 : ¬ q.1 1 < 0) (hb : mu (x1 + 1) < n) : G l K Γ (pa_W K t a X q) 13 5 [(0, .ref (t 3)), (1, .int x1)] [.int t0] (fun (z : Int32 × PS) => (some (.int z.1), pa_W K t a X z.2)) (p_X4_parseOffices_L13 rc q X x1 t0) := by
  unfold p_X4_parseOffices_L13
  refine G_if_eq C 116 dX4_parseOffices_13 rfl (fun h2 => ?_) (fun h2 => ?_)
  · refine G_sub [0, 1] rfl ?_
    exact g_X4_parseOffices_L116 C q X x1 hc1
  · refine G_aload_n C 0 dX4_parseOffices_16 rfl ?_
    refine G_iconst C dX4_parseOffices_17 (v := 1) rfl ?_
    refine G_bipush C dX4_parseOffices_18 (v := 9) rfl ?_
    refine G_callVi C 0 4 kd_X4_takeNumber ui_X4_takeNumber us_X4_takeNumber um_X4_60 rfl rfl (c_X4_takeNumber l K t a q X 1 9 hc1) dX4_parseOffices_20 rfl rfl (Nat.le_of_ble_eq_true rfl) (Nat.le_of_ble_eq_true rfl) ?_
    refine G_sub [0, 1] rfl ?_
    exact g_X4_parseOffices_L23 C _ n hrc ((p_X4_takeNumber q X 1 9).2) X x1 ((p_X4_takeNumber q X 1 9).1) (inv_X4_takeNumber q X 1 9 hc1) hb
theorem inv_X4_parseOffices_L13 (rc : PS → SM → Int32 → Int32 × PS) (n : Nat) (hri : ∀ (q : PS) (X : SM) (x1 : Int32) (hc1 : ¬ q.1 1 < 0), mu x1 < n → (fun z : Int32 × PS => ¬ z.2.1 1 < 0) (rc q X x1)) (q : PS) (X : SM) (x1 : Int32) (t0 : Int32) (hc1 : ¬ q.1 1 < 0) (hb : mu (x1 + 1) < n) : (fun z : Int32 × PS => ¬ z.2.1 1 < 0) (p_X4_parseOffices_L13 rc q X x1 t0) := by
  unfold p_X4_parseOffices_L13
  refine inv_ite (P := (fun z : Int32 × PS => ¬ z.2.1 1 < 0)) (c := t0 = 0) (fun h2 => ?_) (fun h2 => ?_)
  · exact inv_X4_parseOffices_L116 q X x1 hc1
  · exact inv_X4_parseOffices_L23 _ n hri ((p_X4_takeNumber q X 1 9).2) X x1 ((p_X4_takeNumber q X 1 9).1) (inv_X4_takeNumber q X 1 9 hc1) hb
def p_X4_parseOffices_L2 : Nat → PS → SM → Int32 → Int32 × PS
  | 0, q, _, _ => (0, q)
  | fuel + 1, q, X, x1 => if x1 < 10 then p_X4_parseOffices_L13 (p_X4_parseOffices_L2 fuel) ((p_X4_take q X 3).2) X x1 ((p_X4_take q X 3).1) else p_X4_parseOffices_L116 q X x1
theorem g_X4_parseOffices_L2 {l : Launch} {K : gK} {Γ : gT} {t a : Nat → Nat} (C : Cx l K Γ RX4 cX4_parseOffices 5 (some .boolean) 10) : ∀ (n : Nat) (q : PS) (X : SM) (x1 : Int32) (hc1 : ¬ q.1 1 < 0), mu x1 < n → G l K Γ (pa_W K t a X q) 2 5 [(0, .ref (t 3)), (1, .int x1)] [] (fun (z : Int32 × PS) => (some (.int z.1), pa_W K t a X z.2)) (p_X4_parseOffices_L2 n q X x1) := by
  intro n
  induction n with
  | zero =>
    intro q X x1 hc1 hm
    exact absurd hm (Nat.not_lt_zero _)
  | succ n ih =>
    intro q X x1 hc1 hm
    rw [p_X4_parseOffices_L2]
    refine G_iload_n C 1 dX4_parseOffices_2 rfl ?_
    refine G_bipush C dX4_parseOffices_3 (v := 10) rfl ?_
    refine G_icmp_ge C 116 dX4_parseOffices_5 rfl (fun h1 => ?_) (fun h1 => ?_)
    · refine G_aload_n C 0 dX4_parseOffices_8 rfl ?_
      refine G_iconst C dX4_parseOffices_9 (v := 3) rfl ?_
      refine G_callVi C 0 4 kd_X4_take ui_X4_take us_X4_take um_X4_35 rfl rfl (c_X4_take l K t a q X 3 hc1) dX4_parseOffices_10 rfl rfl (Nat.le_of_ble_eq_true rfl) (Nat.le_of_ble_eq_true rfl) ?_
      refine G_sub [0, 1] rfl ?_
      exact g_X4_parseOffices_L13 C _ n ih ((p_X4_take q X 3).2) X x1 ((p_X4_take q X 3).1) (inv_X4_take q X 3 hc1) (by have := mu_up h1; omega)
    · refine G_sub [0, 1] rfl ?_
      exact g_X4_parseOffices_L116 C q X x1 hc1
theorem inv_X4_parseOffices_L2 : ∀ (n : Nat) (q : PS) (X : SM) (x1 : Int32) (hc1 : ¬ q.1 1 < 0), mu x1 < n → (fun z : Int32 × PS => ¬ z.2.1 1 < 0) (p_X4_parseOffices_L2 n q X x1) := by
  intro n
  induction n with
  | zero =>
    intro q X x1 hc1 hm
    exact absurd hm (Nat.not_lt_zero _)
  | succ n ih =>
    intro q X x1 hc1 hm
    rw [p_X4_parseOffices_L2]
    refine inv_ite (P := (fun z : Int32 × PS => ¬ z.2.1 1 < 0)) (c := x1 < 10) (fun h1 => ?_) (fun h1 => ?_)
    · exact inv_X4_parseOffices_L13 _ n ih ((p_X4_take q X 3).2) X x1 ((p_X4_take q X 3).1) (inv_X4_take q X 3 hc1) (by have := mu_up h1; omega)
    · exact inv_X4_parseOffices_L116 q X x1 hc1
def p_X4_parseOffices (q : PS) (X : SM) : Int32 × PS := p_X4_parseOffices_L2 (mu 0 + 1) q X 0
theorem inv_X4_parseOffices (q : PS) (X : SM) (hc1 : ¬ q.1 1 < 0) : (fun z : Int32 × PS => ¬ z.2.1 1 < 0) (p_X4_parseOffices q X) := by
  unfold p_X4_parseOffices
  exact inv_X4_parseOffices_L2 _ q X 0 hc1 (Nat.lt_succ_self _)
theorem c_X4_parseOffices (l : Launch) (K : gK) (t a : Nat → Nat) (q : PS) (X : SM) (hc1 : ¬ q.1 1 < 0) : Ct l K yX4_parseOffices cX4_parseOffices 5 (some .boolean) 10 [.ref (t 3)] (pa_W K t a X q) (some (.int (p_X4_parseOffices q X).1), pa_W K t a X ((p_X4_parseOffices q X).2)) := by
  refine Ct.of (own := RX4) (fun (z : Int32 × PS) => (some (.int z.1), pa_W K t a X z.2)) (x := p_X4_parseOffices q X) (by decide) rfl (Nat.le_of_ble_eq_true rfl) (fun Γ C => ?_)
  unfold p_X4_parseOffices
  refine G_iconst C dX4_parseOffices_0 (v := 0) rfl ?_
  refine G_istore_n (lv' := [(1, .int 0), (0, .ref (t 3))]) C dX4_parseOffices_1 (by decide) rfl ?_
  refine G_sub [1, 0] rfl ?_
  exact g_X4_parseOffices_L2 C _ q X 0 hc1 (Nat.lt_succ_self _)
theorem kd_X4_parseLetters : Card yX4_parseLetters cX4_parseLetters 5 (some .boolean) 0 := ⟨uc_X4_parseLetters, un_X4, ⟨by decide, by decide, by decide⟩, by decide⟩
def p_X4_parseLetters_L138 (rc : PS → SM → Int32 → Int32 → Int32 × PS) (q : PS) (X : SM) (x1 : Int32) (x2 : Int32) (x3 : Int32) (x4 : Int32) : Int32 × PS := rc ((q.1, q.2.1, sU q.2.2 1 (raise_ 9 (q.2.2 1) 0))) X x1 (x2 + 1)
theorem g_X4_parseLetters_L138 {l : Launch} {K : gK} {Γ : gT} {t a : Nat → Nat} (C : Cx l K Γ RX4 cX4_parseLetters 5 (some .boolean) 10) (rc : PS → SM → Int32 → Int32 → Int32 × PS) (n : Nat) (hrc : ∀ (q : PS) (X : SM) (x1 : Int32) (x2 : Int32) (hc1 : ¬ q.1 1 < 0), mu x2 < n → G l K Γ (pa_W K t a X q) 15 5 [(0, .ref (t 3)), (1, .int x1), (2, .int x2)] [] (fun (z : Int32 × PS) => (some (.int z.1), pa_W K t a X z.2)) (rc q X x1 x2)) (q : PS) (X : SM) (x1 : Int32) (x2 : Int32) (x3 : Int32) (x4 : Int32) (hc1 : ¬ q.1 1 < 0) (hb : mu (x2 + 1) < n) : G l K Γ (pa_W K t a X q) 138 5 [(0, .ref (t 3)), (1, .int x1), (2, .int x2), (3, .int x3), (4, .int x4)] [] (fun (z : Int32 × PS) => (some (.int z.1), pa_W K t a X z.2)) (p_X4_parseLetters_L138 rc q X x1 x2 x3 x4) := by
  unfold p_X4_parseLetters_L138
  refine G_aload_n C 0 dX4_parseLetters_138 rfl ?_
  refine G_get C 0 1 dX4_parseLetters_139 inlX4 uf_X4_21 rfl (by decide) rfl rfl rfl ?_
  refine G_get C 4 1 dX4_parseLetters_142 inlX6 uf_X4_103 rfl (by decide) rfl rfl rfl ?_
  refine G_iconst C dX4_parseLetters_145 (v := 0) rfl ?_
  refine G_callSNv C kd_X9_raise ut_X9_raise nw_17 (Ct.to (r' := (none, pa_W K t a X ((q.1, q.2.1, sU q.2.2 1 (raise_ 9 (q.2.2 1) 0))))) (c_raise l K (ws := pa_W K t a X q) (q0 := 6) (n := 9) (g := q.2.2 1) (ad := (a 2)) (by decide) rfl 0) rfl) dX4_parseLetters_146 rfl rfl (Nat.le_of_ble_eq_true rfl) (Nat.le_of_ble_eq_true rfl) ?_
  refine G_iinc (lv' := [(2, .int (x2 + 1)), (0, .ref (t 3)), (1, .int x1), (3, .int x3), (4, .int x4)]) C 2 dX4_parseLetters_149 rfl rfl (by decide) rfl ?_
  refine G_goto C 15 dX4_parseLetters_152 rfl ?_
  refine G_sub [1, 2, 0] rfl ?_
  exact hrc ((q.1, q.2.1, sU q.2.2 1 (raise_ 9 (q.2.2 1) 0))) X x1 (x2 + 1) hc1 hb
theorem inv_X4_parseLetters_L138 (rc : PS → SM → Int32 → Int32 → Int32 × PS) (n : Nat) (hri : ∀ (q : PS) (X : SM) (x1 : Int32) (x2 : Int32) (hc1 : ¬ q.1 1 < 0), mu x2 < n → (fun z : Int32 × PS => ¬ z.2.1 1 < 0) (rc q X x1 x2)) (q : PS) (X : SM) (x1 : Int32) (x2 : Int32) (x3 : Int32) (x4 : Int32) (hc1 : ¬ q.1 1 < 0) (hb : mu (x2 + 1) < n) : (fun z : Int32 × PS => ¬ z.2.1 1 < 0) (p_X4_parseLetters_L138 rc q X x1 x2 x3 x4) := by
  unfold p_X4_parseLetters_L138
  exact hri ((q.1, q.2.1, sU q.2.2 1 (raise_ 9 (q.2.2 1) 0))) X x1 (x2 + 1) hc1 hb
def p_X4_parseLetters_L116 (rc : PS → SM → Int32 → Int32 → Int32 × PS) (q : PS) (X : SM) (x1 : Int32) (x2 : Int32) (x3 : Int32) (x4 : Int32) (t0 : Int32) : Int32 × PS := if t0 = 0 then (0, q) else p_X4_parseLetters_L138 rc ((q.1, q.2.1, s_X2_addLetter q.2.2 x3 x4 q.2.1)) X x1 x2 x3 x4
theorem g_X4_parseLetters_L116 {l : Launch} {K : gK} {Γ : gT} {t a : Nat → Nat} (C : Cx l K Γ RX4 cX4_parseLetters 5 (some .boolean) 10) (rc : PS → SM → Int32 → Int32 → Int32 × PS) (n : Nat) (hrc : ∀ (q : PS) (X : SM) (x1 : Int32) (x2 : Int32) (hc1 : ¬ q.1 1 < 0), mu x2 < n → G l K Γ (pa_W K t a X q) 15 5 [(0, .ref (t 3)), (1, .int x1), (2, .int x2)] [] (fun (z : Int32 × PS) => (some (.int z.1), pa_W K t a X z.2)) (rc q X x1 x2)) (q : PS) (X : SM) (x1 : Int32) (x2 : Int32) (x3 : Int32) (x4 : Int32) (t0 : Int32) (hc1 : ¬ q.1 1 < 0) (hb : mu (x2 + 1) < n) : G l K Γ (pa_W K t a X q) 116 5 [(0, .ref (t 3)), (1, .int x1), (2, .int x2), (3, .int x3), (4, .int x4)] [.int t0] (fun (z : Int32 × PS) => (some (.int z.1), pa_W K t a X z.2)) (p_X4_parseLetters_L116 rc q X x1 x2 x3 x4 t0) := by
  unfold p_X4_parseLetters_L116
  refine G_if_ne C 121 dX4_parseLetters_116 rfl (fun h8 => ?_) (fun h8 => ?_)
  · refine G_iconst C dX4_parseLetters_119 (v := 0) rfl ?_
    exact G_zret C dX4_parseLetters_120 rfl rfl
  · refine G_aload_n C 0 dX4_parseLetters_121 rfl ?_
    refine G_get C 0 1 dX4_parseLetters_122 inlX4 uf_X4_21 rfl (by decide) rfl rfl rfl ?_
    refine G_get C 4 2 dX4_parseLetters_125 inlX6 uf_X4_74 rfl (by decide) rfl rfl rfl ?_
    refine G_iload_n C 3 dX4_parseLetters_128 rfl ?_
    refine G_iload C 4 dX4_parseLetters_129 rfl ?_
    refine G_aload_n C 0 dX4_parseLetters_131 rfl ?_
    refine G_get C 0 2 dX4_parseLetters_132 inlX4 uf_X4_67 rfl (by decide) rfl rfl rfl ?_
    refine G_callVv C 7 2 kd_X2_addLetter ui_X2_addLetter us_X2_addLetter um_X4_100 rfl rfl (Ct.to (r' := (none, pa_W K t a X ((q.1, q.2.1, s_X2_addLetter q.2.2 x3 x4 q.2.1)))) (Ct.right _ (c_X2_addLetter l K a q.2.2 x3 x4 q.2.1)) rfl) dX4_parseLetters_135 rfl rfl (Nat.le_of_ble_eq_true rfl) (Nat.le_of_ble_eq_true rfl) ?_
    refine G_sub [0, 1, 2, 3, 4] rfl ?_
    exact g_X4_parseLetters_L138 C _ n hrc ((q.1, q.2.1, s_X2_addLetter q.2.2 x3 x4 q.2.1)) X x1 x2 x3 x4 hc1 hb
theorem inv_X4_parseLetters_L116 (rc : PS → SM → Int32 → Int32 → Int32 × PS) (n : Nat) (hri : ∀ (q : PS) (X : SM) (x1 : Int32) (x2 : Int32) (hc1 : ¬ q.1 1 < 0), mu x2 < n → (fun z : Int32 × PS => ¬ z.2.1 1 < 0) (rc q X x1 x2)) (q : PS) (X : SM) (x1 : Int32) (x2 : Int32) (x3 : Int32) (x4 : Int32) (t0 : Int32) (hc1 : ¬ q.1 1 < 0) (hb : mu (x2 + 1) < n) : (fun z : Int32 × PS => ¬ z.2.1 1 < 0) (p_X4_parseLetters_L116 rc q X x1 x2 x3 x4 t0) := by
  unfold p_X4_parseLetters_L116
  refine inv_ite (P := (fun z : Int32 × PS => ¬ z.2.1 1 < 0)) (c := t0 = 0) (fun h8 => ?_) (fun h8 => ?_)
  · exact hc1
  · exact inv_X4_parseLetters_L138 _ n hri ((q.1, q.2.1, s_X2_addLetter q.2.2 x3 x4 q.2.1)) X x1 x2 x3 x4 hc1 hb
def p_X4_parseLetters_L107 (rc : PS → SM → Int32 → Int32 → Int32 × PS) (q : PS) (X : SM) (x1 : Int32) (x2 : Int32) (x3 : Int32) (x4 : Int32) (t0 : Int32) : Int32 × PS := if t0 = 0 then (0, q) else p_X4_parseLetters_L116 rc ((p_X4_take q X 8).2) X x1 x2 x3 x4 ((p_X4_take q X 8).1)
theorem g_X4_parseLetters_L107 {l : Launch} {K : gK} {Γ : gT} {t a : Nat → Nat} (C : Cx l K Γ RX4 cX4_parseLetters 5 (some .boolean) 10) (rc : PS → SM → Int32 → Int32 → Int32 × PS) (n : Nat) (hrc : ∀ (q : PS) (X : SM) (x1 : Int32) (x2 : Int32) (hc1 : ¬ q.1 1 < 0), mu x2 < n → G l K Γ (pa_W K t a X q) 15 5 [(0, .ref (t 3)), (1, .int x1), (2, .int x2)] [] (fun (z : Int32 × PS) => (some (.int z.1), pa_W K t a X z.2)) (rc q X x1 x2)) (q : PS) (X : SM) (x1 : Int32) (x2 : Int32) (x3 : Int32) (x4 : Int32) (t0 : Int32) (hc1 : ¬ q.1 1 < 0) (hb : mu (x2 + 1) < n) : G l K Γ (pa_W K t a X q) 107 5 [(0, .ref (t 3)), (1, .int x1), (2, .int x2), (3, .int x3), (4, .int x4)] [.int t0] (fun (z : Int32 × PS) => (some (.int z.1), pa_W K t a X z.2)) (p_X4_parseLetters_L107 rc q X x1 x2 x3 x4 t0) := by
  unfold p_X4_parseLetters_L107
  refine G_if_eq C 119 dX4_parseLetters_107 rfl (fun h7 => ?_) (fun h7 => ?_)
  · refine G_iconst C dX4_parseLetters_119 (v := 0) rfl ?_
    exact G_zret C dX4_parseLetters_120 rfl rfl
  · refine G_aload_n C 0 dX4_parseLetters_110 rfl ?_
    refine G_bipush C dX4_parseLetters_111 (v := 8) rfl ?_
    refine G_callVi C 0 4 kd_X4_take ui_X4_take us_X4_take um_X4_35 rfl rfl (c_X4_take l K t a q X 8 hc1) dX4_parseLetters_113 rfl rfl (Nat.le_of_ble_eq_true rfl) (Nat.le_of_ble_eq_true rfl) ?_
    refine G_sub [0, 1, 2, 3, 4] rfl ?_
    exact g_X4_parseLetters_L116 C _ n hrc ((p_X4_take q X 8).2) X x1 x2 x3 x4 ((p_X4_take q X 8).1) (inv_X4_take q X 8 hc1) hb
theorem inv_X4_parseLetters_L107 (rc : PS → SM → Int32 → Int32 → Int32 × PS) (n : Nat) (hri : ∀ (q : PS) (X : SM) (x1 : Int32) (x2 : Int32) (hc1 : ¬ q.1 1 < 0), mu x2 < n → (fun z : Int32 × PS => ¬ z.2.1 1 < 0) (rc q X x1 x2)) (q : PS) (X : SM) (x1 : Int32) (x2 : Int32) (x3 : Int32) (x4 : Int32) (t0 : Int32) (hc1 : ¬ q.1 1 < 0) (hb : mu (x2 + 1) < n) : (fun z : Int32 × PS => ¬ z.2.1 1 < 0) (p_X4_parseLetters_L107 rc q X x1 x2 x3 x4 t0) := by
  unfold p_X4_parseLetters_L107
  refine inv_ite (P := (fun z : Int32 × PS => ¬ z.2.1 1 < 0)) (c := t0 = 0) (fun h7 => ?_) (fun h7 => ?_)
  · exact hc1
  · exact inv_X4_parseLetters_L116 _ n hri ((p_X4_take q X 8).2) X x1 x2 x3 x4 ((p_X4_take q X 8).1) (inv_X4_take q X 8 hc1) hb
def p_X4_parseLetters_L89 (rc : PS → SM → Int32 → Int32 → Int32 × PS) (q : PS) (X : SM) (x1 : Int32) (x2 : Int32) (x3 : Int32) (t0 : Int32) : Int32 × PS := if t0 = 0 then (0, q) else p_X4_parseLetters_L107 rc ((p_X4_takeNumber q X 1 9).2) X x1 x2 x3 q.2.1 ((p_X4_takeNumber q X 1 9).1)
theorem g_X4_parseLetters_L89 {l : Launch} {K : gK} {Γ : gT} {t a : Nat → Nat} (C : Cx l K Γ RX4 cX4_parseLetters 5 (some .boolean) 10) (rc : PS → SM → Int32 → Int32 → Int32 × PS) (n : Nat) (hrc : ∀ (q : PS) (X : SM) (x1 : Int32) (x2 : Int32) (hc1 : ¬ q.1 1 < 0), mu x2 < n → G l K Γ (pa_W K t a X q) 15 5 [(0, .ref (t 3)), (1, .int x1), (2, .int x2)] [] (fun (z : Int32 × PS) => (some (.int z.1), pa_W K t a X z.2)) (rc q X x1 x2)) (q : PS) (X : SM) (x1 : Int32) (x2 : Int32) (x3 : Int32) (t0 : Int32) (hc1 : ¬ q.1 1 < 0) (hb : mu (x2 + 1) < n) : G l K Γ (pa_W K t a X q) 89 5 [(0, .ref (t 3)), (1, .int x1), (2, .int x2), (3, .int x3)] [.int t0] (fun (z : Int32 × PS) => (some (.int z.1), pa_W K t a X z.2)) (p_X4_parseLetters_L89 rc q X x1 x2 x3 t0) := by
  unfold p_X4_parseLetters_L89
  refine G_if_ne C 94 dX4_parseLetters_89 rfl (fun h6 => ?_) (fun h6 => ?_)
  · refine G_iconst C dX4_parseLetters_92 (v := 0) rfl ?_
    exact G_zret C dX4_parseLetters_93 rfl rfl
  · refine G_aload_n C 0 dX4_parseLetters_94 rfl ?_
    refine G_get C 0 2 dX4_parseLetters_95 inlX4 uf_X4_67 rfl (by decide) rfl rfl rfl ?_
    refine G_istore (lv' := [(4, .int q.2.1), (0, .ref (t 3)), (1, .int x1), (2, .int x2), (3, .int x3)]) C dX4_parseLetters_98 (by decide) rfl ?_
    refine G_aload_n C 1 dX4_parseLetters_100 rfl ?_
    refine G_iconst C dX4_parseLetters_101 (v := 1) rfl ?_
    refine G_bipush C dX4_parseLetters_102 (v := 9) rfl ?_
    refine G_callVi C 0 4 kd_X4_takeNumber ui_X4_takeNumber us_X4_takeNumber um_X4_60 rfl rfl (c_X4_takeNumber l K t a q X 1 9 hc1) dX4_parseLetters_104 rfl rfl (Nat.le_of_ble_eq_true rfl) (Nat.le_of_ble_eq_true rfl) ?_
    refine G_sub [1, 2, 3, 4, 0] rfl ?_
    exact g_X4_parseLetters_L107 C _ n hrc ((p_X4_takeNumber q X 1 9).2) X x1 x2 x3 q.2.1 ((p_X4_takeNumber q X 1 9).1) (inv_X4_takeNumber q X 1 9 hc1) hb
theorem inv_X4_parseLetters_L89 (rc : PS → SM → Int32 → Int32 → Int32 × PS) (n : Nat) (hri : ∀ (q : PS) (X : SM) (x1 : Int32) (x2 : Int32) (hc1 : ¬ q.1 1 < 0), mu x2 < n → (fun z : Int32 × PS => ¬ z.2.1 1 < 0) (rc q X x1 x2)) (q : PS) (X : SM) (x1 : Int32) (x2 : Int32) (x3 : Int32) (t0 : Int32) (hc1 : ¬ q.1 1 < 0) (hb : mu (x2 + 1) < n) : (fun z : Int32 × PS => ¬ z.2.1 1 < 0) (p_X4_parseLetters_L89 rc q X x1 x2 x3 t0) := by
  unfold p_X4_parseLetters_L89
  refine inv_ite (P := (fun z : Int32 × PS => ¬ z.2.1 1 < 0)) (c := t0 = 0) (fun h6 => ?_) (fun h6 => ?_)
  · exact hc1
  · exact inv_X4_parseLetters_L107 _ n hri ((p_X4_takeNumber q X 1 9).2) X x1 x2 x3 q.2.1 ((p_X4_takeNumber q X 1 9).1) (inv_X4_takeNumber q X 1 9 hc1) hb
def p_X4_parseLetters_L62 (rc : PS → SM → Int32 → Int32 → Int32 × PS) (q : PS) (X : SM) (x1 : Int32) (x2 : Int32) (t0 : Int32) : Int32 × PS := if t0 = 0 then (0, q) else if (q.1 3) = q.2.1 then (0, q) else p_X4_parseLetters_L89 rc ((p_X4_takeNumber q X 0 x1).2) X x1 x2 q.2.1 ((p_X4_takeNumber q X 0 x1).1)
theorem g_X4_parseLetters_L62 {l : Launch} {K : gK} {Γ : gT} {t a : Nat → Nat} (C : Cx l K Γ RX4 cX4_parseLetters 5 (some .boolean) 10) (rc : PS → SM → Int32 → Int32 → Int32 × PS) (n : Nat) (hrc : ∀ (q : PS) (X : SM) (x1 : Int32) (x2 : Int32) (hc1 : ¬ q.1 1 < 0), mu x2 < n → G l K Γ (pa_W K t a X q) 15 5 [(0, .ref (t 3)), (1, .int x1), (2, .int x2)] [] (fun (z : Int32 × PS) => (some (.int z.1), pa_W K t a X z.2)) (rc q X x1 x2)) (q : PS) (X : SM) (x1 : Int32) (x2 : Int32) (t0 : Int32) (hc1 : ¬ q.1 1 < 0) (hb : mu (x2 + 1) < n) : G l K Γ (pa_W K t a X q) 62 5 [(0, .ref (t 3)), (1, .int x1), (2, .int x2)] [.int t0] (fun (z : Int32 × PS) => (some (.int z.1), pa_W K t a X z.2)) (p_X4_parseLetters_L62 rc q X x1 x2 t0) := by
  unfold p_X4_parseLetters_L62
  refine G_if_ne C 67 dX4_parseLetters_62 rfl (fun h4 => ?_) (fun h4 => ?_)
  · refine G_iconst C dX4_parseLetters_65 (v := 0) rfl ?_
    exact G_zret C dX4_parseLetters_66 rfl rfl
  · refine G_aload_n C 0 dX4_parseLetters_67 rfl ?_
    refine G_get C 0 2 dX4_parseLetters_68 inlX4 uf_X4_67 rfl (by decide) rfl rfl rfl ?_
    refine G_istore_n (lv' := [(3, .int q.2.1), (0, .ref (t 3)), (1, .int x1), (2, .int x2)]) C dX4_parseLetters_71 (by decide) rfl ?_
    refine G_aload_n C 1 dX4_parseLetters_72 rfl ?_
    refine G_get C 0 0 dX4_parseLetters_73 inlX4 uf_X4_12 rfl (by decide) rfl rfl rfl ?_
    refine G_get C 1 4 dX4_parseLetters_76 inlX3 uf_X4_78 rfl (by decide) rfl rfl rfl ?_
    refine G_iload_n C 0 dX4_parseLetters_79 rfl ?_
    refine G_icmp_eq C 92 dX4_parseLetters_80 rfl (fun h5 => ?_) (fun h5 => ?_)
    · refine G_iconst C dX4_parseLetters_92 (v := 0) rfl ?_
      exact G_zret C dX4_parseLetters_93 rfl rfl
    · refine G_aload_n C 1 dX4_parseLetters_83 rfl ?_
      refine G_iconst C dX4_parseLetters_84 (v := 0) rfl ?_
      refine G_iload_n C 2 dX4_parseLetters_85 rfl ?_
      refine G_callVi C 0 4 kd_X4_takeNumber ui_X4_takeNumber us_X4_takeNumber um_X4_60 rfl rfl (c_X4_takeNumber l K t a q X 0 x1 hc1) dX4_parseLetters_86 rfl rfl (Nat.le_of_ble_eq_true rfl) (Nat.le_of_ble_eq_true rfl) ?_
      refine G_sub [1, 2, 3, 0] rfl ?_
      exact g_X4_parseLetters_L89 C _ n hrc ((p_X4_takeNumber q X 0 x1).2) X x1 x2 q.2.1 ((p_X4_takeNumber q X 0 x1).1) (inv_X4_takeNumber q X 0 x1 hc1) hb
theorem inv_X4_parseLetters_L62 (rc : PS → SM → Int32 → Int32 → Int32 × PS) (n : Nat) (hri : ∀ (q : PS) (X : SM) (x1 : Int32) (x2 : Int32) (hc1 : ¬ q.1 1 < 0), mu x2 < n → (fun z : Int32 × PS => ¬ z.2.1 1 < 0) (rc q X x1 x2)) (q : PS) (X : SM) (x1 : Int32) (x2 : Int32) (t0 : Int32) (hc1 : ¬ q.1 1 < 0) (hb : mu (x2 + 1) < n) : (fun z : Int32 × PS => ¬ z.2.1 1 < 0) (p_X4_parseLetters_L62 rc q X x1 x2 t0) := by
  unfold p_X4_parseLetters_L62
  refine inv_ite (P := (fun z : Int32 × PS => ¬ z.2.1 1 < 0)) (c := t0 = 0) (fun h4 => ?_) (fun h4 => ?_)
  · exact hc1
  · refine inv_ite (P := (fun z : Int32 × PS => ¬ z.2.1 1 < 0)) (c := (q.1 3) = q.2.1) (fun h5 => ?_) (fun h5 => ?_)
    · exact hc1
    · exact inv_X4_parseLetters_L89 _ n hri ((p_X4_takeNumber q X 0 x1).2) X x1 x2 q.2.1 ((p_X4_takeNumber q X 0 x1).1) (inv_X4_takeNumber q X 0 x1 hc1) hb
def p_X4_parseLetters_L26 (rc : PS → SM → Int32 → Int32 → Int32 × PS) (q : PS) (X : SM) (x1 : Int32) (x2 : Int32) (t0 : Int32) : Int32 × PS := if t0 = 0 then (1, q) else if (at_ 10 (q.2.2 7) (q.1 3)) < 6 then p_X4_parseLetters_L62 rc ((p_X4_takeNumber q X 0 x1).2) X x1 x2 ((p_X4_takeNumber q X 0 x1).1) else (0, q)
theorem g_X4_parseLetters_L26 {l : Launch} {K : gK} {Γ : gT} {t a : Nat → Nat} (C : Cx l K Γ RX4 cX4_parseLetters 5 (some .boolean) 10) (rc : PS → SM → Int32 → Int32 → Int32 × PS) (n : Nat) (hrc : ∀ (q : PS) (X : SM) (x1 : Int32) (x2 : Int32) (hc1 : ¬ q.1 1 < 0), mu x2 < n → G l K Γ (pa_W K t a X q) 15 5 [(0, .ref (t 3)), (1, .int x1), (2, .int x2)] [] (fun (z : Int32 × PS) => (some (.int z.1), pa_W K t a X z.2)) (rc q X x1 x2)) (q : PS) (X : SM) (x1 : Int32) (x2 : Int32) (t0 : Int32) (hc1 : ¬ q.1 1 < 0) (hb : mu (x2 + 1) < n) : G l K Γ (pa_W K t a X q) 26 5 [(0, .ref (t 3)), (1, .int x1), (2, .int x2)] [.int t0] (fun (z : Int32 × PS) => (some (.int z.1), pa_W K t a X z.2)) (p_X4_parseLetters_L26 rc q X x1 x2 t0) := by
  unfold p_X4_parseLetters_L26
  refine G_if_eq C 155 dX4_parseLetters_26 rfl (fun h2 => ?_) (fun h2 => ?_)
  · refine G_iconst C dX4_parseLetters_155 (v := 1) rfl ?_
    exact G_zret C dX4_parseLetters_156 rfl rfl
  · refine G_aload_n C 0 dX4_parseLetters_29 rfl ?_
    refine G_get C 0 1 dX4_parseLetters_30 inlX4 uf_X4_21 rfl (by decide) rfl rfl rfl ?_
    refine G_get C 4 2 dX4_parseLetters_33 inlX6 uf_X4_74 rfl (by decide) rfl rfl rfl ?_
    refine G_get C 7 5 dX4_parseLetters_36 inlX2 uf_X4_93 rfl (by decide) rfl rfl rfl ?_
    refine G_aload_n C 0 dX4_parseLetters_39 rfl ?_
    refine G_get C 0 0 dX4_parseLetters_40 inlX4 uf_X4_12 rfl (by decide) rfl rfl rfl ?_
    refine G_get C 1 4 dX4_parseLetters_43 inlX3 uf_X4_78 rfl (by decide) rfl rfl rfl ?_
    refine G_callSNi C kd_X9_at ut_X9_at nw_16 (c_at l K (ws := pa_W K t a X q) (q0 := 13) (n := 10) (g := q.2.2 7) (ad := (a 9)) (by decide) rfl (q.1 3)) dX4_parseLetters_46 rfl rfl (Nat.le_of_ble_eq_true rfl) (Nat.le_of_ble_eq_true rfl) ?_
    refine G_bipush C dX4_parseLetters_49 (v := 6) rfl ?_
    refine G_icmp_lt C 56 dX4_parseLetters_51 rfl (fun h3 => ?_) (fun h3 => ?_)
    · refine G_aload_n C 0 dX4_parseLetters_56 rfl ?_
      refine G_iconst C dX4_parseLetters_57 (v := 0) rfl ?_
      refine G_iload_n C 1 dX4_parseLetters_58 rfl ?_
      refine G_callVi C 0 4 kd_X4_takeNumber ui_X4_takeNumber us_X4_takeNumber um_X4_60 rfl rfl (c_X4_takeNumber l K t a q X 0 x1 hc1) dX4_parseLetters_59 rfl rfl (Nat.le_of_ble_eq_true rfl) (Nat.le_of_ble_eq_true rfl) ?_
      refine G_sub [0, 1, 2] rfl ?_
      exact g_X4_parseLetters_L62 C _ n hrc ((p_X4_takeNumber q X 0 x1).2) X x1 x2 ((p_X4_takeNumber q X 0 x1).1) (inv_X4_takeNumber q X 0 x1 hc1) hb
    · refine G_iconst C dX4_parseLetters_54 (v := 0) rfl ?_
      exact G_zret C dX4_parseLetters_55 rfl rfl
theorem inv_X4_parseLetters_L26 (rc : PS → SM → Int32 → Int32 → Int32 × PS) (n : Nat) (hri : ∀ (q : PS) (X : SM) (x1 : Int32) (x2 : Int32) (hc1 : ¬ q.1 1 < 0), mu x2 < n → (fun z : Int32 × PS => ¬ z.2.1 1 < 0) (rc q X x1 x2)) (q : PS) (X : SM) (x1 : Int32) (x2 : Int32) (t0 : Int32) (hc1 : ¬ q.1 1 < 0) (hb : mu (x2 + 1) < n) : (fun z : Int32 × PS => ¬ z.2.1 1 < 0) (p_X4_parseLetters_L26 rc q X x1 x2 t0) := by
  unfold p_X4_parseLetters_L26
  refine inv_ite (P := (fun z : Int32 × PS => ¬ z.2.1 1 < 0)) (c := t0 = 0) (fun h2 => ?_) (fun h2 => ?_)
  · exact hc1
  · refine inv_ite (P := (fun z : Int32 × PS => ¬ z.2.1 1 < 0)) (c := (at_ 10 (q.2.2 7) (q.1 3)) < 6) (fun h3 => ?_) (fun h3 => ?_)
    · exact inv_X4_parseLetters_L62 _ n hri ((p_X4_takeNumber q X 0 x1).2) X x1 x2 ((p_X4_takeNumber q X 0 x1).1) (inv_X4_takeNumber q X 0 x1 hc1) hb
    · exact hc1
def p_X4_parseLetters_L15 : Nat → PS → SM → Int32 → Int32 → Int32 × PS
  | 0, q, _, _, _ => (0, q)
  | fuel + 1, q, X, x1, x2 => if 60 < x2 then (1, q) else p_X4_parseLetters_L26 (p_X4_parseLetters_L15 fuel) ((p_X4_take q X 5).2) X x1 x2 ((p_X4_take q X 5).1)
theorem g_X4_parseLetters_L15 {l : Launch} {K : gK} {Γ : gT} {t a : Nat → Nat} (C : Cx l K Γ RX4 cX4_parseLetters 5 (some .boolean) 10) : ∀ (n : Nat) (q : PS) (X : SM) (x1 : Int32) (x2 : Int32) (hc1 : ¬ q.1 1 < 0), mu x2 < n → G l K Γ (pa_W K t a X q) 15 5 [(0, .ref (t 3)), (1, .int x1), (2, .int x2)] [] (fun (z : Int32 × PS) => (some (.int z.1), pa_W K t a X z.2)) (p_X4_parseLetters_L15 n q X x1 x2) := by
  intro n
  induction n with
  | zero =>
    intro q X x1 x2 hc1 hm
    exact absurd hm (Nat.not_lt_zero _)
  | succ n ih =>
    intro q X x1 x2 hc1 hm
    rw [p_X4_parseLetters_L15]
    refine G_iload_n C 2 dX4_parseLetters_15 rfl ?_
    refine G_bipush C dX4_parseLetters_16 (v := 60) rfl ?_
    refine G_icmp_gt C 155 dX4_parseLetters_18 rfl (fun h1 => ?_) (fun h1 => ?_)
    · refine G_iconst C dX4_parseLetters_155 (v := 1) rfl ?_
      exact G_zret C dX4_parseLetters_156 rfl rfl
    · refine G_aload_n C 0 dX4_parseLetters_21 rfl ?_
      refine G_iconst C dX4_parseLetters_22 (v := 5) rfl ?_
      refine G_callVi C 0 4 kd_X4_take ui_X4_take us_X4_take um_X4_35 rfl rfl (c_X4_take l K t a q X 5 hc1) dX4_parseLetters_23 rfl rfl (Nat.le_of_ble_eq_true rfl) (Nat.le_of_ble_eq_true rfl) ?_
      refine G_sub [0, 1, 2] rfl ?_
      exact g_X4_parseLetters_L26 C _ n ih ((p_X4_take q X 5).2) X x1 x2 ((p_X4_take q X 5).1) (inv_X4_take q X 5 hc1) (by have := mu_upc h1 (by decide); omega)
theorem inv_X4_parseLetters_L15 : ∀ (n : Nat) (q : PS) (X : SM) (x1 : Int32) (x2 : Int32) (hc1 : ¬ q.1 1 < 0), mu x2 < n → (fun z : Int32 × PS => ¬ z.2.1 1 < 0) (p_X4_parseLetters_L15 n q X x1 x2) := by
  intro n
  induction n with
  | zero =>
    intro q X x1 x2 hc1 hm
    exact absurd hm (Nat.not_lt_zero _)
  | succ n ih =>
    intro q X x1 x2 hc1 hm
    rw [p_X4_parseLetters_L15]
    refine inv_ite (P := (fun z : Int32 × PS => ¬ z.2.1 1 < 0)) (c := 60 < x2) (fun h1 => ?_) (fun h1 => ?_)
    · exact hc1
    · exact inv_X4_parseLetters_L26 _ n ih ((p_X4_take q X 5).2) X x1 x2 ((p_X4_take q X 5).1) (inv_X4_take q X 5 hc1) (by have := mu_upc h1 (by decide); omega)
def p_X4_parseLetters (q : PS) (X : SM) : Int32 × PS := p_X4_parseLetters_L15 (mu 0 + 1) q X ((q.2.2 18 2) - 1) 0
theorem inv_X4_parseLetters (q : PS) (X : SM) (hc1 : ¬ q.1 1 < 0) : (fun z : Int32 × PS => ¬ z.2.1 1 < 0) (p_X4_parseLetters q X) := by
  unfold p_X4_parseLetters
  exact inv_X4_parseLetters_L15 _ q X ((q.2.2 18 2) - 1) 0 hc1 (Nat.lt_succ_self _)
theorem c_X4_parseLetters (l : Launch) (K : gK) (t a : Nat → Nat) (q : PS) (X : SM) (hc1 : ¬ q.1 1 < 0) : Ct l K yX4_parseLetters cX4_parseLetters 5 (some .boolean) 10 [.ref (t 3)] (pa_W K t a X q) (some (.int (p_X4_parseLetters q X).1), pa_W K t a X ((p_X4_parseLetters q X).2)) := by
  refine Ct.of (own := RX4) (fun (z : Int32 × PS) => (some (.int z.1), pa_W K t a X z.2)) (x := p_X4_parseLetters q X) (by decide) rfl (Nat.le_of_ble_eq_true rfl) (fun Γ C => ?_)
  unfold p_X4_parseLetters
  refine G_aload_n C 0 dX4_parseLetters_0 rfl ?_
  refine G_get C 0 1 dX4_parseLetters_1 inlX4 uf_X4_21 rfl (by decide) rfl rfl rfl ?_
  refine G_get C 4 2 dX4_parseLetters_4 inlX6 uf_X4_74 rfl (by decide) rfl rfl rfl ?_
  refine G_get C 7 8 dX4_parseLetters_7 inlX2 uf_X4_90 rfl (by decide) rfl rfl rfl ?_
  refine G_iconst C dX4_parseLetters_10 (v := 1) rfl ?_
  refine G_isub C dX4_parseLetters_11 ?_
  refine G_istore_n (lv' := [(1, .int ((q.2.2 18 2) - 1)), (0, .ref (t 3))]) C dX4_parseLetters_12 (by decide) rfl ?_
  refine G_iconst C dX4_parseLetters_13 (v := 0) rfl ?_
  refine G_istore_n (lv' := [(2, .int 0), (1, .int ((q.2.2 18 2) - 1)), (0, .ref (t 3))]) C dX4_parseLetters_14 (by decide) rfl ?_
  refine G_sub [2, 1, 0] rfl ?_
  exact g_X4_parseLetters_L15 C _ q X ((q.2.2 18 2) - 1) 0 hc1 (Nat.lt_succ_self _)
theorem kd_X4_parseToken : Card yX4_parseToken cX4_parseToken 1 (some .boolean) 0 := ⟨uc_X4_parseToken, un_X4, ⟨by decide, by decide, by decide⟩, by decide⟩
def p_X4_parseToken_L59 (q : PS) (X : SM) (t0 : Int32) : Int32 × PS := if t0 = 0 then (0, q) else (1, (q.1, q.2.1, s_X8_add q.2.2 q.2.1))
theorem g_X4_parseToken_L59 {l : Launch} {K : gK} {Γ : gT} {t a : Nat → Nat} (C : Cx l K Γ RX4 cX4_parseToken 1 (some .boolean) 10) (q : PS) (X : SM) (t0 : Int32) (hc1 : ¬ q.1 1 < 0) : G l K Γ (pa_W K t a X q) 59 1 [(0, .ref (t 3))] [.int t0] (fun (z : Int32 × PS) => (some (.int z.1), pa_W K t a X z.2)) (p_X4_parseToken_L59 q X t0) := by
  unfold p_X4_parseToken_L59
  refine G_if_ne C 64 dX4_parseToken_59 rfl (fun h4 => ?_) (fun h4 => ?_)
  · refine G_iconst C dX4_parseToken_62 (v := 0) rfl ?_
    exact G_zret C dX4_parseToken_63 rfl rfl
  · refine G_aload_n C 0 dX4_parseToken_64 rfl ?_
    refine G_get C 0 1 dX4_parseToken_65 inlX4 uf_X4_21 rfl (by decide) rfl rfl rfl ?_
    refine G_get C 4 3 dX4_parseToken_68 inlX6 uf_X4_113 rfl (by decide) rfl rfl rfl ?_
    refine G_aload_n C 0 dX4_parseToken_71 rfl ?_
    refine G_get C 0 2 dX4_parseToken_72 inlX4 uf_X4_67 rfl (by decide) rfl rfl rfl ?_
    refine G_callVv C 16 8 kd_X8_add ui_X8_add us_X8_add um_X4_117 rfl rfl (Ct.to (r' := (none, pa_W K t a X ((q.1, q.2.1, s_X8_add q.2.2 q.2.1)))) (Ct.right _ (c_X8_add l K a q.2.2 q.2.1)) rfl) dX4_parseToken_75 rfl rfl (Nat.le_of_ble_eq_true rfl) (Nat.le_of_ble_eq_true rfl) ?_
    refine G_iconst C dX4_parseToken_78 (v := 1) rfl ?_
    exact G_zret C dX4_parseToken_79 rfl rfl
theorem inv_X4_parseToken_L59 (q : PS) (X : SM) (t0 : Int32) (hc1 : ¬ q.1 1 < 0) : (fun z : Int32 × PS => ¬ z.2.1 1 < 0) (p_X4_parseToken_L59 q X t0) := by
  unfold p_X4_parseToken_L59
  refine inv_ite (P := (fun z : Int32 × PS => ¬ z.2.1 1 < 0)) (c := t0 = 0) (fun h4 => ?_) (fun h4 => ?_)
  · exact hc1
  · exact hc1
def p_X4_parseToken_L50 (q : PS) (X : SM) (t0 : Int32) : Int32 × PS := if t0 = 0 then (0, q) else p_X4_parseToken_L59 ((p_X4_take q X 8).2) X ((p_X4_take q X 8).1)
theorem g_X4_parseToken_L50 {l : Launch} {K : gK} {Γ : gT} {t a : Nat → Nat} (C : Cx l K Γ RX4 cX4_parseToken 1 (some .boolean) 10) (q : PS) (X : SM) (t0 : Int32) (hc1 : ¬ q.1 1 < 0) : G l K Γ (pa_W K t a X q) 50 1 [(0, .ref (t 3))] [.int t0] (fun (z : Int32 × PS) => (some (.int z.1), pa_W K t a X z.2)) (p_X4_parseToken_L50 q X t0) := by
  unfold p_X4_parseToken_L50
  refine G_if_eq C 62 dX4_parseToken_50 rfl (fun h3 => ?_) (fun h3 => ?_)
  · refine G_iconst C dX4_parseToken_62 (v := 0) rfl ?_
    exact G_zret C dX4_parseToken_63 rfl rfl
  · refine G_aload_n C 0 dX4_parseToken_53 rfl ?_
    refine G_bipush C dX4_parseToken_54 (v := 8) rfl ?_
    refine G_callVi C 0 4 kd_X4_take ui_X4_take us_X4_take um_X4_35 rfl rfl (c_X4_take l K t a q X 8 hc1) dX4_parseToken_56 rfl rfl (Nat.le_of_ble_eq_true rfl) (Nat.le_of_ble_eq_true rfl) ?_
    refine G_sub [0] rfl ?_
    exact g_X4_parseToken_L59 C ((p_X4_take q X 8).2) X ((p_X4_take q X 8).1) (inv_X4_take q X 8 hc1)
theorem inv_X4_parseToken_L50 (q : PS) (X : SM) (t0 : Int32) (hc1 : ¬ q.1 1 < 0) : (fun z : Int32 × PS => ¬ z.2.1 1 < 0) (p_X4_parseToken_L50 q X t0) := by
  unfold p_X4_parseToken_L50
  refine inv_ite (P := (fun z : Int32 × PS => ¬ z.2.1 1 < 0)) (c := t0 = 0) (fun h3 => ?_) (fun h3 => ?_)
  · exact hc1
  · exact inv_X4_parseToken_L59 ((p_X4_take q X 8).2) X ((p_X4_take q X 8).1) (inv_X4_take q X 8 hc1)
def p_X4_parseToken_L6 (q : PS) (X : SM) (t0 : Int32) : Int32 × PS := if t0 = 0 then (1, q) else if (v_X2_isOpen q.2.2 (q.1 3)) = 0 then (0, q) else p_X4_parseToken_L50 ((p_X4_takeNumber q X 0 ((q.2.2 18 2) - 1)).2) X ((p_X4_takeNumber q X 0 ((q.2.2 18 2) - 1)).1)
theorem g_X4_parseToken_L6 {l : Launch} {K : gK} {Γ : gT} {t a : Nat → Nat} (C : Cx l K Γ RX4 cX4_parseToken 1 (some .boolean) 10) (q : PS) (X : SM) (t0 : Int32) (hc1 : ¬ q.1 1 < 0) : G l K Γ (pa_W K t a X q) 6 1 [(0, .ref (t 3))] [.int t0] (fun (z : Int32 × PS) => (some (.int z.1), pa_W K t a X z.2)) (p_X4_parseToken_L6 q X t0) := by
  unfold p_X4_parseToken_L6
  refine G_if_ne C 11 dX4_parseToken_6 rfl (fun h1 => ?_) (fun h1 => ?_)
  · refine G_iconst C dX4_parseToken_9 (v := 1) rfl ?_
    exact G_zret C dX4_parseToken_10 rfl rfl
  · refine G_aload_n C 0 dX4_parseToken_11 rfl ?_
    refine G_get C 0 1 dX4_parseToken_12 inlX4 uf_X4_21 rfl (by decide) rfl rfl rfl ?_
    refine G_get C 4 2 dX4_parseToken_15 inlX6 uf_X4_74 rfl (by decide) rfl rfl rfl ?_
    refine G_aload_n C 0 dX4_parseToken_18 rfl ?_
    refine G_get C 0 0 dX4_parseToken_19 inlX4 uf_X4_12 rfl (by decide) rfl rfl rfl ?_
    refine G_get C 1 4 dX4_parseToken_22 inlX3 uf_X4_78 rfl (by decide) rfl rfl rfl ?_
    refine G_callVi C 7 2 kd_X2_isOpen ui_X2_isOpen us_X2_isOpen um_X4_110 rfl rfl (Ct.to (r' := (some (.int (v_X2_isOpen q.2.2 (q.1 3))), pa_W K t a X q)) (Ct.right _ (c_X2_isOpen l K a q.2.2 (q.1 3))) rfl) dX4_parseToken_25 rfl rfl (Nat.le_of_ble_eq_true rfl) (Nat.le_of_ble_eq_true rfl) ?_
    refine G_if_ne C 33 dX4_parseToken_28 rfl (fun h2 => ?_) (fun h2 => ?_)
    · refine G_iconst C dX4_parseToken_31 (v := 0) rfl ?_
      exact G_zret C dX4_parseToken_32 rfl rfl
    · refine G_aload_n C 0 dX4_parseToken_33 rfl ?_
      refine G_iconst C dX4_parseToken_34 (v := 0) rfl ?_
      refine G_aload_n C 0 dX4_parseToken_35 rfl ?_
      refine G_get C 0 1 dX4_parseToken_36 inlX4 uf_X4_21 rfl (by decide) rfl rfl rfl ?_
      refine G_get C 4 2 dX4_parseToken_39 inlX6 uf_X4_74 rfl (by decide) rfl rfl rfl ?_
      refine G_get C 7 8 dX4_parseToken_42 inlX2 uf_X4_90 rfl (by decide) rfl rfl rfl ?_
      refine G_iconst C dX4_parseToken_45 (v := 1) rfl ?_
      refine G_isub C dX4_parseToken_46 ?_
      refine G_callVi C 0 4 kd_X4_takeNumber ui_X4_takeNumber us_X4_takeNumber um_X4_60 rfl rfl (c_X4_takeNumber l K t a q X 0 ((q.2.2 18 2) - 1) hc1) dX4_parseToken_47 rfl rfl (Nat.le_of_ble_eq_true rfl) (Nat.le_of_ble_eq_true rfl) ?_
      refine G_sub [0] rfl ?_
      exact g_X4_parseToken_L50 C ((p_X4_takeNumber q X 0 ((q.2.2 18 2) - 1)).2) X ((p_X4_takeNumber q X 0 ((q.2.2 18 2) - 1)).1) (inv_X4_takeNumber q X 0 ((q.2.2 18 2) - 1) hc1)
theorem inv_X4_parseToken_L6 (q : PS) (X : SM) (t0 : Int32) (hc1 : ¬ q.1 1 < 0) : (fun z : Int32 × PS => ¬ z.2.1 1 < 0) (p_X4_parseToken_L6 q X t0) := by
  unfold p_X4_parseToken_L6
  refine inv_ite (P := (fun z : Int32 × PS => ¬ z.2.1 1 < 0)) (c := t0 = 0) (fun h1 => ?_) (fun h1 => ?_)
  · exact hc1
  · refine inv_ite (P := (fun z : Int32 × PS => ¬ z.2.1 1 < 0)) (c := (v_X2_isOpen q.2.2 (q.1 3)) = 0) (fun h2 => ?_) (fun h2 => ?_)
    · exact hc1
    · exact inv_X4_parseToken_L50 ((p_X4_takeNumber q X 0 ((q.2.2 18 2) - 1)).2) X ((p_X4_takeNumber q X 0 ((q.2.2 18 2) - 1)).1) (inv_X4_takeNumber q X 0 ((q.2.2 18 2) - 1) hc1)
def p_X4_parseToken (q : PS) (X : SM) : Int32 × PS := p_X4_parseToken_L6 ((p_X4_take q X 6).2) X ((p_X4_take q X 6).1)
theorem inv_X4_parseToken (q : PS) (X : SM) (hc1 : ¬ q.1 1 < 0) : (fun z : Int32 × PS => ¬ z.2.1 1 < 0) (p_X4_parseToken q X) := by
  unfold p_X4_parseToken
  exact inv_X4_parseToken_L6 ((p_X4_take q X 6).2) X ((p_X4_take q X 6).1) (inv_X4_take q X 6 hc1)
theorem c_X4_parseToken (l : Launch) (K : gK) (t a : Nat → Nat) (q : PS) (X : SM) (hc1 : ¬ q.1 1 < 0) : Ct l K yX4_parseToken cX4_parseToken 1 (some .boolean) 10 [.ref (t 3)] (pa_W K t a X q) (some (.int (p_X4_parseToken q X).1), pa_W K t a X ((p_X4_parseToken q X).2)) := by
  refine Ct.of (own := RX4) (fun (z : Int32 × PS) => (some (.int z.1), pa_W K t a X z.2)) (x := p_X4_parseToken q X) (by decide) rfl (Nat.le_of_ble_eq_true rfl) (fun Γ C => ?_)
  unfold p_X4_parseToken
  refine G_aload_n C 0 dX4_parseToken_0 rfl ?_
  refine G_bipush C dX4_parseToken_1 (v := 6) rfl ?_
  refine G_callVi C 0 4 kd_X4_take ui_X4_take us_X4_take um_X4_35 rfl rfl (c_X4_take l K t a q X 6 hc1) dX4_parseToken_3 rfl rfl (Nat.le_of_ble_eq_true rfl) (Nat.le_of_ble_eq_true rfl) ?_
  refine G_sub [0] rfl ?_
  exact g_X4_parseToken_L6 C ((p_X4_take q X 6).2) X ((p_X4_take q X 6).1) (inv_X4_take q X 6 hc1)
theorem kd_X4_parse : Card yX4_parse cX4_parse 2 (some .int) 0 := ⟨uc_X4_parse, un_X4, ⟨by decide, by decide, by decide⟩, by decide⟩
def p_X4_parse_L88 (q : PS) (X : SM) (t0 : Int32) : Int32 × PS := if t0 = 0 then (q.1 0, q) else (-2, q)
theorem g_X4_parse_L88 {l : Launch} {K : gK} {Γ : gT} {t a : Nat → Nat} (C : Cx l K Γ RX4 cX4_parse 2 (some .int) 11) (q : PS) (X : SM) (t0 : Int32) (hc1 : ¬ q.1 1 < 0) : G l K Γ (pa_W K t a X q) 88 2 [(0, .ref (t 3))] [.int t0] (fun (z : Int32 × PS) => (some (.int z.1), pa_W K t a X z.2)) (p_X4_parse_L88 q X t0) := by
  unfold p_X4_parse_L88
  refine G_istore_n (lv' := [(1, .int t0), (0, .ref (t 3))]) C dX4_parse_88 (by decide) rfl ?_
  refine G_iload_n C 0 dX4_parse_89 rfl ?_
  refine G_if_eq C 98 dX4_parse_90 rfl (fun h3 => ?_) (fun h3 => ?_)
  · refine G_aload_n C 1 dX4_parse_98 rfl ?_
    refine G_get C 0 0 dX4_parse_99 inlX4 uf_X4_12 rfl (by decide) rfl rfl rfl ?_
    refine G_get C 1 1 dX4_parse_102 inlX3 uf_X4_53 rfl (by decide) rfl rfl rfl ?_
    exact G_iret C dX4_parse_105 rfl
  · refine G_bipush C dX4_parse_93 (v := -2) rfl ?_
    refine G_goto C 105 dX4_parse_95 rfl ?_
    exact G_iret C dX4_parse_105 rfl
theorem inv_X4_parse_L88 (q : PS) (X : SM) (t0 : Int32) (hc1 : ¬ q.1 1 < 0) : (fun z : Int32 × PS => ¬ z.2.1 1 < 0) (p_X4_parse_L88 q X t0) := by
  unfold p_X4_parse_L88
  refine inv_ite (P := (fun z : Int32 × PS => ¬ z.2.1 1 < 0)) (c := t0 = 0) (fun h3 => ?_) (fun h3 => ?_)
  · exact hc1
  · exact hc1
def p_X4_parse_L87 (q : PS) (X : SM) : Int32 × PS := p_X4_parse_L88 q X 0
theorem g_X4_parse_L87 {l : Launch} {K : gK} {Γ : gT} {t a : Nat → Nat} (C : Cx l K Γ RX4 cX4_parse 2 (some .int) 11) (q : PS) (X : SM) (hc1 : ¬ q.1 1 < 0) : G l K Γ (pa_W K t a X q) 87 2 [(0, .ref (t 3))] [] (fun (z : Int32 × PS) => (some (.int z.1), pa_W K t a X z.2)) (p_X4_parse_L87 q X) := by
  unfold p_X4_parse_L87
  refine G_iconst C dX4_parse_87 (v := 0) rfl ?_
  refine G_sub [0] rfl ?_
  exact g_X4_parse_L88 C q X 0 hc1
theorem inv_X4_parse_L87 (q : PS) (X : SM) (hc1 : ¬ q.1 1 < 0) : (fun z : Int32 × PS => ¬ z.2.1 1 < 0) (p_X4_parse_L87 q X) := by
  unfold p_X4_parse_L87
  exact inv_X4_parse_L88 q X 0 hc1
def p_X4_parse_L68 (q : PS) (X : SM) (t0 : Int32) : Int32 × PS := if t0 = 0 then p_X4_parse_L87 q X else if (q.1 2) = 9 then p_X4_parse_L88 q X 1 else p_X4_parse_L87 q X
theorem g_X4_parse_L68 {l : Launch} {K : gK} {Γ : gT} {t a : Nat → Nat} (C : Cx l K Γ RX4 cX4_parse 2 (some .int) 11) (q : PS) (X : SM) (t0 : Int32) (hc1 : ¬ q.1 1 < 0) : G l K Γ (pa_W K t a X q) 68 2 [(0, .ref (t 3))] [.int t0] (fun (z : Int32 × PS) => (some (.int z.1), pa_W K t a X z.2)) (p_X4_parse_L68 q X t0) := by
  unfold p_X4_parse_L68
  refine G_if_eq C 87 dX4_parse_68 rfl (fun h8 => ?_) (fun h8 => ?_)
  · refine G_sub [0] rfl ?_
    exact g_X4_parse_L87 C q X hc1
  · refine G_aload_n C 0 dX4_parse_71 rfl ?_
    refine G_get C 0 0 dX4_parse_72 inlX4 uf_X4_12 rfl (by decide) rfl rfl rfl ?_
    refine G_get C 1 3 dX4_parse_75 inlX3 uf_X4_49 rfl (by decide) rfl rfl rfl ?_
    refine G_bipush C dX4_parse_78 (v := 9) rfl ?_
    refine G_icmp_ne C 87 dX4_parse_80 rfl (fun h9 => ?_) (fun h9 => ?_)
    · refine G_iconst C dX4_parse_83 (v := 1) rfl ?_
      refine G_goto C 88 dX4_parse_84 rfl ?_
      refine G_sub [0] rfl ?_
      exact g_X4_parse_L88 C q X 1 hc1
    · refine G_sub [0] rfl ?_
      exact g_X4_parse_L87 C q X hc1
theorem inv_X4_parse_L68 (q : PS) (X : SM) (t0 : Int32) (hc1 : ¬ q.1 1 < 0) : (fun z : Int32 × PS => ¬ z.2.1 1 < 0) (p_X4_parse_L68 q X t0) := by
  unfold p_X4_parse_L68
  refine inv_ite (P := (fun z : Int32 × PS => ¬ z.2.1 1 < 0)) (c := t0 = 0) (fun h8 => ?_) (fun h8 => ?_)
  · exact inv_X4_parse_L87 q X hc1
  · refine inv_ite (P := (fun z : Int32 × PS => ¬ z.2.1 1 < 0)) (c := (q.1 2) = 9) (fun h9 => ?_) (fun h9 => ?_)
    · exact inv_X4_parse_L88 q X 1 hc1
    · exact inv_X4_parse_L87 q X hc1
def p_X4_parse_L61 (q : PS) (X : SM) (t0 : Int32) : Int32 × PS := if t0 = 0 then p_X4_parse_L87 q X else p_X4_parse_L68 ((p_X4_parseToken q X).2) X ((p_X4_parseToken q X).1)
theorem g_X4_parse_L61 {l : Launch} {K : gK} {Γ : gT} {t a : Nat → Nat} (C : Cx l K Γ RX4 cX4_parse 2 (some .int) 11) (q : PS) (X : SM) (t0 : Int32) (hc1 : ¬ q.1 1 < 0) : G l K Γ (pa_W K t a X q) 61 2 [(0, .ref (t 3))] [.int t0] (fun (z : Int32 × PS) => (some (.int z.1), pa_W K t a X z.2)) (p_X4_parse_L61 q X t0) := by
  unfold p_X4_parse_L61
  refine G_if_eq C 87 dX4_parse_61 rfl (fun h7 => ?_) (fun h7 => ?_)
  · refine G_sub [0] rfl ?_
    exact g_X4_parse_L87 C q X hc1
  · refine G_aload_n C 0 dX4_parse_64 rfl ?_
    refine G_callVi C 0 4 kd_X4_parseToken ui_X4_parseToken us_X4_parseToken um_X4_46 rfl rfl (c_X4_parseToken l K t a q X hc1) dX4_parse_65 rfl rfl (Nat.le_of_ble_eq_true rfl) (Nat.le_of_ble_eq_true rfl) ?_
    refine G_sub [0] rfl ?_
    exact g_X4_parse_L68 C ((p_X4_parseToken q X).2) X ((p_X4_parseToken q X).1) (inv_X4_parseToken q X hc1)
theorem inv_X4_parse_L61 (q : PS) (X : SM) (t0 : Int32) (hc1 : ¬ q.1 1 < 0) : (fun z : Int32 × PS => ¬ z.2.1 1 < 0) (p_X4_parse_L61 q X t0) := by
  unfold p_X4_parse_L61
  refine inv_ite (P := (fun z : Int32 × PS => ¬ z.2.1 1 < 0)) (c := t0 = 0) (fun h7 => ?_) (fun h7 => ?_)
  · exact inv_X4_parse_L87 q X hc1
  · exact inv_X4_parse_L68 ((p_X4_parseToken q X).2) X ((p_X4_parseToken q X).1) (inv_X4_parseToken q X hc1)
def p_X4_parse_L54 (q : PS) (X : SM) (t0 : Int32) : Int32 × PS := if t0 = 0 then p_X4_parse_L87 q X else p_X4_parse_L61 ((p_X4_parseLetters q X).2) X ((p_X4_parseLetters q X).1)
theorem g_X4_parse_L54 {l : Launch} {K : gK} {Γ : gT} {t a : Nat → Nat} (C : Cx l K Γ RX4 cX4_parse 2 (some .int) 11) (q : PS) (X : SM) (t0 : Int32) (hc1 : ¬ q.1 1 < 0) : G l K Γ (pa_W K t a X q) 54 2 [(0, .ref (t 3))] [.int t0] (fun (z : Int32 × PS) => (some (.int z.1), pa_W K t a X z.2)) (p_X4_parse_L54 q X t0) := by
  unfold p_X4_parse_L54
  refine G_if_eq C 87 dX4_parse_54 rfl (fun h6 => ?_) (fun h6 => ?_)
  · refine G_sub [0] rfl ?_
    exact g_X4_parse_L87 C q X hc1
  · refine G_aload_n C 0 dX4_parse_57 rfl ?_
    refine G_callVi C 0 4 kd_X4_parseLetters ui_X4_parseLetters us_X4_parseLetters um_X4_43 rfl rfl (c_X4_parseLetters l K t a q X hc1) dX4_parse_58 rfl rfl (Nat.le_of_ble_eq_true rfl) (Nat.le_of_ble_eq_true rfl) ?_
    refine G_sub [0] rfl ?_
    exact g_X4_parse_L61 C ((p_X4_parseLetters q X).2) X ((p_X4_parseLetters q X).1) (inv_X4_parseLetters q X hc1)
theorem inv_X4_parse_L54 (q : PS) (X : SM) (t0 : Int32) (hc1 : ¬ q.1 1 < 0) : (fun z : Int32 × PS => ¬ z.2.1 1 < 0) (p_X4_parse_L54 q X t0) := by
  unfold p_X4_parse_L54
  refine inv_ite (P := (fun z : Int32 × PS => ¬ z.2.1 1 < 0)) (c := t0 = 0) (fun h6 => ?_) (fun h6 => ?_)
  · exact inv_X4_parse_L87 q X hc1
  · exact inv_X4_parse_L61 ((p_X4_parseLetters q X).2) X ((p_X4_parseLetters q X).1) (inv_X4_parseLetters q X hc1)
def p_X4_parse_L47 (q : PS) (X : SM) (t0 : Int32) : Int32 × PS := if t0 = 0 then p_X4_parse_L87 q X else p_X4_parse_L54 ((p_X4_parseOffices q X).2) X ((p_X4_parseOffices q X).1)
theorem g_X4_parse_L47 {l : Launch} {K : gK} {Γ : gT} {t a : Nat → Nat} (C : Cx l K Γ RX4 cX4_parse 2 (some .int) 11) (q : PS) (X : SM) (t0 : Int32) (hc1 : ¬ q.1 1 < 0) : G l K Γ (pa_W K t a X q) 47 2 [(0, .ref (t 3))] [.int t0] (fun (z : Int32 × PS) => (some (.int z.1), pa_W K t a X z.2)) (p_X4_parse_L47 q X t0) := by
  unfold p_X4_parse_L47
  refine G_if_eq C 87 dX4_parse_47 rfl (fun h5 => ?_) (fun h5 => ?_)
  · refine G_sub [0] rfl ?_
    exact g_X4_parse_L87 C q X hc1
  · refine G_aload_n C 0 dX4_parse_50 rfl ?_
    refine G_callVi C 0 4 kd_X4_parseOffices ui_X4_parseOffices us_X4_parseOffices um_X4_39 rfl rfl (c_X4_parseOffices l K t a q X hc1) dX4_parse_51 rfl rfl (Nat.le_of_ble_eq_true rfl) (Nat.le_of_ble_eq_true rfl) ?_
    refine G_sub [0] rfl ?_
    exact g_X4_parse_L54 C ((p_X4_parseOffices q X).2) X ((p_X4_parseOffices q X).1) (inv_X4_parseOffices q X hc1)
theorem inv_X4_parse_L47 (q : PS) (X : SM) (t0 : Int32) (hc1 : ¬ q.1 1 < 0) : (fun z : Int32 × PS => ¬ z.2.1 1 < 0) (p_X4_parse_L47 q X t0) := by
  unfold p_X4_parse_L47
  refine inv_ite (P := (fun z : Int32 × PS => ¬ z.2.1 1 < 0)) (c := t0 = 0) (fun h5 => ?_) (fun h5 => ?_)
  · exact inv_X4_parse_L87 q X hc1
  · exact inv_X4_parse_L54 ((p_X4_parseOffices q X).2) X ((p_X4_parseOffices q X).1) (inv_X4_parseOffices q X hc1)
def p_X4_parse_L38 (q : PS) (X : SM) (t0 : Int32) : Int32 × PS := if t0 = 0 then p_X4_parse_L87 q X else p_X4_parse_L47 ((p_X4_take q X 8).2) X ((p_X4_take q X 8).1)
theorem g_X4_parse_L38 {l : Launch} {K : gK} {Γ : gT} {t a : Nat → Nat} (C : Cx l K Γ RX4 cX4_parse 2 (some .int) 11) (q : PS) (X : SM) (t0 : Int32) (hc1 : ¬ q.1 1 < 0) : G l K Γ (pa_W K t a X q) 38 2 [(0, .ref (t 3))] [.int t0] (fun (z : Int32 × PS) => (some (.int z.1), pa_W K t a X z.2)) (p_X4_parse_L38 q X t0) := by
  unfold p_X4_parse_L38
  refine G_if_eq C 87 dX4_parse_38 rfl (fun h4 => ?_) (fun h4 => ?_)
  · refine G_sub [0] rfl ?_
    exact g_X4_parse_L87 C q X hc1
  · refine G_aload_n C 0 dX4_parse_41 rfl ?_
    refine G_bipush C dX4_parse_42 (v := 8) rfl ?_
    refine G_callVi C 0 4 kd_X4_take ui_X4_take us_X4_take um_X4_35 rfl rfl (c_X4_take l K t a q X 8 hc1) dX4_parse_44 rfl rfl (Nat.le_of_ble_eq_true rfl) (Nat.le_of_ble_eq_true rfl) ?_
    refine G_sub [0] rfl ?_
    exact g_X4_parse_L47 C ((p_X4_take q X 8).2) X ((p_X4_take q X 8).1) (inv_X4_take q X 8 hc1)
theorem inv_X4_parse_L38 (q : PS) (X : SM) (t0 : Int32) (hc1 : ¬ q.1 1 < 0) : (fun z : Int32 × PS => ¬ z.2.1 1 < 0) (p_X4_parse_L38 q X t0) := by
  unfold p_X4_parse_L38
  refine inv_ite (P := (fun z : Int32 × PS => ¬ z.2.1 1 < 0)) (c := t0 = 0) (fun h4 => ?_) (fun h4 => ?_)
  · exact inv_X4_parse_L87 q X hc1
  · exact inv_X4_parse_L47 ((p_X4_take q X 8).2) X ((p_X4_take q X 8).1) (inv_X4_take q X 8 hc1)
def p_X4_parse_L29 (q : PS) (X : SM) (t0 : Int32) : Int32 × PS := if t0 = 0 then p_X4_parse_L87 q X else p_X4_parse_L38 ((p_X4_parseRule q X 2 2).2) X ((p_X4_parseRule q X 2 2).1)
theorem g_X4_parse_L29 {l : Launch} {K : gK} {Γ : gT} {t a : Nat → Nat} (C : Cx l K Γ RX4 cX4_parse 2 (some .int) 11) (q : PS) (X : SM) (t0 : Int32) (hc1 : ¬ q.1 1 < 0) : G l K Γ (pa_W K t a X q) 29 2 [(0, .ref (t 3))] [.int t0] (fun (z : Int32 × PS) => (some (.int z.1), pa_W K t a X z.2)) (p_X4_parse_L29 q X t0) := by
  unfold p_X4_parse_L29
  refine G_if_eq C 87 dX4_parse_29 rfl (fun h2 => ?_) (fun h2 => ?_)
  · refine G_sub [0] rfl ?_
    exact g_X4_parse_L87 C q X hc1
  · refine G_aload_n C 0 dX4_parse_32 rfl ?_
    refine G_iconst C dX4_parse_33 (v := 2) rfl ?_
    refine G_iconst C dX4_parse_34 (v := 2) rfl ?_
    refine G_callVi C 0 4 kd_X4_parseRule ui_X4_parseRule us_X4_parseRule um_X4_31 rfl rfl (c_X4_parseRule l K t a q X 2 2 hc1) dX4_parse_35 rfl rfl (Nat.le_of_ble_eq_true rfl) (Nat.le_of_ble_eq_true rfl) ?_
    refine G_sub [0] rfl ?_
    exact g_X4_parse_L38 C ((p_X4_parseRule q X 2 2).2) X ((p_X4_parseRule q X 2 2).1) (inv_X4_parseRule q X 2 2 hc1)
theorem inv_X4_parse_L29 (q : PS) (X : SM) (t0 : Int32) (hc1 : ¬ q.1 1 < 0) : (fun z : Int32 × PS => ¬ z.2.1 1 < 0) (p_X4_parse_L29 q X t0) := by
  unfold p_X4_parse_L29
  refine inv_ite (P := (fun z : Int32 × PS => ¬ z.2.1 1 < 0)) (c := t0 = 0) (fun h2 => ?_) (fun h2 => ?_)
  · exact inv_X4_parse_L87 q X hc1
  · exact inv_X4_parse_L38 ((p_X4_parseRule q X 2 2).2) X ((p_X4_parseRule q X 2 2).1) (inv_X4_parseRule q X 2 2 hc1)
def p_X4_parse_L20 (q : PS) (X : SM) (t0 : Int32) : Int32 × PS := if t0 = 0 then p_X4_parse_L87 q X else p_X4_parse_L29 ((p_X4_parseRule q X 1 1).2) X ((p_X4_parseRule q X 1 1).1)
theorem g_X4_parse_L20 {l : Launch} {K : gK} {Γ : gT} {t a : Nat → Nat} (C : Cx l K Γ RX4 cX4_parse 2 (some .int) 11) (q : PS) (X : SM) (t0 : Int32) (hc1 : ¬ q.1 1 < 0) : G l K Γ (pa_W K t a X q) 20 2 [(0, .ref (t 3))] [.int t0] (fun (z : Int32 × PS) => (some (.int z.1), pa_W K t a X z.2)) (p_X4_parse_L20 q X t0) := by
  unfold p_X4_parse_L20
  refine G_if_eq C 87 dX4_parse_20 rfl (fun h1 => ?_) (fun h1 => ?_)
  · refine G_sub [0] rfl ?_
    exact g_X4_parse_L87 C q X hc1
  · refine G_aload_n C 0 dX4_parse_23 rfl ?_
    refine G_iconst C dX4_parse_24 (v := 1) rfl ?_
    refine G_iconst C dX4_parse_25 (v := 1) rfl ?_
    refine G_callVi C 0 4 kd_X4_parseRule ui_X4_parseRule us_X4_parseRule um_X4_31 rfl rfl (c_X4_parseRule l K t a q X 1 1 hc1) dX4_parse_26 rfl rfl (Nat.le_of_ble_eq_true rfl) (Nat.le_of_ble_eq_true rfl) ?_
    refine G_sub [0] rfl ?_
    exact g_X4_parse_L29 C ((p_X4_parseRule q X 1 1).2) X ((p_X4_parseRule q X 1 1).1) (inv_X4_parseRule q X 1 1 hc1)
theorem inv_X4_parse_L20 (q : PS) (X : SM) (t0 : Int32) (hc1 : ¬ q.1 1 < 0) : (fun z : Int32 × PS => ¬ z.2.1 1 < 0) (p_X4_parse_L20 q X t0) := by
  unfold p_X4_parse_L20
  refine inv_ite (P := (fun z : Int32 × PS => ¬ z.2.1 1 < 0)) (c := t0 = 0) (fun h1 => ?_) (fun h1 => ?_)
  · exact inv_X4_parse_L87 q X hc1
  · exact inv_X4_parse_L29 ((p_X4_parseRule q X 1 1).2) X ((p_X4_parseRule q X 1 1).1) (inv_X4_parseRule q X 1 1 hc1)
def p_X4_parse_L14 (q : PS) (X : SM) : Int32 × PS := p_X4_parse_L20 ((p_X4_parseRule q X 0 0).2) X ((p_X4_parseRule q X 0 0).1)
theorem g_X4_parse_L14 {l : Launch} {K : gK} {Γ : gT} {t a : Nat → Nat} (C : Cx l K Γ RX4 cX4_parse 2 (some .int) 11) (q : PS) (X : SM) (hc1 : ¬ q.1 1 < 0) : G l K Γ (pa_W K t a X q) 14 2 [(0, .ref (t 3))] [] (fun (z : Int32 × PS) => (some (.int z.1), pa_W K t a X z.2)) (p_X4_parse_L14 q X) := by
  unfold p_X4_parse_L14
  refine G_aload_n C 0 dX4_parse_14 rfl ?_
  refine G_iconst C dX4_parse_15 (v := 0) rfl ?_
  refine G_iconst C dX4_parse_16 (v := 0) rfl ?_
  refine G_callVi C 0 4 kd_X4_parseRule ui_X4_parseRule us_X4_parseRule um_X4_31 rfl rfl (c_X4_parseRule l K t a q X 0 0 hc1) dX4_parse_17 rfl rfl (Nat.le_of_ble_eq_true rfl) (Nat.le_of_ble_eq_true rfl) ?_
  refine G_sub [0] rfl ?_
  exact g_X4_parse_L20 C ((p_X4_parseRule q X 0 0).2) X ((p_X4_parseRule q X 0 0).1) (inv_X4_parseRule q X 0 0 hc1)
theorem inv_X4_parse_L14 (q : PS) (X : SM) (hc1 : ¬ q.1 1 < 0) : (fun z : Int32 × PS => ¬ z.2.1 1 < 0) (p_X4_parse_L14 q X) := by
  unfold p_X4_parse_L14
  exact inv_X4_parse_L20 ((p_X4_parseRule q X 0 0).2) X ((p_X4_parseRule q X 0 0).1) (inv_X4_parseRule q X 0 0 hc1)
def p_X4_parse_L7 (q : PS) (X : SM) : Int32 × PS := p_X4_parse_L14 ((s_X3_begin q.1 X , q.2.1, q.2.2)) X
theorem g_X4_parse_L7 {l : Launch} {K : gK} {Γ : gT} {t a : Nat → Nat} (C : Cx l K Γ RX4 cX4_parse 2 (some .int) 11) (q : PS) (X : SM) : G l K Γ (pa_W K t a X q) 7 2 [(0, .ref (t 3))] [] (fun (z : Int32 × PS) => (some (.int z.1), pa_W K t a X z.2)) (p_X4_parse_L7 q X) := by
  unfold p_X4_parse_L7
  refine G_aload_n C 0 dX4_parse_7 rfl ?_
  refine G_get C 0 0 dX4_parse_8 inlX4 uf_X4_12 rfl (by decide) rfl rfl rfl ?_
  refine G_callVv C 1 3 kd_X3_begin ui_X3_begin us_X3_begin um_X4_28 rfl rfl (Ct.to (r' := (none, pa_W K t a X ((s_X3_begin q.1 X , q.2.1, q.2.2)))) (Ct.left _ (Ct.right _ (c_X3_begin l K t q.1 X ))) rfl) dX4_parse_11 rfl rfl (Nat.le_of_ble_eq_true rfl) (Nat.le_of_ble_eq_true rfl) ?_
  refine G_sub [0] rfl ?_
  exact g_X4_parse_L14 C ((s_X3_begin q.1 X , q.2.1, q.2.2)) X (inv_X3_begin q.1 X )
theorem inv_X4_parse_L7 (q : PS) (X : SM) : (fun z : Int32 × PS => ¬ z.2.1 1 < 0) (p_X4_parse_L7 q X) := by
  unfold p_X4_parse_L7
  exact inv_X4_parse_L14 ((s_X3_begin q.1 X , q.2.1, q.2.2)) X (inv_X3_begin q.1 X )
def p_X4_parse (q : PS) (X : SM) : Int32 × PS := p_X4_parse_L7 ((q.1, q.2.1, s_X6_clear q.2.2)) X
theorem inv_X4_parse (q : PS) (X : SM) : (fun z : Int32 × PS => ¬ z.2.1 1 < 0) (p_X4_parse q X) := by
  unfold p_X4_parse
  exact inv_X4_parse_L7 ((q.1, q.2.1, s_X6_clear q.2.2)) X
theorem c_X4_parse (l : Launch) (K : gK) (t a : Nat → Nat) (q : PS) (X : SM) : Ct l K yX4_parse cX4_parse 2 (some .int) 11 [.ref (t 3)] (pa_W K t a X q) (some (.int (p_X4_parse q X).1), pa_W K t a X ((p_X4_parse q X).2)) := by
  refine Ct.of (own := RX4) (fun (z : Int32 × PS) => (some (.int z.1), pa_W K t a X z.2)) (x := p_X4_parse q X) (by decide) rfl (Nat.le_of_ble_eq_true rfl) (fun Γ C => ?_)
  unfold p_X4_parse
  refine G_aload_n C 0 dX4_parse_0 rfl ?_
  refine G_get C 0 1 dX4_parse_1 inlX4 uf_X4_21 rfl (by decide) rfl rfl rfl ?_
  refine G_callVv C 4 6 kd_X6_clear ui_X6_clear us_X6_clear um_X4_25 rfl rfl (Ct.to (r' := (none, pa_W K t a X ((q.1, q.2.1, s_X6_clear q.2.2)))) (Ct.right _ (c_X6_clear l K a q.2.2)) rfl) dX4_parse_4 rfl rfl (Nat.le_of_ble_eq_true rfl) (Nat.le_of_ble_eq_true rfl) ?_
  refine G_sub [0] rfl ?_
  exact g_X4_parse_L7 C ((q.1, q.2.1, s_X6_clear q.2.2)) X
