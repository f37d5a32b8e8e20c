-- PART 09: the numbers that are no whole ones; what a slot holds; restore (by hand)
section FL
theorem fp_n32 {a : UInt32} (h : Jvm.FP.Core.fIsNaN a = false) : vf_n32 a := by
  unfold vf_n32
  have h1 : ¬ 2139095040 < a.toNat % 2 ^ 31 := fun q => by
    have := (Jvm.FP.Core.isNaN_bits32 a).mpr q
    rw [h] at this
    cases this
  rw [UInt32.le_iff_toNat_le, UInt32.toNat_and]
  show a.toNat &&& (2 ^ 31 - 1) ≤ 2139095040
  rw [Nat.and_two_pow_sub_one_eq_mod]
  omega
theorem fp_n64 {a : UInt64} (h : Jvm.FP.Core.dIsNaN a = false) : vf_n64 a := by
  unfold vf_n64
  have h1 : ¬ 9218868437227405312 < a.toNat % 2 ^ 63 := fun q => by
    have := (Jvm.FP.Core.isNaN_bits a).mpr q
    rw [h] at this
    cases this
  rw [UInt64.le_iff_toNat_le, UInt64.toNat_and]
  show a.toNat &&& (2 ^ 63 - 1) ≤ 9218868437227405312
  rw [Nat.and_two_pow_sub_one_eq_mod]
  omega
theorem fp_fdiv (v : Int32) {w : Int32} (hw : ¬ w = 0) : Jvm.FP.Core.fIsNaN (Jvm.FP.Core.fdiv (Jvm.FP.Core.i2f v) (Jvm.FP.Core.i2f w)) = false := by
  refine Jvm.FP.Core.fdiv_out (Jvm.FP.Core.i2f_fin v).notNaN (Jvm.FP.Core.i2f_fin w) (fun q => ?_)
  have h1 := (Jvm.FP.Core.zero_bits232 _).mp q
  have h2 := Jvm.FP.Core.i2f_big (Jvm.FP.Core.int32_ne hw)
  omega
theorem fp_ddiv (v : Int32) {w : Int32} (hw : ¬ w = 0) : Jvm.FP.Core.dIsNaN (Jvm.FP.Core.ddiv (Jvm.FP.Core.i2d v) (Jvm.FP.Core.i2d w)) = false := by
  refine Jvm.FP.Core.ddiv_out (Jvm.FP.Core.i2d_fin v).notNaN (Jvm.FP.Core.i2d_fin w) (fun q => ?_)
  have h1 := (Jvm.FP.Core.zero_bits2 _).mp q
  have h2 := Jvm.FP.Core.i2d_big (Jvm.FP.Core.int32_ne hw)
  omega
theorem fp_f2d {a : UInt32} (h : Jvm.FP.Core.fIsNaN a = false) : Jvm.FP.Core.dIsNaN (FP.f2d a) = false := by
  unfold FP.f2d
  rw [h]
  exact (Jvm.FP.Core.f2d_nan a).trans h
theorem fp_dcmp {a : UInt64} (h : Jvm.FP.Core.dIsNaN a = false) : FP.dcmp a a = some .eq := by
  refine Jvm.FP.Core.dcmp_self (fun q => ?_)
  rw [(Jvm.FP.Core.dIsNaN_iff a).mpr q] at h
  cases h
end FL
section GRF
variable {α : Type} {l : Launch} {K : gK} {Γ : gT} {own : String} {cc : ByteArray} {nL : Nat} {ret : Option FieldType} {h : Nat} {ws : va_W} {pc : Nat} {lv : List (Nat × Value)} {st : List Value} {κ : α → gR} {x : α}
theorem G_i2f (C : Cx l K Γ own cc nL ret h) {a : Int32} (hdg : decode cc pc = .ok (.i2f, 1)) (k : G l K Γ ws (pc + 1) nL lv (.float (FP.i2f a) :: st) κ x) : G l K Γ ws pc nL lv (.int a :: st) κ x := by
  obtain ⟨p, e, R, s, m, args, below, meth, c, A⟩ := Γ
  obtain ⟨hx, hb, hml, hown, hts, hr, hlk, hK, hA, hf1, hf2⟩ := C
  intro H locs ls hP hD hS hl
  exact lv_i2f hx hb hdg (k H locs ls hP hD hS hl)
theorem G_i2d (C : Cx l K Γ own cc nL ret h) {a : Int32} (hdg : decode cc pc = .ok (.i2d, 1)) (k : G l K Γ ws (pc + 1) nL lv (.double (FP.i2d a) :: st) κ x) : G l K Γ ws pc nL lv (.int a :: st) κ x := by
  obtain ⟨p, e, R, s, m, args, below, meth, c, A⟩ := Γ
  obtain ⟨hx, hb, hml, hown, hts, hr, hlk, hK, hA, hf1, hf2⟩ := C
  intro H locs ls hP hD hS hl
  exact lv_i2d hx hb hdg (k H locs ls hP hD hS hl)
theorem G_fdiv (C : Cx l K Γ own cc nL ret h) {a b : UInt32} (hdg : decode cc pc = .ok (.fdiv, 1)) (hne : vf_n32 (FP.fdiv a b)) (k : G l K Γ ws (pc + 1) nL lv (.float (FP.fdiv a b) :: st) κ x) : G l K Γ ws pc nL lv (.float b :: .float a :: st) κ x := by
  obtain ⟨p, e, R, s, m, args, below, meth, c, A⟩ := Γ
  obtain ⟨hx, hb, hml, hown, hts, hr, hlk, hK, hA, hf1, hf2⟩ := C
  intro H locs ls hP hD hS hl
  exact lv_fdiv hx hb hdg hne (k H locs ls hP hD hS hl)
theorem G_ddiv (C : Cx l K Γ own cc nL ret h) {a b : UInt64} (hdg : decode cc pc = .ok (.ddiv, 1)) (hne : vf_n64 (FP.ddiv a b)) (k : G l K Γ ws (pc + 1) nL lv (.double (FP.ddiv a b) :: st) κ x) : G l K Γ ws pc nL lv (.double b :: .double a :: st) κ x := by
  obtain ⟨p, e, R, s, m, args, below, meth, c, A⟩ := Γ
  obtain ⟨hx, hb, hml, hown, hts, hr, hlk, hK, hA, hf1, hf2⟩ := C
  intro H locs ls hP hD hS hl
  exact lv_ddiv hx hb hdg hne (k H locs ls hP hD hS hl)
theorem G_fconst0 (C : Cx l K Γ own cc nL ret h) (hdg : decode cc pc = .ok (.fconst 0, 1)) (k : G l K Γ ws (pc + 1) nL lv (.float FP.fconst0 :: st) κ x) : G l K Γ ws pc nL lv st κ x := by
  obtain ⟨p, e, R, s, m, args, below, meth, c, A⟩ := Γ
  obtain ⟨hx, hb, hml, hown, hts, hr, hlk, hK, hA, hf1, hf2⟩ := C
  intro H locs ls hP hD hS hl
  exact lv_fconst0 hx hb hdg (k H locs ls hP hD hS hl)
theorem G_dconst0 (C : Cx l K Γ own cc nL ret h) (hdg : decode cc pc = .ok (.dconst 0, 1)) (k : G l K Γ ws (pc + 1) nL lv (.double FP.dconst0 :: st) κ x) : G l K Γ ws pc nL lv st κ x := by
  obtain ⟨p, e, R, s, m, args, below, meth, c, A⟩ := Γ
  obtain ⟨hx, hb, hml, hown, hts, hr, hlk, hK, hA, hf1, hf2⟩ := C
  intro H locs ls hP hD hS hl
  exact lv_dconst0 hx hb hdg (k H locs ls hP hD hS hl)
theorem G_fret (C : Cx l K Γ own cc nL (some .float) h) {v : UInt32} (hdg : decode cc pc = .ok (.freturn, 1)) (hr' : κ x = (some (.float v), ws)) : G l K Γ ws pc nL lv [.float v] κ x := by
  obtain ⟨p, e, R, s, m, args, below, meth, c, A⟩ := Γ
  obtain ⟨hx, hb, hml, hown, hts, hr, hlk, hK, hA, hf1, hf2⟩ := C
  intro H locs ls hP hD hS hl
  exact W.fret hx hb hr (fun t ht hW => ⟨⟨by rw [hr'], by rw [hr', ht]; exact hP, by rw [hr']; exact hD⟩, hS.F ht⟩) hS.2.2 hdg
theorem G_dret (C : Cx l K Γ own cc nL (some .double) h) {v : UInt64} (hdg : decode cc pc = .ok (.dreturn, 1)) (hr' : κ x = (some (.double v), ws)) : G l K Γ ws pc nL lv [.double v] κ x := by
  obtain ⟨p, e, R, s, m, args, below, meth, c, A⟩ := Γ
  obtain ⟨hx, hb, hml, hown, hts, hr, hlk, hK, hA, hf1, hf2⟩ := C
  intro H locs ls hP hD hS hl
  exact W.dret hx hb hr (fun t ht hW => ⟨⟨by rw [hr'], by rw [hr', ht]; exact hP, by rw [hr']; exact hD⟩, hS.F ht⟩) hS.2.2 hdg
theorem G_astoreN_n (C : Cx l K Γ own cc nL ret h) {n : Fin 4} {lv' : List (Nat × Value)} (hdg : decode cc pc = .ok (.astore_n n, 1)) (hn : (n : Nat) < nL) (hl' : ((n : Nat), Value.null) :: lv.filter (fun q => !(q.1 == (n : Nat)) && !(q.1 + 1 == (n : Nat) && q.2.category == 2)) = lv') (k : G l K Γ ws (pc + 1) nL lv' st κ x) : G l K Γ ws pc nL lv (.null :: st) κ x := by
  obtain ⟨p, e, R, s, m, args, below, meth, c, A⟩ := Γ
  obtain ⟨hx, hb, hml, hown, hts, hr, hlk, hK, hA, hf1, hf2⟩ := C
  intro H locs ls hP hD hS hl
  exact lv_astore_nN hx hb hdg rfl hl hn hl' (fun ls' hl2 => k H locs ls' hP hD hS hl2)
theorem G_aloadN_n (C : Cx l K Γ own cc nL ret h) (q : Nat) {n : Fin 4} (hdg : decode cc pc = .ok (.aload_n n, 1)) (hk : lv[q]? = some ((n : Nat), .null)) (k : G l K Γ ws (pc + 1) nL lv (.null :: st) κ x) : G l K Γ ws pc nL lv st κ x := by
  obtain ⟨p, e, R, s, m, args, below, meth, c, A⟩ := Γ
  obtain ⟨hx, hb, hml, hown, hts, hr, hlk, hK, hA, hf1, hf2⟩ := C
  intro H locs ls hP hD hS hl
  exact lv_aload_nN hx hb hdg rfl (lv_at hl q hk) (k H locs ls hP hD hS hl)
end GRF
theorem kd_X9_spoken : Card yX9_spoken cX9_spoken 1 (some .float) 0 := ⟨uc_X9_spoken, un_X9, ⟨by decide, by decide, by decide⟩, by decide⟩
def f_spoken (a t : Int32) : UInt32 := if t = 0 then FP.fconst0 else FP.fdiv (FP.i2f a) (FP.i2f t)
theorem f_spoken_nn (a t : Int32) : Jvm.FP.Core.fIsNaN (f_spoken a t) = false := by
  unfold f_spoken
  by_cases h : t = 0
  · rw [if_pos h]
    decide +kernel
  · rw [if_neg h]
    exact fp_fdiv a h
theorem c_X9_spoken (l : Launch) (K : gK) (A : Nat → Nat → Nat) (Y : RS) : Ct l K yX9_spoken cX9_spoken 1 (some .float) 1 [.ref (A 4 0)] (ro_W K A Y) (some (.float (f_spoken (at_ 9 (Y 0 1) 8) (Y 0 18 0))), ro_W K A Y) := by
  refine Ct.of (own := RX9) (fun (z : UInt32) => (some (.float z), ro_W K A Y)) (x := f_spoken (at_ 9 (Y 0 1) 8) (Y 0 18 0)) (by decide) rfl (Nat.le_of_ble_eq_true rfl) (fun Γ C => ?_)
  unfold f_spoken
  refine G_aload_n C 0 dX9_spoken_0 rfl ?_
  refine G_get C 0 0 dX9_spoken_1 inlX9 uf_X9_10 rfl (by decide) rfl rfl rfl ?_
  refine G_get C 1 5 dX9_spoken_4 inlX6 uf_X9_180 rfl (by decide) rfl rfl rfl ?_
  refine G_if_ne C 12 dX9_spoken_7 rfl (fun h1 => ?_) (fun h1 => ?_)
  · refine G_fconst0 C dX9_spoken_10 ?_
    exact G_fret C dX9_spoken_11 rfl
  · refine G_aload_n C 0 dX9_spoken_12 rfl ?_
    refine G_get C 0 0 dX9_spoken_13 inlX9 uf_X9_10 rfl (by decide) rfl rfl rfl ?_
    refine G_get C 1 1 dX9_spoken_16 inlX6 uf_X9_121 rfl (by decide) rfl rfl rfl ?_
    refine G_bipush C dX9_spoken_19 (v := 8) rfl ?_
    refine G_callSi C kd_X9_at ut_X9_at um_X9_110 (c_at l K (ws := ro_W K A Y) (q0 := 3) (n := 9) (g := Y 0 1) (ad := (A 0 2)) (by decide) rfl 8) dX9_spoken_21 rfl rfl (Nat.le_of_ble_eq_true rfl) (Nat.le_of_ble_eq_true rfl) ?_
    refine G_i2f C dX9_spoken_24 ?_
    refine G_aload_n C 0 dX9_spoken_25 rfl ?_
    refine G_get C 0 0 dX9_spoken_26 inlX9 uf_X9_10 rfl (by decide) rfl rfl rfl ?_
    refine G_get C 1 5 dX9_spoken_29 inlX6 uf_X9_180 rfl (by decide) rfl rfl rfl ?_
    refine G_i2f C dX9_spoken_32 ?_
    refine G_fdiv C dX9_spoken_33 (fp_n32 (fp_fdiv _ h1)) ?_
    exact G_fret C dX9_spoken_34 rfl
theorem kd_X9_meanLength : Card yX9_meanLength cX9_meanLength 2 (some .double) 0 := ⟨uc_X9_meanLength, un_X9, ⟨by decide, by decide, by decide⟩, by decide⟩
def f_mean (a t : Int32) : UInt64 := if t = 0 then FP.dconst0 else FP.ddiv (FP.i2d a) (FP.i2d t)
theorem f_mean_nn (a t : Int32) : Jvm.FP.Core.dIsNaN (f_mean a t) = false := by
  unfold f_mean
  by_cases h : t = 0
  · rw [if_pos h]
    decide +kernel
  · rw [if_neg h]
    exact fp_ddiv a h
theorem c_X9_meanLength (l : Launch) (K : gK) (A : Nat → Nat → Nat) (Y : RS) : Ct l K yX9_meanLength cX9_meanLength 2 (some .double) 4 [.ref (A 4 0)] (ro_W K A Y) (some (.double (f_mean (v_X2_lengthInAll (Y 0)) (v_X2_lettersInAll (Y 0)))), ro_W K A Y) := by
  refine Ct.of (own := RX9) (fun (z : UInt64) => (some (.double z), ro_W K A Y)) (x := f_mean (v_X2_lengthInAll (Y 0)) (v_X2_lettersInAll (Y 0))) (by decide) rfl (Nat.le_of_ble_eq_true rfl) (fun Γ C => ?_)
  unfold f_mean
  refine G_aload_n C 0 dX9_meanLength_0 rfl ?_
  refine G_get C 0 0 dX9_meanLength_1 inlX9 uf_X9_10 rfl (by decide) rfl rfl rfl ?_
  refine G_get C 1 2 dX9_meanLength_4 inlX6 uf_X9_89 rfl (by decide) rfl rfl rfl ?_
  refine G_callVi C 4 2 kd_X2_lettersInAll ui_X2_lettersInAll us_X2_lettersInAll um_X9_224 rfl rfl (Ct.chunk1 (cs := ro_C K A Y) (cs' := ro_C K A Y) 1 rfl rfl (c_X2_lettersInAll l K (A 0) (Y 0))) dX9_meanLength_7 rfl rfl (Nat.le_of_ble_eq_true rfl) (Nat.le_of_ble_eq_true rfl) ?_
  refine G_istore_n (lv' := [(1, .int (v_X2_lettersInAll (Y 0))), (0, .ref (A 4 0))]) C dX9_meanLength_10 (by decide) rfl ?_
  refine G_iload_n C 0 dX9_meanLength_11 rfl ?_
  refine G_if_ne C 17 dX9_meanLength_12 rfl (fun h1 => ?_) (fun h1 => ?_)
  · refine G_dconst0 C dX9_meanLength_15 ?_
    exact G_dret C dX9_meanLength_16 rfl
  · refine G_aload_n C 1 dX9_meanLength_17 rfl ?_
    refine G_get C 0 0 dX9_meanLength_18 inlX9 uf_X9_10 rfl (by decide) rfl rfl rfl ?_
    refine G_get C 1 2 dX9_meanLength_21 inlX6 uf_X9_89 rfl (by decide) rfl rfl rfl ?_
    refine G_callVi C 4 2 kd_X2_lengthInAll ui_X2_lengthInAll us_X2_lengthInAll um_X9_227 rfl rfl (Ct.chunk1 (cs := ro_C K A Y) (cs' := ro_C K A Y) 1 rfl rfl (c_X2_lengthInAll l K (A 0) (Y 0))) dX9_meanLength_24 rfl rfl (Nat.le_of_ble_eq_true rfl) (Nat.le_of_ble_eq_true rfl) ?_
    refine G_i2d C dX9_meanLength_27 ?_
    refine G_iload_n C 0 dX9_meanLength_28 rfl ?_
    refine G_i2d C dX9_meanLength_29 ?_
    refine G_ddiv C dX9_meanLength_30 (fp_n64 (fp_ddiv _ h1)) ?_
    exact G_dret C dX9_meanLength_31 rfl
theorem kd_X5_keptIn : Card yX5_keptIn cX5_keptIn 2 (some (.object "RingOffices$State")) 1 := ⟨uc_X5_keptIn, un_X5, ⟨by decide, by decide, by decide⟩, by decide⟩
theorem c_keptN (l : Launch) (K : gK) (A : Nat → Nat → Nat) (Y : RS) (x1 : Int32) (h1 : ¬ x1 < 0) (h2 : x1 < 2) (hz : Y 4 2 x1.toNatClampNeg = 0) : Ct l K yX5_keptIn cX5_keptIn 2 (some (.object "RingOffices$State")) 0 [.ref (A 4 3), .int x1] (ro_W K A Y) (some .null, ro_W K A Y) := by
  refine Ct.of (own := RX5) (fun (_ : Unit) => (some .null, ro_W K A Y)) (x := ()) (by decide) rfl (Nat.le_of_ble_eq_true rfl) (fun Γ C => ?_)
  refine G_iload_n C 1 dX5_keptIn_0 rfl ?_
  refine G_if_lt_n C 18 h1 dX5_keptIn_1 rfl ?_
  refine G_iload_n C 1 dX5_keptIn_4 rfl ?_
  refine G_iconst C dX5_keptIn_5 (v := 2) rfl ?_
  refine G_icmp_ge_y C 18 h2 dX5_keptIn_6 rfl ?_
  refine G_aload_n C 0 dX5_keptIn_9 rfl ?_
  refine G_get C 53 1 dX5_keptIn_10 inlX5 uf_X5_17 rfl (by decide) rfl rfl rfl ?_
  refine G_iload_n C 1 dX5_keptIn_13 rfl ?_
  refine G_zald C 55 dX5_keptIn_14 rfl (g_in_of (by decide) h1 h2) ?_
  refine G_if_ne_y C 20 hz dX5_keptIn_15 rfl ?_
  refine G_aconst_null C dX5_keptIn_18 ?_
  exact G_aretN C dX5_keptIn_19 rfl
theorem c_keptR (l : Launch) (K : gK) (A : Nat → Nat → Nat) (Y : RS) (x1 : Int32) (h1 : ¬ x1 < 0) (h2 : x1 < 2) (hz : ¬ Y 4 2 x1.toNatClampNeg = 0) : Ct l K yX5_keptIn cX5_keptIn 2 (some (.object "RingOffices$State")) 0 [.ref (A 4 3), .int x1] (ro_W K A Y) (some (.ref (A (13 + Int32.toNatClampNeg x1) 0)), ro_W K A Y) := by
  refine Ct.of (own := RX5) (fun (_ : Unit) => (some (.ref (A (13 + Int32.toNatClampNeg x1) 0)), ro_W K A Y)) (x := ()) (by decide) rfl (Nat.le_of_ble_eq_true rfl) (fun Γ C => ?_)
  refine G_iload_n C 1 dX5_keptIn_0 rfl ?_
  refine G_if_lt_n C 18 h1 dX5_keptIn_1 rfl ?_
  refine G_iload_n C 1 dX5_keptIn_4 rfl ?_
  refine G_iconst C dX5_keptIn_5 (v := 2) rfl ?_
  refine G_icmp_ge_y C 18 h2 dX5_keptIn_6 rfl ?_
  refine G_aload_n C 0 dX5_keptIn_9 rfl ?_
  refine G_get C 53 1 dX5_keptIn_10 inlX5 uf_X5_17 rfl (by decide) rfl rfl rfl ?_
  refine G_iload_n C 1 dX5_keptIn_13 rfl ?_
  refine G_zald C 55 dX5_keptIn_14 rfl (g_in_of (by decide) h1 h2) ?_
  refine G_if_ne_n C 20 hz dX5_keptIn_15 rfl ?_
  refine G_aload_n C 0 dX5_keptIn_20 rfl ?_
  refine G_get C 53 0 dX5_keptIn_21 inlX5 uf_X5_11 rfl (by decide) rfl rfl rfl ?_
  refine G_iload_n C 1 dX5_keptIn_24 rfl ?_
  refine G_aald C 54 3 dX5_keptIn_25 rfl rfl (g_in_of (by decide) h1 h2) (v := .ref (A (13 + Int32.toNatClampNeg x1) 0)) rfl ?_
  exact G_aret C dX5_keptIn_26 rfl
theorem kd_X9_restore : Card yX9_restore cX9_restore 3 (some .int) 1 := ⟨uc_X9_restore, un_X9, ⟨by decide, by decide, by decide⟩, by decide⟩
def p_restore2 (Y : RS) (n : Nat) : Int32 × RS := lt1 (s_X0_remember Y) (fun Y1 => lt1 (yU Y1 0 (Y1 (13 + n))) (fun Y2 => (Y2 0 18 0, Y2)))
def p_X9_restore (Y : RS) (x1 : Int32) : Int32 × RS := if (v_X9_isWithin x1 0 1) = 0 then (-1, Y) else if Y 4 2 x1.toNatClampNeg = 0 then (-2, Y) else p_restore2 Y x1.toNatClampNeg
theorem within01 {x : Int32} (h : ¬ v_X9_isWithin x 0 1 = 0) : ¬ x < 0 ∧ x < 2 := by
  unfold v_X9_isWithin at h
  by_cases h1 : x < 0
  · rw [if_pos h1] at h
    exact absurd rfl h
  · rw [if_neg h1] at h
    by_cases h2 : 1 < x
    · rw [if_pos h2] at h
      exact absurd rfl h
    · refine ⟨h1, Int32.lt_iff_toInt_lt.mpr ?_⟩
      have h3 : ¬ (1 : Int32).toInt < x.toInt := fun q => h2 (Int32.lt_iff_toInt_lt.mpr q)
      have e1 : (1 : Int32).toInt = 1 := rfl
      have e2 : (2 : Int32).toInt = 2 := rfl
      omega
theorem c_X9_restore (l : Launch) (K : gK) (A : Nat → Nat → Nat) (Y : RS) (x1 : Int32) : Ct l K yX9_restore cX9_restore 3 (some .int) 6 [.ref (A 4 0), .int x1] (ro_W K A Y) (some (.int (p_X9_restore Y x1).1), ro_W K A (p_X9_restore Y x1).2) := by
  refine Ct.of (own := RX9) (fun (z : Int32 × RS) => (some (.int z.1), ro_W K A z.2)) (x := p_X9_restore Y x1) (by decide) rfl (Nat.le_of_ble_eq_true rfl) (fun Γ C => ?_)
  unfold p_X9_restore
  refine G_iload_n C 1 dX9_restore_0 rfl ?_
  refine G_iconst C dX9_restore_1 (v := 0) rfl ?_
  refine G_iconst C dX9_restore_2 (v := 1) rfl ?_
  refine G_callSi C kd_X9_isWithin ut_X9_isWithin um_X9_102 (c_X9_isWithin l K (ro_W K A Y) x1 0 1) dX9_restore_3 rfl rfl (Nat.le_of_ble_eq_true rfl) (Nat.le_of_ble_eq_true rfl) ?_
  refine G_if_ne C 11 dX9_restore_6 rfl (fun h1 => ?_) (fun h1 => ?_)
  · refine G_iconst C dX9_restore_9 (v := -1) rfl ?_
    exact G_iret C dX9_restore_10 rfl
  · refine G_aload_n C 0 dX9_restore_11 rfl ?_
    refine G_get C 0 2 dX9_restore_12 inlX9 uf_X9_26 rfl (by decide) rfl rfl rfl ?_
    refine G_iload_n C 1 dX9_restore_15 rfl ?_
    refine G_ite (fun h2 => ?_) (fun h2 => ?_)
    · refine G_callV C 53 5 kd_X5_keptIn ui_X5_keptIn us_X5_keptIn um_X9_210 rfl rfl (c_keptN l K A Y x1 (within01 h1).1 (within01 h1).2 h2) dX9_restore_16 rfl rfl (Nat.le_of_ble_eq_true rfl) (Nat.le_of_ble_eq_true rfl) ?_
      refine G_astoreN_n (lv' := [(2, .null), (0, .ref (A 4 0)), (1, .int x1)]) C dX9_restore_19 (by decide) rfl ?_
      refine G_aloadN_n C 0 dX9_restore_20 rfl ?_
      refine G_ifnonnullN C dX9_restore_21 ?_
      refine G_bipush C dX9_restore_24 (v := -2) rfl ?_
      exact G_iret C dX9_restore_26 rfl
    · unfold p_restore2
      have hw := within01 h1
      refine G_callV C 53 5 kd_X5_keptIn ui_X5_keptIn us_X5_keptIn um_X9_210 rfl rfl (c_keptR l K A Y x1 hw.1 hw.2 h2) dX9_restore_16 rfl rfl (Nat.le_of_ble_eq_true rfl) (Nat.le_of_ble_eq_true rfl) ?_
      refine G_astore_n (lv' := [(2, .ref (A (13 + Int32.toNatClampNeg x1) 0)), (0, .ref (A 4 0)), (1, .int x1)]) C dX9_restore_19 (by decide) rfl ?_
      refine G_aload_n C 0 dX9_restore_20 rfl ?_
      refine G_ifnonnull C 27 dX9_restore_21 rfl ?_
      refine G_aload_n C 1 dX9_restore_27 rfl ?_
      refine G_get C 0 1 dX9_restore_28 inlX9 uf_X9_19 rfl (by decide) rfl rfl rfl ?_
      refine G_aload_n C 1 dX9_restore_31 rfl ?_
      refine G_get C 0 0 dX9_restore_32 inlX9 uf_X9_10 rfl (by decide) rfl rfl rfl ?_
      refine G_callVv C 51 0 kd_X0_remember ui_X0_remember us_X0_remember um_X9_114 rfl rfl (c_X0_remember l K A Y) dX9_restore_35 rfl rfl (Nat.le_of_ble_eq_true rfl) (Nat.le_of_ble_eq_true rfl) ?_
      refine G_let (W := ro_W K A) (fun Y1 => ?_)
      refine G_aload_n C 1 dX9_restore_38 rfl ?_
      refine G_get C 0 0 dX9_restore_39 inlX9 uf_X9_10 rfl (by decide) rfl rfl rfl ?_
      refine G_aload_n C 0 dX9_restore_42 rfl ?_
      refine G_callVv C 1 6 kd_X6_copyFrom ui_X6_copyFrom us_X6_copyFrom um_X9_81 rfl rfl (c_backS l K A Y1 (g_lt_of (n := 2) (by decide) hw.1 hw.2)) dX9_restore_43 rfl rfl (Nat.le_of_ble_eq_true rfl) (Nat.le_of_ble_eq_true rfl) ?_
      refine G_let (W := ro_W K A) (fun Y2 => ?_)
      refine G_aload_n C 1 dX9_restore_46 rfl ?_
      refine G_get C 0 0 dX9_restore_47 inlX9 uf_X9_10 rfl (by decide) rfl rfl rfl ?_
      refine G_get C 1 5 dX9_restore_50 inlX6 uf_X9_180 rfl (by decide) rfl rfl rfl ?_
      exact G_iret C dX9_restore_53 rfl
