-- PART 08, go on (by gen/mkmodel.py)
/-! X10_setupByte -/
theorem kd_X10_setupByte : Card yX10_setupByte cX10_setupByte 2 (some .int) 1 := ⟨uc_X10_setupByte, un_X10, ⟨by decide, by decide, by decide⟩, by decide⟩
def o_X10_setupByte (X : SM) (x1 : Int32) : Option (Int32 × SM) := if x1 < 0 then some ((-1, X)) else (o_X10_laySetup X ).bind (fun r1 => (o_X10_writtenAt r1 x1).bind (fun r2 => some ((r2, r1))))
theorem c_X10_setupByte (l : Launch) (K : gK) (b : Nat → Nat) (X : SM) (x1 : Int32) (r : Int32 × SM) (hr : o_X10_setupByte X x1 = some r) : Ct l K yX10_setupByte cX10_setupByte 2 (some .int) 6 [.ref (b 0), .int x1] (mo_W K b X) (some (.int r.1), mo_W K b r.2) := by
  refine Ct.of (own := RX10) (fun (z : Int32 × SM) => (some (.int z.1), mo_W K b z.2)) (x := r) (by decide) rfl (Nat.le_of_ble_eq_true rfl) (fun Γ C => GO.out (x := o_X10_setupByte X x1) ?_ hr)
  unfold o_X10_setupByte
  refine GO.lift (fun _ => G_iload_n C 1 dX10_setupByte_0 rfl) ?_
  refine GO_if_ge C 6 dX10_setupByte_1 rfl (fun h1 => ?_) (fun h1 => ?_)
  · refine GO.lift (fun _ => G_iconst C dX10_setupByte_4 (v := -1) rfl) ?_
    exact GO.fin (G_iret C dX10_setupByte_5 rfl)
  · refine GO.lift (fun _ => G_aload_n C 0 dX10_setupByte_6 rfl) ?_
    refine GO.bind (fun r1 hr1 => ?_)
    refine GO.lift (fun _ => G_callVv C 0 10 kd_X10_laySetup ui_X10_laySetup us_X10_laySetup um_X10_298 rfl rfl (c_X10_laySetup l K b X  r1 hr1) dX10_setupByte_7 rfl rfl (Nat.le_of_ble_eq_true rfl) (Nat.le_of_ble_eq_true rfl)) ?_
    refine GO.lift (fun _ => G_aload_n C 0 dX10_setupByte_10 rfl) ?_
    refine GO.lift (fun _ => G_iload_n C 1 dX10_setupByte_11 rfl) ?_
    refine GO.bind (fun r2 hr2 => ?_)
    refine GO.lift (fun _ => G_callVi C 0 10 kd_X10_writtenAt ui_X10_writtenAt us_X10_writtenAt um_X10_286 rfl rfl (c_X10_writtenAt l K b r1 x1 r2 hr2) dX10_setupByte_12 rfl rfl (Nat.le_of_ble_eq_true rfl) (Nat.le_of_ble_eq_true rfl)) ?_
    exact GO.fin (G_iret C dX10_setupByte_15 rfl)
