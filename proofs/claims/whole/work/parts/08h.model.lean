-- PART 08, go on (by gen/mkmodel.py)
/-! X10_value -/
theorem kd_X10_value : Card yX10_value cX10_value 2 (some .int) 1 := ⟨uc_X10_value, un_X10, ⟨by decide, by decide, by decide⟩, by decide⟩
def o_X10_value (X : SM) (x1 : Int32) : Option (Int32) := if x1 = 0 then if gin x1 336 = true then (some ((X 0) x1.toNatClampNeg)) else none else if x1 = 1 then if gin x1 336 = true then (some ((X 0) x1.toNatClampNeg)) else none else if x1 = 2 then if gin x1 336 = true then (some ((X 0) x1.toNatClampNeg)) else none else if x1 = 3 then if gin x1 336 = true then (some ((X 0) x1.toNatClampNeg)) else none else if x1 = 4 then if gin x1 336 = true then (some ((X 0) x1.toNatClampNeg)) else none else if x1 = 5 then (o_X10_openAll X ).bind (fun r1 => some r1) else if x1 = 6 then some ((X 0) (5 : Int32).toNatClampNeg) else if x1 = 7 then some ((X 0) (6 : Int32).toNatClampNeg) else if x1 = 8 then (o_X10_lettersAll (X 0) ).bind (fun r2 => some r2) else if x1 = 9 then (o_X10_lengthAll X ).bind (fun r3 => some r3) else if x1 = 10 then if gin ((8 + x1) - 10) 336 = true then (some ((X 0) ((8 + x1) - 10).toNatClampNeg)) else none else if x1 = 11 then if gin ((8 + x1) - 10) 336 = true then (some ((X 0) ((8 + x1) - 10).toNatClampNeg)) else none else if x1 = 12 then if gin ((8 + x1) - 10) 336 = true then (some ((X 0) ((8 + x1) - 10).toNatClampNeg)) else none else if x1 = 13 then if gin ((8 + x1) - 10) 336 = true then (some ((X 0) ((8 + x1) - 10).toNatClampNeg)) else none else if x1 = 14 then if gin ((8 + x1) - 10) 336 = true then (some ((X 0) ((8 + x1) - 10).toNatClampNeg)) else none else if x1 = 15 then if gin ((8 + x1) - 10) 336 = true then (some ((X 0) ((8 + x1) - 10).toNatClampNeg)) else none else if x1 = 16 then if gin ((8 + x1) - 10) 336 = true then (some ((X 0) ((8 + x1) - 10).toNatClampNeg)) else none else if x1 = 17 then if gin ((8 + x1) - 10) 336 = true then (some ((X 0) ((8 + x1) - 10).toNatClampNeg)) else none else if x1 = 18 then if gin ((8 + x1) - 10) 336 = true then (some ((X 0) ((8 + x1) - 10).toNatClampNeg)) else none else if x1 = 19 then some ((X 0) (215 : Int32).toNatClampNeg) else if x1 = 20 then some (X 8 0) else some (-1)
theorem c_X10_value (l : Launch) (K : gK) (b : Nat → Nat) (X : SM) (x1 : Int32) (r : Int32) (hr : o_X10_value X x1 = some r) : Ct l K yX10_value cX10_value 2 (some .int) 4 [.ref (b 0), .int x1] (mo_W K b X) (some (.int r), mo_W K b X) := by
  refine Ct.of (own := RX10) (fun z => (some (.int z), mo_W K b X)) (x := r) (by decide) rfl (Nat.le_of_ble_eq_true rfl) (fun Γ C => GO.out (x := o_X10_value X x1) ?_ hr)
  unfold o_X10_value
  refine GO.lift (fun _ => G_iload_n C 1 dX10_value_0 rfl) ?_
  refine GO.ite (fun h1 => ?_) (fun h1 => ?_)
  · refine GO.lift (fun _ => G_tswIn (v := 0) C 100 0 dX10_value_1 h1 rfl (by decide) rfl rfl) ?_
    refine GO.lift (fun _ => G_aload_n C 0 dX10_value_100 rfl) ?_
    refine GO.lift (fun _ => G_get C 0 0 dX10_value_101 inlX10 uf_X10_7 rfl (by decide) rfl rfl rfl) ?_
    refine GO.lift (fun _ => G_iload_n C 1 dX10_value_104 rfl) ?_
    refine GO.guard (fun h2 => ?_)
    refine GO.lift (fun _ => G_iald C 1 dX10_value_105 rfl (gin_in h2)) ?_
    exact GO.fin (G_iret C dX10_value_106 rfl)
  · skip
    refine GO.ite (fun h3 => ?_) (fun h3 => ?_)
    · refine GO.lift (fun _ => G_tswIn (v := 1) C 100 1 dX10_value_1 h3 rfl (by decide) rfl rfl) ?_
      refine GO.lift (fun _ => G_aload_n C 0 dX10_value_100 rfl) ?_
      refine GO.lift (fun _ => G_get C 0 0 dX10_value_101 inlX10 uf_X10_7 rfl (by decide) rfl rfl rfl) ?_
      refine GO.lift (fun _ => G_iload_n C 1 dX10_value_104 rfl) ?_
      refine GO.guard (fun h4 => ?_)
      refine GO.lift (fun _ => G_iald C 1 dX10_value_105 rfl (gin_in h4)) ?_
      exact GO.fin (G_iret C dX10_value_106 rfl)
    · skip
      refine GO.ite (fun h5 => ?_) (fun h5 => ?_)
      · refine GO.lift (fun _ => G_tswIn (v := 2) C 100 2 dX10_value_1 h5 rfl (by decide) rfl rfl) ?_
        refine GO.lift (fun _ => G_aload_n C 0 dX10_value_100 rfl) ?_
        refine GO.lift (fun _ => G_get C 0 0 dX10_value_101 inlX10 uf_X10_7 rfl (by decide) rfl rfl rfl) ?_
        refine GO.lift (fun _ => G_iload_n C 1 dX10_value_104 rfl) ?_
        refine GO.guard (fun h6 => ?_)
        refine GO.lift (fun _ => G_iald C 1 dX10_value_105 rfl (gin_in h6)) ?_
        exact GO.fin (G_iret C dX10_value_106 rfl)
      · skip
        refine GO.ite (fun h7 => ?_) (fun h7 => ?_)
        · refine GO.lift (fun _ => G_tswIn (v := 3) C 100 3 dX10_value_1 h7 rfl (by decide) rfl rfl) ?_
          refine GO.lift (fun _ => G_aload_n C 0 dX10_value_100 rfl) ?_
          refine GO.lift (fun _ => G_get C 0 0 dX10_value_101 inlX10 uf_X10_7 rfl (by decide) rfl rfl rfl) ?_
          refine GO.lift (fun _ => G_iload_n C 1 dX10_value_104 rfl) ?_
          refine GO.guard (fun h8 => ?_)
          refine GO.lift (fun _ => G_iald C 1 dX10_value_105 rfl (gin_in h8)) ?_
          exact GO.fin (G_iret C dX10_value_106 rfl)
        · skip
          refine GO.ite (fun h9 => ?_) (fun h9 => ?_)
          · refine GO.lift (fun _ => G_tswIn (v := 4) C 100 4 dX10_value_1 h9 rfl (by decide) rfl rfl) ?_
            refine GO.lift (fun _ => G_aload_n C 0 dX10_value_100 rfl) ?_
            refine GO.lift (fun _ => G_get C 0 0 dX10_value_101 inlX10 uf_X10_7 rfl (by decide) rfl rfl rfl) ?_
            refine GO.lift (fun _ => G_iload_n C 1 dX10_value_104 rfl) ?_
            refine GO.guard (fun h10 => ?_)
            refine GO.lift (fun _ => G_iald C 1 dX10_value_105 rfl (gin_in h10)) ?_
            exact GO.fin (G_iret C dX10_value_106 rfl)
          · skip
            refine GO.ite (fun h11 => ?_) (fun h11 => ?_)
            · refine GO.lift (fun _ => G_tswIn (v := 5) C 107 5 dX10_value_1 h11 rfl (by decide) rfl rfl) ?_
              refine GO.lift (fun _ => G_aload_n C 0 dX10_value_107 rfl) ?_
              refine GO.bind (fun r1 hr1 => ?_)
              refine GO.lift (fun _ => G_callVi C 0 10 kd_X10_openAll ui_X10_openAll us_X10_openAll um_X10_238 rfl rfl (c_X10_openAll l K b X  r1 hr1) dX10_value_108 rfl rfl (Nat.le_of_ble_eq_true rfl) (Nat.le_of_ble_eq_true rfl)) ?_
              exact GO.fin (G_iret C dX10_value_111 rfl)
            · skip
              refine GO.ite (fun h12 => ?_) (fun h12 => ?_)
              · refine GO.lift (fun _ => G_tswIn (v := 6) C 112 6 dX10_value_1 h12 rfl (by decide) rfl rfl) ?_
                refine GO.lift (fun _ => G_aload_n C 0 dX10_value_112 rfl) ?_
                refine GO.lift (fun _ => G_get C 0 0 dX10_value_113 inlX10 uf_X10_7 rfl (by decide) rfl rfl rfl) ?_
                refine GO.lift (fun _ => G_iconst C dX10_value_116 (v := 5) rfl) ?_
                refine GO.lift (fun _ => G_iald C 1 dX10_value_117 rfl (by unfold vp_in; decide)) ?_
                exact GO.fin (G_iret C dX10_value_118 rfl)
              · skip
                refine GO.ite (fun h13 => ?_) (fun h13 => ?_)
                · refine GO.lift (fun _ => G_tswIn (v := 7) C 119 7 dX10_value_1 h13 rfl (by decide) rfl rfl) ?_
                  refine GO.lift (fun _ => G_aload_n C 0 dX10_value_119 rfl) ?_
                  refine GO.lift (fun _ => G_get C 0 0 dX10_value_120 inlX10 uf_X10_7 rfl (by decide) rfl rfl rfl) ?_
                  refine GO.lift (fun _ => G_bipush C dX10_value_123 (v := 6) rfl) ?_
                  refine GO.lift (fun _ => G_iald C 1 dX10_value_125 rfl (by unfold vp_in; decide)) ?_
                  exact GO.fin (G_iret C dX10_value_126 rfl)
                · skip
                  refine GO.ite (fun h14 => ?_) (fun h14 => ?_)
                  · refine GO.lift (fun _ => G_tswIn (v := 8) C 127 8 dX10_value_1 h14 rfl (by decide) rfl rfl) ?_
                    refine GO.lift (fun _ => G_aload_n C 0 dX10_value_127 rfl) ?_
                    refine GO.lift (fun _ => G_get C 0 0 dX10_value_128 inlX10 uf_X10_7 rfl (by decide) rfl rfl rfl) ?_
                    refine GO.bind (fun r2 hr2 => ?_)
                    refine GO.lift (fun _ => G_callSi C kd_X10_lettersAll ut_X10_lettersAll um_X10_242 (Ct.to (r' := (some (.int r2), mo_W K b X)) (Ct.from (c_X10_lettersAll l K (ws := mo_W K b X) (q := 1) (ad := b 1) (Nat.le_of_ble_eq_true rfl) (X 0)  r2 hr2) rfl) rfl) dX10_value_131 rfl rfl (Nat.le_of_ble_eq_true rfl) (Nat.le_of_ble_eq_true rfl)) ?_
                    exact GO.fin (G_iret C dX10_value_134 rfl)
                  · skip
                    refine GO.ite (fun h15 => ?_) (fun h15 => ?_)
                    · refine GO.lift (fun _ => G_tswIn (v := 9) C 135 9 dX10_value_1 h15 rfl (by decide) rfl rfl) ?_
                      refine GO.lift (fun _ => G_aload_n C 0 dX10_value_135 rfl) ?_
                      refine GO.bind (fun r3 hr3 => ?_)
                      refine GO.lift (fun _ => G_callVi C 0 10 kd_X10_lengthAll ui_X10_lengthAll us_X10_lengthAll um_X10_245 rfl rfl (c_X10_lengthAll l K b X  r3 hr3) dX10_value_136 rfl rfl (Nat.le_of_ble_eq_true rfl) (Nat.le_of_ble_eq_true rfl)) ?_
                      exact GO.fin (G_iret C dX10_value_139 rfl)
                    · skip
                      refine GO.ite (fun h16 => ?_) (fun h16 => ?_)
                      · refine GO.lift (fun _ => G_tswIn (v := 10) C 140 10 dX10_value_1 h16 rfl (by decide) rfl rfl) ?_
                        refine GO.lift (fun _ => G_aload_n C 0 dX10_value_140 rfl) ?_
                        refine GO.lift (fun _ => G_get C 0 0 dX10_value_141 inlX10 uf_X10_7 rfl (by decide) rfl rfl rfl) ?_
                        refine GO.lift (fun _ => G_bipush C dX10_value_144 (v := 8) rfl) ?_
                        refine GO.lift (fun _ => G_iload_n C 1 dX10_value_146 rfl) ?_
                        refine GO.lift (fun _ => G_iadd C dX10_value_147) ?_
                        refine GO.lift (fun _ => G_bipush C dX10_value_148 (v := 10) rfl) ?_
                        refine GO.lift (fun _ => G_isub C dX10_value_150) ?_
                        refine GO.guard (fun h17 => ?_)
                        refine GO.lift (fun _ => G_iald C 1 dX10_value_151 rfl (gin_in h17)) ?_
                        exact GO.fin (G_iret C dX10_value_152 rfl)
                      · skip
                        refine GO.ite (fun h18 => ?_) (fun h18 => ?_)
                        · refine GO.lift (fun _ => G_tswIn (v := 11) C 140 11 dX10_value_1 h18 rfl (by decide) rfl rfl) ?_
                          refine GO.lift (fun _ => G_aload_n C 0 dX10_value_140 rfl) ?_
                          refine GO.lift (fun _ => G_get C 0 0 dX10_value_141 inlX10 uf_X10_7 rfl (by decide) rfl rfl rfl) ?_
                          refine GO.lift (fun _ => G_bipush C dX10_value_144 (v := 8) rfl) ?_
                          refine GO.lift (fun _ => G_iload_n C 1 dX10_value_146 rfl) ?_
                          refine GO.lift (fun _ => G_iadd C dX10_value_147) ?_
                          refine GO.lift (fun _ => G_bipush C dX10_value_148 (v := 10) rfl) ?_
                          refine GO.lift (fun _ => G_isub C dX10_value_150) ?_
                          refine GO.guard (fun h19 => ?_)
                          refine GO.lift (fun _ => G_iald C 1 dX10_value_151 rfl (gin_in h19)) ?_
                          exact GO.fin (G_iret C dX10_value_152 rfl)
                        · skip
                          refine GO.ite (fun h20 => ?_) (fun h20 => ?_)
                          · refine GO.lift (fun _ => G_tswIn (v := 12) C 140 12 dX10_value_1 h20 rfl (by decide) rfl rfl) ?_
                            refine GO.lift (fun _ => G_aload_n C 0 dX10_value_140 rfl) ?_
                            refine GO.lift (fun _ => G_get C 0 0 dX10_value_141 inlX10 uf_X10_7 rfl (by decide) rfl rfl rfl) ?_
                            refine GO.lift (fun _ => G_bipush C dX10_value_144 (v := 8) rfl) ?_
                            refine GO.lift (fun _ => G_iload_n C 1 dX10_value_146 rfl) ?_
                            refine GO.lift (fun _ => G_iadd C dX10_value_147) ?_
                            refine GO.lift (fun _ => G_bipush C dX10_value_148 (v := 10) rfl) ?_
                            refine GO.lift (fun _ => G_isub C dX10_value_150) ?_
                            refine GO.guard (fun h21 => ?_)
                            refine GO.lift (fun _ => G_iald C 1 dX10_value_151 rfl (gin_in h21)) ?_
                            exact GO.fin (G_iret C dX10_value_152 rfl)
                          · skip
                            refine GO.ite (fun h22 => ?_) (fun h22 => ?_)
                            · refine GO.lift (fun _ => G_tswIn (v := 13) C 140 13 dX10_value_1 h22 rfl (by decide) rfl rfl) ?_
                              refine GO.lift (fun _ => G_aload_n C 0 dX10_value_140 rfl) ?_
                              refine GO.lift (fun _ => G_get C 0 0 dX10_value_141 inlX10 uf_X10_7 rfl (by decide) rfl rfl rfl) ?_
                              refine GO.lift (fun _ => G_bipush C dX10_value_144 (v := 8) rfl) ?_
                              refine GO.lift (fun _ => G_iload_n C 1 dX10_value_146 rfl) ?_
                              refine GO.lift (fun _ => G_iadd C dX10_value_147) ?_
                              refine GO.lift (fun _ => G_bipush C dX10_value_148 (v := 10) rfl) ?_
                              refine GO.lift (fun _ => G_isub C dX10_value_150) ?_
                              refine GO.guard (fun h23 => ?_)
                              refine GO.lift (fun _ => G_iald C 1 dX10_value_151 rfl (gin_in h23)) ?_
                              exact GO.fin (G_iret C dX10_value_152 rfl)
                            · skip
                              refine GO.ite (fun h24 => ?_) (fun h24 => ?_)
                              · refine GO.lift (fun _ => G_tswIn (v := 14) C 140 14 dX10_value_1 h24 rfl (by decide) rfl rfl) ?_
                                refine GO.lift (fun _ => G_aload_n C 0 dX10_value_140 rfl) ?_
                                refine GO.lift (fun _ => G_get C 0 0 dX10_value_141 inlX10 uf_X10_7 rfl (by decide) rfl rfl rfl) ?_
                                refine GO.lift (fun _ => G_bipush C dX10_value_144 (v := 8) rfl) ?_
                                refine GO.lift (fun _ => G_iload_n C 1 dX10_value_146 rfl) ?_
                                refine GO.lift (fun _ => G_iadd C dX10_value_147) ?_
                                refine GO.lift (fun _ => G_bipush C dX10_value_148 (v := 10) rfl) ?_
                                refine GO.lift (fun _ => G_isub C dX10_value_150) ?_
                                refine GO.guard (fun h25 => ?_)
                                refine GO.lift (fun _ => G_iald C 1 dX10_value_151 rfl (gin_in h25)) ?_
                                exact GO.fin (G_iret C dX10_value_152 rfl)
                              · skip
                                refine GO.ite (fun h26 => ?_) (fun h26 => ?_)
                                · refine GO.lift (fun _ => G_tswIn (v := 15) C 140 15 dX10_value_1 h26 rfl (by decide) rfl rfl) ?_
                                  refine GO.lift (fun _ => G_aload_n C 0 dX10_value_140 rfl) ?_
                                  refine GO.lift (fun _ => G_get C 0 0 dX10_value_141 inlX10 uf_X10_7 rfl (by decide) rfl rfl rfl) ?_
                                  refine GO.lift (fun _ => G_bipush C dX10_value_144 (v := 8) rfl) ?_
                                  refine GO.lift (fun _ => G_iload_n C 1 dX10_value_146 rfl) ?_
                                  refine GO.lift (fun _ => G_iadd C dX10_value_147) ?_
                                  refine GO.lift (fun _ => G_bipush C dX10_value_148 (v := 10) rfl) ?_
                                  refine GO.lift (fun _ => G_isub C dX10_value_150) ?_
                                  refine GO.guard (fun h27 => ?_)
                                  refine GO.lift (fun _ => G_iald C 1 dX10_value_151 rfl (gin_in h27)) ?_
                                  exact GO.fin (G_iret C dX10_value_152 rfl)
                                · skip
                                  refine GO.ite (fun h28 => ?_) (fun h28 => ?_)
                                  · refine GO.lift (fun _ => G_tswIn (v := 16) C 140 16 dX10_value_1 h28 rfl (by decide) rfl rfl) ?_
                                    refine GO.lift (fun _ => G_aload_n C 0 dX10_value_140 rfl) ?_
                                    refine GO.lift (fun _ => G_get C 0 0 dX10_value_141 inlX10 uf_X10_7 rfl (by decide) rfl rfl rfl) ?_
                                    refine GO.lift (fun _ => G_bipush C dX10_value_144 (v := 8) rfl) ?_
                                    refine GO.lift (fun _ => G_iload_n C 1 dX10_value_146 rfl) ?_
                                    refine GO.lift (fun _ => G_iadd C dX10_value_147) ?_
                                    refine GO.lift (fun _ => G_bipush C dX10_value_148 (v := 10) rfl) ?_
                                    refine GO.lift (fun _ => G_isub C dX10_value_150) ?_
                                    refine GO.guard (fun h29 => ?_)
                                    refine GO.lift (fun _ => G_iald C 1 dX10_value_151 rfl (gin_in h29)) ?_
                                    exact GO.fin (G_iret C dX10_value_152 rfl)
                                  · skip
                                    refine GO.ite (fun h30 => ?_) (fun h30 => ?_)
                                    · refine GO.lift (fun _ => G_tswIn (v := 17) C 140 17 dX10_value_1 h30 rfl (by decide) rfl rfl) ?_
                                      refine GO.lift (fun _ => G_aload_n C 0 dX10_value_140 rfl) ?_
                                      refine GO.lift (fun _ => G_get C 0 0 dX10_value_141 inlX10 uf_X10_7 rfl (by decide) rfl rfl rfl) ?_
                                      refine GO.lift (fun _ => G_bipush C dX10_value_144 (v := 8) rfl) ?_
                                      refine GO.lift (fun _ => G_iload_n C 1 dX10_value_146 rfl) ?_
                                      refine GO.lift (fun _ => G_iadd C dX10_value_147) ?_
                                      refine GO.lift (fun _ => G_bipush C dX10_value_148 (v := 10) rfl) ?_
                                      refine GO.lift (fun _ => G_isub C dX10_value_150) ?_
                                      refine GO.guard (fun h31 => ?_)
                                      refine GO.lift (fun _ => G_iald C 1 dX10_value_151 rfl (gin_in h31)) ?_
                                      exact GO.fin (G_iret C dX10_value_152 rfl)
                                    · skip
                                      refine GO.ite (fun h32 => ?_) (fun h32 => ?_)
                                      · refine GO.lift (fun _ => G_tswIn (v := 18) C 140 18 dX10_value_1 h32 rfl (by decide) rfl rfl) ?_
                                        refine GO.lift (fun _ => G_aload_n C 0 dX10_value_140 rfl) ?_
                                        refine GO.lift (fun _ => G_get C 0 0 dX10_value_141 inlX10 uf_X10_7 rfl (by decide) rfl rfl rfl) ?_
                                        refine GO.lift (fun _ => G_bipush C dX10_value_144 (v := 8) rfl) ?_
                                        refine GO.lift (fun _ => G_iload_n C 1 dX10_value_146 rfl) ?_
                                        refine GO.lift (fun _ => G_iadd C dX10_value_147) ?_
                                        refine GO.lift (fun _ => G_bipush C dX10_value_148 (v := 10) rfl) ?_
                                        refine GO.lift (fun _ => G_isub C dX10_value_150) ?_
                                        refine GO.guard (fun h33 => ?_)
                                        refine GO.lift (fun _ => G_iald C 1 dX10_value_151 rfl (gin_in h33)) ?_
                                        exact GO.fin (G_iret C dX10_value_152 rfl)
                                      · skip
                                        refine GO.ite (fun h34 => ?_) (fun h34 => ?_)
                                        · refine GO.lift (fun _ => G_tswIn (v := 19) C 153 19 dX10_value_1 h34 rfl (by decide) rfl rfl) ?_
                                          refine GO.lift (fun _ => G_aload_n C 0 dX10_value_153 rfl) ?_
                                          refine GO.lift (fun _ => G_get C 0 0 dX10_value_154 inlX10 uf_X10_7 rfl (by decide) rfl rfl rfl) ?_
                                          refine GO.lift (fun _ => G_sipush C dX10_value_157 (v := 215) rfl) ?_
                                          refine GO.lift (fun _ => G_iald C 1 dX10_value_160 rfl (by unfold vp_in; decide)) ?_
                                          exact GO.fin (G_iret C dX10_value_161 rfl)
                                        · skip
                                          refine GO.ite (fun h35 => ?_) (fun h35 => ?_)
                                          · refine GO.lift (fun _ => G_tswIn (v := 20) C 162 20 dX10_value_1 h35 rfl (by decide) rfl rfl) ?_
                                            refine GO.lift (fun _ => G_aload_n C 0 dX10_value_162 rfl) ?_
                                            refine GO.lift (fun _ => G_get C 0 6 dX10_value_163 inlX10 uf_X10_209 rfl (by decide) rfl rfl rfl) ?_
                                            exact GO.fin (G_iret C dX10_value_166 rfl)
                                          · skip
                                            refine GO.lift (fun _ => G_tswOut C 167 dX10_value_1 (by have q0 := i32_ne h1 (n := 0) rfl; have q1 := i32_ne h3 (n := 1) rfl; have q2 := i32_ne h5 (n := 2) rfl; have q3 := i32_ne h7 (n := 3) rfl; have q4 := i32_ne h9 (n := 4) rfl; have q5 := i32_ne h11 (n := 5) rfl; have q6 := i32_ne h12 (n := 6) rfl; have q7 := i32_ne h13 (n := 7) rfl; have q8 := i32_ne h14 (n := 8) rfl; have q9 := i32_ne h15 (n := 9) rfl; have q10 := i32_ne h16 (n := 10) rfl; have q11 := i32_ne h18 (n := 11) rfl; have q12 := i32_ne h20 (n := 12) rfl; have q13 := i32_ne h22 (n := 13) rfl; have q14 := i32_ne h24 (n := 14) rfl; have q15 := i32_ne h26 (n := 15) rfl; have q16 := i32_ne h28 (n := 16) rfl; have q17 := i32_ne h30 (n := 17) rfl; have q18 := i32_ne h32 (n := 18) rfl; have q19 := i32_ne h34 (n := 19) rfl; have q20 := i32_ne h35 (n := 20) rfl; omega) rfl) ?_
                                            refine GO.lift (fun _ => G_iconst C dX10_value_167 (v := -1) rfl) ?_
                                            exact GO.fin (G_iret C dX10_value_168 rfl)
/-! X10_lettersTo -/
theorem kd_X10_lettersTo : Card yX10_lettersTo cX10_lettersTo 5 (some .int) 1 := ⟨uc_X10_lettersTo, un_X10, ⟨by decide, by decide, by decide⟩, by decide⟩
def o_X10_lettersTo_L17 (rc : SM → Int32 → Int32 → Int32 → Option (Int32)) : Nat → SM → Int32 → Int32 → Int32 → Int32 → Option (Int32)
  | 0, _, _, _, _, _ => none
  | fuel + 1, X, x1, x2, x3, x4 => if gin (v_X10_officeAt x3 4) 336 = true then (if x4 < ((X 0) (v_X10_officeAt x3 4).toNatClampNeg) then if gin (v_X10_letterAt x3 x4 0) 336 = true then (if ((X 0) (v_X10_letterAt x3 x4 0).toNatClampNeg) = x1 then o_X10_lettersTo_L17 rc fuel X x1 (x2 + 1) x3 (x4 + 1) else o_X10_lettersTo_L17 rc fuel X x1 x2 x3 (x4 + 1)) else none else rc X x1 x2 (x3 + 1)) else none
theorem g_X10_lettersTo_L17 {l : Launch} {K : gK} {Γ : gT} {b : Nat → Nat} (C : Cx l K Γ RX10 cX10_lettersTo 5 (some .int) 2) (rc : SM → Int32 → Int32 → Int32 → Option (Int32)) (hrc : ∀ (X : SM) (x1 : Int32) (x2 : Int32) (x3 : Int32), GO l K Γ (mo_W K b X) 4 5 [(0, .ref (b 0)), (1, .int x1), (2, .int x2), (3, .int x3)] [] (fun z => (some (.int z), mo_W K b X)) (rc X x1 x2 x3)) : ∀ (k : Nat) (X : SM) (x1 : Int32) (x2 : Int32) (x3 : Int32) (x4 : Int32), GO l K Γ (mo_W K b X) 17 5 [(0, .ref (b 0)), (1, .int x1), (2, .int x2), (3, .int x3), (4, .int x4)] [] (fun z => (some (.int z), mo_W K b X)) (o_X10_lettersTo_L17 rc k X x1 x2 x3 x4) := by
  intro k
  induction k with
  | zero =>
    intro X x1 x2 x3 x4
    exact fun r hr => nomatch hr
  | succ k ih =>
    intro X x1 x2 x3 x4
    rw [o_X10_lettersTo_L17]
    refine GO.lift (fun _ => G_iload C 4 dX10_lettersTo_17 rfl) ?_
    refine GO.lift (fun _ => G_aload_n C 0 dX10_lettersTo_19 rfl) ?_
    refine GO.lift (fun _ => G_get C 0 0 dX10_lettersTo_20 inlX10 uf_X10_7 rfl (by decide) rfl rfl rfl) ?_
    refine GO.lift (fun _ => G_iload_n C 3 dX10_lettersTo_23 rfl) ?_
    refine GO.lift (fun _ => G_iconst C dX10_lettersTo_24 (v := 4) rfl) ?_
    refine GO.lift (fun _ => G_callSi C kd_X10_officeAt ut_X10_officeAt um_X10_54 (c_X10_officeAt l K (mo_W K b X) x3 4) dX10_lettersTo_25 rfl rfl (Nat.le_of_ble_eq_true rfl) (Nat.le_of_ble_eq_true rfl)) ?_
    refine GO.guard (fun h1 => ?_)
    refine GO.lift (fun _ => G_iald C 1 dX10_lettersTo_28 rfl (gin_in h1)) ?_
    refine GO_icmp_ge C 57 dX10_lettersTo_29 rfl (fun h2 => ?_) (fun h2 => ?_)
    · refine GO.lift (fun _ => G_aload_n C 0 dX10_lettersTo_32 rfl) ?_
      refine GO.lift (fun _ => G_get C 0 0 dX10_lettersTo_33 inlX10 uf_X10_7 rfl (by decide) rfl rfl rfl) ?_
      refine GO.lift (fun _ => G_iload_n C 3 dX10_lettersTo_36 rfl) ?_
      refine GO.lift (fun _ => G_iload C 4 dX10_lettersTo_37 rfl) ?_
      refine GO.lift (fun _ => G_iconst C dX10_lettersTo_39 (v := 0) rfl) ?_
      refine GO.lift (fun _ => G_callSi C kd_X10_letterAt ut_X10_letterAt um_X10_62 (c_X10_letterAt l K (mo_W K b X) x3 x4 0) dX10_lettersTo_40 rfl rfl (Nat.le_of_ble_eq_true rfl) (Nat.le_of_ble_eq_true rfl)) ?_
      refine GO.guard (fun h3 => ?_)
      refine GO.lift (fun _ => G_iald C 1 dX10_lettersTo_43 rfl (gin_in h3)) ?_
      refine GO.lift (fun _ => G_iload_n C 1 dX10_lettersTo_44 rfl) ?_
      refine GO_icmp_ne C 51 dX10_lettersTo_45 rfl (fun h4 => ?_) (fun h4 => ?_)
      · refine GO.lift (fun _ => G_iinc (lv' := [(2, .int (x2 + 1)), (0, .ref (b 0)), (1, .int x1), (3, .int x3), (4, .int x4)]) C 2 dX10_lettersTo_48 rfl rfl (by decide) rfl) ?_
        refine GO.lift (fun _ => G_iinc (lv' := [(4, .int (x4 + 1)), (2, .int (x2 + 1)), (0, .ref (b 0)), (1, .int x1), (3, .int x3)]) C 4 dX10_lettersTo_51 rfl rfl (by decide) rfl) ?_
        refine GO.lift (fun _ => G_goto C 17 dX10_lettersTo_54 rfl) ?_
        refine GO.sub [2, 3, 1, 4, 0] rfl ?_
        exact ih X x1 (x2 + 1) x3 (x4 + 1)
      · refine GO.lift (fun _ => G_iinc (lv' := [(4, .int (x4 + 1)), (0, .ref (b 0)), (1, .int x1), (2, .int x2), (3, .int x3)]) C 4 dX10_lettersTo_51 rfl rfl (by decide) rfl) ?_
        refine GO.lift (fun _ => G_goto C 17 dX10_lettersTo_54 rfl) ?_
        refine GO.sub [1, 2, 3, 4, 0] rfl ?_
        exact ih X x1 x2 x3 (x4 + 1)
    · refine GO.lift (fun _ => G_iinc (lv' := [(3, .int (x3 + 1)), (0, .ref (b 0)), (1, .int x1), (2, .int x2), (4, .int x4)]) C 3 dX10_lettersTo_57 rfl rfl (by decide) rfl) ?_
      refine GO.lift (fun _ => G_goto C 4 dX10_lettersTo_60 rfl) ?_
      refine GO.sub [1, 2, 3, 0] rfl ?_
      exact hrc X x1 x2 (x3 + 1)
def o_X10_lettersTo_L4 : Nat → SM → Int32 → Int32 → Int32 → Option (Int32)
  | 0, _, _, _, _ => none
  | fuel + 1, X, x1, x2, x3 => if x3 < ((X 0) (4 : Int32).toNatClampNeg) then o_X10_lettersTo_L17 (fun S0 yx1 yx2 yx3 => o_X10_lettersTo_L4 fuel S0 yx1 yx2 yx3) 4000 X x1 x2 x3 0 else some x2
theorem g_X10_lettersTo_L4 {l : Launch} {K : gK} {Γ : gT} {b : Nat → Nat} (C : Cx l K Γ RX10 cX10_lettersTo 5 (some .int) 2) : ∀ (k : Nat) (X : SM) (x1 : Int32) (x2 : Int32) (x3 : Int32), GO l K Γ (mo_W K b X) 4 5 [(0, .ref (b 0)), (1, .int x1), (2, .int x2), (3, .int x3)] [] (fun z => (some (.int z), mo_W K b X)) (o_X10_lettersTo_L4 k X x1 x2 x3) := by
  intro k
  induction k with
  | zero =>
    intro X x1 x2 x3
    exact fun r hr => nomatch hr
  | succ k ih =>
    intro X x1 x2 x3
    rw [o_X10_lettersTo_L4]
    refine GO.lift (fun _ => G_iload_n C 3 dX10_lettersTo_4 rfl) ?_
    refine GO.lift (fun _ => G_aload_n C 0 dX10_lettersTo_5 rfl) ?_
    refine GO.lift (fun _ => G_get C 0 0 dX10_lettersTo_6 inlX10 uf_X10_7 rfl (by decide) rfl rfl rfl) ?_
    refine GO.lift (fun _ => G_iconst C dX10_lettersTo_9 (v := 4) rfl) ?_
    refine GO.lift (fun _ => G_iald C 1 dX10_lettersTo_10 rfl (by unfold vp_in; decide)) ?_
    refine GO_icmp_ge C 63 dX10_lettersTo_11 rfl (fun h1 => ?_) (fun h1 => ?_)
    · refine GO.lift (fun _ => G_iconst C dX10_lettersTo_14 (v := 0) rfl) ?_
      refine GO.lift (fun _ => G_istore (lv' := [(4, .int 0), (0, .ref (b 0)), (1, .int x1), (2, .int x2), (3, .int x3)]) C dX10_lettersTo_15 (by decide) rfl) ?_
      refine GO.sub [1, 2, 3, 4, 0] rfl ?_
      exact g_X10_lettersTo_L17 C _ (fun S0 yx1 yx2 yx3 => ih S0 yx1 yx2 yx3) _ X x1 x2 x3 0
    · refine GO.lift (fun _ => G_iload_n C 2 dX10_lettersTo_63 rfl) ?_
      exact GO.fin (G_iret C dX10_lettersTo_64 rfl)
def o_X10_lettersTo (X : SM) (x1 : Int32) : Option (Int32) := o_X10_lettersTo_L4 4000 X x1 0 0
theorem c_X10_lettersTo (l : Launch) (K : gK) (b : Nat → Nat) (X : SM) (x1 : Int32) (r : Int32) (hr : o_X10_lettersTo X x1 = some r) : Ct l K yX10_lettersTo cX10_lettersTo 5 (some .int) 2 [.ref (b 0), .int x1] (mo_W K b X) (some (.int r), mo_W K b X) := by
  refine Ct.of (own := RX10) (fun z => (some (.int z), mo_W K b X)) (x := r) (by decide) rfl (Nat.le_of_ble_eq_true rfl) (fun Γ C => GO.out (x := o_X10_lettersTo X x1) ?_ hr)
  unfold o_X10_lettersTo
  refine GO.lift (fun _ => G_iconst C dX10_lettersTo_0 (v := 0) rfl) ?_
  refine GO.lift (fun _ => G_istore_n (lv' := [(2, .int 0), (0, .ref (b 0)), (1, .int x1)]) C dX10_lettersTo_1 (by decide) rfl) ?_
  refine GO.lift (fun _ => G_iconst C dX10_lettersTo_2 (v := 0) rfl) ?_
  refine GO.lift (fun _ => G_istore_n (lv' := [(3, .int 0), (2, .int 0), (0, .ref (b 0)), (1, .int x1)]) C dX10_lettersTo_3 (by decide) rfl) ?_
  refine GO.sub [2, 3, 1, 0] rfl ?_
  exact g_X10_lettersTo_L4 C _ X x1 0 0
/-! X10_office -/
theorem kd_X10_office : Card yX10_office cX10_office 3 (some .int) 2 := ⟨uc_X10_office, un_X10, ⟨by decide, by decide, by decide⟩, by decide⟩
def o_X10_office (X : SM) (x1 : Int32) (x2 : Int32) : Option (Int32) := (o_X10_isOffice X x1).bind (fun r1 => if r1 = 0 then some (-1) else if x2 = 0 then if gin (v_X10_officeAt x1 x2) 336 = true then (some ((X 0) (v_X10_officeAt x1 x2).toNatClampNeg)) else none else if x2 = 1 then if gin (v_X10_officeAt x1 x2) 336 = true then (some ((X 0) (v_X10_officeAt x1 x2).toNatClampNeg)) else none else if x2 = 2 then if gin (v_X10_officeAt x1 x2) 336 = true then (some ((X 0) (v_X10_officeAt x1 x2).toNatClampNeg)) else none else if x2 = 3 then if gin (v_X10_officeAt x1 x2) 336 = true then (some ((X 0) (v_X10_officeAt x1 x2).toNatClampNeg)) else none else if x2 = 4 then if gin (v_X10_officeAt x1 x2) 336 = true then (some ((X 0) (v_X10_officeAt x1 x2).toNatClampNeg)) else none else if x2 = 5 then (o_X10_lengthOf (X 0) x1).bind (fun r2 => some r2) else if x2 = 6 then (o_X10_tokenOn (X 0) x1 0).bind (fun r3 => some r3) else if x2 = 7 then if gin (v_X10_officeAt x1 5) 336 = true then (some ((X 0) (v_X10_officeAt x1 5).toNatClampNeg)) else none else if x2 = 8 then (o_X10_lettersTo X x1).bind (fun r4 => some r4) else some (-1))
theorem c_X10_office (l : Launch) (K : gK) (b : Nat → Nat) (X : SM) (x1 : Int32) (x2 : Int32) (r : Int32) (hr : o_X10_office X x1 x2 = some r) : Ct l K yX10_office cX10_office 3 (some .int) 3 [.ref (b 0), .int x1, .int x2] (mo_W K b X) (some (.int r), mo_W K b X) := by
  refine Ct.of (own := RX10) (fun z => (some (.int z), mo_W K b X)) (x := r) (by decide) rfl (Nat.le_of_ble_eq_true rfl) (fun Γ C => GO.out (x := o_X10_office X x1 x2) ?_ hr)
  unfold o_X10_office
  refine GO.lift (fun _ => G_aload_n C 0 dX10_office_0 rfl) ?_
  refine GO.lift (fun _ => G_iload_n C 1 dX10_office_1 rfl) ?_
  refine GO.bind (fun r1 hr1 => ?_)
  refine GO.lift (fun _ => G_callVi C 0 10 kd_X10_isOffice ui_X10_isOffice us_X10_isOffice um_X10_212 rfl rfl (c_X10_isOffice l K b X x1 r1 hr1) dX10_office_2 rfl rfl (Nat.le_of_ble_eq_true rfl) (Nat.le_of_ble_eq_true rfl)) ?_
  refine GO_if_ne C 10 dX10_office_5 rfl (fun h1 => ?_) (fun h1 => ?_)
  · refine GO.lift (fun _ => G_iconst C dX10_office_8 (v := -1) rfl) ?_
    exact GO.fin (G_iret C dX10_office_9 rfl)
  · refine GO.lift (fun _ => G_iload_n C 2 dX10_office_10 rfl) ?_
    refine GO.ite (fun h2 => ?_) (fun h2 => ?_)
    · refine GO.lift (fun _ => G_tswIn (v := 0) C 60 0 dX10_office_11 h2 rfl (by decide) rfl rfl) ?_
      refine GO.lift (fun _ => G_aload_n C 0 dX10_office_60 rfl) ?_
      refine GO.lift (fun _ => G_get C 0 0 dX10_office_61 inlX10 uf_X10_7 rfl (by decide) rfl rfl rfl) ?_
      refine GO.lift (fun _ => G_iload_n C 1 dX10_office_64 rfl) ?_
      refine GO.lift (fun _ => G_iload_n C 2 dX10_office_65 rfl) ?_
      refine GO.lift (fun _ => G_callSi C kd_X10_officeAt ut_X10_officeAt um_X10_54 (c_X10_officeAt l K (mo_W K b X) x1 x2) dX10_office_66 rfl rfl (Nat.le_of_ble_eq_true rfl) (Nat.le_of_ble_eq_true rfl)) ?_
      refine GO.guard (fun h3 => ?_)
      refine GO.lift (fun _ => G_iald C 1 dX10_office_69 rfl (gin_in h3)) ?_
      exact GO.fin (G_iret C dX10_office_70 rfl)
    · skip
      refine GO.ite (fun h4 => ?_) (fun h4 => ?_)
      · refine GO.lift (fun _ => G_tswIn (v := 1) C 60 1 dX10_office_11 h4 rfl (by decide) rfl rfl) ?_
        refine GO.lift (fun _ => G_aload_n C 0 dX10_office_60 rfl) ?_
        refine GO.lift (fun _ => G_get C 0 0 dX10_office_61 inlX10 uf_X10_7 rfl (by decide) rfl rfl rfl) ?_
        refine GO.lift (fun _ => G_iload_n C 1 dX10_office_64 rfl) ?_
        refine GO.lift (fun _ => G_iload_n C 2 dX10_office_65 rfl) ?_
        refine GO.lift (fun _ => G_callSi C kd_X10_officeAt ut_X10_officeAt um_X10_54 (c_X10_officeAt l K (mo_W K b X) x1 x2) dX10_office_66 rfl rfl (Nat.le_of_ble_eq_true rfl) (Nat.le_of_ble_eq_true rfl)) ?_
        refine GO.guard (fun h5 => ?_)
        refine GO.lift (fun _ => G_iald C 1 dX10_office_69 rfl (gin_in h5)) ?_
        exact GO.fin (G_iret C dX10_office_70 rfl)
      · skip
        refine GO.ite (fun h6 => ?_) (fun h6 => ?_)
        · refine GO.lift (fun _ => G_tswIn (v := 2) C 60 2 dX10_office_11 h6 rfl (by decide) rfl rfl) ?_
          refine GO.lift (fun _ => G_aload_n C 0 dX10_office_60 rfl) ?_
          refine GO.lift (fun _ => G_get C 0 0 dX10_office_61 inlX10 uf_X10_7 rfl (by decide) rfl rfl rfl) ?_
          refine GO.lift (fun _ => G_iload_n C 1 dX10_office_64 rfl) ?_
          refine GO.lift (fun _ => G_iload_n C 2 dX10_office_65 rfl) ?_
          refine GO.lift (fun _ => G_callSi C kd_X10_officeAt ut_X10_officeAt um_X10_54 (c_X10_officeAt l K (mo_W K b X) x1 x2) dX10_office_66 rfl rfl (Nat.le_of_ble_eq_true rfl) (Nat.le_of_ble_eq_true rfl)) ?_
          refine GO.guard (fun h7 => ?_)
          refine GO.lift (fun _ => G_iald C 1 dX10_office_69 rfl (gin_in h7)) ?_
          exact GO.fin (G_iret C dX10_office_70 rfl)
        · skip
          refine GO.ite (fun h8 => ?_) (fun h8 => ?_)
          · refine GO.lift (fun _ => G_tswIn (v := 3) C 60 3 dX10_office_11 h8 rfl (by decide) rfl rfl) ?_
            refine GO.lift (fun _ => G_aload_n C 0 dX10_office_60 rfl) ?_
            refine GO.lift (fun _ => G_get C 0 0 dX10_office_61 inlX10 uf_X10_7 rfl (by decide) rfl rfl rfl) ?_
            refine GO.lift (fun _ => G_iload_n C 1 dX10_office_64 rfl) ?_
            refine GO.lift (fun _ => G_iload_n C 2 dX10_office_65 rfl) ?_
            refine GO.lift (fun _ => G_callSi C kd_X10_officeAt ut_X10_officeAt um_X10_54 (c_X10_officeAt l K (mo_W K b X) x1 x2) dX10_office_66 rfl rfl (Nat.le_of_ble_eq_true rfl) (Nat.le_of_ble_eq_true rfl)) ?_
            refine GO.guard (fun h9 => ?_)
            refine GO.lift (fun _ => G_iald C 1 dX10_office_69 rfl (gin_in h9)) ?_
            exact GO.fin (G_iret C dX10_office_70 rfl)
          · skip
            refine GO.ite (fun h10 => ?_) (fun h10 => ?_)
            · refine GO.lift (fun _ => G_tswIn (v := 4) C 60 4 dX10_office_11 h10 rfl (by decide) rfl rfl) ?_
              refine GO.lift (fun _ => G_aload_n C 0 dX10_office_60 rfl) ?_
              refine GO.lift (fun _ => G_get C 0 0 dX10_office_61 inlX10 uf_X10_7 rfl (by decide) rfl rfl rfl) ?_
              refine GO.lift (fun _ => G_iload_n C 1 dX10_office_64 rfl) ?_
              refine GO.lift (fun _ => G_iload_n C 2 dX10_office_65 rfl) ?_
              refine GO.lift (fun _ => G_callSi C kd_X10_officeAt ut_X10_officeAt um_X10_54 (c_X10_officeAt l K (mo_W K b X) x1 x2) dX10_office_66 rfl rfl (Nat.le_of_ble_eq_true rfl) (Nat.le_of_ble_eq_true rfl)) ?_
              refine GO.guard (fun h11 => ?_)
              refine GO.lift (fun _ => G_iald C 1 dX10_office_69 rfl (gin_in h11)) ?_
              exact GO.fin (G_iret C dX10_office_70 rfl)
            · skip
              refine GO.ite (fun h12 => ?_) (fun h12 => ?_)
              · refine GO.lift (fun _ => G_tswIn (v := 5) C 71 5 dX10_office_11 h12 rfl (by decide) rfl rfl) ?_
                refine GO.lift (fun _ => G_aload_n C 0 dX10_office_71 rfl) ?_
                refine GO.lift (fun _ => G_get C 0 0 dX10_office_72 inlX10 uf_X10_7 rfl (by decide) rfl rfl rfl) ?_
                refine GO.lift (fun _ => G_iload_n C 1 dX10_office_75 rfl) ?_
                refine GO.bind (fun r2 hr2 => ?_)
                refine GO.lift (fun _ => G_callSi C kd_X10_lengthOf ut_X10_lengthOf um_X10_235 (Ct.to (r' := (some (.int r2), mo_W K b X)) (Ct.from (c_X10_lengthOf l K (ws := mo_W K b X) (q := 1) (ad := b 1) (Nat.le_of_ble_eq_true rfl) (X 0) x1 r2 hr2) rfl) rfl) dX10_office_76 rfl rfl (Nat.le_of_ble_eq_true rfl) (Nat.le_of_ble_eq_true rfl)) ?_
                exact GO.fin (G_iret C dX10_office_79 rfl)
              · skip
                refine GO.ite (fun h13 => ?_) (fun h13 => ?_)
                · refine GO.lift (fun _ => G_tswIn (v := 6) C 80 6 dX10_office_11 h13 rfl (by decide) rfl rfl) ?_
                  refine GO.lift (fun _ => G_aload_n C 0 dX10_office_80 rfl) ?_
                  refine GO.lift (fun _ => G_get C 0 0 dX10_office_81 inlX10 uf_X10_7 rfl (by decide) rfl rfl rfl) ?_
                  refine GO.lift (fun _ => G_iload_n C 1 dX10_office_84 rfl) ?_
                  refine GO.lift (fun _ => G_iconst C dX10_office_85 (v := 0) rfl) ?_
                  refine GO.bind (fun r3 hr3 => ?_)
                  refine GO.lift (fun _ => G_callSi C kd_X10_tokenOn ut_X10_tokenOn um_X10_107 (Ct.to (r' := (some (.int r3), mo_W K b X)) (Ct.from (c_X10_tokenOn l K (ws := mo_W K b X) (q := 1) (ad := b 1) (Nat.le_of_ble_eq_true rfl) (X 0) x1 0 r3 hr3) rfl) rfl) dX10_office_86 rfl rfl (Nat.le_of_ble_eq_true rfl) (Nat.le_of_ble_eq_true rfl)) ?_
                  exact GO.fin (G_iret C dX10_office_89 rfl)
                · skip
                  refine GO.ite (fun h14 => ?_) (fun h14 => ?_)
                  · refine GO.lift (fun _ => G_tswIn (v := 7) C 90 7 dX10_office_11 h14 rfl (by decide) rfl rfl) ?_
                    refine GO.lift (fun _ => G_aload_n C 0 dX10_office_90 rfl) ?_
                    refine GO.lift (fun _ => G_get C 0 0 dX10_office_91 inlX10 uf_X10_7 rfl (by decide) rfl rfl rfl) ?_
                    refine GO.lift (fun _ => G_iload_n C 1 dX10_office_94 rfl) ?_
                    refine GO.lift (fun _ => G_iconst C dX10_office_95 (v := 5) rfl) ?_
                    refine GO.lift (fun _ => G_callSi C kd_X10_officeAt ut_X10_officeAt um_X10_54 (c_X10_officeAt l K (mo_W K b X) x1 5) dX10_office_96 rfl rfl (Nat.le_of_ble_eq_true rfl) (Nat.le_of_ble_eq_true rfl)) ?_
                    refine GO.guard (fun h15 => ?_)
                    refine GO.lift (fun _ => G_iald C 1 dX10_office_99 rfl (gin_in h15)) ?_
                    exact GO.fin (G_iret C dX10_office_100 rfl)
                  · skip
                    refine GO.ite (fun h16 => ?_) (fun h16 => ?_)
                    · refine GO.lift (fun _ => G_tswIn (v := 8) C 101 8 dX10_office_11 h16 rfl (by decide) rfl rfl) ?_
                      refine GO.lift (fun _ => G_aload_n C 0 dX10_office_101 rfl) ?_
                      refine GO.lift (fun _ => G_iload_n C 1 dX10_office_102 rfl) ?_
                      refine GO.bind (fun r4 hr4 => ?_)
                      refine GO.lift (fun _ => G_callVi C 0 10 kd_X10_lettersTo ui_X10_lettersTo us_X10_lettersTo um_X10_248 rfl rfl (c_X10_lettersTo l K b X x1 r4 hr4) dX10_office_103 rfl rfl (Nat.le_of_ble_eq_true rfl) (Nat.le_of_ble_eq_true rfl)) ?_
                      exact GO.fin (G_iret C dX10_office_106 rfl)
                    · skip
                      refine GO.lift (fun _ => G_tswOut C 107 dX10_office_11 (by have q0 := i32_ne h2 (n := 0) rfl; have q1 := i32_ne h4 (n := 1) rfl; have q2 := i32_ne h6 (n := 2) rfl; have q3 := i32_ne h8 (n := 3) rfl; have q4 := i32_ne h10 (n := 4) rfl; have q5 := i32_ne h12 (n := 5) rfl; have q6 := i32_ne h13 (n := 6) rfl; have q7 := i32_ne h14 (n := 7) rfl; have q8 := i32_ne h16 (n := 8) rfl; omega) rfl) ?_
                      refine GO.lift (fun _ => G_iconst C dX10_office_107 (v := -1) rfl) ?_
                      exact GO.fin (G_iret C dX10_office_108 rfl)
/-! X10_queue -/
theorem kd_X10_queue : Card yX10_queue cX10_queue 4 (some .int) 3 := ⟨uc_X10_queue, un_X10, ⟨by decide, by decide, by decide⟩, by decide⟩
def o_X10_queue_L77 (X : SM) (x1 : Int32) (x2 : Int32) (x3 : Int32) : Option (Int32) := if gin (v_X10_letterAt x1 x2 1) 336 = true then (some ((X 0) (v_X10_letterAt x1 x2 1).toNatClampNeg)) else none
theorem g_X10_queue_L77 {l : Launch} {K : gK} {Γ : gT} {b : Nat → Nat} (C : Cx l K Γ RX10 cX10_queue 4 (some .int) 4) (X : SM) (x1 : Int32) (x2 : Int32) (x3 : Int32) : GO l K Γ (mo_W K b X) 77 4 [(0, .ref (b 0)), (1, .int x1), (2, .int x2), (3, .int x3)] [] (fun z => (some (.int z), mo_W K b X)) (o_X10_queue_L77 X x1 x2 x3) := by
  unfold o_X10_queue_L77
  refine GO.lift (fun _ => G_aload_n C 0 dX10_queue_77 rfl) ?_
  refine GO.lift (fun _ => G_get C 0 0 dX10_queue_78 inlX10 uf_X10_7 rfl (by decide) rfl rfl rfl) ?_
  refine GO.lift (fun _ => G_iload_n C 1 dX10_queue_81 rfl) ?_
  refine GO.lift (fun _ => G_iload_n C 2 dX10_queue_82 rfl) ?_
  refine GO.lift (fun _ => G_iconst C dX10_queue_83 (v := 1) rfl) ?_
  refine GO.lift (fun _ => G_callSi C kd_X10_letterAt ut_X10_letterAt um_X10_62 (c_X10_letterAt l K (mo_W K b X) x1 x2 1) dX10_queue_84 rfl rfl (Nat.le_of_ble_eq_true rfl) (Nat.le_of_ble_eq_true rfl)) ?_
  refine GO.guard (fun h1 => ?_)
  refine GO.lift (fun _ => G_iald C 1 dX10_queue_87 rfl (gin_in h1)) ?_
  exact GO.fin (G_iret C dX10_queue_88 rfl)
def o_X10_queue (X : SM) (x1 : Int32) (x2 : Int32) (x3 : Int32) : Option (Int32) := (o_X10_isOffice X x1).bind (fun r1 => if r1 = 0 then some (-1) else if x2 < 0 then some (-1) else if (v_X10_in x3 0 2) = 0 then some (-1) else if gin (v_X10_officeAt x1 4) 336 = true then (if x2 < ((X 0) (v_X10_officeAt x1 4).toNatClampNeg) then if x3 < 2 then if gin (v_X10_letterAt x1 x2 x3) 336 = true then (some ((X 0) (v_X10_letterAt x1 x2 x3).toNatClampNeg)) else none else if x2 = 0 then (o_X10_leftAt X x1).bind (fun r2 => if 0 < r2 then (o_X10_leftAt X x1).bind (fun r3 => some r3) else o_X10_queue_L77 X x1 x2 x3) else o_X10_queue_L77 X x1 x2 x3 else some (-2)) else none)
theorem c_X10_queue (l : Launch) (K : gK) (b : Nat → Nat) (X : SM) (x1 : Int32) (x2 : Int32) (x3 : Int32) (r : Int32) (hr : o_X10_queue X x1 x2 x3 = some r) : Ct l K yX10_queue cX10_queue 4 (some .int) 4 [.ref (b 0), .int x1, .int x2, .int x3] (mo_W K b X) (some (.int r), mo_W K b X) := by
  refine Ct.of (own := RX10) (fun z => (some (.int z), mo_W K b X)) (x := r) (by decide) rfl (Nat.le_of_ble_eq_true rfl) (fun Γ C => GO.out (x := o_X10_queue X x1 x2 x3) ?_ hr)
  unfold o_X10_queue
  refine GO.lift (fun _ => G_aload_n C 0 dX10_queue_0 rfl) ?_
  refine GO.lift (fun _ => G_iload_n C 1 dX10_queue_1 rfl) ?_
  refine GO.bind (fun r1 hr1 => ?_)
  refine GO.lift (fun _ => G_callVi C 0 10 kd_X10_isOffice ui_X10_isOffice us_X10_isOffice um_X10_212 rfl rfl (c_X10_isOffice l K b X x1 r1 hr1) dX10_queue_2 rfl rfl (Nat.le_of_ble_eq_true rfl) (Nat.le_of_ble_eq_true rfl)) ?_
  refine GO_if_eq C 21 dX10_queue_5 rfl (fun h1 => ?_) (fun h1 => ?_)
  · refine GO.lift (fun _ => G_iconst C dX10_queue_21 (v := -1) rfl) ?_
    exact GO.fin (G_iret C dX10_queue_22 rfl)
  · refine GO.lift (fun _ => G_iload_n C 2 dX10_queue_8 rfl) ?_
    refine GO_if_lt C 21 dX10_queue_9 rfl (fun h2 => ?_) (fun h2 => ?_)
    · refine GO.lift (fun _ => G_iconst C dX10_queue_21 (v := -1) rfl) ?_
      exact GO.fin (G_iret C dX10_queue_22 rfl)
    · refine GO.lift (fun _ => G_iload_n C 3 dX10_queue_12 rfl) ?_
      refine GO.lift (fun _ => G_iconst C dX10_queue_13 (v := 0) rfl) ?_
      refine GO.lift (fun _ => G_iconst C dX10_queue_14 (v := 2) rfl) ?_
      refine GO.lift (fun _ => G_callSi C kd_X10_in ut_X10_in um_X10_58 (c_X10_in l K (mo_W K b X) x3 0 2) dX10_queue_15 rfl rfl (Nat.le_of_ble_eq_true rfl) (Nat.le_of_ble_eq_true rfl)) ?_
      refine GO_if_ne C 23 dX10_queue_18 rfl (fun h3 => ?_) (fun h3 => ?_)
      · refine GO.lift (fun _ => G_iconst C dX10_queue_21 (v := -1) rfl) ?_
        exact GO.fin (G_iret C dX10_queue_22 rfl)
      · refine GO.lift (fun _ => G_iload_n C 2 dX10_queue_23 rfl) ?_
        refine GO.lift (fun _ => G_aload_n C 0 dX10_queue_24 rfl) ?_
        refine GO.lift (fun _ => G_get C 0 0 dX10_queue_25 inlX10 uf_X10_7 rfl (by decide) rfl rfl rfl) ?_
        refine GO.lift (fun _ => G_iload_n C 1 dX10_queue_28 rfl) ?_
        refine GO.lift (fun _ => G_iconst C dX10_queue_29 (v := 4) rfl) ?_
        refine GO.lift (fun _ => G_callSi C kd_X10_officeAt ut_X10_officeAt um_X10_54 (c_X10_officeAt l K (mo_W K b X) x1 4) dX10_queue_30 rfl rfl (Nat.le_of_ble_eq_true rfl) (Nat.le_of_ble_eq_true rfl)) ?_
        refine GO.guard (fun h4 => ?_)
        refine GO.lift (fun _ => G_iald C 1 dX10_queue_33 rfl (gin_in h4)) ?_
        refine GO_icmp_lt C 40 dX10_queue_34 rfl (fun h5 => ?_) (fun h5 => ?_)
        · refine GO.lift (fun _ => G_iload_n C 3 dX10_queue_40 rfl) ?_
          refine GO.lift (fun _ => G_iconst C dX10_queue_41 (v := 2) rfl) ?_
          refine GO_icmp_ge C 57 dX10_queue_42 rfl (fun h6 => ?_) (fun h6 => ?_)
          · refine GO.lift (fun _ => G_aload_n C 0 dX10_queue_45 rfl) ?_
            refine GO.lift (fun _ => G_get C 0 0 dX10_queue_46 inlX10 uf_X10_7 rfl (by decide) rfl rfl rfl) ?_
            refine GO.lift (fun _ => G_iload_n C 1 dX10_queue_49 rfl) ?_
            refine GO.lift (fun _ => G_iload_n C 2 dX10_queue_50 rfl) ?_
            refine GO.lift (fun _ => G_iload_n C 3 dX10_queue_51 rfl) ?_
            refine GO.lift (fun _ => G_callSi C kd_X10_letterAt ut_X10_letterAt um_X10_62 (c_X10_letterAt l K (mo_W K b X) x1 x2 x3) dX10_queue_52 rfl rfl (Nat.le_of_ble_eq_true rfl) (Nat.le_of_ble_eq_true rfl)) ?_
            refine GO.guard (fun h7 => ?_)
            refine GO.lift (fun _ => G_iald C 1 dX10_queue_55 rfl (gin_in h7)) ?_
            exact GO.fin (G_iret C dX10_queue_56 rfl)
          · refine GO.lift (fun _ => G_iload_n C 2 dX10_queue_57 rfl) ?_
            refine GO_if_ne C 77 dX10_queue_58 rfl (fun h8 => ?_) (fun h8 => ?_)
            · refine GO.lift (fun _ => G_aload_n C 0 dX10_queue_61 rfl) ?_
              refine GO.lift (fun _ => G_iload_n C 1 dX10_queue_62 rfl) ?_
              refine GO.bind (fun r2 hr2 => ?_)
              refine GO.lift (fun _ => G_callVi C 0 10 kd_X10_leftAt ui_X10_leftAt us_X10_leftAt um_X10_218 rfl rfl (c_X10_leftAt l K b X x1 r2 hr2) dX10_queue_63 rfl rfl (Nat.le_of_ble_eq_true rfl) (Nat.le_of_ble_eq_true rfl)) ?_
              refine GO_if_le C 77 dX10_queue_66 rfl (fun h9 => ?_) (fun h9 => ?_)
              · refine GO.lift (fun _ => G_aload_n C 0 dX10_queue_69 rfl) ?_
                refine GO.lift (fun _ => G_iload_n C 1 dX10_queue_70 rfl) ?_
                refine GO.bind (fun r3 hr3 => ?_)
                refine GO.lift (fun _ => G_callVi C 0 10 kd_X10_leftAt ui_X10_leftAt us_X10_leftAt um_X10_218 rfl rfl (c_X10_leftAt l K b X x1 r3 hr3) dX10_queue_71 rfl rfl (Nat.le_of_ble_eq_true rfl) (Nat.le_of_ble_eq_true rfl)) ?_
                refine GO.lift (fun _ => G_goto C 88 dX10_queue_74 rfl) ?_
                exact GO.fin (G_iret C dX10_queue_88 rfl)
              · refine GO.sub [0, 1, 2, 3] rfl ?_
                exact g_X10_queue_L77 C X x1 x2 x3
            · refine GO.sub [0, 1, 2, 3] rfl ?_
              exact g_X10_queue_L77 C X x1 x2 x3
        · refine GO.lift (fun _ => G_bipush C dX10_queue_37 (v := -2) rfl) ?_
          exact GO.fin (G_iret C dX10_queue_39 rfl)
/-! X10_token -/
theorem kd_X10_token : Card yX10_token cX10_token 3 (some .int) 2 := ⟨uc_X10_token, un_X10, ⟨by decide, by decide, by decide⟩, by decide⟩
def o_X10_token (X : SM) (x1 : Int32) (x2 : Int32) : Option (Int32) := (o_X10_isToken X x1).bind (fun r1 => if r1 = 0 then some (-1) else if (v_X10_in x2 0 4) = 0 then some (-1) else if gin (v_X10_tokenAt x1 x2) 336 = true then (some ((X 0) (v_X10_tokenAt x1 x2).toNatClampNeg)) else none)
theorem c_X10_token (l : Launch) (K : gK) (b : Nat → Nat) (X : SM) (x1 : Int32) (x2 : Int32) (r : Int32) (hr : o_X10_token X x1 x2 = some r) : Ct l K yX10_token cX10_token 3 (some .int) 2 [.ref (b 0), .int x1, .int x2] (mo_W K b X) (some (.int r), mo_W K b X) := by
  refine Ct.of (own := RX10) (fun z => (some (.int z), mo_W K b X)) (x := r) (by decide) rfl (Nat.le_of_ble_eq_true rfl) (fun Γ C => GO.out (x := o_X10_token X x1 x2) ?_ hr)
  unfold o_X10_token
  refine GO.lift (fun _ => G_aload_n C 0 dX10_token_0 rfl) ?_
  refine GO.lift (fun _ => G_iload_n C 1 dX10_token_1 rfl) ?_
  refine GO.bind (fun r1 hr1 => ?_)
  refine GO.lift (fun _ => G_callVi C 0 10 kd_X10_isToken ui_X10_isToken us_X10_isToken um_X10_225 rfl rfl (c_X10_isToken l K b X x1 r1 hr1) dX10_token_2 rfl rfl (Nat.le_of_ble_eq_true rfl) (Nat.le_of_ble_eq_true rfl)) ?_
  refine GO_if_eq C 30 dX10_token_5 rfl (fun h1 => ?_) (fun h1 => ?_)
  · refine GO.lift (fun _ => G_iconst C dX10_token_30 (v := -1) rfl) ?_
    exact GO.fin (G_iret C dX10_token_31 rfl)
  · refine GO.lift (fun _ => G_iload_n C 2 dX10_token_8 rfl) ?_
    refine GO.lift (fun _ => G_iconst C dX10_token_9 (v := 0) rfl) ?_
    refine GO.lift (fun _ => G_iconst C dX10_token_10 (v := 4) rfl) ?_
    refine GO.lift (fun _ => G_callSi C kd_X10_in ut_X10_in um_X10_58 (c_X10_in l K (mo_W K b X) x2 0 4) dX10_token_11 rfl rfl (Nat.le_of_ble_eq_true rfl) (Nat.le_of_ble_eq_true rfl)) ?_
    refine GO_if_eq C 30 dX10_token_14 rfl (fun h2 => ?_) (fun h2 => ?_)
    · refine GO.lift (fun _ => G_iconst C dX10_token_30 (v := -1) rfl) ?_
      exact GO.fin (G_iret C dX10_token_31 rfl)
    · refine GO.lift (fun _ => G_aload_n C 0 dX10_token_17 rfl) ?_
      refine GO.lift (fun _ => G_get C 0 0 dX10_token_18 inlX10 uf_X10_7 rfl (by decide) rfl rfl rfl) ?_
      refine GO.lift (fun _ => G_iload_n C 1 dX10_token_21 rfl) ?_
      refine GO.lift (fun _ => G_iload_n C 2 dX10_token_22 rfl) ?_
      refine GO.lift (fun _ => G_callSi C kd_X10_tokenAt ut_X10_tokenAt um_X10_66 (c_X10_tokenAt l K (mo_W K b X) x1 x2) dX10_token_23 rfl rfl (Nat.le_of_ble_eq_true rfl) (Nat.le_of_ble_eq_true rfl)) ?_
      refine GO.guard (fun h3 => ?_)
      refine GO.lift (fun _ => G_iald C 1 dX10_token_26 rfl (gin_in h3)) ?_
      refine GO.lift (fun _ => G_goto C 31 dX10_token_27 rfl) ?_
      exact GO.fin (G_iret C dX10_token_31 rfl)
/-! X10_winner -/
theorem kd_X10_winner : Card yX10_winner cX10_winner 1 (some .int) 0 := ⟨uc_X10_winner, un_X10, ⟨by decide, by decide, by decide⟩, by decide⟩
def o_X10_winner (X : SM) : Option (Int32) := (o_X10_winnerOf (X 0) ).bind (fun r1 => some r1)
theorem c_X10_winner (l : Launch) (K : gK) (b : Nat → Nat) (X : SM) (r : Int32) (hr : o_X10_winner X = some r) : Ct l K yX10_winner cX10_winner 1 (some .int) 3 [.ref (b 0)] (mo_W K b X) (some (.int r), mo_W K b X) := by
  refine Ct.of (own := RX10) (fun z => (some (.int z), mo_W K b X)) (x := r) (by decide) rfl (Nat.le_of_ble_eq_true rfl) (fun Γ C => GO.out (x := o_X10_winner X) ?_ hr)
  unfold o_X10_winner
  refine GO.lift (fun _ => G_aload_n C 0 dX10_winner_0 rfl) ?_
  refine GO.lift (fun _ => G_get C 0 0 dX10_winner_1 inlX10 uf_X10_7 rfl (by decide) rfl rfl rfl) ?_
  refine GO.bind (fun r1 hr1 => ?_)
  refine GO.lift (fun _ => G_callSi C kd_X10_winnerOf ut_X10_winnerOf um_X10_110 (Ct.to (r' := (some (.int r1), mo_W K b X)) (Ct.from (c_X10_winnerOf l K (ws := mo_W K b X) (q := 1) (ad := b 1) (Nat.le_of_ble_eq_true rfl) (X 0)  r1 hr1) rfl) rfl) dX10_winner_4 rfl rfl (Nat.le_of_ble_eq_true rfl) (Nat.le_of_ble_eq_true rfl)) ?_
  exact GO.fin (G_iret C dX10_winner_7 rfl)
/-! X10_round -/
theorem kd_X10_round : Card yX10_round cX10_round 3 (some .int) 0 := ⟨uc_X10_round, un_X10, ⟨by decide, by decide, by decide⟩, by decide⟩
def o_X10_round_L4 : Nat → SM → Int32 → Int32 → Option (Int32)
  | 0, _, _, _ => none
  | fuel + 1, X, x1, x2 => if x2 < ((X 0) (4 : Int32).toNatClampNeg) then if gin (v_X10_officeAt x2 0) 336 = true then (o_X10_round_L4 fuel X (x1 + ((X 0) (v_X10_officeAt x2 0).toNatClampNeg)) (x2 + 1)) else none else some x1
theorem g_X10_round_L4 {l : Launch} {K : gK} {Γ : gT} {b : Nat → Nat} (C : Cx l K Γ RX10 cX10_round 3 (some .int) 1) : ∀ (k : Nat) (X : SM) (x1 : Int32) (x2 : Int32), GO l K Γ (mo_W K b X) 4 3 [(0, .ref (b 0)), (1, .int x1), (2, .int x2)] [] (fun z => (some (.int z), mo_W K b X)) (o_X10_round_L4 k X x1 x2) := by
  intro k
  induction k with
  | zero =>
    intro X x1 x2
    exact fun r hr => nomatch hr
  | succ k ih =>
    intro X x1 x2
    rw [o_X10_round_L4]
    refine GO.lift (fun _ => G_iload_n C 2 dX10_round_4 rfl) ?_
    refine GO.lift (fun _ => G_aload_n C 0 dX10_round_5 rfl) ?_
    refine GO.lift (fun _ => G_get C 0 0 dX10_round_6 inlX10 uf_X10_7 rfl (by decide) rfl rfl rfl) ?_
    refine GO.lift (fun _ => G_iconst C dX10_round_9 (v := 4) rfl) ?_
    refine GO.lift (fun _ => G_iald C 1 dX10_round_10 rfl (by unfold vp_in; decide)) ?_
    refine GO_icmp_ge C 33 dX10_round_11 rfl (fun h1 => ?_) (fun h1 => ?_)
    · refine GO.lift (fun _ => G_iload_n C 1 dX10_round_14 rfl) ?_
      refine GO.lift (fun _ => G_aload_n C 0 dX10_round_15 rfl) ?_
      refine GO.lift (fun _ => G_get C 0 0 dX10_round_16 inlX10 uf_X10_7 rfl (by decide) rfl rfl rfl) ?_
      refine GO.lift (fun _ => G_iload_n C 2 dX10_round_19 rfl) ?_
      refine GO.lift (fun _ => G_iconst C dX10_round_20 (v := 0) rfl) ?_
      refine GO.lift (fun _ => G_callSi C kd_X10_officeAt ut_X10_officeAt um_X10_54 (c_X10_officeAt l K (mo_W K b X) x2 0) dX10_round_21 rfl rfl (Nat.le_of_ble_eq_true rfl) (Nat.le_of_ble_eq_true rfl)) ?_
      refine GO.guard (fun h2 => ?_)
      refine GO.lift (fun _ => G_iald C 1 dX10_round_24 rfl (gin_in h2)) ?_
      refine GO.lift (fun _ => G_iadd C dX10_round_25) ?_
      refine GO.lift (fun _ => G_istore_n (lv' := [(1, .int (x1 + ((X 0) (v_X10_officeAt x2 0).toNatClampNeg))), (0, .ref (b 0)), (2, .int x2)]) C dX10_round_26 (by decide) rfl) ?_
      refine GO.lift (fun _ => G_iinc (lv' := [(2, .int (x2 + 1)), (1, .int (x1 + ((X 0) (v_X10_officeAt x2 0).toNatClampNeg))), (0, .ref (b 0))]) C 2 dX10_round_27 rfl rfl (by decide) rfl) ?_
      refine GO.lift (fun _ => G_goto C 4 dX10_round_30 rfl) ?_
      refine GO.sub [2, 1, 0] rfl ?_
      exact ih X (x1 + ((X 0) (v_X10_officeAt x2 0).toNatClampNeg)) (x2 + 1)
    · refine GO.lift (fun _ => G_iload_n C 1 dX10_round_33 rfl) ?_
      exact GO.fin (G_iret C dX10_round_34 rfl)
def o_X10_round (X : SM) : Option (Int32) := o_X10_round_L4 4000 X 0 0
theorem c_X10_round (l : Launch) (K : gK) (b : Nat → Nat) (X : SM) (r : Int32) (hr : o_X10_round X = some r) : Ct l K yX10_round cX10_round 3 (some .int) 1 [.ref (b 0)] (mo_W K b X) (some (.int r), mo_W K b X) := by
  refine Ct.of (own := RX10) (fun z => (some (.int z), mo_W K b X)) (x := r) (by decide) rfl (Nat.le_of_ble_eq_true rfl) (fun Γ C => GO.out (x := o_X10_round X) ?_ hr)
  unfold o_X10_round
  refine GO.lift (fun _ => G_iconst C dX10_round_0 (v := 0) rfl) ?_
  refine GO.lift (fun _ => G_istore_n (lv' := [(1, .int 0), (0, .ref (b 0))]) C dX10_round_1 (by decide) rfl) ?_
  refine GO.lift (fun _ => G_iconst C dX10_round_2 (v := 0) rfl) ?_
  refine GO.lift (fun _ => G_istore_n (lv' := [(2, .int 0), (1, .int 0), (0, .ref (b 0))]) C dX10_round_3 (by decide) rfl) ?_
  refine GO.sub [2, 1, 0] rfl ?_
  exact g_X10_round_L4 C _ X 0 0
