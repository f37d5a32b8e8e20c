-- PART 08, go on (by gen/mkmodel.py)
/-! X10_readToken -/
theorem kd_X10_readToken : Card yX10_readToken cX10_readToken 2 none 0 := ⟨uc_X10_readToken, un_X10, ⟨by decide, by decide, by decide⟩, by decide⟩
def o_X10_readToken_L65 (X : SM) (x1 : Int32) (t0 : Int32) : Option (SM) := (o_X10_takes X t0).bind (fun r1 => if r1.1 = 0 then some r1.2 else (o_X10_addToken (r1.2 1) x1).bind (fun r2 => lt1 (sU r1.2 1 r2.2) (fun r3 => some r3)))
theorem g_X10_readToken_L65 {l : Launch} {K : gK} {Γ : gT} {b : Nat → Nat} (C : Cx l K Γ RX10 cX10_readToken 2 none 4) (X : SM) (x1 : Int32) (t0 : Int32) : GO l K Γ (mo_W K b X) 65 2 [(0, .ref (b 0)), (1, .int x1)] [.int t0, .ref (b 0)] (fun z => (none, mo_W K b z)) (o_X10_readToken_L65 X x1 t0) := by
  unfold o_X10_readToken_L65
  refine GO.bind (fun r1 hr1 => ?_)
  refine GO.lift (fun _ => G_callVi C 0 10 kd_X10_takes ui_X10_takes us_X10_takes um_X10_174 rfl rfl (c_X10_takes l K b X t0 r1 hr1) dX10_readToken_65 rfl rfl (Nat.le_of_ble_eq_true rfl) (Nat.le_of_ble_eq_true rfl)) ?_
  refine GO_if_eq C 80 dX10_readToken_68 rfl (fun h1 => ?_) (fun h1 => ?_)
  · exact GO.fin (G_vret C dX10_readToken_80 rfl)
  · refine GO.lift (fun _ => G_aload_n C 0 dX10_readToken_71 rfl) ?_
    refine GO.lift (fun _ => G_get C 0 1 dX10_readToken_72 inlX10 uf_X10_13 rfl (by decide) rfl rfl rfl) ?_
    refine GO.lift (fun _ => G_iload_n C 1 dX10_readToken_75 rfl) ?_
    refine GO.bind (fun r2 hr2 => ?_)
    refine GO.letS (fun r3 hr3 => ?_)
    refine GO.lift (fun _ => G_callSi C kd_X10_addToken ut_X10_addToken um_X10_43 (Ct.to (r' := (some (.int r2.1), mo_W K b r3)) (Ct.from (c_X10_addToken l K (ws := mo_W K b r1.2) (q := 2) (ad := b 2) (Nat.le_of_ble_eq_true rfl) (r1.2 1) x1 r2 hr2) rfl) (by cases hr3; rfl)) dX10_readToken_76 rfl rfl (Nat.le_of_ble_eq_true rfl) (Nat.le_of_ble_eq_true rfl)) ?_
    refine GO.lift (fun _ => G_pop C dX10_readToken_79 rfl) ?_
    exact GO.fin (G_vret C dX10_readToken_80 rfl)
def o_X10_readToken_L44 (X : SM) (x1 : Int32) (t0 : Int32) : Option (SM) := (o_X10_takes X t0).bind (fun r1 => if r1.1 = 0 then some r1.2 else if (r1.2 8 6) = 3 then o_X10_readToken_L65 r1.2 x1 1 else o_X10_readToken_L65 r1.2 x1 0)
theorem g_X10_readToken_L44 {l : Launch} {K : gK} {Γ : gT} {b : Nat → Nat} (C : Cx l K Γ RX10 cX10_readToken 2 none 4) (X : SM) (x1 : Int32) (t0 : Int32) : GO l K Γ (mo_W K b X) 44 2 [(0, .ref (b 0)), (1, .int x1)] [.int t0, .ref (b 0)] (fun z => (none, mo_W K b z)) (o_X10_readToken_L44 X x1 t0) := by
  unfold o_X10_readToken_L44
  refine GO.bind (fun r1 hr1 => ?_)
  refine GO.lift (fun _ => G_callVi C 0 10 kd_X10_takes ui_X10_takes us_X10_takes um_X10_174 rfl rfl (c_X10_takes l K b X t0 r1 hr1) dX10_readToken_44 rfl rfl (Nat.le_of_ble_eq_true rfl) (Nat.le_of_ble_eq_true rfl)) ?_
  refine GO_if_ne C 51 dX10_readToken_47 rfl (fun h1 => ?_) (fun h1 => ?_)
  · exact GO.fin (G_vret C dX10_readToken_50 rfl)
  · refine GO.lift (fun _ => G_aload_n C 0 dX10_readToken_51 rfl) ?_
    refine GO.lift (fun _ => G_aload_n C 0 dX10_readToken_52 rfl) ?_
    refine GO.lift (fun _ => G_get C 0 13 dX10_readToken_53 inlX10 uf_X10_151 rfl (by decide) rfl rfl rfl) ?_
    refine GO.lift (fun _ => G_iconst C dX10_readToken_56 (v := 3) rfl) ?_
    refine GO_icmp_ne C 64 dX10_readToken_57 rfl (fun h2 => ?_) (fun h2 => ?_)
    · refine GO.lift (fun _ => G_iconst C dX10_readToken_60 (v := 1) rfl) ?_
      refine GO.lift (fun _ => G_goto C 65 dX10_readToken_61 rfl) ?_
      refine GO.sub [0, 1] rfl ?_
      exact g_X10_readToken_L65 C r1.2 x1 1
    · refine GO.lift (fun _ => G_iconst C dX10_readToken_64 (v := 0) rfl) ?_
      refine GO.sub [0, 1] rfl ?_
      exact g_X10_readToken_L65 C r1.2 x1 0
def o_X10_readToken_L43 (X : SM) (x1 : Int32) : Option (SM) := o_X10_readToken_L44 X x1 0
theorem g_X10_readToken_L43 {l : Launch} {K : gK} {Γ : gT} {b : Nat → Nat} (C : Cx l K Γ RX10 cX10_readToken 2 none 4) (X : SM) (x1 : Int32) : GO l K Γ (mo_W K b X) 43 2 [(0, .ref (b 0)), (1, .int x1)] [.ref (b 0)] (fun z => (none, mo_W K b z)) (o_X10_readToken_L43 X x1) := by
  unfold o_X10_readToken_L43
  refine GO.lift (fun _ => G_iconst C dX10_readToken_43 (v := 0) rfl) ?_
  refine GO.sub [0, 1] rfl ?_
  exact g_X10_readToken_L44 C X x1 0
def o_X10_readToken (X : SM) : Option (SM) := (o_X10_next X ).bind (fun r1 => if (r1 8 6) = 2 then if (r1 8 7) < ((r1 1) (4 : Int32).toNatClampNeg) then (o_X10_isOpen (r1 1) (r1 8 7)).bind (fun r2 => if r2 = 0 then o_X10_readToken_L43 r1 (r1 8 7) else o_X10_readToken_L44 r1 (r1 8 7) 1) else o_X10_readToken_L43 r1 (r1 8 7) else o_X10_readToken_L43 r1 (r1 8 7))
theorem c_X10_readToken (l : Launch) (K : gK) (b : Nat → Nat) (X : SM) (r : SM) (hr : o_X10_readToken X = some r) : Ct l K yX10_readToken cX10_readToken 2 none 4 [.ref (b 0)] (mo_W K b X) (none, mo_W K b r) := by
  refine Ct.of (own := RX10) (fun z => (none, mo_W K b z)) (x := r) (by decide) rfl (Nat.le_of_ble_eq_true rfl) (fun Γ C => GO.out (x := o_X10_readToken X) ?_ hr)
  unfold o_X10_readToken
  refine GO.lift (fun _ => G_aload_n C 0 dX10_readToken_0 rfl) ?_
  refine GO.bind (fun r1 hr1 => ?_)
  refine GO.lift (fun _ => G_callVv C 0 10 kd_X10_next ui_X10_next us_X10_next um_X10_171 rfl rfl (c_X10_next l K b X  r1 hr1) dX10_readToken_1 rfl rfl (Nat.le_of_ble_eq_true rfl) (Nat.le_of_ble_eq_true rfl)) ?_
  refine GO.lift (fun _ => G_aload_n C 0 dX10_readToken_4 rfl) ?_
  refine GO.lift (fun _ => G_get C 0 14 dX10_readToken_5 inlX10 uf_X10_148 rfl (by decide) rfl rfl rfl) ?_
  refine GO.lift (fun _ => G_istore_n (lv' := [(1, .int (r1 8 7)), (0, .ref (b 0))]) C dX10_readToken_8 (by decide) rfl) ?_
  refine GO.lift (fun _ => G_aload_n C 1 dX10_readToken_9 rfl) ?_
  refine GO.lift (fun _ => G_aload_n C 1 dX10_readToken_10 rfl) ?_
  refine GO.lift (fun _ => G_get C 0 13 dX10_readToken_11 inlX10 uf_X10_151 rfl (by decide) rfl rfl rfl) ?_
  refine GO.lift (fun _ => G_iconst C dX10_readToken_14 (v := 2) rfl) ?_
  refine GO_icmp_ne C 43 dX10_readToken_15 rfl (fun h1 => ?_) (fun h1 => ?_)
  · refine GO.lift (fun _ => G_iload_n C 0 dX10_readToken_18 rfl) ?_
    refine GO.lift (fun _ => G_aload_n C 1 dX10_readToken_19 rfl) ?_
    refine GO.lift (fun _ => G_get C 0 1 dX10_readToken_20 inlX10 uf_X10_13 rfl (by decide) rfl rfl rfl) ?_
    refine GO.lift (fun _ => G_iconst C dX10_readToken_23 (v := 4) rfl) ?_
    refine GO.lift (fun _ => G_iald C 2 dX10_readToken_24 rfl (by unfold vp_in; decide)) ?_
    refine GO_icmp_ge C 43 dX10_readToken_25 rfl (fun h2 => ?_) (fun h2 => ?_)
    · refine GO.lift (fun _ => G_aload_n C 1 dX10_readToken_28 rfl) ?_
      refine GO.lift (fun _ => G_get C 0 1 dX10_readToken_29 inlX10 uf_X10_13 rfl (by decide) rfl rfl rfl) ?_
      refine GO.lift (fun _ => G_iload_n C 0 dX10_readToken_32 rfl) ?_
      refine GO.bind (fun r2 hr2 => ?_)
      refine GO.lift (fun _ => G_callSi C kd_X10_isOpen ut_X10_isOpen um_X10_73 (Ct.to (r' := (some (.int r2), mo_W K b r1)) (Ct.from (c_X10_isOpen l K (ws := mo_W K b r1) (q := 2) (ad := b 2) (Nat.le_of_ble_eq_true rfl) (r1 1) (r1 8 7) r2 hr2) rfl) rfl) dX10_readToken_33 rfl rfl (Nat.le_of_ble_eq_true rfl) (Nat.le_of_ble_eq_true rfl)) ?_
      refine GO_if_eq C 43 dX10_readToken_36 rfl (fun h3 => ?_) (fun h3 => ?_)
      · refine GO.sub [1, 0] rfl ?_
        exact g_X10_readToken_L43 C r1 (r1 8 7)
      · refine GO.lift (fun _ => G_iconst C dX10_readToken_39 (v := 1) rfl) ?_
        refine GO.lift (fun _ => G_goto C 44 dX10_readToken_40 rfl) ?_
        refine GO.sub [1, 0] rfl ?_
        exact g_X10_readToken_L44 C r1 (r1 8 7) 1
    · refine GO.sub [1, 0] rfl ?_
      exact g_X10_readToken_L43 C r1 (r1 8 7)
  · refine GO.sub [1, 0] rfl ?_
    exact g_X10_readToken_L43 C r1 (r1 8 7)
/-! X10_load -/
theorem kd_X10_load : Card yX10_load cX10_load 2 (some .int) 0 := ⟨uc_X10_load, un_X10, ⟨by decide, by decide, by decide⟩, by decide⟩
def o_X10_load_L232 : Nat → SM → Int32 → Option (Int32 × SM)
  | 0, _, _ => none
  | fuel + 1, X, x1 => if x1 < 2 then if gin x1 2 = true then (lt1 (sU X 5 (upd (X 5) x1.toNatClampNeg (vp_nar .boolean 0))) (fun r1 => o_X10_load_L232 fuel r1 (x1 + 1))) else none else some (((X 0) (4 : Int32).toNatClampNeg, X))
theorem g_X10_load_L232 {l : Launch} {K : gK} {Γ : gT} {b : Nat → Nat} (C : Cx l K Γ RX10 cX10_load 2 (some .int) 6) : ∀ (k : Nat) (X : SM) (x1 : Int32), GO l K Γ (mo_W K b X) 232 2 [(0, .ref (b 0)), (1, .int x1)] [] (fun (z : Int32 × SM) => (some (.int z.1), mo_W K b z.2)) (o_X10_load_L232 k X x1) := by
  intro k
  induction k with
  | zero =>
    intro X x1
    exact fun r hr => nomatch hr
  | succ k ih =>
    intro X x1
    rw [o_X10_load_L232]
    refine GO.lift (fun _ => G_iload_n C 1 dX10_load_232 rfl) ?_
    refine GO.lift (fun _ => G_iconst C dX10_load_233 (v := 2) rfl) ?_
    refine GO_icmp_ge C 250 dX10_load_234 rfl (fun h1 => ?_) (fun h1 => ?_)
    · refine GO.lift (fun _ => G_aload_n C 0 dX10_load_237 rfl) ?_
      refine GO.lift (fun _ => G_get C 0 5 dX10_load_238 inlX10 uf_X10_25 rfl (by decide) rfl rfl rfl) ?_
      refine GO.lift (fun _ => G_iload_n C 1 dX10_load_241 rfl) ?_
      refine GO.lift (fun _ => G_iconst C dX10_load_242 (v := 0) rfl) ?_
      refine GO.guard (fun h2 => ?_)
      refine GO.letS (fun r1 hr1 => ?_)
      refine GO.lift (fun _ => G_zast (ws' := mo_W K b r1) C 6 dX10_load_243 rfl (gin_in h2) (by cases hr1; rfl)) ?_
      refine GO.lift (fun _ => G_iinc (lv' := [(1, .int (x1 + 1)), (0, .ref (b 0))]) C 1 dX10_load_244 rfl rfl (by decide) rfl) ?_
      refine GO.lift (fun _ => G_goto C 232 dX10_load_247 rfl) ?_
      refine GO.sub [1, 0] rfl ?_
      exact ih r1 (x1 + 1)
    · refine GO.lift (fun _ => G_aload_n C 0 dX10_load_250 rfl) ?_
      refine GO.lift (fun _ => G_get C 0 0 dX10_load_251 inlX10 uf_X10_7 rfl (by decide) rfl rfl rfl) ?_
      refine GO.lift (fun _ => G_iconst C dX10_load_254 (v := 4) rfl) ?_
      refine GO.lift (fun _ => G_iald C 1 dX10_load_255 rfl (by unfold vp_in; decide)) ?_
      exact GO.fin (G_iret C dX10_load_256 rfl)
def o_X10_load_L198 (X : SM) (x1 : Int32) : Option (Int32 × SM) := lt1 (sU X 8 (upd (X 8) 1 0)) (fun r1 => if (r1 8 8) = 0 then (o_X10_layRow2 336 336 (r1 1) (r1 0) 0 0).bind (fun r2 => lt1 (sU r1 0 r2) (fun r3 => lt1 (sU r3 8 (upd (r3 8) 0 0)) (fun r4 => o_X10_load_L232 4000 r4 0))) else some ((-1, r1)))
theorem g_X10_load_L198 {l : Launch} {K : gK} {Γ : gT} {b : Nat → Nat} (C : Cx l K Γ RX10 cX10_load 2 (some .int) 6) (X : SM) (x1 : Int32) : GO l K Γ (mo_W K b X) 198 2 [(0, .ref (b 0)), (1, .int x1)] [] (fun (z : Int32 × SM) => (some (.int z.1), mo_W K b z.2)) (o_X10_load_L198 X x1) := by
  unfold o_X10_load_L198
  refine GO.lift (fun _ => G_aload_n C 0 dX10_load_198 rfl) ?_
  refine GO.lift (fun _ => G_iconst C dX10_load_199 (v := 0) rfl) ?_
  refine GO.letS (fun r1 hr1 => ?_)
  refine GO.lift (fun _ => G_put (ws' := mo_W K b r1) C 0 8 tyX10 .int dX10_load_200 inlX10 uf_X10_139 tyX10_ok nmX10 rfl (by decide) rfl rfl rfl rfl rfl rfl (Nat.le_of_ble_eq_true rfl) (by cases hr1; rfl)) ?_
  refine GO.lift (fun _ => G_aload_n C 0 dX10_load_203 rfl) ?_
  refine GO.lift (fun _ => G_get C 0 15 dX10_load_204 inlX10 uf_X10_167 rfl (by decide) rfl rfl rfl) ?_
  refine GO_if_eq C 212 dX10_load_207 rfl (fun h1 => ?_) (fun h1 => ?_)
  · refine GO.lift (fun _ => G_aload_n C 0 dX10_load_212 rfl) ?_
    refine GO.lift (fun _ => G_get C 0 1 dX10_load_213 inlX10 uf_X10_13 rfl (by decide) rfl rfl rfl) ?_
    refine GO.lift (fun _ => G_iconst C dX10_load_216 (v := 0) rfl) ?_
    refine GO.lift (fun _ => G_aload_n C 0 dX10_load_217 rfl) ?_
    refine GO.lift (fun _ => G_get C 0 0 dX10_load_218 inlX10 uf_X10_7 rfl (by decide) rfl rfl rfl) ?_
    refine GO.lift (fun _ => G_iconst C dX10_load_221 (v := 0) rfl) ?_
    refine GO.bind (fun r2 hr2 => ?_)
    refine GO.letS (fun r3 hr3 => ?_)
    refine GO.lift (fun _ => G_callSv C kd_X10_layRow ut_X10_layRow um_X10_50 (Ct.to (r' := (none, mo_W K b r3)) (Ct.from (c_X10_layRow2 l K (ws := mo_W K b r1) (q := 1) (ad := b 1) (q0 := 2) (ad0 := b 2) (Nat.le_of_ble_eq_true rfl) 336 336 (r1 1) rfl (by decide) (r1 0) 0 0 r2 hr2) rfl) (by cases hr3; rfl)) dX10_load_222 rfl rfl (Nat.le_of_ble_eq_true rfl) (Nat.le_of_ble_eq_true rfl)) ?_
    refine GO.lift (fun _ => G_aload_n C 0 dX10_load_225 rfl) ?_
    refine GO.lift (fun _ => G_iconst C dX10_load_226 (v := 0) rfl) ?_
    refine GO.letS (fun r4 hr4 => ?_)
    refine GO.lift (fun _ => G_put (ws' := mo_W K b r4) C 0 6 tyX10 .int dX10_load_227 inlX10 uf_X10_209 tyX10_ok nmX10 rfl (by decide) rfl rfl rfl rfl rfl rfl (Nat.le_of_ble_eq_true rfl) (by cases hr4; rfl)) ?_
    refine GO.lift (fun _ => G_iconst C dX10_load_230 (v := 0) rfl) ?_
    refine GO.lift (fun _ => G_istore_n (lv' := [(1, .int 0), (0, .ref (b 0))]) C dX10_load_231 (by decide) rfl) ?_
    refine GO.sub [1, 0] rfl ?_
    exact g_X10_load_L232 C _ r4 0
  · refine GO.lift (fun _ => G_iconst C dX10_load_210 (v := -1) rfl) ?_
    exact GO.fin (G_iret C dX10_load_211 rfl)
def o_X10_load_L178 (X : SM) (x1 : Int32) : Option (Int32 × SM) := if (X 8 8) = 0 then if (X 8 6) = 0 then o_X10_load_L198 X x1 else (o_X10_takes X 0).bind (fun r1 => o_X10_load_L198 r1.2 x1) else o_X10_load_L198 X x1
theorem g_X10_load_L178 {l : Launch} {K : gK} {Γ : gT} {b : Nat → Nat} (C : Cx l K Γ RX10 cX10_load 2 (some .int) 6) (X : SM) (x1 : Int32) : GO l K Γ (mo_W K b X) 178 2 [(0, .ref (b 0)), (1, .int x1)] [] (fun (z : Int32 × SM) => (some (.int z.1), mo_W K b z.2)) (o_X10_load_L178 X x1) := by
  unfold o_X10_load_L178
  refine GO.lift (fun _ => G_aload_n C 0 dX10_load_178 rfl) ?_
  refine GO.lift (fun _ => G_get C 0 15 dX10_load_179 inlX10 uf_X10_167 rfl (by decide) rfl rfl rfl) ?_
  refine GO_if_ne C 198 dX10_load_182 rfl (fun h1 => ?_) (fun h1 => ?_)
  · refine GO.lift (fun _ => G_aload_n C 0 dX10_load_185 rfl) ?_
    refine GO.lift (fun _ => G_get C 0 13 dX10_load_186 inlX10 uf_X10_151 rfl (by decide) rfl rfl rfl) ?_
    refine GO_if_eq C 198 dX10_load_189 rfl (fun h2 => ?_) (fun h2 => ?_)
    · refine GO.sub [0, 1] rfl ?_
      exact g_X10_load_L198 C X x1
    · refine GO.lift (fun _ => G_aload_n C 0 dX10_load_192 rfl) ?_
      refine GO.lift (fun _ => G_iconst C dX10_load_193 (v := 0) rfl) ?_
      refine GO.bind (fun r1 hr1 => ?_)
      refine GO.lift (fun _ => G_callVi C 0 10 kd_X10_takes ui_X10_takes us_X10_takes um_X10_174 rfl rfl (c_X10_takes l K b X 0 r1 hr1) dX10_load_194 rfl rfl (Nat.le_of_ble_eq_true rfl) (Nat.le_of_ble_eq_true rfl)) ?_
      refine GO.lift (fun _ => G_pop C dX10_load_197 rfl) ?_
      refine GO.sub [0, 1] rfl ?_
      exact g_X10_load_L198 C r1.2 x1
  · refine GO.sub [0, 1] rfl ?_
    exact g_X10_load_L198 C X x1
def o_X10_load_L158 (X : SM) (x1 : Int32) : Option (Int32 × SM) := if (X 8 8) = 0 then (o_X10_is X 10932233).bind (fun r1 => if r1 = 0 then o_X10_load_L178 X x1 else (o_X10_readToken X ).bind (fun r2 => o_X10_load_L178 r2 x1)) else o_X10_load_L178 X x1
theorem g_X10_load_L158 {l : Launch} {K : gK} {Γ : gT} {b : Nat → Nat} (C : Cx l K Γ RX10 cX10_load 2 (some .int) 6) (X : SM) (x1 : Int32) : GO l K Γ (mo_W K b X) 158 2 [(0, .ref (b 0)), (1, .int x1)] [] (fun (z : Int32 × SM) => (some (.int z.1), mo_W K b z.2)) (o_X10_load_L158 X x1) := by
  unfold o_X10_load_L158
  refine GO.lift (fun _ => G_aload_n C 0 dX10_load_158 rfl) ?_
  refine GO.lift (fun _ => G_get C 0 15 dX10_load_159 inlX10 uf_X10_167 rfl (by decide) rfl rfl rfl) ?_
  refine GO_if_ne C 178 dX10_load_162 rfl (fun h1 => ?_) (fun h1 => ?_)
  · refine GO.lift (fun _ => G_aload_n C 0 dX10_load_165 rfl) ?_
    refine GO.lift (fun _ => G_ldc C dX10_load_166 uk_X10_205) ?_
    refine GO.bind (fun r1 hr1 => ?_)
    refine GO.lift (fun _ => G_callVi C 0 10 kd_X10_is ui_X10_is us_X10_is um_X10_178 rfl rfl (c_X10_is l K b X 10932233 r1 hr1) dX10_load_168 rfl rfl (Nat.le_of_ble_eq_true rfl) (Nat.le_of_ble_eq_true rfl)) ?_
    refine GO_if_eq C 178 dX10_load_171 rfl (fun h2 => ?_) (fun h2 => ?_)
    · refine GO.sub [0, 1] rfl ?_
      exact g_X10_load_L178 C X x1
    · refine GO.lift (fun _ => G_aload_n C 0 dX10_load_174 rfl) ?_
      refine GO.bind (fun r2 hr2 => ?_)
      refine GO.lift (fun _ => G_callVv C 0 10 kd_X10_readToken ui_X10_readToken us_X10_readToken um_X10_206 rfl rfl (c_X10_readToken l K b X  r2 hr2) dX10_load_175 rfl rfl (Nat.le_of_ble_eq_true rfl) (Nat.le_of_ble_eq_true rfl)) ?_
      refine GO.sub [0, 1] rfl ?_
      exact g_X10_load_L178 C r2 x1
  · refine GO.sub [0, 1] rfl ?_
    exact g_X10_load_L178 C X x1
def o_X10_load_L135 : Nat → SM → Int32 → Option (Int32 × SM)
  | 0, _, _ => none
  | fuel + 1, X, x1 => if (X 8 8) = 0 then (o_X10_is X 175252482).bind (fun r1 => if r1 = 0 then o_X10_load_L158 X x1 else (o_X10_readLetter X ).bind (fun r2 => o_X10_load_L135 fuel r2 x1)) else o_X10_load_L158 X x1
theorem g_X10_load_L135 {l : Launch} {K : gK} {Γ : gT} {b : Nat → Nat} (C : Cx l K Γ RX10 cX10_load 2 (some .int) 6) : ∀ (k : Nat) (X : SM) (x1 : Int32), GO l K Γ (mo_W K b X) 135 2 [(0, .ref (b 0)), (1, .int x1)] [] (fun (z : Int32 × SM) => (some (.int z.1), mo_W K b z.2)) (o_X10_load_L135 k X x1) := by
  intro k
  induction k with
  | zero =>
    intro X x1
    exact fun r hr => nomatch hr
  | succ k ih =>
    intro X x1
    rw [o_X10_load_L135]
    refine GO.lift (fun _ => G_aload_n C 0 dX10_load_135 rfl) ?_
    refine GO.lift (fun _ => G_get C 0 15 dX10_load_136 inlX10 uf_X10_167 rfl (by decide) rfl rfl rfl) ?_
    refine GO_if_ne C 158 dX10_load_139 rfl (fun h1 => ?_) (fun h1 => ?_)
    · refine GO.lift (fun _ => G_aload_n C 0 dX10_load_142 rfl) ?_
      refine GO.lift (fun _ => G_ldc C dX10_load_143 uk_X10_201) ?_
      refine GO.bind (fun r1 hr1 => ?_)
      refine GO.lift (fun _ => G_callVi C 0 10 kd_X10_is ui_X10_is us_X10_is um_X10_178 rfl rfl (c_X10_is l K b X 175252482 r1 hr1) dX10_load_145 rfl rfl (Nat.le_of_ble_eq_true rfl) (Nat.le_of_ble_eq_true rfl)) ?_
      refine GO_if_eq C 158 dX10_load_148 rfl (fun h2 => ?_) (fun h2 => ?_)
      · refine GO.sub [0, 1] rfl ?_
        exact g_X10_load_L158 C X x1
      · refine GO.lift (fun _ => G_aload_n C 0 dX10_load_151 rfl) ?_
        refine GO.bind (fun r2 hr2 => ?_)
        refine GO.lift (fun _ => G_callVv C 0 10 kd_X10_readLetter ui_X10_readLetter us_X10_readLetter um_X10_202 rfl rfl (c_X10_readLetter l K b X  r2 hr2) dX10_load_152 rfl rfl (Nat.le_of_ble_eq_true rfl) (Nat.le_of_ble_eq_true rfl)) ?_
        refine GO.lift (fun _ => G_goto C 135 dX10_load_155 rfl) ?_
        refine GO.sub [0, 1] rfl ?_
        exact ih r2 x1
    · refine GO.sub [0, 1] rfl ?_
      exact g_X10_load_L158 C X x1
def o_X10_load_L102 : Nat → SM → Int32 → Option (Int32 × SM)
  | 0, _, _ => none
  | fuel + 1, X, x1 => if (X 8 8) = 0 then if ((X 1) (4 : Int32).toNatClampNeg) < 2 then (o_X10_readOffice X ).bind (fun r1 => o_X10_load_L102 fuel r1 x1) else (o_X10_is X 218546996).bind (fun r2 => if r2 = 0 then o_X10_load_L135 4000 X x1 else (o_X10_readOffice X ).bind (fun r3 => o_X10_load_L102 fuel r3 x1)) else o_X10_load_L135 4000 X x1
theorem g_X10_load_L102 {l : Launch} {K : gK} {Γ : gT} {b : Nat → Nat} (C : Cx l K Γ RX10 cX10_load 2 (some .int) 6) : ∀ (k : Nat) (X : SM) (x1 : Int32), GO l K Γ (mo_W K b X) 102 2 [(0, .ref (b 0)), (1, .int x1)] [] (fun (z : Int32 × SM) => (some (.int z.1), mo_W K b z.2)) (o_X10_load_L102 k X x1) := by
  intro k
  induction k with
  | zero =>
    intro X x1
    exact fun r hr => nomatch hr
  | succ k ih =>
    intro X x1
    rw [o_X10_load_L102]
    refine GO.lift (fun _ => G_aload_n C 0 dX10_load_102 rfl) ?_
    refine GO.lift (fun _ => G_get C 0 15 dX10_load_103 inlX10 uf_X10_167 rfl (by decide) rfl rfl rfl) ?_
    refine GO_if_ne C 135 dX10_load_106 rfl (fun h1 => ?_) (fun h1 => ?_)
    · refine GO.lift (fun _ => G_aload_n C 0 dX10_load_109 rfl) ?_
      refine GO.lift (fun _ => G_get C 0 1 dX10_load_110 inlX10 uf_X10_13 rfl (by decide) rfl rfl rfl) ?_
      refine GO.lift (fun _ => G_iconst C dX10_load_113 (v := 4) rfl) ?_
      refine GO.lift (fun _ => G_iald C 2 dX10_load_114 rfl (by unfold vp_in; decide)) ?_
      refine GO.lift (fun _ => G_iconst C dX10_load_115 (v := 2) rfl) ?_
      refine GO_icmp_lt C 128 dX10_load_116 rfl (fun h2 => ?_) (fun h2 => ?_)
      · refine GO.lift (fun _ => G_aload_n C 0 dX10_load_128 rfl) ?_
        refine GO.bind (fun r1 hr1 => ?_)
        refine GO.lift (fun _ => G_callVv C 0 10 kd_X10_readOffice ui_X10_readOffice us_X10_readOffice um_X10_198 rfl rfl (c_X10_readOffice l K b X  r1 hr1) dX10_load_129 rfl rfl (Nat.le_of_ble_eq_true rfl) (Nat.le_of_ble_eq_true rfl)) ?_
        refine GO.lift (fun _ => G_goto C 102 dX10_load_132 rfl) ?_
        refine GO.sub [0, 1] rfl ?_
        exact ih r1 x1
      · refine GO.lift (fun _ => G_aload_n C 0 dX10_load_119 rfl) ?_
        refine GO.lift (fun _ => G_ldc C dX10_load_120 uk_X10_184) ?_
        refine GO.bind (fun r2 hr2 => ?_)
        refine GO.lift (fun _ => G_callVi C 0 10 kd_X10_is ui_X10_is us_X10_is um_X10_178 rfl rfl (c_X10_is l K b X 218546996 r2 hr2) dX10_load_122 rfl rfl (Nat.le_of_ble_eq_true rfl) (Nat.le_of_ble_eq_true rfl)) ?_
        refine GO_if_eq C 135 dX10_load_125 rfl (fun h3 => ?_) (fun h3 => ?_)
        · refine GO.sub [0, 1] rfl ?_
          exact g_X10_load_L135 C _ X x1
        · refine GO.lift (fun _ => G_aload_n C 0 dX10_load_128 rfl) ?_
          refine GO.bind (fun r3 hr3 => ?_)
          refine GO.lift (fun _ => G_callVv C 0 10 kd_X10_readOffice ui_X10_readOffice us_X10_readOffice um_X10_198 rfl rfl (c_X10_readOffice l K b X  r3 hr3) dX10_load_129 rfl rfl (Nat.le_of_ble_eq_true rfl) (Nat.le_of_ble_eq_true rfl)) ?_
          refine GO.lift (fun _ => G_goto C 102 dX10_load_132 rfl) ?_
          refine GO.sub [0, 1] rfl ?_
          exact ih r3 x1
    · refine GO.sub [0, 1] rfl ?_
      exact g_X10_load_L135 C _ X x1
def o_X10_load_L98 (X : SM) (x1 : Int32) (t0 : Int32) : Option (Int32 × SM) := (o_X10_takes X t0).bind (fun r1 => o_X10_load_L102 4000 r1.2 x1)
theorem g_X10_load_L98 {l : Launch} {K : gK} {Γ : gT} {b : Nat → Nat} (C : Cx l K Γ RX10 cX10_load 2 (some .int) 6) (X : SM) (x1 : Int32) (t0 : Int32) : GO l K Γ (mo_W K b X) 98 2 [(0, .ref (b 0)), (1, .int x1)] [.int t0, .ref (b 0)] (fun (z : Int32 × SM) => (some (.int z.1), mo_W K b z.2)) (o_X10_load_L98 X x1 t0) := by
  unfold o_X10_load_L98
  refine GO.bind (fun r1 hr1 => ?_)
  refine GO.lift (fun _ => G_callVi C 0 10 kd_X10_takes ui_X10_takes us_X10_takes um_X10_174 rfl rfl (c_X10_takes l K b X t0 r1 hr1) dX10_load_98 rfl rfl (Nat.le_of_ble_eq_true rfl) (Nat.le_of_ble_eq_true rfl)) ?_
  refine GO.lift (fun _ => G_pop C dX10_load_101 rfl) ?_
  refine GO.sub [0, 1] rfl ?_
  exact g_X10_load_L102 C _ r1.2 x1
def o_X10_load_L2 : Nat → SM → Int32 → Option (Int32 × SM)
  | 0, _, _ => none
  | fuel + 1, X, x1 => if x1 < 336 then if gin x1 336 = true then (lt1 (sU X 1 (upd (X 1) x1.toNatClampNeg 0)) (fun r1 => o_X10_load_L2 fuel r1 (x1 + 1))) else none else lt1 (sU X 8 (upd (X 8) 4 0)) (fun r2 => lt1 (sU r2 8 (upd (r2 8) 8 0)) (fun r3 => lt1 (sU r3 8 (upd (r3 8) 2 (-2))) (fun r4 => (o_X10_next r4 ).bind (fun r5 => (o_X10_takesRule r5 10415990 20).bind (fun r6 => lt1 (sU r6.2 1 (upd (r6.2 1) (0 : Int32).toNatClampNeg r6.1)) (fun r7 => (o_X10_takesRule r7 9454556 99).bind (fun r8 => lt1 (sU r8.2 1 (upd (r8.2 1) (1 : Int32).toNatClampNeg r8.1)) (fun r9 => (o_X10_takesRule r9 9459316 60).bind (fun r10 => lt1 (sU r10.2 1 (upd (r10.2 1) (2 : Int32).toNatClampNeg r10.1)) (fun r11 => if (r11 8 6) = 3 then o_X10_load_L98 r11 x1 1 else o_X10_load_L98 r11 x1 0))))))))))
theorem g_X10_load_L2 {l : Launch} {K : gK} {Γ : gT} {b : Nat → Nat} (C : Cx l K Γ RX10 cX10_load 2 (some .int) 6) : ∀ (k : Nat) (X : SM) (x1 : Int32), GO l K Γ (mo_W K b X) 2 2 [(0, .ref (b 0)), (1, .int x1)] [] (fun (z : Int32 × SM) => (some (.int z.1), mo_W K b z.2)) (o_X10_load_L2 k X x1) := by
  intro k
  induction k with
  | zero =>
    intro X x1
    exact fun r hr => nomatch hr
  | succ k ih =>
    intro X x1
    rw [o_X10_load_L2]
    refine GO.lift (fun _ => G_iload_n C 1 dX10_load_2 rfl) ?_
    refine GO.lift (fun _ => G_sipush C dX10_load_3 (v := 336) rfl) ?_
    refine GO_icmp_ge C 22 dX10_load_6 rfl (fun h1 => ?_) (fun h1 => ?_)
    · refine GO.lift (fun _ => G_aload_n C 0 dX10_load_9 rfl) ?_
      refine GO.lift (fun _ => G_get C 0 1 dX10_load_10 inlX10 uf_X10_13 rfl (by decide) rfl rfl rfl) ?_
      refine GO.lift (fun _ => G_iload_n C 1 dX10_load_13 rfl) ?_
      refine GO.lift (fun _ => G_iconst C dX10_load_14 (v := 0) rfl) ?_
      refine GO.guard (fun h2 => ?_)
      refine GO.letS (fun r1 hr1 => ?_)
      refine GO.lift (fun _ => G_iast (ws' := mo_W K b r1) C 2 dX10_load_15 rfl (gin_in h2) (by cases hr1; rfl)) ?_
      refine GO.lift (fun _ => G_iinc (lv' := [(1, .int (x1 + 1)), (0, .ref (b 0))]) C 1 dX10_load_16 rfl rfl (by decide) rfl) ?_
      refine GO.lift (fun _ => G_goto C 2 dX10_load_19 rfl) ?_
      refine GO.sub [1, 0] rfl ?_
      exact ih r1 (x1 + 1)
    · refine GO.lift (fun _ => G_aload_n C 0 dX10_load_22 rfl) ?_
      refine GO.lift (fun _ => G_iconst C dX10_load_23 (v := 0) rfl) ?_
      refine GO.letS (fun r2 hr2 => ?_)
      refine GO.lift (fun _ => G_put (ws' := mo_W K b r2) C 0 11 tyX10 .int dX10_load_24 inlX10 uf_X10_142 tyX10_ok nmX10 rfl (by decide) rfl rfl rfl rfl rfl rfl (Nat.le_of_ble_eq_true rfl) (by cases hr2; rfl)) ?_
      refine GO.lift (fun _ => G_aload_n C 0 dX10_load_27 rfl) ?_
      refine GO.lift (fun _ => G_iconst C dX10_load_28 (v := 0) rfl) ?_
      refine GO.letS (fun r3 hr3 => ?_)
      refine GO.lift (fun _ => G_put (ws' := mo_W K b r3) C 0 15 tyX10 .boolean dX10_load_29 inlX10 uf_X10_167 tyX10_ok nmX10 rfl (by decide) rfl rfl rfl rfl rfl rfl (Nat.le_of_ble_eq_true rfl) (by cases hr3; rfl)) ?_
      refine GO.lift (fun _ => G_aload_n C 0 dX10_load_32 rfl) ?_
      refine GO.lift (fun _ => G_bipush C dX10_load_33 (v := -2) rfl) ?_
      refine GO.letS (fun r4 hr4 => ?_)
      refine GO.lift (fun _ => G_put (ws' := mo_W K b r4) C 0 9 tyX10 .int dX10_load_35 inlX10 uf_X10_32 tyX10_ok nmX10 rfl (by decide) rfl rfl rfl rfl rfl rfl (Nat.le_of_ble_eq_true rfl) (by cases hr4; rfl)) ?_
      refine GO.lift (fun _ => G_aload_n C 0 dX10_load_38 rfl) ?_
      refine GO.bind (fun r5 hr5 => ?_)
      refine GO.lift (fun _ => G_callVv C 0 10 kd_X10_next ui_X10_next us_X10_next um_X10_171 rfl rfl (c_X10_next l K b r4  r5 hr5) dX10_load_39 rfl rfl (Nat.le_of_ble_eq_true rfl) (Nat.le_of_ble_eq_true rfl)) ?_
      refine GO.lift (fun _ => G_aload_n C 0 dX10_load_42 rfl) ?_
      refine GO.lift (fun _ => G_get C 0 1 dX10_load_43 inlX10 uf_X10_13 rfl (by decide) rfl rfl rfl) ?_
      refine GO.lift (fun _ => G_iconst C dX10_load_46 (v := 0) rfl) ?_
      refine GO.lift (fun _ => G_aload_n C 0 dX10_load_47 rfl) ?_
      refine GO.lift (fun _ => G_ldc C dX10_load_48 uk_X10_192) ?_
      refine GO.lift (fun _ => G_bipush C dX10_load_50 (v := 20) rfl) ?_
      refine GO.bind (fun r6 hr6 => ?_)
      refine GO.lift (fun _ => G_callVi C 0 10 kd_X10_takesRule ui_X10_takesRule us_X10_takesRule um_X10_193 rfl rfl (c_X10_takesRule l K b r5 10415990 20 r6 hr6) dX10_load_52 rfl rfl (Nat.le_of_ble_eq_true rfl) (Nat.le_of_ble_eq_true rfl)) ?_
      refine GO.letS (fun r7 hr7 => ?_)
      refine GO.lift (fun _ => G_iast (ws' := mo_W K b r7) C 2 dX10_load_55 rfl (by unfold vp_in; decide) (by cases hr7; rfl)) ?_
      refine GO.lift (fun _ => G_aload_n C 0 dX10_load_56 rfl) ?_
      refine GO.lift (fun _ => G_get C 0 1 dX10_load_57 inlX10 uf_X10_13 rfl (by decide) rfl rfl rfl) ?_
      refine GO.lift (fun _ => G_iconst C dX10_load_60 (v := 1) rfl) ?_
      refine GO.lift (fun _ => G_aload_n C 0 dX10_load_61 rfl) ?_
      refine GO.lift (fun _ => G_ldc C dX10_load_62 uk_X10_196) ?_
      refine GO.lift (fun _ => G_bipush C dX10_load_64 (v := 99) rfl) ?_
      refine GO.bind (fun r8 hr8 => ?_)
      refine GO.lift (fun _ => G_callVi C 0 10 kd_X10_takesRule ui_X10_takesRule us_X10_takesRule um_X10_193 rfl rfl (c_X10_takesRule l K b r7 9454556 99 r8 hr8) dX10_load_66 rfl rfl (Nat.le_of_ble_eq_true rfl) (Nat.le_of_ble_eq_true rfl)) ?_
      refine GO.letS (fun r9 hr9 => ?_)
      refine GO.lift (fun _ => G_iast (ws' := mo_W K b r9) C 2 dX10_load_69 rfl (by unfold vp_in; decide) (by cases hr9; rfl)) ?_
      refine GO.lift (fun _ => G_aload_n C 0 dX10_load_70 rfl) ?_
      refine GO.lift (fun _ => G_get C 0 1 dX10_load_71 inlX10 uf_X10_13 rfl (by decide) rfl rfl rfl) ?_
      refine GO.lift (fun _ => G_iconst C dX10_load_74 (v := 2) rfl) ?_
      refine GO.lift (fun _ => G_aload_n C 0 dX10_load_75 rfl) ?_
      refine GO.lift (fun _ => G_ldc C dX10_load_76 uk_X10_197) ?_
      refine GO.lift (fun _ => G_bipush C dX10_load_78 (v := 60) rfl) ?_
      refine GO.bind (fun r10 hr10 => ?_)
      refine GO.lift (fun _ => G_callVi C 0 10 kd_X10_takesRule ui_X10_takesRule us_X10_takesRule um_X10_193 rfl rfl (c_X10_takesRule l K b r9 9459316 60 r10 hr10) dX10_load_80 rfl rfl (Nat.le_of_ble_eq_true rfl) (Nat.le_of_ble_eq_true rfl)) ?_
      refine GO.letS (fun r11 hr11 => ?_)
      refine GO.lift (fun _ => G_iast (ws' := mo_W K b r11) C 2 dX10_load_83 rfl (by unfold vp_in; decide) (by cases hr11; rfl)) ?_
      refine GO.lift (fun _ => G_aload_n C 0 dX10_load_84 rfl) ?_
      refine GO.lift (fun _ => G_aload_n C 0 dX10_load_85 rfl) ?_
      refine GO.lift (fun _ => G_get C 0 13 dX10_load_86 inlX10 uf_X10_151 rfl (by decide) rfl rfl rfl) ?_
      refine GO.lift (fun _ => G_iconst C dX10_load_89 (v := 3) rfl) ?_
      refine GO_icmp_ne C 97 dX10_load_90 rfl (fun h3 => ?_) (fun h3 => ?_)
      · refine GO.lift (fun _ => G_iconst C dX10_load_93 (v := 1) rfl) ?_
        refine GO.lift (fun _ => G_goto C 98 dX10_load_94 rfl) ?_
        refine GO.sub [0, 1] rfl ?_
        exact g_X10_load_L98 C r11 x1 1
      · refine GO.lift (fun _ => G_iconst C dX10_load_97 (v := 0) rfl) ?_
        refine GO.sub [0, 1] rfl ?_
        exact g_X10_load_L98 C r11 x1 0
def o_X10_load (X : SM) : Option (Int32 × SM) := o_X10_load_L2 4000 X 0
theorem c_X10_load (l : Launch) (K : gK) (b : Nat → Nat) (X : SM) (r : Int32 × SM) (hr : o_X10_load X = some r) : Ct l K yX10_load cX10_load 2 (some .int) 6 [.ref (b 0)] (mo_W K b X) (some (.int r.1), mo_W K b r.2) := by
  refine Ct.of (own := RX10) (fun (z : Int32 × SM) => (some (.int z.1), mo_W K b z.2)) (x := r) (by decide) rfl (Nat.le_of_ble_eq_true rfl) (fun Γ C => GO.out (x := o_X10_load X) ?_ hr)
  unfold o_X10_load
  refine GO.lift (fun _ => G_iconst C dX10_load_0 (v := 0) rfl) ?_
  refine GO.lift (fun _ => G_istore_n (lv' := [(1, .int 0), (0, .ref (b 0))]) C dX10_load_1 (by decide) rfl) ?_
  refine GO.sub [1, 0] rfl ?_
  exact g_X10_load_L2 C _ X 0
/-! X10_keepForUndo -/
theorem kd_X10_keepForUndo : Card yX10_keepForUndo cX10_keepForUndo 2 none 0 := ⟨uc_X10_keepForUndo, un_X10, ⟨by decide, by decide, by decide⟩, by decide⟩
def o_X10_keepForUndo_L56 (X : SM) : Option (SM) := (o_X10_layRow2 2688 336 (X 0) (X 3) 0 (336 * (X 8 0))).bind (fun r1 => lt1 (sU X 3 r1) (fun r2 => lt1 (sU r2 8 (upd (r2 8) 0 ((r2 8 0) + 1))) (fun r3 => some r3)))
theorem g_X10_keepForUndo_L56 {l : Launch} {K : gK} {Γ : gT} {b : Nat → Nat} (C : Cx l K Γ RX10 cX10_keepForUndo 2 none 1) (X : SM) : GO l K Γ (mo_W K b X) 56 2 [(0, .ref (b 0))] [] (fun z => (none, mo_W K b z)) (o_X10_keepForUndo_L56 X) := by
  unfold o_X10_keepForUndo_L56
  refine GO.lift (fun _ => G_aload_n C 0 dX10_keepForUndo_56 rfl) ?_
  refine GO.lift (fun _ => G_get C 0 0 dX10_keepForUndo_57 inlX10 uf_X10_7 rfl (by decide) rfl rfl rfl) ?_
  refine GO.lift (fun _ => G_iconst C dX10_keepForUndo_60 (v := 0) rfl) ?_
  refine GO.lift (fun _ => G_aload_n C 0 dX10_keepForUndo_61 rfl) ?_
  refine GO.lift (fun _ => G_get C 0 3 dX10_keepForUndo_62 inlX10 uf_X10_19 rfl (by decide) rfl rfl rfl) ?_
  refine GO.lift (fun _ => G_sipush C dX10_keepForUndo_65 (v := 336) rfl) ?_
  refine GO.lift (fun _ => G_aload_n C 0 dX10_keepForUndo_68 rfl) ?_
  refine GO.lift (fun _ => G_get C 0 6 dX10_keepForUndo_69 inlX10 uf_X10_209 rfl (by decide) rfl rfl rfl) ?_
  refine GO.lift (fun _ => G_imul C dX10_keepForUndo_72) ?_
  refine GO.bind (fun r1 hr1 => ?_)
  refine GO.letS (fun r2 hr2 => ?_)
  refine GO.lift (fun _ => G_callSv C kd_X10_layRow ut_X10_layRow um_X10_50 (Ct.to (r' := (none, mo_W K b r2)) (Ct.from (c_X10_layRow2 l K (ws := mo_W K b X) (q := 4) (ad := b 4) (q0 := 1) (ad0 := b 1) (Nat.le_of_ble_eq_true rfl) 2688 336 (X 0) rfl (by decide) (X 3) 0 (336 * (X 8 0)) r1 hr1) rfl) (by cases hr2; rfl)) dX10_keepForUndo_73 rfl rfl (Nat.le_of_ble_eq_true rfl) (Nat.le_of_ble_eq_true rfl)) ?_
  refine GO.lift (fun _ => G_aload_n C 0 dX10_keepForUndo_76 rfl) ?_
  refine GO.lift (fun _ => G_dup C dX10_keepForUndo_77 rfl) ?_
  refine GO.lift (fun _ => G_get C 0 6 dX10_keepForUndo_78 inlX10 uf_X10_209 rfl (by decide) rfl rfl rfl) ?_
  refine GO.lift (fun _ => G_iconst C dX10_keepForUndo_81 (v := 1) rfl) ?_
  refine GO.lift (fun _ => G_iadd C dX10_keepForUndo_82) ?_
  refine GO.letS (fun r3 hr3 => ?_)
  refine GO.lift (fun _ => G_put (ws' := mo_W K b r3) C 0 6 tyX10 .int dX10_keepForUndo_83 inlX10 uf_X10_209 tyX10_ok nmX10 rfl (by decide) rfl rfl rfl rfl rfl rfl (Nat.le_of_ble_eq_true rfl) (by cases hr3; rfl)) ?_
  exact GO.fin (G_vret C dX10_keepForUndo_86 rfl)
def o_X10_keepForUndo_L11 : Nat → SM → Int32 → Option (SM)
  | 0, _, _ => none
  | fuel + 1, X, x1 => if x1 < 8 then (o_X10_layRow1 2688 (X 3) (336 * x1) (336 * (x1 - 1))).bind (fun r1 => lt1 (sU X 3 r1) (fun r2 => o_X10_keepForUndo_L11 fuel r2 (x1 + 1))) else lt1 (sU X 8 (upd (X 8) 0 ((X 8 0) - 1))) (fun r3 => o_X10_keepForUndo_L56 r3)
theorem g_X10_keepForUndo_L11 {l : Launch} {K : gK} {Γ : gT} {b : Nat → Nat} (C : Cx l K Γ RX10 cX10_keepForUndo 2 none 1) : ∀ (k : Nat) (X : SM) (x1 : Int32), GO l K Γ (mo_W K b X) 11 2 [(0, .ref (b 0)), (1, .int x1)] [] (fun z => (none, mo_W K b z)) (o_X10_keepForUndo_L11 k X x1) := by
  intro k
  induction k with
  | zero =>
    intro X x1
    exact fun r hr => nomatch hr
  | succ k ih =>
    intro X x1
    rw [o_X10_keepForUndo_L11]
    refine GO.lift (fun _ => G_iload_n C 1 dX10_keepForUndo_11 rfl) ?_
    refine GO.lift (fun _ => G_bipush C dX10_keepForUndo_12 (v := 8) rfl) ?_
    refine GO_icmp_ge C 46 dX10_keepForUndo_14 rfl (fun h1 => ?_) (fun h1 => ?_)
    · refine GO.lift (fun _ => G_aload_n C 0 dX10_keepForUndo_17 rfl) ?_
      refine GO.lift (fun _ => G_get C 0 3 dX10_keepForUndo_18 inlX10 uf_X10_19 rfl (by decide) rfl rfl rfl) ?_
      refine GO.lift (fun _ => G_sipush C dX10_keepForUndo_21 (v := 336) rfl) ?_
      refine GO.lift (fun _ => G_iload_n C 1 dX10_keepForUndo_24 rfl) ?_
      refine GO.lift (fun _ => G_imul C dX10_keepForUndo_25) ?_
      refine GO.lift (fun _ => G_aload_n C 0 dX10_keepForUndo_26 rfl) ?_
      refine GO.lift (fun _ => G_get C 0 3 dX10_keepForUndo_27 inlX10 uf_X10_19 rfl (by decide) rfl rfl rfl) ?_
      refine GO.lift (fun _ => G_sipush C dX10_keepForUndo_30 (v := 336) rfl) ?_
      refine GO.lift (fun _ => G_iload_n C 1 dX10_keepForUndo_33 rfl) ?_
      refine GO.lift (fun _ => G_iconst C dX10_keepForUndo_34 (v := 1) rfl) ?_
      refine GO.lift (fun _ => G_isub C dX10_keepForUndo_35) ?_
      refine GO.lift (fun _ => G_imul C dX10_keepForUndo_36) ?_
      refine GO.bind (fun r1 hr1 => ?_)
      refine GO.letS (fun r2 hr2 => ?_)
      refine GO.lift (fun _ => G_callSv C kd_X10_layRow ut_X10_layRow um_X10_50 (Ct.to (r' := (none, mo_W K b r2)) (Ct.from (c_X10_layRow1 l K (ws := mo_W K b X) (q := 4) (ad := b 4) (Nat.le_of_ble_eq_true rfl) 2688 (X 3) (336 * x1) (336 * (x1 - 1)) r1 hr1) rfl) (by cases hr2; rfl)) dX10_keepForUndo_37 rfl rfl (Nat.le_of_ble_eq_true rfl) (Nat.le_of_ble_eq_true rfl)) ?_
      refine GO.lift (fun _ => G_iinc (lv' := [(1, .int (x1 + 1)), (0, .ref (b 0))]) C 1 dX10_keepForUndo_40 rfl rfl (by decide) rfl) ?_
      refine GO.lift (fun _ => G_goto C 11 dX10_keepForUndo_43 rfl) ?_
      refine GO.sub [1, 0] rfl ?_
      exact ih r2 (x1 + 1)
    · refine GO.lift (fun _ => G_aload_n C 0 dX10_keepForUndo_46 rfl) ?_
      refine GO.lift (fun _ => G_dup C dX10_keepForUndo_47 rfl) ?_
      refine GO.lift (fun _ => G_get C 0 6 dX10_keepForUndo_48 inlX10 uf_X10_209 rfl (by decide) rfl rfl rfl) ?_
      refine GO.lift (fun _ => G_iconst C dX10_keepForUndo_51 (v := 1) rfl) ?_
      refine GO.lift (fun _ => G_isub C dX10_keepForUndo_52) ?_
      refine GO.letS (fun r3 hr3 => ?_)
      refine GO.lift (fun _ => G_put (ws' := mo_W K b r3) C 0 6 tyX10 .int dX10_keepForUndo_53 inlX10 uf_X10_209 tyX10_ok nmX10 rfl (by decide) rfl rfl rfl rfl rfl rfl (Nat.le_of_ble_eq_true rfl) (by cases hr3; rfl)) ?_
      refine GO.sub [0] rfl ?_
      exact g_X10_keepForUndo_L56 C r3
def o_X10_keepForUndo (X : SM) : Option (SM) := if (X 8 0) = 8 then o_X10_keepForUndo_L11 4000 X 1 else o_X10_keepForUndo_L56 X
theorem c_X10_keepForUndo (l : Launch) (K : gK) (b : Nat → Nat) (X : SM) (r : SM) (hr : o_X10_keepForUndo X = some r) : Ct l K yX10_keepForUndo cX10_keepForUndo 2 none 1 [.ref (b 0)] (mo_W K b X) (none, mo_W K b r) := by
  refine Ct.of (own := RX10) (fun z => (none, mo_W K b z)) (x := r) (by decide) rfl (Nat.le_of_ble_eq_true rfl) (fun Γ C => GO.out (x := o_X10_keepForUndo X) ?_ hr)
  unfold o_X10_keepForUndo
  refine GO.lift (fun _ => G_aload_n C 0 dX10_keepForUndo_0 rfl) ?_
  refine GO.lift (fun _ => G_get C 0 6 dX10_keepForUndo_1 inlX10 uf_X10_209 rfl (by decide) rfl rfl rfl) ?_
  refine GO.lift (fun _ => G_bipush C dX10_keepForUndo_4 (v := 8) rfl) ?_
  refine GO_icmp_ne C 56 dX10_keepForUndo_6 rfl (fun h1 => ?_) (fun h1 => ?_)
  · refine GO.lift (fun _ => G_iconst C dX10_keepForUndo_9 (v := 1) rfl) ?_
    refine GO.lift (fun _ => G_istore_n (lv' := [(1, .int 1), (0, .ref (b 0))]) C dX10_keepForUndo_10 (by decide) rfl) ?_
    refine GO.sub [1, 0] rfl ?_
    exact g_X10_keepForUndo_L11 C _ X 1
  · refine GO.sub [0] rfl ?_
    exact g_X10_keepForUndo_L56 C X
/-! X10_letter -/
theorem kd_X10_letter : Card yX10_letter cX10_letter 4 (some .int) 3 := ⟨uc_X10_letter, un_X10, ⟨by decide, by decide, by decide⟩, by decide⟩
def o_X10_letter (X : SM) (x1 : Int32) (x2 : Int32) (x3 : Int32) : Option (Int32 × SM) := (o_X10_isOffice X x1).bind (fun r1 => if r1 = 0 then some ((-1, X)) else (o_X10_isOffice X x2).bind (fun r2 => if r2 = 0 then some ((-1, X)) else if x1 = x2 then some ((-1, X)) else if (v_X10_in x3 1 9) = 0 then some ((-1, X)) else if gin (v_X10_officeAt x1 4) 336 = true then (if ((X 0) (v_X10_officeAt x1 4).toNatClampNeg) = 6 then some ((-3, X)) else (o_X10_keepForUndo X ).bind (fun r3 => (o_X10_addLetter (r3 0) x1 x2 x3).bind (fun r4 => lt1 (sU r3 0 r4) (fun r5 => (o_X10_tells (r5 0) 0 x1 x3).bind (fun r6 => lt1 (sU r5 0 r6) (fun r7 => if gin (v_X10_officeAt x1 4) 336 = true then (some (((r7 0) (v_X10_officeAt x1 4).toNatClampNeg, r7))) else none)))))) else none))
theorem c_X10_letter (l : Launch) (K : gK) (b : Nat → Nat) (X : SM) (x1 : Int32) (x2 : Int32) (x3 : Int32) (r : Int32 × SM) (hr : o_X10_letter X x1 x2 x3 = some r) : Ct l K yX10_letter cX10_letter 4 (some .int) 3 [.ref (b 0), .int x1, .int x2, .int x3] (mo_W K b X) (some (.int r.1), mo_W K b r.2) := by
  refine Ct.of (own := RX10) (fun (z : Int32 × SM) => (some (.int z.1), mo_W K b z.2)) (x := r) (by decide) rfl (Nat.le_of_ble_eq_true rfl) (fun Γ C => GO.out (x := o_X10_letter X x1 x2 x3) ?_ hr)
  unfold o_X10_letter
  refine GO.lift (fun _ => G_aload_n C 0 dX10_letter_0 rfl) ?_
  refine GO.lift (fun _ => G_iload_n C 1 dX10_letter_1 rfl) ?_
  refine GO.bind (fun r1 hr1 => ?_)
  refine GO.lift (fun _ => G_callVi C 0 10 kd_X10_isOffice ui_X10_isOffice us_X10_isOffice um_X10_212 rfl rfl (c_X10_isOffice l K b X x1 r1 hr1) dX10_letter_2 rfl rfl (Nat.le_of_ble_eq_true rfl) (Nat.le_of_ble_eq_true rfl)) ?_
  refine GO_if_eq C 31 dX10_letter_5 rfl (fun h1 => ?_) (fun h1 => ?_)
  · refine GO.lift (fun _ => G_iconst C dX10_letter_31 (v := -1) rfl) ?_
    exact GO.fin (G_iret C dX10_letter_32 rfl)
  · refine GO.lift (fun _ => G_aload_n C 0 dX10_letter_8 rfl) ?_
    refine GO.lift (fun _ => G_iload_n C 2 dX10_letter_9 rfl) ?_
    refine GO.bind (fun r2 hr2 => ?_)
    refine GO.lift (fun _ => G_callVi C 0 10 kd_X10_isOffice ui_X10_isOffice us_X10_isOffice um_X10_212 rfl rfl (c_X10_isOffice l K b X x2 r2 hr2) dX10_letter_10 rfl rfl (Nat.le_of_ble_eq_true rfl) (Nat.le_of_ble_eq_true rfl)) ?_
    refine GO_if_eq C 31 dX10_letter_13 rfl (fun h2 => ?_) (fun h2 => ?_)
    · refine GO.lift (fun _ => G_iconst C dX10_letter_31 (v := -1) rfl) ?_
      exact GO.fin (G_iret C dX10_letter_32 rfl)
    · refine GO.lift (fun _ => G_iload_n C 1 dX10_letter_16 rfl) ?_
      refine GO.lift (fun _ => G_iload_n C 2 dX10_letter_17 rfl) ?_
      refine GO_icmp_eq C 31 dX10_letter_18 rfl (fun h3 => ?_) (fun h3 => ?_)
      · refine GO.lift (fun _ => G_iconst C dX10_letter_31 (v := -1) rfl) ?_
        exact GO.fin (G_iret C dX10_letter_32 rfl)
      · refine GO.lift (fun _ => G_iload_n C 3 dX10_letter_21 rfl) ?_
        refine GO.lift (fun _ => G_iconst C dX10_letter_22 (v := 1) rfl) ?_
        refine GO.lift (fun _ => G_bipush C dX10_letter_23 (v := 9) rfl) ?_
        refine GO.lift (fun _ => G_callSi C kd_X10_in ut_X10_in um_X10_58 (c_X10_in l K (mo_W K b X) x3 1 9) dX10_letter_25 rfl rfl (Nat.le_of_ble_eq_true rfl) (Nat.le_of_ble_eq_true rfl)) ?_
        refine GO_if_ne C 33 dX10_letter_28 rfl (fun h4 => ?_) (fun h4 => ?_)
        · refine GO.lift (fun _ => G_iconst C dX10_letter_31 (v := -1) rfl) ?_
          exact GO.fin (G_iret C dX10_letter_32 rfl)
        · refine GO.lift (fun _ => G_aload_n C 0 dX10_letter_33 rfl) ?_
          refine GO.lift (fun _ => G_get C 0 0 dX10_letter_34 inlX10 uf_X10_7 rfl (by decide) rfl rfl rfl) ?_
          refine GO.lift (fun _ => G_iload_n C 1 dX10_letter_37 rfl) ?_
          refine GO.lift (fun _ => G_iconst C dX10_letter_38 (v := 4) rfl) ?_
          refine GO.lift (fun _ => G_callSi C kd_X10_officeAt ut_X10_officeAt um_X10_54 (c_X10_officeAt l K (mo_W K b X) x1 4) dX10_letter_39 rfl rfl (Nat.le_of_ble_eq_true rfl) (Nat.le_of_ble_eq_true rfl)) ?_
          refine GO.guard (fun h5 => ?_)
          refine GO.lift (fun _ => G_iald C 1 dX10_letter_42 rfl (gin_in h5)) ?_
          refine GO.lift (fun _ => G_bipush C dX10_letter_43 (v := 6) rfl) ?_
          refine GO_icmp_ne C 51 dX10_letter_45 rfl (fun h6 => ?_) (fun h6 => ?_)
          · refine GO.lift (fun _ => G_bipush C dX10_letter_48 (v := -3) rfl) ?_
            exact GO.fin (G_iret C dX10_letter_50 rfl)
          · refine GO.lift (fun _ => G_aload_n C 0 dX10_letter_51 rfl) ?_
            refine GO.bind (fun r3 hr3 => ?_)
            refine GO.lift (fun _ => G_callVv C 0 10 kd_X10_keepForUndo ui_X10_keepForUndo us_X10_keepForUndo um_X10_215 rfl rfl (c_X10_keepForUndo l K b X  r3 hr3) dX10_letter_52 rfl rfl (Nat.le_of_ble_eq_true rfl) (Nat.le_of_ble_eq_true rfl)) ?_
            refine GO.lift (fun _ => G_aload_n C 0 dX10_letter_55 rfl) ?_
            refine GO.lift (fun _ => G_get C 0 0 dX10_letter_56 inlX10 uf_X10_7 rfl (by decide) rfl rfl rfl) ?_
            refine GO.lift (fun _ => G_iload_n C 1 dX10_letter_59 rfl) ?_
            refine GO.lift (fun _ => G_iload_n C 2 dX10_letter_60 rfl) ?_
            refine GO.lift (fun _ => G_iload_n C 3 dX10_letter_61 rfl) ?_
            refine GO.bind (fun r4 hr4 => ?_)
            refine GO.letS (fun r5 hr5 => ?_)
            refine GO.lift (fun _ => G_callSv C kd_X10_addLetter ut_X10_addLetter um_X10_189 (Ct.to (r' := (none, mo_W K b r5)) (Ct.from (c_X10_addLetter l K (ws := mo_W K b r3) (q := 1) (ad := b 1) (Nat.le_of_ble_eq_true rfl) (r3 0) x1 x2 x3 r4 hr4) rfl) (by cases hr5; rfl)) dX10_letter_62 rfl rfl (Nat.le_of_ble_eq_true rfl) (Nat.le_of_ble_eq_true rfl)) ?_
            refine GO.lift (fun _ => G_aload_n C 0 dX10_letter_65 rfl) ?_
            refine GO.lift (fun _ => G_get C 0 0 dX10_letter_66 inlX10 uf_X10_7 rfl (by decide) rfl rfl rfl) ?_
            refine GO.lift (fun _ => G_iconst C dX10_letter_69 (v := 0) rfl) ?_
            refine GO.lift (fun _ => G_iload_n C 1 dX10_letter_70 rfl) ?_
            refine GO.lift (fun _ => G_iload_n C 3 dX10_letter_71 rfl) ?_
            refine GO.bind (fun r6 hr6 => ?_)
            refine GO.letS (fun r7 hr7 => ?_)
            refine GO.lift (fun _ => G_callSv C kd_X10_tells ut_X10_tells um_X10_88 (Ct.to (r' := (none, mo_W K b r7)) (Ct.from (c_X10_tells l K (ws := mo_W K b r5) (q := 1) (ad := b 1) (Nat.le_of_ble_eq_true rfl) (r5 0) 0 x1 x3 r6 hr6) rfl) (by cases hr7; rfl)) dX10_letter_72 rfl rfl (Nat.le_of_ble_eq_true rfl) (Nat.le_of_ble_eq_true rfl)) ?_
            refine GO.lift (fun _ => G_aload_n C 0 dX10_letter_75 rfl) ?_
            refine GO.lift (fun _ => G_get C 0 0 dX10_letter_76 inlX10 uf_X10_7 rfl (by decide) rfl rfl rfl) ?_
            refine GO.lift (fun _ => G_iload_n C 1 dX10_letter_79 rfl) ?_
            refine GO.lift (fun _ => G_iconst C dX10_letter_80 (v := 4) rfl) ?_
            refine GO.lift (fun _ => G_callSi C kd_X10_officeAt ut_X10_officeAt um_X10_54 (c_X10_officeAt l K (mo_W K b r7) x1 4) dX10_letter_81 rfl rfl (Nat.le_of_ble_eq_true rfl) (Nat.le_of_ble_eq_true rfl)) ?_
            refine GO.guard (fun h7 => ?_)
            refine GO.lift (fun _ => G_iald C 1 dX10_letter_84 rfl (gin_in h7)) ?_
            exact GO.fin (G_iret C dX10_letter_85 rfl)
/-! X10_leftAt -/
theorem kd_X10_leftAt : Card yX10_leftAt cX10_leftAt 3 (some .int) 1 := ⟨uc_X10_leftAt, un_X10, ⟨by decide, by decide, by decide⟩, by decide⟩
def o_X10_leftAt (X : SM) (x1 : Int32) : Option (Int32) := (o_X10_tokenOn (X 0) x1 0).bind (fun r1 => if r1 < 0 then some 0 else if gin (v_X10_tokenAt r1 4) 336 = true then (some ((X 0) (v_X10_tokenAt r1 4).toNatClampNeg)) else none)
theorem c_X10_leftAt (l : Launch) (K : gK) (b : Nat → Nat) (X : SM) (x1 : Int32) (r : Int32) (hr : o_X10_leftAt X x1 = some r) : Ct l K yX10_leftAt cX10_leftAt 3 (some .int) 3 [.ref (b 0), .int x1] (mo_W K b X) (some (.int r), mo_W K b X) := by
  refine Ct.of (own := RX10) (fun z => (some (.int z), mo_W K b X)) (x := r) (by decide) rfl (Nat.le_of_ble_eq_true rfl) (fun Γ C => GO.out (x := o_X10_leftAt X x1) ?_ hr)
  unfold o_X10_leftAt
  refine GO.lift (fun _ => G_aload_n C 0 dX10_leftAt_0 rfl) ?_
  refine GO.lift (fun _ => G_get C 0 0 dX10_leftAt_1 inlX10 uf_X10_7 rfl (by decide) rfl rfl rfl) ?_
  refine GO.lift (fun _ => G_iload_n C 1 dX10_leftAt_4 rfl) ?_
  refine GO.lift (fun _ => G_iconst C dX10_leftAt_5 (v := 0) rfl) ?_
  refine GO.bind (fun r1 hr1 => ?_)
  refine GO.lift (fun _ => G_callSi C kd_X10_tokenOn ut_X10_tokenOn um_X10_107 (Ct.to (r' := (some (.int r1), mo_W K b X)) (Ct.from (c_X10_tokenOn l K (ws := mo_W K b X) (q := 1) (ad := b 1) (Nat.le_of_ble_eq_true rfl) (X 0) x1 0 r1 hr1) rfl) rfl) dX10_leftAt_6 rfl rfl (Nat.le_of_ble_eq_true rfl) (Nat.le_of_ble_eq_true rfl)) ?_
  refine GO.lift (fun _ => G_istore_n (lv' := [(2, .int r1), (0, .ref (b 0)), (1, .int x1)]) C dX10_leftAt_9 (by decide) rfl) ?_
  refine GO.lift (fun _ => G_iload_n C 0 dX10_leftAt_10 rfl) ?_
  refine GO_if_ge C 18 dX10_leftAt_11 rfl (fun h1 => ?_) (fun h1 => ?_)
  · refine GO.lift (fun _ => G_iconst C dX10_leftAt_14 (v := 0) rfl) ?_
    refine GO.lift (fun _ => G_goto C 28 dX10_leftAt_15 rfl) ?_
    exact GO.fin (G_iret C dX10_leftAt_28 rfl)
  · refine GO.lift (fun _ => G_aload_n C 1 dX10_leftAt_18 rfl) ?_
    refine GO.lift (fun _ => G_get C 0 0 dX10_leftAt_19 inlX10 uf_X10_7 rfl (by decide) rfl rfl rfl) ?_
    refine GO.lift (fun _ => G_iload_n C 0 dX10_leftAt_22 rfl) ?_
    refine GO.lift (fun _ => G_iconst C dX10_leftAt_23 (v := 4) rfl) ?_
    refine GO.lift (fun _ => G_callSi C kd_X10_tokenAt ut_X10_tokenAt um_X10_66 (c_X10_tokenAt l K (mo_W K b X) r1 4) dX10_leftAt_24 rfl rfl (Nat.le_of_ble_eq_true rfl) (Nat.le_of_ble_eq_true rfl)) ?_
    refine GO.guard (fun h2 => ?_)
    refine GO.lift (fun _ => G_iald C 1 dX10_leftAt_27 rfl (gin_in h2)) ?_
    exact GO.fin (G_iret C dX10_leftAt_28 rfl)
/-! X10_cancel -/
theorem kd_X10_cancel : Card yX10_cancel cX10_cancel 4 (some .int) 2 := ⟨uc_X10_cancel, un_X10, ⟨by decide, by decide, by decide⟩, by decide⟩
def o_X10_cancel_L46 (X : SM) (x1 : Int32) (x2 : Int32) : Option (Int32 × SM) := (o_X10_keepForUndo X ).bind (fun r1 => if gin (v_X10_letterAt x1 x2 1) 336 = true then ((o_X10_dropLetter (r1 0) x1 x2).bind (fun r2 => lt1 (sU r1 0 r2) (fun r3 => lt1 (sU r3 0 (upd (r3 0) (11 : Int32).toNatClampNeg (((r3 0) (11 : Int32).toNatClampNeg) + 1))) (fun r4 => (o_X10_tells (r4 0) 9 x1 ((r1 0) (v_X10_letterAt x1 x2 1).toNatClampNeg)).bind (fun r5 => lt1 (sU r4 0 r5) (fun r6 => if gin (v_X10_officeAt x1 4) 336 = true then (some (((r6 0) (v_X10_officeAt x1 4).toNatClampNeg, r6))) else none)))))) else none)
theorem g_X10_cancel_L46 {l : Launch} {K : gK} {Γ : gT} {b : Nat → Nat} (C : Cx l K Γ RX10 cX10_cancel 4 (some .int) 4) (X : SM) (x1 : Int32) (x2 : Int32) : GO l K Γ (mo_W K b X) 46 4 [(0, .ref (b 0)), (1, .int x1), (2, .int x2)] [] (fun (z : Int32 × SM) => (some (.int z.1), mo_W K b z.2)) (o_X10_cancel_L46 X x1 x2) := by
  unfold o_X10_cancel_L46
  refine GO.lift (fun _ => G_aload_n C 0 dX10_cancel_46 rfl) ?_
  refine GO.bind (fun r1 hr1 => ?_)
  refine GO.lift (fun _ => G_callVv C 0 10 kd_X10_keepForUndo ui_X10_keepForUndo us_X10_keepForUndo um_X10_215 rfl rfl (c_X10_keepForUndo l K b X  r1 hr1) dX10_cancel_47 rfl rfl (Nat.le_of_ble_eq_true rfl) (Nat.le_of_ble_eq_true rfl)) ?_
  refine GO.lift (fun _ => G_aload_n C 0 dX10_cancel_50 rfl) ?_
  refine GO.lift (fun _ => G_get C 0 0 dX10_cancel_51 inlX10 uf_X10_7 rfl (by decide) rfl rfl rfl) ?_
  refine GO.lift (fun _ => G_iload_n C 1 dX10_cancel_54 rfl) ?_
  refine GO.lift (fun _ => G_iload_n C 2 dX10_cancel_55 rfl) ?_
  refine GO.lift (fun _ => G_iconst C dX10_cancel_56 (v := 1) rfl) ?_
  refine GO.lift (fun _ => G_callSi C kd_X10_letterAt ut_X10_letterAt um_X10_62 (c_X10_letterAt l K (mo_W K b r1) x1 x2 1) dX10_cancel_57 rfl rfl (Nat.le_of_ble_eq_true rfl) (Nat.le_of_ble_eq_true rfl)) ?_
  refine GO.guard (fun h1 => ?_)
  refine GO.lift (fun _ => G_iald C 1 dX10_cancel_60 rfl (gin_in h1)) ?_
  refine GO.lift (fun _ => G_istore_n (lv' := [(3, .int ((r1 0) (v_X10_letterAt x1 x2 1).toNatClampNeg)), (0, .ref (b 0)), (1, .int x1), (2, .int x2)]) C dX10_cancel_61 (by decide) rfl) ?_
  refine GO.lift (fun _ => G_aload_n C 1 dX10_cancel_62 rfl) ?_
  refine GO.lift (fun _ => G_get C 0 0 dX10_cancel_63 inlX10 uf_X10_7 rfl (by decide) rfl rfl rfl) ?_
  refine GO.lift (fun _ => G_iload_n C 2 dX10_cancel_66 rfl) ?_
  refine GO.lift (fun _ => G_iload_n C 3 dX10_cancel_67 rfl) ?_
  refine GO.bind (fun r2 hr2 => ?_)
  refine GO.letS (fun r3 hr3 => ?_)
  refine GO.lift (fun _ => G_callSv C kd_X10_dropLetter ut_X10_dropLetter um_X10_84 (Ct.to (r' := (none, mo_W K b r3)) (Ct.from (c_X10_dropLetter l K (ws := mo_W K b r1) (q := 1) (ad := b 1) (Nat.le_of_ble_eq_true rfl) (r1 0) x1 x2 r2 hr2) rfl) (by cases hr3; rfl)) dX10_cancel_68 rfl rfl (Nat.le_of_ble_eq_true rfl) (Nat.le_of_ble_eq_true rfl)) ?_
  refine GO.lift (fun _ => G_aload_n C 1 dX10_cancel_71 rfl) ?_
  refine GO.lift (fun _ => G_get C 0 0 dX10_cancel_72 inlX10 uf_X10_7 rfl (by decide) rfl rfl rfl) ?_
  refine GO.lift (fun _ => G_bipush C dX10_cancel_75 (v := 11) rfl) ?_
  refine GO.lift (fun _ => G_dup2 C dX10_cancel_77 rfl rfl) ?_
  refine GO.lift (fun _ => G_iald C 1 dX10_cancel_78 rfl (by unfold vp_in; decide)) ?_
  refine GO.lift (fun _ => G_iconst C dX10_cancel_79 (v := 1) rfl) ?_
  refine GO.lift (fun _ => G_iadd C dX10_cancel_80) ?_
  refine GO.letS (fun r4 hr4 => ?_)
  refine GO.lift (fun _ => G_iast (ws' := mo_W K b r4) C 1 dX10_cancel_81 rfl (by unfold vp_in; decide) (by cases hr4; rfl)) ?_
  refine GO.lift (fun _ => G_aload_n C 1 dX10_cancel_82 rfl) ?_
  refine GO.lift (fun _ => G_get C 0 0 dX10_cancel_83 inlX10 uf_X10_7 rfl (by decide) rfl rfl rfl) ?_
  refine GO.lift (fun _ => G_bipush C dX10_cancel_86 (v := 9) rfl) ?_
  refine GO.lift (fun _ => G_iload_n C 2 dX10_cancel_88 rfl) ?_
  refine GO.lift (fun _ => G_iload_n C 0 dX10_cancel_89 rfl) ?_
  refine GO.bind (fun r5 hr5 => ?_)
  refine GO.letS (fun r6 hr6 => ?_)
  refine GO.lift (fun _ => G_callSv C kd_X10_tells ut_X10_tells um_X10_88 (Ct.to (r' := (none, mo_W K b r6)) (Ct.from (c_X10_tells l K (ws := mo_W K b r4) (q := 1) (ad := b 1) (Nat.le_of_ble_eq_true rfl) (r4 0) 9 x1 ((r1 0) (v_X10_letterAt x1 x2 1).toNatClampNeg) r5 hr5) rfl) (by cases hr6; rfl)) dX10_cancel_90 rfl rfl (Nat.le_of_ble_eq_true rfl) (Nat.le_of_ble_eq_true rfl)) ?_
  refine GO.lift (fun _ => G_aload_n C 1 dX10_cancel_93 rfl) ?_
  refine GO.lift (fun _ => G_get C 0 0 dX10_cancel_94 inlX10 uf_X10_7 rfl (by decide) rfl rfl rfl) ?_
  refine GO.lift (fun _ => G_iload_n C 2 dX10_cancel_97 rfl) ?_
  refine GO.lift (fun _ => G_iconst C dX10_cancel_98 (v := 4) rfl) ?_
  refine GO.lift (fun _ => G_callSi C kd_X10_officeAt ut_X10_officeAt um_X10_54 (c_X10_officeAt l K (mo_W K b r6) x1 4) dX10_cancel_99 rfl rfl (Nat.le_of_ble_eq_true rfl) (Nat.le_of_ble_eq_true rfl)) ?_
  refine GO.guard (fun h2 => ?_)
  refine GO.lift (fun _ => G_iald C 1 dX10_cancel_102 rfl (gin_in h2)) ?_
  exact GO.fin (G_iret C dX10_cancel_103 rfl)
def o_X10_cancel (X : SM) (x1 : Int32) (x2 : Int32) : Option (Int32 × SM) := (o_X10_isOffice X x1).bind (fun r1 => if r1 = 0 then some ((-1, X)) else if x2 < 0 then some ((-1, X)) else if gin (v_X10_officeAt x1 4) 336 = true then (if x2 < ((X 0) (v_X10_officeAt x1 4).toNatClampNeg) then if x2 = 0 then (o_X10_leftAt X x1).bind (fun r2 => if 0 < r2 then some ((-4, X)) else o_X10_cancel_L46 X x1 x2) else o_X10_cancel_L46 X x1 x2 else some ((-2, X))) else none)
theorem c_X10_cancel (l : Launch) (K : gK) (b : Nat → Nat) (X : SM) (x1 : Int32) (x2 : Int32) (r : Int32 × SM) (hr : o_X10_cancel X x1 x2 = some r) : Ct l K yX10_cancel cX10_cancel 4 (some .int) 4 [.ref (b 0), .int x1, .int x2] (mo_W K b X) (some (.int r.1), mo_W K b r.2) := by
  refine Ct.of (own := RX10) (fun (z : Int32 × SM) => (some (.int z.1), mo_W K b z.2)) (x := r) (by decide) rfl (Nat.le_of_ble_eq_true rfl) (fun Γ C => GO.out (x := o_X10_cancel X x1 x2) ?_ hr)
  unfold o_X10_cancel
  refine GO.lift (fun _ => G_aload_n C 0 dX10_cancel_0 rfl) ?_
  refine GO.lift (fun _ => G_iload_n C 1 dX10_cancel_1 rfl) ?_
  refine GO.bind (fun r1 hr1 => ?_)
  refine GO.lift (fun _ => G_callVi C 0 10 kd_X10_isOffice ui_X10_isOffice us_X10_isOffice um_X10_212 rfl rfl (c_X10_isOffice l K b X x1 r1 hr1) dX10_cancel_2 rfl rfl (Nat.le_of_ble_eq_true rfl) (Nat.le_of_ble_eq_true rfl)) ?_
  refine GO_if_eq C 12 dX10_cancel_5 rfl (fun h1 => ?_) (fun h1 => ?_)
  · refine GO.lift (fun _ => G_iconst C dX10_cancel_12 (v := -1) rfl) ?_
    exact GO.fin (G_iret C dX10_cancel_13 rfl)
  · refine GO.lift (fun _ => G_iload_n C 2 dX10_cancel_8 rfl) ?_
    refine GO_if_ge C 14 dX10_cancel_9 rfl (fun h2 => ?_) (fun h2 => ?_)
    · refine GO.lift (fun _ => G_iconst C dX10_cancel_12 (v := -1) rfl) ?_
      exact GO.fin (G_iret C dX10_cancel_13 rfl)
    · refine GO.lift (fun _ => G_iload_n C 2 dX10_cancel_14 rfl) ?_
      refine GO.lift (fun _ => G_aload_n C 0 dX10_cancel_15 rfl) ?_
      refine GO.lift (fun _ => G_get C 0 0 dX10_cancel_16 inlX10 uf_X10_7 rfl (by decide) rfl rfl rfl) ?_
      refine GO.lift (fun _ => G_iload_n C 1 dX10_cancel_19 rfl) ?_
      refine GO.lift (fun _ => G_iconst C dX10_cancel_20 (v := 4) rfl) ?_
      refine GO.lift (fun _ => G_callSi C kd_X10_officeAt ut_X10_officeAt um_X10_54 (c_X10_officeAt l K (mo_W K b X) x1 4) dX10_cancel_21 rfl rfl (Nat.le_of_ble_eq_true rfl) (Nat.le_of_ble_eq_true rfl)) ?_
      refine GO.guard (fun h3 => ?_)
      refine GO.lift (fun _ => G_iald C 1 dX10_cancel_24 rfl (gin_in h3)) ?_
      refine GO_icmp_lt C 31 dX10_cancel_25 rfl (fun h4 => ?_) (fun h4 => ?_)
      · refine GO.lift (fun _ => G_iload_n C 2 dX10_cancel_31 rfl) ?_
        refine GO_if_ne C 46 dX10_cancel_32 rfl (fun h5 => ?_) (fun h5 => ?_)
        · refine GO.lift (fun _ => G_aload_n C 0 dX10_cancel_35 rfl) ?_
          refine GO.lift (fun _ => G_iload_n C 1 dX10_cancel_36 rfl) ?_
          refine GO.bind (fun r2 hr2 => ?_)
          refine GO.lift (fun _ => G_callVi C 0 10 kd_X10_leftAt ui_X10_leftAt us_X10_leftAt um_X10_218 rfl rfl (c_X10_leftAt l K b X x1 r2 hr2) dX10_cancel_37 rfl rfl (Nat.le_of_ble_eq_true rfl) (Nat.le_of_ble_eq_true rfl)) ?_
          refine GO_if_le C 46 dX10_cancel_40 rfl (fun h6 => ?_) (fun h6 => ?_)
          · refine GO.lift (fun _ => G_bipush C dX10_cancel_43 (v := -4) rfl) ?_
            exact GO.fin (G_iret C dX10_cancel_45 rfl)
          · refine GO.sub [0, 1, 2] rfl ?_
            exact g_X10_cancel_L46 C X x1 x2
        · refine GO.sub [0, 1, 2] rfl ?_
          exact g_X10_cancel_L46 C X x1 x2
      · refine GO.lift (fun _ => G_bipush C dX10_cancel_28 (v := -2) rfl) ?_
        exact GO.fin (G_iret C dX10_cancel_30 rfl)
