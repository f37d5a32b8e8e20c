-- PART 26: the law: its rows and its thirty-seven cases
section JL
variable {l : Launch} {K : gK} {Γ : gT} {Q : State → Prop} {cs ss : Nat} {own : String} {cc : ByteArray} {nL : Nat} {ret : Option FieldType} {h : Nat} {ws : va_W} {pc : Nat} {lv : List (Nat × Value)} {st : List Value}
theorem J_sub (ks : List Nat) {lv' : List (Nat × Value)} (hl' : lv_pick lv ks = lv') (k : J l K Γ Q cs ss ws pc nL lv' st) : J l K Γ Q cs ss ws pc nL lv st := by
  obtain ⟨p, e, R, s, m, args, below, meth, c, A⟩ := Γ
  intro H locs ls hP hD hS hl
  exact k H locs ls hP hD hS (lv_sub hl ks hl')
def Lx (Γ : gT) (b L : Nat) (xs : Nat → Int32) : Prop := match Γ with
  | (p, e, R, s, m, args, below, meth, c, A) => va_X b L xs s s.heap ∧ b < s.heap.size ∧ ¬ A b
theorem J_sld (C : Cx l K Γ own cc nL ret h) {b L : Nat} {xs : Nat → Int32} (X : Lx Γ b L xs) {v : Int32} (j : Nat) (hv : v = iN j) (hj : j < L) (hL : L ≤ 3072) (hdg : decode cc pc = .ok (.iaload, 1)) (k : J l K Γ Q cs ss ws (pc + 1) nL lv (.int (xs j) :: st)) : J l K Γ Q cs ss ws pc nL lv (.int v :: .ref b :: st) := by
  obtain ⟨p, e, R, s, m, args, below, meth, c, A⟩ := Γ
  obtain ⟨hx, hb, hml, hown, hts, hr, hlk, hK, hA, hf1, hf2⟩ := C
  obtain ⟨hX, hbl, hbA⟩ := X
  subst hv
  intro H locs ls hP hD hS hl
  have h1 := va_sld (rest := st) hx hb hX hbl hbA hS (iN_vp hj (by omega)) hdg (Q := Q) (p := p) (l := l) (e := e) (R := R) (m := m) (args := args) (below := below) (meth := meth) (cells := cs) (slots := ss) (ls := ls)
  rw [show Int32.toNatClampNeg (iN j) = j from iN_nat (by omega)] at h1
  exact h1 (k H locs ls hP hD hS hl)
theorem J_slen (C : Cx l K Γ own cc nL ret h) {b L : Nat} {xs : Nat → Int32} (X : Lx Γ b L xs) (hdg : decode cc pc = .ok (.arraylength, 1)) (k : J l K Γ Q cs ss ws (pc + 1) nL lv (.int (iN L) :: st)) : J l K Γ Q cs ss ws pc nL lv (.ref b :: st) := by
  obtain ⟨p, e, R, s, m, args, below, meth, c, A⟩ := Γ
  obtain ⟨hx, hb, hml, hown, hts, hr, hlk, hK, hA, hf1, hf2⟩ := C
  obtain ⟨hX, hbl, hbA⟩ := X
  intro H locs ls hP hD hS hl
  exact va_slen hx hb hX hbl hbA hS hdg (k H locs ls hP hD hS hl)
theorem J_f2d (C : Cx l K Γ own cc nL ret h) {x : UInt32} (hn : Jvm.FP.Core.fIsNaN x = false) (hdg : decode cc pc = .ok (.f2d, 1)) (k : J l K Γ Q cs ss ws (pc + 1) nL lv (.double (FP.f2d x) :: st)) : J l K Γ Q cs ss ws pc nL lv (.float x :: st) := by
  obtain ⟨p, e, R, s, m, args, below, meth, c, A⟩ := Γ
  obtain ⟨hx, hb, hml, hown, hts, hr, hlk, hK, hA, hf1, hf2⟩ := C
  intro H locs ls hP hD hS hl
  exact lv_f2d hx hb hdg (fp_n64 (fp_f2d hn)) (k H locs ls hP hD hS hl)
theorem J_dstore (C : Cx l K Γ own cc nL ret h) {i : Nat} {x : UInt64} {lv' : List (Nat × Value)} (hdg : decode cc pc = .ok (.dstore i, 2)) (hn : i + 1 < nL) (hl' : (i, Value.double x) :: lv.filter (fun q => !(q.1 == i) && (!(q.1 == i + 1) && !(q.1 + 1 == i && q.2.category == 2))) = lv') (k : J l K Γ Q cs ss ws (pc + 2) nL lv' st) : J l K Γ Q cs ss ws pc nL lv (.double x :: st) := by
  obtain ⟨p, e, R, s, m, args, below, meth, c, A⟩ := Γ
  obtain ⟨hx, hb, hml, hown, hts, hr, hlk, hK, hA, hf1, hf2⟩ := C
  intro H locs ls hP hD hS hl
  exact lv_dstore hx hb hdg hl hn hl' (fun ls' hl2 => k H locs ls' hP hD hS hl2)
theorem J_dload (C : Cx l K Γ own cc nL ret h) (q : Nat) {i : Nat} {x : UInt64} (hdg : decode cc pc = .ok (.dload i, 2)) (hk : lv[q]? = some (i, .double x)) (k : J l K Γ Q cs ss ws (pc + 2) nL lv (.double x :: st)) : J l K Γ Q cs ss ws pc nL lv st := by
  obtain ⟨p, e, R, s, m, args, below, meth, c, A⟩ := Γ
  obtain ⟨hx, hb, hml, hown, hts, hr, hlk, hK, hA, hf1, hf2⟩ := C
  intro H locs ls hP hD hS hl
  exact lv_dload hx hb hdg (lv_at hl q hk) (k H locs ls hP hD hS hl)
theorem J_dcmpE (C : Cx l K Γ own cc nL ret h) {x : UInt64} {op : CmpOp} (hn : Jvm.FP.Core.dIsNaN x = false) (hdg : decode cc pc = .ok (.dcmp op, 1)) (k : J l K Γ Q cs ss ws (pc + 1) nL lv (.int 0 :: st)) : J l K Γ Q cs ss ws pc nL lv (.double x :: .double x :: st) := by
  obtain ⟨p, e, R, s, m, args, below, meth, c, A⟩ := Γ
  obtain ⟨hx, hb, hml, hown, hts, hr, hlk, hK, hA, hf1, hf2⟩ := C
  intro H locs ls hP hD hS hl
  have h1 := k H locs ls hP hD hS hl
  refine lv_dcmp hx hb hdg ?_
  rw [fp_dcmp hn]
  exact h1
end JL
def lv4 (i a2 a1 b : Nat) : List (Nat × Value) := [(3, .int (iN i)), (2, .ref a2), (1, .ref a1), (0, .ref b)]
set_option maxRecDepth 100000 in
theorem ro_len (K : gK) (A : Nat → Nat → Nat) (Y : RS) : (ro_W K A Y).length = 276 := rfl
theorem recv_ro (K : gK) (A : Nat → Nat → Nat) (Y : RS) (w : va_W) : (ro_W K A Y ++ w)[0]? = some (A 4 0, .inr (9, [.ref (A 0 0), .ref (A 4 1), .ref (A 4 3), .ref (A 2 3), .ref (A 2 0), .ref (A 1 0), .ref (A 3 0), .int (Y 4 0 0)])) := rfl
theorem recv_mo (K : gK) (A : Nat → Nat → Nat) (Y : RS) (b : Nat → Nat) (X : SM) : (ro_W K A Y ++ mo_W K b X)[276]? = some (b 0, .inr (10, [.ref (b 1), .ref (b 2), .ref (b 3), .ref (b 4), .ref (b 5), .ref (b 6), .int (X 8 0), .ref (b 7), .int (X 8 1), .int (X 8 2), .int (X 8 3), .int (X 8 4), .int (X 8 5), .int (X 8 6), .int (X 8 7), .int (X 8 8), .ref (b 8), .int (X 8 9)])) := by
  rw [List.getElem?_append_right (by rw [ro_len]; exact Nat.le_refl _), ro_len]
  rfl
section LAW
variable {l : Launch} {K : gK} {Γ : gT} {Q : State → Prop} {cs ss CM CS : Nat} {rt : Option FieldType} {A : Nat → Nat → Nat} {b' : Nat → Nat} {b L : Nat} {xs : Nat → Int32} {i B : Nat} {Y : RS} {X : SM}
theorem J_arg {ws : va_W} {pc a1 a2 : Nat} {st : List Value} (C : Cx l K Γ RL cL_law 8 rt 14) (Xx : Lx Γ b L xs) (hL : L ≤ 3072) (hi : i + 6 ≤ L) (k : Nat) (hk : k ≤ 5) (d0 : decode cL_law pc = .ok (.aload_n 0, 1)) (d1 : decode cL_law (pc + 1) = .ok (.iload_n 3, 1)) (d2 : decode cL_law (pc + 1 + 1) = .ok (.iconst (k : Int), 1)) (d3 : decode cL_law (pc + 1 + 1 + 1) = .ok (.iadd, 1)) (d4 : decode cL_law (pc + 1 + 1 + 1 + 1) = .ok (.iaload, 1)) (kk : J l K Γ Q cs ss ws (pc + 1 + 1 + 1 + 1 + 1) 8 (lv4 i a2 a1 b) (.int (xs (i + k)) :: st)) : J l K Γ Q cs ss ws pc 8 (lv4 i a2 a1 b) st := by
  refine J_aload_n C 3 d0 rfl ?_
  refine J_iload_n C 0 d1 rfl ?_
  refine J_iconst C d2 (v := iN k) rfl ?_
  refine J_iadd C d3 ?_
  exact J_sld C Xx (i + k) (iN_add i k) (by omega) hL d4 kk
theorem lw_c0 (C : Cx l K Γ RL cL_law 8 rt 14) (Yc : Cy Γ CM CS) (h1 : cs ≤ CM) (h2 : ss ≤ CS) (Xx : Lx Γ b L xs) (hL : L ≤ 3072) (hi : i + 6 ≤ L) (hB1 : 1 ≤ B) (hB : B < 10 ^ 9) (hT : Top B Y X) (kf : ∀ Y' X', Top (B + 100) Y' X' → J l K Γ Q cs ss (ro_W K A Y' ++ mo_W K b' X') 1205 8 (lv4 i (b' 0) (A 4 0) b) []) : J l K Γ Q cs ss (ro_W K A Y ++ mo_W K b' X) 196 8 (lv4 i (b' 0) (A 4 0) b) [] := by
  obtain ⟨X', e, hT'⟩ : OpR (B + 100) (p_X9_append Y (xs (i + 1)) (xs (i + 2)) (xs (i + 3)) (xs (i + 4)) (xs (i + 5))) (o_X10_append X (xs (i + 1)) (xs (i + 2)) (xs (i + 3)) (xs (i + 4)) (xs (i + 5))) := by
    obtain ⟨X', e, hT'⟩ := t_append hT (xs (i + 1)) (xs (i + 2)) (xs (i + 3)) (xs (i + 4)) (xs (i + 5))
    exact ⟨X', e, hT'.mono (by omega)⟩
  have kf := kf _ _ hT'
  refine J_aload_n C 2 dL_law_196 rfl ?_
  refine J_arg C Xx hL hi 1 (by decide) dL_law_197 dL_law_198 dL_law_199 dL_law_200 dL_law_201 ?_
  refine J_arg C Xx hL hi 2 (by decide) dL_law_202 dL_law_203 dL_law_204 dL_law_205 dL_law_206 ?_
  refine J_arg C Xx hL hi 3 (by decide) dL_law_207 dL_law_208 dL_law_209 dL_law_210 dL_law_211 ?_
  refine J_arg C Xx hL hi 4 (by decide) dL_law_212 dL_law_213 dL_law_214 dL_law_215 dL_law_216 ?_
  refine J_arg C Xx hL hi 5 (by decide) dL_law_217 dL_law_218 dL_law_219 dL_law_220 dL_law_221 ?_
  refine J_callV (v := some (.int (p_X9_append Y (xs (i + 1)) (xs (i + 2)) (xs (i + 3)) (xs (i + 4)) (xs (i + 5))).1)) (ws' := ro_W K A (p_X9_append Y (xs (i + 1)) (xs (i + 2)) (xs (i + 3)) (xs (i + 4)) (xs (i + 5))).2 ++ mo_W K b' X) C Yc h1 h2 0 9 kd_X9_append ui_X9_append us_X9_append um_L_13 rfl (recv_ro _ _ _ _) (Ct.left _ (c_X9_append l K A Y (xs (i + 1)) (xs (i + 2)) (xs (i + 3)) (xs (i + 4)) (xs (i + 5)))) dL_law_222 rfl rfl (by decide) (Nat.le_of_ble_eq_true rfl) ?_
  refine J_aload_n C 1 dL_law_225 rfl ?_
  refine J_arg C Xx hL hi 1 (by decide) dL_law_226 dL_law_227 dL_law_228 dL_law_229 dL_law_230 ?_
  refine J_arg C Xx hL hi 2 (by decide) dL_law_231 dL_law_232 dL_law_233 dL_law_234 dL_law_235 ?_
  refine J_arg C Xx hL hi 3 (by decide) dL_law_236 dL_law_237 dL_law_238 dL_law_239 dL_law_240 ?_
  refine J_arg C Xx hL hi 4 (by decide) dL_law_241 dL_law_242 dL_law_243 dL_law_244 dL_law_245 ?_
  refine J_arg C Xx hL hi 5 (by decide) dL_law_246 dL_law_247 dL_law_248 dL_law_249 dL_law_250 ?_
  refine J_callV (v := some (.int (p_X9_append Y (xs (i + 1)) (xs (i + 2)) (xs (i + 3)) (xs (i + 4)) (xs (i + 5))).1)) (ws' := ro_W K A (p_X9_append Y (xs (i + 1)) (xs (i + 2)) (xs (i + 3)) (xs (i + 4)) (xs (i + 5))).2 ++ mo_W K b' X') C Yc h1 h2 276 10 kd_X10_append ui_X10_append us_X10_append um_L_17 rfl (recv_mo _ _ _ _ _) (Ct.right _ (c_X10_append l K b' X (xs (i + 1)) (xs (i + 2)) (xs (i + 3)) (xs (i + 4)) (xs (i + 5)) ((p_X9_append Y (xs (i + 1)) (xs (i + 2)) (xs (i + 3)) (xs (i + 4)) (xs (i + 5))).1, X') e)) dL_law_251 rfl rfl (by decide) (Nat.le_of_ble_eq_true rfl) ?_
  exact J_icmp_eq_y C 1205 rfl dL_law_254 rfl kf
theorem lw_c1 (C : Cx l K Γ RL cL_law 8 rt 14) (Yc : Cy Γ CM CS) (h1 : cs ≤ CM) (h2 : ss ≤ CS) (Xx : Lx Γ b L xs) (hL : L ≤ 3072) (hi : i + 6 ≤ L) (hB1 : 1 ≤ B) (hB : B < 10 ^ 9) (hT : Top B Y X) (kf : ∀ Y' X', Top (B + 100) Y' X' → J l K Γ Q cs ss (ro_W K A Y' ++ mo_W K b' X') 1205 8 (lv4 i (b' 0) (A 4 0) b) []) : J l K Γ Q cs ss (ro_W K A Y ++ mo_W K b' X) 259 8 (lv4 i (b' 0) (A 4 0) b) [] := by
  obtain ⟨X', e, hT'⟩ : OpR (B + 100) (p_X9_truncate Y (xs (i + 1))) (o_X10_truncate X (xs (i + 1))) := by
    obtain ⟨X', e, hT'⟩ := t_truncate hT (xs (i + 1))
    exact ⟨X', e, hT'.mono (by omega)⟩
  have kf := kf _ _ hT'
  refine J_aload_n C 2 dL_law_259 rfl ?_
  refine J_arg C Xx hL hi 1 (by decide) dL_law_260 dL_law_261 dL_law_262 dL_law_263 dL_law_264 ?_
  refine J_callV (v := some (.int (p_X9_truncate Y (xs (i + 1))).1)) (ws' := ro_W K A (p_X9_truncate Y (xs (i + 1))).2 ++ mo_W K b' X) C Yc h1 h2 0 9 kd_X9_truncate ui_X9_truncate us_X9_truncate um_L_18 rfl (recv_ro _ _ _ _) (Ct.left _ (c_X9_truncate l K A Y (xs (i + 1)))) dL_law_265 rfl rfl (by decide) (Nat.le_of_ble_eq_true rfl) ?_
  refine J_aload_n C 1 dL_law_268 rfl ?_
  refine J_arg C Xx hL hi 1 (by decide) dL_law_269 dL_law_270 dL_law_271 dL_law_272 dL_law_273 ?_
  refine J_callV (v := some (.int (p_X9_truncate Y (xs (i + 1))).1)) (ws' := ro_W K A (p_X9_truncate Y (xs (i + 1))).2 ++ mo_W K b' X') C Yc h1 h2 276 10 kd_X10_truncate ui_X10_truncate us_X10_truncate um_L_22 rfl (recv_mo _ _ _ _ _) (Ct.right _ (c_X10_truncate l K b' X (xs (i + 1)) ((p_X9_truncate Y (xs (i + 1))).1, X') e)) dL_law_274 rfl rfl (by decide) (Nat.le_of_ble_eq_true rfl) ?_
  exact J_icmp_eq_y C 1205 rfl dL_law_277 rfl kf
theorem lw_c2 (C : Cx l K Γ RL cL_law 8 rt 14) (Yc : Cy Γ CM CS) (h1 : cs ≤ CM) (h2 : ss ≤ CS) (Xx : Lx Γ b L xs) (hL : L ≤ 3072) (hi : i + 6 ≤ L) (hB1 : 1 ≤ B) (hB : B < 10 ^ 9) (hT : Top B Y X) (kf : ∀ Y' X', Top (B + 100) Y' X' → J l K Γ Q cs ss (ro_W K A Y' ++ mo_W K b' X') 1205 8 (lv4 i (b' 0) (A 4 0) b) []) : J l K Γ Q cs ss (ro_W K A Y ++ mo_W K b' X) 282 8 (lv4 i (b' 0) (A 4 0) b) [] := by
  obtain ⟨X', e, hT'⟩ : OpR (B + 100) (p_X9_load Y ) (o_X10_load X ) := by
    obtain ⟨X', e, hT'⟩ := t_load hT hB1 
    exact ⟨X', e, hT'.mono (by omega)⟩
  have kf := kf _ _ hT'
  refine J_aload_n C 2 dL_law_282 rfl ?_
  refine J_callV (v := some (.int (p_X9_load Y ).1)) (ws' := ro_W K A (p_X9_load Y ).2 ++ mo_W K b' X) C Yc h1 h2 0 9 kd_X9_load ui_X9_load us_X9_load um_L_23 rfl (recv_ro _ _ _ _) (Ct.left _ (c_X9_load l K A Y )) dL_law_283 rfl rfl (by decide) (Nat.le_of_ble_eq_true rfl) ?_
  refine J_aload_n C 1 dL_law_286 rfl ?_
  refine J_callV (v := some (.int (p_X9_load Y ).1)) (ws' := ro_W K A (p_X9_load Y ).2 ++ mo_W K b' X') C Yc h1 h2 276 10 kd_X10_load ui_X10_load us_X10_load um_L_27 rfl (recv_mo _ _ _ _ _) (Ct.right _ (c_X10_load l K b' X  ((p_X9_load Y ).1, X') e)) dL_law_287 rfl rfl (by decide) (Nat.le_of_ble_eq_true rfl) ?_
  exact J_icmp_eq_y C 1205 rfl dL_law_290 rfl kf
theorem lw_c3 (C : Cx l K Γ RL cL_law 8 rt 14) (Yc : Cy Γ CM CS) (h1 : cs ≤ CM) (h2 : ss ≤ CS) (Xx : Lx Γ b L xs) (hL : L ≤ 3072) (hi : i + 6 ≤ L) (hB1 : 1 ≤ B) (hB : B < 10 ^ 9) (hT : Top B Y X) (kf : ∀ Y' X', Top (B + 100) Y' X' → J l K Γ Q cs ss (ro_W K A Y' ++ mo_W K b' X') 1205 8 (lv4 i (b' 0) (A 4 0) b) []) : J l K Γ Q cs ss (ro_W K A Y ++ mo_W K b' X) 295 8 (lv4 i (b' 0) (A 4 0) b) [] := by
  have e : o_X10_errorPosition X  = some (v_X9_errorPosition Y ) := by
    show some (X 8 2) = some (Y 4 0 0)
    rw [hT.2.2.2.2]
  have kf := kf Y X (hT.mono (by omega))
  refine J_aload_n C 2 dL_law_295 rfl ?_
  refine J_callV (v := some (.int (v_X9_errorPosition Y ))) (ws' := ro_W K A Y ++ mo_W K b' X) C Yc h1 h2 0 9 kd_X9_errorPosition ui_X9_errorPosition us_X9_errorPosition um_L_28 rfl (recv_ro _ _ _ _) (Ct.left _ (c_X9_errorPosition l K A Y )) dL_law_296 rfl rfl (by decide) (Nat.le_of_ble_eq_true rfl) ?_
  refine J_aload_n C 1 dL_law_299 rfl ?_
  refine J_callV (v := some (.int (v_X9_errorPosition Y ))) (ws' := ro_W K A Y ++ mo_W K b' X) C Yc h1 h2 276 10 kd_X10_errorPosition ui_X10_errorPosition us_X10_errorPosition um_L_31 rfl (recv_mo _ _ _ _ _) (Ct.right _ (c_X10_errorPosition l K b' X  (v_X9_errorPosition Y ) e)) dL_law_300 rfl rfl (by decide) (Nat.le_of_ble_eq_true rfl) ?_
  exact J_icmp_eq_y C 1205 rfl dL_law_303 rfl kf
theorem lw_c4 (C : Cx l K Γ RL cL_law 8 rt 14) (Yc : Cy Γ CM CS) (h1 : cs ≤ CM) (h2 : ss ≤ CS) (Xx : Lx Γ b L xs) (hL : L ≤ 3072) (hi : i + 6 ≤ L) (hB1 : 1 ≤ B) (hB : B < 10 ^ 9) (hT : Top B Y X) (kf : ∀ Y' X', Top (B + 100) Y' X' → J l K Γ Q cs ss (ro_W K A Y' ++ mo_W K b' X') 1205 8 (lv4 i (b' 0) (A 4 0) b) []) : J l K Γ Q cs ss (ro_W K A Y ++ mo_W K b' X) 308 8 (lv4 i (b' 0) (A 4 0) b) [] := by
  obtain ⟨X', e, hT'⟩ : OpR (B + 100) (p_X9_letter Y (xs (i + 1)) (xs (i + 2)) (xs (i + 3))) (o_X10_letter X (xs (i + 1)) (xs (i + 2)) (xs (i + 3))) := by
    obtain ⟨X', e, hT'⟩ := t_letter hT (xs (i + 1)) (xs (i + 2)) (xs (i + 3))
    exact ⟨X', e, hT'.mono (by omega)⟩
  have kf := kf _ _ hT'
  refine J_aload_n C 2 dL_law_308 rfl ?_
  refine J_arg C Xx hL hi 1 (by decide) dL_law_309 dL_law_310 dL_law_311 dL_law_312 dL_law_313 ?_
  refine J_arg C Xx hL hi 2 (by decide) dL_law_314 dL_law_315 dL_law_316 dL_law_317 dL_law_318 ?_
  refine J_arg C Xx hL hi 3 (by decide) dL_law_319 dL_law_320 dL_law_321 dL_law_322 dL_law_323 ?_
  refine J_callV (v := some (.int (p_X9_letter Y (xs (i + 1)) (xs (i + 2)) (xs (i + 3))).1)) (ws' := ro_W K A (p_X9_letter Y (xs (i + 1)) (xs (i + 2)) (xs (i + 3))).2 ++ mo_W K b' X) C Yc h1 h2 0 9 kd_X9_letter ui_X9_letter us_X9_letter um_L_32 rfl (recv_ro _ _ _ _) (Ct.left _ (c_X9_letter l K A Y (xs (i + 1)) (xs (i + 2)) (xs (i + 3)))) dL_law_324 rfl rfl (by decide) (Nat.le_of_ble_eq_true rfl) ?_
  refine J_aload_n C 1 dL_law_327 rfl ?_
  refine J_arg C Xx hL hi 1 (by decide) dL_law_328 dL_law_329 dL_law_330 dL_law_331 dL_law_332 ?_
  refine J_arg C Xx hL hi 2 (by decide) dL_law_333 dL_law_334 dL_law_335 dL_law_336 dL_law_337 ?_
  refine J_arg C Xx hL hi 3 (by decide) dL_law_338 dL_law_339 dL_law_340 dL_law_341 dL_law_342 ?_
  refine J_callV (v := some (.int (p_X9_letter Y (xs (i + 1)) (xs (i + 2)) (xs (i + 3))).1)) (ws' := ro_W K A (p_X9_letter Y (xs (i + 1)) (xs (i + 2)) (xs (i + 3))).2 ++ mo_W K b' X') C Yc h1 h2 276 10 kd_X10_letter ui_X10_letter us_X10_letter um_L_36 rfl (recv_mo _ _ _ _ _) (Ct.right _ (c_X10_letter l K b' X (xs (i + 1)) (xs (i + 2)) (xs (i + 3)) ((p_X9_letter Y (xs (i + 1)) (xs (i + 2)) (xs (i + 3))).1, X') e)) dL_law_343 rfl rfl (by decide) (Nat.le_of_ble_eq_true rfl) ?_
  exact J_icmp_eq_y C 1205 rfl dL_law_346 rfl kf
theorem lw_c5 (C : Cx l K Γ RL cL_law 8 rt 14) (Yc : Cy Γ CM CS) (h1 : cs ≤ CM) (h2 : ss ≤ CS) (Xx : Lx Γ b L xs) (hL : L ≤ 3072) (hi : i + 6 ≤ L) (hB1 : 1 ≤ B) (hB : B < 10 ^ 9) (hT : Top B Y X) (kf : ∀ Y' X', Top (B + 100) Y' X' → J l K Γ Q cs ss (ro_W K A Y' ++ mo_W K b' X') 1205 8 (lv4 i (b' 0) (A 4 0) b) []) : J l K Γ Q cs ss (ro_W K A Y ++ mo_W K b' X) 351 8 (lv4 i (b' 0) (A 4 0) b) [] := by
  obtain ⟨X', e, hT'⟩ : OpR (B + 100) (p_X9_cancel Y (xs (i + 1)) (xs (i + 2))) (o_X10_cancel X (xs (i + 1)) (xs (i + 2))) := by
    obtain ⟨X', e, hT'⟩ := t_cancel hT (xs (i + 1)) (xs (i + 2))
    exact ⟨X', e, hT'.mono (by omega)⟩
  have kf := kf _ _ hT'
  refine J_aload_n C 2 dL_law_351 rfl ?_
  refine J_arg C Xx hL hi 1 (by decide) dL_law_352 dL_law_353 dL_law_354 dL_law_355 dL_law_356 ?_
  refine J_arg C Xx hL hi 2 (by decide) dL_law_357 dL_law_358 dL_law_359 dL_law_360 dL_law_361 ?_
  refine J_callV (v := some (.int (p_X9_cancel Y (xs (i + 1)) (xs (i + 2))).1)) (ws' := ro_W K A (p_X9_cancel Y (xs (i + 1)) (xs (i + 2))).2 ++ mo_W K b' X) C Yc h1 h2 0 9 kd_X9_cancel ui_X9_cancel us_X9_cancel um_L_37 rfl (recv_ro _ _ _ _) (Ct.left _ (c_X9_cancel l K A Y (xs (i + 1)) (xs (i + 2)))) dL_law_362 rfl rfl (by decide) (Nat.le_of_ble_eq_true rfl) ?_
  refine J_aload_n C 1 dL_law_365 rfl ?_
  refine J_arg C Xx hL hi 1 (by decide) dL_law_366 dL_law_367 dL_law_368 dL_law_369 dL_law_370 ?_
  refine J_arg C Xx hL hi 2 (by decide) dL_law_371 dL_law_372 dL_law_373 dL_law_374 dL_law_375 ?_
  refine J_callV (v := some (.int (p_X9_cancel Y (xs (i + 1)) (xs (i + 2))).1)) (ws' := ro_W K A (p_X9_cancel Y (xs (i + 1)) (xs (i + 2))).2 ++ mo_W K b' X') C Yc h1 h2 276 10 kd_X10_cancel ui_X10_cancel us_X10_cancel um_L_41 rfl (recv_mo _ _ _ _ _) (Ct.right _ (c_X10_cancel l K b' X (xs (i + 1)) (xs (i + 2)) ((p_X9_cancel Y (xs (i + 1)) (xs (i + 2))).1, X') e)) dL_law_376 rfl rfl (by decide) (Nat.le_of_ble_eq_true rfl) ?_
  exact J_icmp_eq_y C 1205 rfl dL_law_379 rfl kf
theorem lw_c6 (C : Cx l K Γ RL cL_law 8 rt 14) (Yc : Cy Γ CM CS) (h1 : cs ≤ CM) (h2 : ss ≤ CS) (Xx : Lx Γ b L xs) (hL : L ≤ 3072) (hi : i + 6 ≤ L) (hB1 : 1 ≤ B) (hB : B < 10 ^ 9) (hT : Top B Y X) (kf : ∀ Y' X', Top (B + 100) Y' X' → J l K Γ Q cs ss (ro_W K A Y' ++ mo_W K b' X') 1205 8 (lv4 i (b' 0) (A 4 0) b) []) : J l K Γ Q cs ss (ro_W K A Y ++ mo_W K b' X) 384 8 (lv4 i (b' 0) (A 4 0) b) [] := by
  obtain ⟨X', e, hT'⟩ : OpR (B + 100) (p_X9_shut Y (xs (i + 1)) (xs (i + 2))) (o_X10_shut X (xs (i + 1)) (xs (i + 2))) := by
    obtain ⟨X', e, hT'⟩ := t_shut hT (xs (i + 1)) (xs (i + 2))
    exact ⟨X', e, hT'.mono (by omega)⟩
  have kf := kf _ _ hT'
  refine J_aload_n C 2 dL_law_384 rfl ?_
  refine J_arg C Xx hL hi 1 (by decide) dL_law_385 dL_law_386 dL_law_387 dL_law_388 dL_law_389 ?_
  refine J_arg C Xx hL hi 2 (by decide) dL_law_390 dL_law_391 dL_law_392 dL_law_393 dL_law_394 ?_
  refine J_callV (v := some (.int (p_X9_shut Y (xs (i + 1)) (xs (i + 2))).1)) (ws' := ro_W K A (p_X9_shut Y (xs (i + 1)) (xs (i + 2))).2 ++ mo_W K b' X) C Yc h1 h2 0 9 kd_X9_shut ui_X9_shut us_X9_shut um_L_42 rfl (recv_ro _ _ _ _) (Ct.left _ (c_X9_shut l K A Y (xs (i + 1)) (xs (i + 2)))) dL_law_395 rfl rfl (by decide) (Nat.le_of_ble_eq_true rfl) ?_
  refine J_aload_n C 1 dL_law_398 rfl ?_
  refine J_arg C Xx hL hi 1 (by decide) dL_law_399 dL_law_400 dL_law_401 dL_law_402 dL_law_403 ?_
  refine J_arg C Xx hL hi 2 (by decide) dL_law_404 dL_law_405 dL_law_406 dL_law_407 dL_law_408 ?_
  refine J_callV (v := some (.int (p_X9_shut Y (xs (i + 1)) (xs (i + 2))).1)) (ws' := ro_W K A (p_X9_shut Y (xs (i + 1)) (xs (i + 2))).2 ++ mo_W K b' X') C Yc h1 h2 276 10 kd_X10_shut ui_X10_shut us_X10_shut um_L_45 rfl (recv_mo _ _ _ _ _) (Ct.right _ (c_X10_shut l K b' X (xs (i + 1)) (xs (i + 2)) ((p_X9_shut Y (xs (i + 1)) (xs (i + 2))).1, X') e)) dL_law_409 rfl rfl (by decide) (Nat.le_of_ble_eq_true rfl) ?_
  exact J_icmp_eq_y C 1205 rfl dL_law_412 rfl kf
theorem lw_c7 (C : Cx l K Γ RL cL_law 8 rt 14) (Yc : Cy Γ CM CS) (h1 : cs ≤ CM) (h2 : ss ≤ CS) (Xx : Lx Γ b L xs) (hL : L ≤ 3072) (hi : i + 6 ≤ L) (hB1 : 1 ≤ B) (hB : B < 10 ^ 9) (hT : Top B Y X) (kf : ∀ Y' X', Top (B + 100) Y' X' → J l K Γ Q cs ss (ro_W K A Y' ++ mo_W K b' X') 1205 8 (lv4 i (b' 0) (A 4 0) b) []) : J l K Γ Q cs ss (ro_W K A Y ++ mo_W K b' X) 417 8 (lv4 i (b' 0) (A 4 0) b) [] := by
  obtain ⟨X', e, hT'⟩ : OpR (B + 100) (p_X9_lose Y (xs (i + 1))) (o_X10_lose X (xs (i + 1))) := by
    obtain ⟨X', e, hT'⟩ := t_lose hT (xs (i + 1))
    exact ⟨X', e, hT'.mono (by omega)⟩
  have kf := kf _ _ hT'
  refine J_aload_n C 2 dL_law_417 rfl ?_
  refine J_arg C Xx hL hi 1 (by decide) dL_law_418 dL_law_419 dL_law_420 dL_law_421 dL_law_422 ?_
  refine J_callV (v := some (.int (p_X9_lose Y (xs (i + 1))).1)) (ws' := ro_W K A (p_X9_lose Y (xs (i + 1))).2 ++ mo_W K b' X) C Yc h1 h2 0 9 kd_X9_lose ui_X9_lose us_X9_lose um_L_46 rfl (recv_ro _ _ _ _) (Ct.left _ (c_X9_lose l K A Y (xs (i + 1)))) dL_law_423 rfl rfl (by decide) (Nat.le_of_ble_eq_true rfl) ?_
  refine J_aload_n C 1 dL_law_426 rfl ?_
  refine J_arg C Xx hL hi 1 (by decide) dL_law_427 dL_law_428 dL_law_429 dL_law_430 dL_law_431 ?_
  refine J_callV (v := some (.int (p_X9_lose Y (xs (i + 1))).1)) (ws' := ro_W K A (p_X9_lose Y (xs (i + 1))).2 ++ mo_W K b' X') C Yc h1 h2 276 10 kd_X10_lose ui_X10_lose us_X10_lose um_L_49 rfl (recv_mo _ _ _ _ _) (Ct.right _ (c_X10_lose l K b' X (xs (i + 1)) ((p_X9_lose Y (xs (i + 1))).1, X') e)) dL_law_432 rfl rfl (by decide) (Nat.le_of_ble_eq_true rfl) ?_
  exact J_icmp_eq_y C 1205 rfl dL_law_435 rfl kf
theorem lw_c8 (C : Cx l K Γ RL cL_law 8 rt 14) (Yc : Cy Γ CM CS) (h1 : cs ≤ CM) (h2 : ss ≤ CS) (Xx : Lx Γ b L xs) (hL : L ≤ 3072) (hi : i + 6 ≤ L) (hB1 : 1 ≤ B) (hB : B < 10 ^ 9) (hT : Top B Y X) (kf : ∀ Y' X', Top (B + 100) Y' X' → J l K Γ Q cs ss (ro_W K A Y' ++ mo_W K b' X') 1205 8 (lv4 i (b' 0) (A 4 0) b) []) : J l K Γ Q cs ss (ro_W K A Y ++ mo_W K b' X) 440 8 (lv4 i (b' 0) (A 4 0) b) [] := by
  obtain ⟨X', e, hT'⟩ : OpR (B + 100) (p_X9_stray Y (xs (i + 1))) (o_X10_stray X (xs (i + 1))) := by
    obtain ⟨X', e, hT'⟩ := t_stray hT (xs (i + 1))
    exact ⟨X', e, hT'.mono (by omega)⟩
  have kf := kf _ _ hT'
  refine J_aload_n C 2 dL_law_440 rfl ?_
  refine J_arg C Xx hL hi 1 (by decide) dL_law_441 dL_law_442 dL_law_443 dL_law_444 dL_law_445 ?_
  refine J_callV (v := some (.int (p_X9_stray Y (xs (i + 1))).1)) (ws' := ro_W K A (p_X9_stray Y (xs (i + 1))).2 ++ mo_W K b' X) C Yc h1 h2 0 9 kd_X9_stray ui_X9_stray us_X9_stray um_L_50 rfl (recv_ro _ _ _ _) (Ct.left _ (c_X9_stray l K A Y (xs (i + 1)))) dL_law_446 rfl rfl (by decide) (Nat.le_of_ble_eq_true rfl) ?_
  refine J_aload_n C 1 dL_law_449 rfl ?_
  refine J_arg C Xx hL hi 1 (by decide) dL_law_450 dL_law_451 dL_law_452 dL_law_453 dL_law_454 ?_
  refine J_callV (v := some (.int (p_X9_stray Y (xs (i + 1))).1)) (ws' := ro_W K A (p_X9_stray Y (xs (i + 1))).2 ++ mo_W K b' X') C Yc h1 h2 276 10 kd_X10_stray ui_X10_stray us_X10_stray um_L_53 rfl (recv_mo _ _ _ _ _) (Ct.right _ (c_X10_stray l K b' X (xs (i + 1)) ((p_X9_stray Y (xs (i + 1))).1, X') e)) dL_law_455 rfl rfl (by decide) (Nat.le_of_ble_eq_true rfl) ?_
  exact J_icmp_eq_y C 1205 rfl dL_law_458 rfl kf
theorem lw_c9 (C : Cx l K Γ RL cL_law 8 rt 14) (Yc : Cy Γ CM CS) (h1 : cs ≤ CM) (h2 : ss ≤ CS) (Xx : Lx Γ b L xs) (hL : L ≤ 3072) (hi : i + 6 ≤ L) (hB1 : 1 ≤ B) (hB : B < 10 ^ 9) (hT : Top B Y X) (kf : ∀ Y' X', Top (B + 100) Y' X' → J l K Γ Q cs ss (ro_W K A Y' ++ mo_W K b' X') 1205 8 (lv4 i (b' 0) (A 4 0) b) []) : J l K Γ Q cs ss (ro_W K A Y ++ mo_W K b' X) 463 8 (lv4 i (b' 0) (A 4 0) b) [] := by
  obtain ⟨X', e, hT'⟩ : OpR (B + 100) (p_X9_minute Y (xs (i + 1))) (o_X10_minute X (xs (i + 1))) := by
    obtain ⟨X', e, hT'⟩ := t_minute hT (xs (i + 1))
    exact ⟨X', e, hT'.mono (by omega)⟩
  have kf := kf _ _ hT'
  refine J_aload_n C 2 dL_law_463 rfl ?_
  refine J_arg C Xx hL hi 1 (by decide) dL_law_464 dL_law_465 dL_law_466 dL_law_467 dL_law_468 ?_
  refine J_callV (v := some (.int (p_X9_minute Y (xs (i + 1))).1)) (ws' := ro_W K A (p_X9_minute Y (xs (i + 1))).2 ++ mo_W K b' X) C Yc h1 h2 0 9 kd_X9_minute ui_X9_minute us_X9_minute um_L_54 rfl (recv_ro _ _ _ _) (Ct.left _ (c_X9_minute l K A Y (xs (i + 1)))) dL_law_469 rfl rfl (by decide) (Nat.le_of_ble_eq_true rfl) ?_
  refine J_aload_n C 1 dL_law_472 rfl ?_
  refine J_arg C Xx hL hi 1 (by decide) dL_law_473 dL_law_474 dL_law_475 dL_law_476 dL_law_477 ?_
  refine J_callV (v := some (.int (p_X9_minute Y (xs (i + 1))).1)) (ws' := ro_W K A (p_X9_minute Y (xs (i + 1))).2 ++ mo_W K b' X') C Yc h1 h2 276 10 kd_X10_minute ui_X10_minute us_X10_minute um_L_57 rfl (recv_mo _ _ _ _ _) (Ct.right _ (c_X10_minute l K b' X (xs (i + 1)) ((p_X9_minute Y (xs (i + 1))).1, X') e)) dL_law_478 rfl rfl (by decide) (Nat.le_of_ble_eq_true rfl) ?_
  exact J_icmp_eq_y C 1205 rfl dL_law_481 rfl kf
theorem lw_c10 (C : Cx l K Γ RL cL_law 8 rt 14) (Yc : Cy Γ CM CS) (h1 : cs ≤ CM) (h2 : ss ≤ CS) (Xx : Lx Γ b L xs) (hL : L ≤ 3072) (hi : i + 6 ≤ L) (hB1 : 1 ≤ B) (hB : B < 10 ^ 9) (hT : Top B Y X) (kf : ∀ Y' X', Top (B + 100) Y' X' → J l K Γ Q cs ss (ro_W K A Y' ++ mo_W K b' X') 1205 8 (lv4 i (b' 0) (A 4 0) b) []) : J l K Γ Q cs ss (ro_W K A Y ++ mo_W K b' X) 486 8 (lv4 i (b' 0) (A 4 0) b) [] := by
  obtain ⟨X', e, hT'⟩ : OpR (B + 100) (p_X9_set Y (xs (i + 1)) (xs (i + 2)) (xs (i + 3))) (o_X10_set X (xs (i + 1)) (xs (i + 2)) (xs (i + 3))) := by
    obtain ⟨X', e, hT'⟩ := t_setN hT (xs (i + 1)) (xs (i + 2)) (xs (i + 3))
    exact ⟨X', e, hT'.mono (by omega)⟩
  have kf := kf _ _ hT'
  refine J_aload_n C 2 dL_law_486 rfl ?_
  refine J_arg C Xx hL hi 1 (by decide) dL_law_487 dL_law_488 dL_law_489 dL_law_490 dL_law_491 ?_
  refine J_arg C Xx hL hi 2 (by decide) dL_law_492 dL_law_493 dL_law_494 dL_law_495 dL_law_496 ?_
  refine J_arg C Xx hL hi 3 (by decide) dL_law_497 dL_law_498 dL_law_499 dL_law_500 dL_law_501 ?_
  refine J_callV (v := some (.int (p_X9_set Y (xs (i + 1)) (xs (i + 2)) (xs (i + 3))).1)) (ws' := ro_W K A (p_X9_set Y (xs (i + 1)) (xs (i + 2)) (xs (i + 3))).2 ++ mo_W K b' X) C Yc h1 h2 0 9 kd_X9_set ui_X9_set us_X9_set um_L_58 rfl (recv_ro _ _ _ _) (Ct.left _ (c_X9_set l K A Y (xs (i + 1)) (xs (i + 2)) (xs (i + 3)))) dL_law_502 rfl rfl (by decide) (Nat.le_of_ble_eq_true rfl) ?_
  refine J_aload_n C 1 dL_law_505 rfl ?_
  refine J_arg C Xx hL hi 1 (by decide) dL_law_506 dL_law_507 dL_law_508 dL_law_509 dL_law_510 ?_
  refine J_arg C Xx hL hi 2 (by decide) dL_law_511 dL_law_512 dL_law_513 dL_law_514 dL_law_515 ?_
  refine J_arg C Xx hL hi 3 (by decide) dL_law_516 dL_law_517 dL_law_518 dL_law_519 dL_law_520 ?_
  refine J_callV (v := some (.int (p_X9_set Y (xs (i + 1)) (xs (i + 2)) (xs (i + 3))).1)) (ws' := ro_W K A (p_X9_set Y (xs (i + 1)) (xs (i + 2)) (xs (i + 3))).2 ++ mo_W K b' X') C Yc h1 h2 276 10 kd_X10_set ui_X10_set us_X10_set um_L_61 rfl (recv_mo _ _ _ _ _) (Ct.right _ (c_X10_set l K b' X (xs (i + 1)) (xs (i + 2)) (xs (i + 3)) ((p_X9_set Y (xs (i + 1)) (xs (i + 2)) (xs (i + 3))).1, X') e)) dL_law_521 rfl rfl (by decide) (Nat.le_of_ble_eq_true rfl) ?_
  exact J_icmp_eq_y C 1205 rfl dL_law_524 rfl kf
theorem lw_c11 (C : Cx l K Γ RL cL_law 8 rt 14) (Yc : Cy Γ CM CS) (h1 : cs ≤ CM) (h2 : ss ≤ CS) (Xx : Lx Γ b L xs) (hL : L ≤ 3072) (hi : i + 6 ≤ L) (hB1 : 1 ≤ B) (hB : B < 10 ^ 9) (hT : Top B Y X) (kf : ∀ Y' X', Top (B + 100) Y' X' → J l K Γ Q cs ss (ro_W K A Y' ++ mo_W K b' X') 1205 8 (lv4 i (b' 0) (A 4 0) b) []) : J l K Γ Q cs ss (ro_W K A Y ++ mo_W K b' X) 529 8 (lv4 i (b' 0) (A 4 0) b) [] := by
  obtain ⟨X', e, hT'⟩ : OpR (B + 100) (p_X9_rule Y (xs (i + 1)) (xs (i + 2))) (o_X10_rule X (xs (i + 1)) (xs (i + 2))) := by
    obtain ⟨X', e, hT'⟩ := t_rule hT (xs (i + 1)) (xs (i + 2))
    exact ⟨X', e, hT'.mono (by omega)⟩
  have kf := kf _ _ hT'
  refine J_aload_n C 2 dL_law_529 rfl ?_
  refine J_arg C Xx hL hi 1 (by decide) dL_law_530 dL_law_531 dL_law_532 dL_law_533 dL_law_534 ?_
  refine J_arg C Xx hL hi 2 (by decide) dL_law_535 dL_law_536 dL_law_537 dL_law_538 dL_law_539 ?_
  refine J_callV (v := some (.int (p_X9_rule Y (xs (i + 1)) (xs (i + 2))).1)) (ws' := ro_W K A (p_X9_rule Y (xs (i + 1)) (xs (i + 2))).2 ++ mo_W K b' X) C Yc h1 h2 0 9 kd_X9_rule ui_X9_rule us_X9_rule um_L_62 rfl (recv_ro _ _ _ _) (Ct.left _ (c_X9_rule l K A Y (xs (i + 1)) (xs (i + 2)))) dL_law_540 rfl rfl (by decide) (Nat.le_of_ble_eq_true rfl) ?_
  refine J_aload_n C 1 dL_law_543 rfl ?_
  refine J_arg C Xx hL hi 1 (by decide) dL_law_544 dL_law_545 dL_law_546 dL_law_547 dL_law_548 ?_
  refine J_arg C Xx hL hi 2 (by decide) dL_law_549 dL_law_550 dL_law_551 dL_law_552 dL_law_553 ?_
  refine J_callV (v := some (.int (p_X9_rule Y (xs (i + 1)) (xs (i + 2))).1)) (ws' := ro_W K A (p_X9_rule Y (xs (i + 1)) (xs (i + 2))).2 ++ mo_W K b' X') C Yc h1 h2 276 10 kd_X10_rule ui_X10_rule us_X10_rule um_L_65 rfl (recv_mo _ _ _ _ _) (Ct.right _ (c_X10_rule l K b' X (xs (i + 1)) (xs (i + 2)) ((p_X9_rule Y (xs (i + 1)) (xs (i + 2))).1, X') e)) dL_law_554 rfl rfl (by decide) (Nat.le_of_ble_eq_true rfl) ?_
  exact J_icmp_eq_y C 1205 rfl dL_law_557 rfl kf
theorem lw_c12 (C : Cx l K Γ RL cL_law 8 rt 14) (Yc : Cy Γ CM CS) (h1 : cs ≤ CM) (h2 : ss ≤ CS) (Xx : Lx Γ b L xs) (hL : L ≤ 3072) (hi : i + 6 ≤ L) (hB1 : 1 ≤ B) (hB : B < 10 ^ 9) (hT : Top B Y X) (kf : ∀ Y' X', Top (B + 100) Y' X' → J l K Γ Q cs ss (ro_W K A Y' ++ mo_W K b' X') 1205 8 (lv4 i (b' 0) (A 4 0) b) []) : J l K Γ Q cs ss (ro_W K A Y ++ mo_W K b' X) 562 8 (lv4 i (b' 0) (A 4 0) b) [] := by
  obtain ⟨X', e, hT'⟩ : OpR (B + 100) (p_X9_keep Y (xs (i + 1))) (o_X10_keep X (xs (i + 1))) := by
    obtain ⟨X', e, hT'⟩ := t_keep hT (xs (i + 1))
    exact ⟨X', e, hT'.mono (by omega)⟩
  have kf := kf _ _ hT'
  refine J_aload_n C 2 dL_law_562 rfl ?_
  refine J_arg C Xx hL hi 1 (by decide) dL_law_563 dL_law_564 dL_law_565 dL_law_566 dL_law_567 ?_
  refine J_callV (v := some (.int (p_X9_keep Y (xs (i + 1))).1)) (ws' := ro_W K A (p_X9_keep Y (xs (i + 1))).2 ++ mo_W K b' X) C Yc h1 h2 0 9 kd_X9_keep ui_X9_keep us_X9_keep um_L_66 rfl (recv_ro _ _ _ _) (Ct.left _ (c_X9_keep l K A Y (xs (i + 1)))) dL_law_568 rfl rfl (by decide) (Nat.le_of_ble_eq_true rfl) ?_
  refine J_aload_n C 1 dL_law_571 rfl ?_
  refine J_arg C Xx hL hi 1 (by decide) dL_law_572 dL_law_573 dL_law_574 dL_law_575 dL_law_576 ?_
  refine J_callV (v := some (.int (p_X9_keep Y (xs (i + 1))).1)) (ws' := ro_W K A (p_X9_keep Y (xs (i + 1))).2 ++ mo_W K b' X') C Yc h1 h2 276 10 kd_X10_keep ui_X10_keep us_X10_keep um_L_69 rfl (recv_mo _ _ _ _ _) (Ct.right _ (c_X10_keep l K b' X (xs (i + 1)) ((p_X9_keep Y (xs (i + 1))).1, X') e)) dL_law_577 rfl rfl (by decide) (Nat.le_of_ble_eq_true rfl) ?_
  exact J_icmp_eq_y C 1205 rfl dL_law_580 rfl kf
theorem lw_c13 (C : Cx l K Γ RL cL_law 8 rt 14) (Yc : Cy Γ CM CS) (h1 : cs ≤ CM) (h2 : ss ≤ CS) (Xx : Lx Γ b L xs) (hL : L ≤ 3072) (hi : i + 6 ≤ L) (hB1 : 1 ≤ B) (hB : B < 10 ^ 9) (hT : Top B Y X) (kf : ∀ Y' X', Top (B + 100) Y' X' → J l K Γ Q cs ss (ro_W K A Y' ++ mo_W K b' X') 1205 8 (lv4 i (b' 0) (A 4 0) b) []) : J l K Γ Q cs ss (ro_W K A Y ++ mo_W K b' X) 585 8 (lv4 i (b' 0) (A 4 0) b) [] := by
  obtain ⟨X', e, hT'⟩ : OpR (B + 100) (p_X9_restore Y (xs (i + 1))) (o_X10_restore X (xs (i + 1))) := by
    obtain ⟨X', e, hT'⟩ := t_restore hT (xs (i + 1))
    exact ⟨X', e, hT'.mono (by omega)⟩
  have kf := kf _ _ hT'
  refine J_aload_n C 2 dL_law_585 rfl ?_
  refine J_arg C Xx hL hi 1 (by decide) dL_law_586 dL_law_587 dL_law_588 dL_law_589 dL_law_590 ?_
  refine J_callV (v := some (.int (p_X9_restore Y (xs (i + 1))).1)) (ws' := ro_W K A (p_X9_restore Y (xs (i + 1))).2 ++ mo_W K b' X) C Yc h1 h2 0 9 kd_X9_restore ui_X9_restore us_X9_restore um_L_70 rfl (recv_ro _ _ _ _) (Ct.left _ (c_X9_restore l K A Y (xs (i + 1)))) dL_law_591 rfl rfl (by decide) (Nat.le_of_ble_eq_true rfl) ?_
  refine J_aload_n C 1 dL_law_594 rfl ?_
  refine J_arg C Xx hL hi 1 (by decide) dL_law_595 dL_law_596 dL_law_597 dL_law_598 dL_law_599 ?_
  refine J_callV (v := some (.int (p_X9_restore Y (xs (i + 1))).1)) (ws' := ro_W K A (p_X9_restore Y (xs (i + 1))).2 ++ mo_W K b' X') C Yc h1 h2 276 10 kd_X10_restore ui_X10_restore us_X10_restore um_L_73 rfl (recv_mo _ _ _ _ _) (Ct.right _ (c_X10_restore l K b' X (xs (i + 1)) ((p_X9_restore Y (xs (i + 1))).1, X') e)) dL_law_600 rfl rfl (by decide) (Nat.le_of_ble_eq_true rfl) ?_
  exact J_icmp_eq_y C 1205 rfl dL_law_603 rfl kf
theorem lw_c14 (C : Cx l K Γ RL cL_law 8 rt 14) (Yc : Cy Γ CM CS) (h1 : cs ≤ CM) (h2 : ss ≤ CS) (Xx : Lx Γ b L xs) (hL : L ≤ 3072) (hi : i + 6 ≤ L) (hB1 : 1 ≤ B) (hB : B < 10 ^ 9) (hT : Top B Y X) (kf : ∀ Y' X', Top (B + 100) Y' X' → J l K Γ Q cs ss (ro_W K A Y' ++ mo_W K b' X') 1205 8 (lv4 i (b' 0) (A 4 0) b) []) : J l K Γ Q cs ss (ro_W K A Y ++ mo_W K b' X) 608 8 (lv4 i (b' 0) (A 4 0) b) [] := by
  obtain ⟨X', e, hT'⟩ : OpR (B + 100) (p_X9_undo Y ) (o_X10_undo X ) := by
    obtain ⟨X', e, hT'⟩ := t_undo hT 
    exact ⟨X', e, hT'.mono (by omega)⟩
  have kf := kf _ _ hT'
  refine J_aload_n C 2 dL_law_608 rfl ?_
  refine J_callV (v := some (.int (p_X9_undo Y ).1)) (ws' := ro_W K A (p_X9_undo Y ).2 ++ mo_W K b' X) C Yc h1 h2 0 9 kd_X9_undo ui_X9_undo us_X9_undo um_L_74 rfl (recv_ro _ _ _ _) (Ct.left _ (c_X9_undo l K A Y )) dL_law_609 rfl rfl (by decide) (Nat.le_of_ble_eq_true rfl) ?_
  refine J_aload_n C 1 dL_law_612 rfl ?_
  refine J_callV (v := some (.int (p_X9_undo Y ).1)) (ws' := ro_W K A (p_X9_undo Y ).2 ++ mo_W K b' X') C Yc h1 h2 276 10 kd_X10_undo ui_X10_undo us_X10_undo um_L_77 rfl (recv_mo _ _ _ _ _) (Ct.right _ (c_X10_undo l K b' X  ((p_X9_undo Y ).1, X') e)) dL_law_613 rfl rfl (by decide) (Nat.le_of_ble_eq_true rfl) ?_
  exact J_icmp_eq_y C 1205 rfl dL_law_616 rfl kf
theorem lw_c15 (C : Cx l K Γ RL cL_law 8 rt 14) (Yc : Cy Γ CM CS) (h1 : cs ≤ CM) (h2 : ss ≤ CS) (Xx : Lx Γ b L xs) (hL : L ≤ 3072) (hi : i + 6 ≤ L) (hB1 : 1 ≤ B) (hB : B < 10 ^ 9) (hT : Top B Y X) (kf : ∀ Y' X', Top (B + 100) Y' X' → J l K Γ Q cs ss (ro_W K A Y' ++ mo_W K b' X') 1205 8 (lv4 i (b' 0) (A 4 0) b) []) : J l K Γ Q cs ss (ro_W K A Y ++ mo_W K b' X) 621 8 (lv4 i (b' 0) (A 4 0) b) [] := by
  have e : o_X10_value X (xs (i + 1)) = some (v_X9_value Y (xs (i + 1))) := by
    obtain ⟨c, tc, hc, hI, -⟩ := hT.1
    obtain ⟨hn, hc2, -, -, -, g4, g5, -⟩ := hT.2.1
    exact q_value hI (g4.trans g5.symm) _
  have kf := kf Y X (hT.mono (by omega))
  refine J_aload_n C 2 dL_law_621 rfl ?_
  refine J_arg C Xx hL hi 1 (by decide) dL_law_622 dL_law_623 dL_law_624 dL_law_625 dL_law_626 ?_
  refine J_callV (v := some (.int (v_X9_value Y (xs (i + 1))))) (ws' := ro_W K A Y ++ mo_W K b' X) C Yc h1 h2 0 9 kd_X9_value ui_X9_value us_X9_value um_L_78 rfl (recv_ro _ _ _ _) (Ct.left _ (c_X9_value l K A Y (xs (i + 1)))) dL_law_627 rfl rfl (by decide) (Nat.le_of_ble_eq_true rfl) ?_
  refine J_aload_n C 1 dL_law_630 rfl ?_
  refine J_arg C Xx hL hi 1 (by decide) dL_law_631 dL_law_632 dL_law_633 dL_law_634 dL_law_635 ?_
  refine J_callV (v := some (.int (v_X9_value Y (xs (i + 1))))) (ws' := ro_W K A Y ++ mo_W K b' X) C Yc h1 h2 276 10 kd_X10_value ui_X10_value us_X10_value um_L_81 rfl (recv_mo _ _ _ _ _) (Ct.right _ (c_X10_value l K b' X (xs (i + 1)) (v_X9_value Y (xs (i + 1))) e)) dL_law_636 rfl rfl (by decide) (Nat.le_of_ble_eq_true rfl) ?_
  exact J_icmp_eq_y C 1205 rfl dL_law_639 rfl kf
theorem lw_c16 (C : Cx l K Γ RL cL_law 8 rt 14) (Yc : Cy Γ CM CS) (h1 : cs ≤ CM) (h2 : ss ≤ CS) (Xx : Lx Γ b L xs) (hL : L ≤ 3072) (hi : i + 6 ≤ L) (hB1 : 1 ≤ B) (hB : B < 10 ^ 9) (hT : Top B Y X) (kf : ∀ Y' X', Top (B + 100) Y' X' → J l K Γ Q cs ss (ro_W K A Y' ++ mo_W K b' X') 1205 8 (lv4 i (b' 0) (A 4 0) b) []) : J l K Γ Q cs ss (ro_W K A Y ++ mo_W K b' X) 644 8 (lv4 i (b' 0) (A 4 0) b) [] := by
  have e : o_X10_office X (xs (i + 1)) (xs (i + 2)) = some (v_X9_office Y (xs (i + 1)) (xs (i + 2))) := by
    obtain ⟨c, tc, hc, hI, -⟩ := hT.1
    exact q_office hI (by omega) _ _
  have kf := kf Y X (hT.mono (by omega))
  refine J_aload_n C 2 dL_law_644 rfl ?_
  refine J_arg C Xx hL hi 1 (by decide) dL_law_645 dL_law_646 dL_law_647 dL_law_648 dL_law_649 ?_
  refine J_arg C Xx hL hi 2 (by decide) dL_law_650 dL_law_651 dL_law_652 dL_law_653 dL_law_654 ?_
  refine J_callV (v := some (.int (v_X9_office Y (xs (i + 1)) (xs (i + 2))))) (ws' := ro_W K A Y ++ mo_W K b' X) C Yc h1 h2 0 9 kd_X9_office ui_X9_office us_X9_office um_L_82 rfl (recv_ro _ _ _ _) (Ct.left _ (c_X9_office l K A Y (xs (i + 1)) (xs (i + 2)))) dL_law_655 rfl rfl (by decide) (Nat.le_of_ble_eq_true rfl) ?_
  refine J_aload_n C 1 dL_law_658 rfl ?_
  refine J_arg C Xx hL hi 1 (by decide) dL_law_659 dL_law_660 dL_law_661 dL_law_662 dL_law_663 ?_
  refine J_arg C Xx hL hi 2 (by decide) dL_law_664 dL_law_665 dL_law_666 dL_law_667 dL_law_668 ?_
  refine J_callV (v := some (.int (v_X9_office Y (xs (i + 1)) (xs (i + 2))))) (ws' := ro_W K A Y ++ mo_W K b' X) C Yc h1 h2 276 10 kd_X10_office ui_X10_office us_X10_office um_L_85 rfl (recv_mo _ _ _ _ _) (Ct.right _ (c_X10_office l K b' X (xs (i + 1)) (xs (i + 2)) (v_X9_office Y (xs (i + 1)) (xs (i + 2))) e)) dL_law_669 rfl rfl (by decide) (Nat.le_of_ble_eq_true rfl) ?_
  exact J_icmp_eq_y C 1205 rfl dL_law_672 rfl kf
theorem lw_c17 (C : Cx l K Γ RL cL_law 8 rt 14) (Yc : Cy Γ CM CS) (h1 : cs ≤ CM) (h2 : ss ≤ CS) (Xx : Lx Γ b L xs) (hL : L ≤ 3072) (hi : i + 6 ≤ L) (hB1 : 1 ≤ B) (hB : B < 10 ^ 9) (hT : Top B Y X) (kf : ∀ Y' X', Top (B + 100) Y' X' → J l K Γ Q cs ss (ro_W K A Y' ++ mo_W K b' X') 1205 8 (lv4 i (b' 0) (A 4 0) b) []) : J l K Γ Q cs ss (ro_W K A Y ++ mo_W K b' X) 677 8 (lv4 i (b' 0) (A 4 0) b) [] := by
  have e : o_X10_queue X (xs (i + 1)) (xs (i + 2)) (xs (i + 3)) = some (v_X9_queue Y (xs (i + 1)) (xs (i + 2)) (xs (i + 3))) := by
    obtain ⟨c, tc, hc, hI, -⟩ := hT.1
    exact q_queue hI (by omega) _ _ _
  have kf := kf Y X (hT.mono (by omega))
  refine J_aload_n C 2 dL_law_677 rfl ?_
  refine J_arg C Xx hL hi 1 (by decide) dL_law_678 dL_law_679 dL_law_680 dL_law_681 dL_law_682 ?_
  refine J_arg C Xx hL hi 2 (by decide) dL_law_683 dL_law_684 dL_law_685 dL_law_686 dL_law_687 ?_
  refine J_arg C Xx hL hi 3 (by decide) dL_law_688 dL_law_689 dL_law_690 dL_law_691 dL_law_692 ?_
  refine J_callV (v := some (.int (v_X9_queue Y (xs (i + 1)) (xs (i + 2)) (xs (i + 3))))) (ws' := ro_W K A Y ++ mo_W K b' X) C Yc h1 h2 0 9 kd_X9_queue ui_X9_queue us_X9_queue um_L_86 rfl (recv_ro _ _ _ _) (Ct.left _ (c_X9_queue l K A Y (xs (i + 1)) (xs (i + 2)) (xs (i + 3)))) dL_law_693 rfl rfl (by decide) (Nat.le_of_ble_eq_true rfl) ?_
  refine J_aload_n C 1 dL_law_696 rfl ?_
  refine J_arg C Xx hL hi 1 (by decide) dL_law_697 dL_law_698 dL_law_699 dL_law_700 dL_law_701 ?_
  refine J_arg C Xx hL hi 2 (by decide) dL_law_702 dL_law_703 dL_law_704 dL_law_705 dL_law_706 ?_
  refine J_arg C Xx hL hi 3 (by decide) dL_law_707 dL_law_708 dL_law_709 dL_law_710 dL_law_711 ?_
  refine J_callV (v := some (.int (v_X9_queue Y (xs (i + 1)) (xs (i + 2)) (xs (i + 3))))) (ws' := ro_W K A Y ++ mo_W K b' X) C Yc h1 h2 276 10 kd_X10_queue ui_X10_queue us_X10_queue um_L_89 rfl (recv_mo _ _ _ _ _) (Ct.right _ (c_X10_queue l K b' X (xs (i + 1)) (xs (i + 2)) (xs (i + 3)) (v_X9_queue Y (xs (i + 1)) (xs (i + 2)) (xs (i + 3))) e)) dL_law_712 rfl rfl (by decide) (Nat.le_of_ble_eq_true rfl) ?_
  exact J_icmp_eq_y C 1205 rfl dL_law_715 rfl kf
theorem lw_c18 (C : Cx l K Γ RL cL_law 8 rt 14) (Yc : Cy Γ CM CS) (h1 : cs ≤ CM) (h2 : ss ≤ CS) (Xx : Lx Γ b L xs) (hL : L ≤ 3072) (hi : i + 6 ≤ L) (hB1 : 1 ≤ B) (hB : B < 10 ^ 9) (hT : Top B Y X) (kf : ∀ Y' X', Top (B + 100) Y' X' → J l K Γ Q cs ss (ro_W K A Y' ++ mo_W K b' X') 1205 8 (lv4 i (b' 0) (A 4 0) b) []) : J l K Γ Q cs ss (ro_W K A Y ++ mo_W K b' X) 720 8 (lv4 i (b' 0) (A 4 0) b) [] := by
  have e : o_X10_token X (xs (i + 1)) (xs (i + 2)) = some (v_X9_token Y (xs (i + 1)) (xs (i + 2))) := by
    obtain ⟨c, tc, hc, hI, -⟩ := hT.1
    exact q_token hI _ _
  have kf := kf Y X (hT.mono (by omega))
  refine J_aload_n C 2 dL_law_720 rfl ?_
  refine J_arg C Xx hL hi 1 (by decide) dL_law_721 dL_law_722 dL_law_723 dL_law_724 dL_law_725 ?_
  refine J_arg C Xx hL hi 2 (by decide) dL_law_726 dL_law_727 dL_law_728 dL_law_729 dL_law_730 ?_
  refine J_callV (v := some (.int (v_X9_token Y (xs (i + 1)) (xs (i + 2))))) (ws' := ro_W K A Y ++ mo_W K b' X) C Yc h1 h2 0 9 kd_X9_token ui_X9_token us_X9_token um_L_90 rfl (recv_ro _ _ _ _) (Ct.left _ (c_X9_token l K A Y (xs (i + 1)) (xs (i + 2)))) dL_law_731 rfl rfl (by decide) (Nat.le_of_ble_eq_true rfl) ?_
  refine J_aload_n C 1 dL_law_734 rfl ?_
  refine J_arg C Xx hL hi 1 (by decide) dL_law_735 dL_law_736 dL_law_737 dL_law_738 dL_law_739 ?_
  refine J_arg C Xx hL hi 2 (by decide) dL_law_740 dL_law_741 dL_law_742 dL_law_743 dL_law_744 ?_
  refine J_callV (v := some (.int (v_X9_token Y (xs (i + 1)) (xs (i + 2))))) (ws' := ro_W K A Y ++ mo_W K b' X) C Yc h1 h2 276 10 kd_X10_token ui_X10_token us_X10_token um_L_93 rfl (recv_mo _ _ _ _ _) (Ct.right _ (c_X10_token l K b' X (xs (i + 1)) (xs (i + 2)) (v_X9_token Y (xs (i + 1)) (xs (i + 2))) e)) dL_law_745 rfl rfl (by decide) (Nat.le_of_ble_eq_true rfl) ?_
  exact J_icmp_eq_y C 1205 rfl dL_law_748 rfl kf
theorem lw_c19 (C : Cx l K Γ RL cL_law 8 rt 14) (Yc : Cy Γ CM CS) (h1 : cs ≤ CM) (h2 : ss ≤ CS) (Xx : Lx Γ b L xs) (hL : L ≤ 3072) (hi : i + 6 ≤ L) (hB1 : 1 ≤ B) (hB : B < 10 ^ 9) (hT : Top B Y X) (kf : ∀ Y' X', Top (B + 100) Y' X' → J l K Γ Q cs ss (ro_W K A Y' ++ mo_W K b' X') 1205 8 (lv4 i (b' 0) (A 4 0) b) []) : J l K Γ Q cs ss (ro_W K A Y ++ mo_W K b' X) 753 8 (lv4 i (b' 0) (A 4 0) b) [] := by
  have e : o_X10_winner X  = some (v_X9_winner Y ) := by
    obtain ⟨c, tc, hc, hI, -⟩ := hT.1
    show (o_X10_winnerOf (X 0)).bind (fun r1 => some r1) = _
    rw [(q_winner hI.1.1).1]
    rfl
  have kf := kf Y X (hT.mono (by omega))
  refine J_aload_n C 2 dL_law_753 rfl ?_
  refine J_callV (v := some (.int (v_X9_winner Y ))) (ws' := ro_W K A Y ++ mo_W K b' X) C Yc h1 h2 0 9 kd_X9_winner ui_X9_winner us_X9_winner um_L_94 rfl (recv_ro _ _ _ _) (Ct.left _ (c_X9_winner l K A Y )) dL_law_754 rfl rfl (by decide) (Nat.le_of_ble_eq_true rfl) ?_
  refine J_aload_n C 1 dL_law_757 rfl ?_
  refine J_callV (v := some (.int (v_X9_winner Y ))) (ws' := ro_W K A Y ++ mo_W K b' X) C Yc h1 h2 276 10 kd_X10_winner ui_X10_winner us_X10_winner um_L_97 rfl (recv_mo _ _ _ _ _) (Ct.right _ (c_X10_winner l K b' X  (v_X9_winner Y ) e)) dL_law_758 rfl rfl (by decide) (Nat.le_of_ble_eq_true rfl) ?_
  exact J_icmp_eq_y C 1205 rfl dL_law_761 rfl kf
theorem lw_c20 (C : Cx l K Γ RL cL_law 8 rt 14) (Yc : Cy Γ CM CS) (h1 : cs ≤ CM) (h2 : ss ≤ CS) (Xx : Lx Γ b L xs) (hL : L ≤ 3072) (hi : i + 6 ≤ L) (hB1 : 1 ≤ B) (hB : B < 10 ^ 9) (hT : Top B Y X) (kf : ∀ Y' X', Top (B + 100) Y' X' → J l K Γ Q cs ss (ro_W K A Y' ++ mo_W K b' X') 1205 8 (lv4 i (b' 0) (A 4 0) b) []) : J l K Γ Q cs ss (ro_W K A Y ++ mo_W K b' X) 766 8 (lv4 i (b' 0) (A 4 0) b) [] := by
  have e : o_X10_round X  = some (v_X9_round Y ) := by
    obtain ⟨c, tc, hc, hI, -⟩ := hT.1
    exact q_round hI.1.1
  have kf := kf Y X (hT.mono (by omega))
  refine J_aload_n C 2 dL_law_766 rfl ?_
  refine J_callV (v := some (.int (v_X9_round Y ))) (ws' := ro_W K A Y ++ mo_W K b' X) C Yc h1 h2 0 9 kd_X9_round ui_X9_round us_X9_round um_L_98 rfl (recv_ro _ _ _ _) (Ct.left _ (c_X9_round l K A Y )) dL_law_767 rfl rfl (by decide) (Nat.le_of_ble_eq_true rfl) ?_
  refine J_aload_n C 1 dL_law_770 rfl ?_
  refine J_callV (v := some (.int (v_X9_round Y ))) (ws' := ro_W K A Y ++ mo_W K b' X) C Yc h1 h2 276 10 kd_X10_round ui_X10_round us_X10_round um_L_101 rfl (recv_mo _ _ _ _ _) (Ct.right _ (c_X10_round l K b' X  (v_X9_round Y ) e)) dL_law_771 rfl rfl (by decide) (Nat.le_of_ble_eq_true rfl) ?_
  exact J_icmp_eq_y C 1205 rfl dL_law_774 rfl kf
theorem lw_c21 (C : Cx l K Γ RL cL_law 8 rt 14) (Yc : Cy Γ CM CS) (h1 : cs ≤ CM) (h2 : ss ≤ CS) (Xx : Lx Γ b L xs) (hL : L ≤ 3072) (hi : i + 6 ≤ L) (hB1 : 1 ≤ B) (hB : B < 10 ^ 9) (hT : Top B Y X) (kf : ∀ Y' X', Top (B + 100) Y' X' → J l K Γ Q cs ss (ro_W K A Y' ++ mo_W K b' X') 1205 8 (lv4 i (b' 0) (A 4 0) b) []) : J l K Γ Q cs ss (ro_W K A Y ++ mo_W K b' X) 779 8 (lv4 i (b' 0) (A 4 0) b) [] := by
  have e : o_X10_busiest X  = some (v_X9_busiest Y ) := by
    obtain ⟨c, tc, hc, hI, -⟩ := hT.1
    exact q_busiest hI.1.1 (by omega)
  have kf := kf Y X (hT.mono (by omega))
  refine J_aload_n C 2 dL_law_779 rfl ?_
  refine J_callV (v := some (.int (v_X9_busiest Y ))) (ws' := ro_W K A Y ++ mo_W K b' X) C Yc h1 h2 0 9 kd_X9_busiest ui_X9_busiest us_X9_busiest um_L_102 rfl (recv_ro _ _ _ _) (Ct.left _ (c_X9_busiest l K A Y )) dL_law_780 rfl rfl (by decide) (Nat.le_of_ble_eq_true rfl) ?_
  refine J_aload_n C 1 dL_law_783 rfl ?_
  refine J_callV (v := some (.int (v_X9_busiest Y ))) (ws' := ro_W K A Y ++ mo_W K b' X) C Yc h1 h2 276 10 kd_X10_busiest ui_X10_busiest us_X10_busiest um_L_105 rfl (recv_mo _ _ _ _ _) (Ct.right _ (c_X10_busiest l K b' X  (v_X9_busiest Y ) e)) dL_law_784 rfl rfl (by decide) (Nat.le_of_ble_eq_true rfl) ?_
  exact J_icmp_eq_y C 1205 rfl dL_law_787 rfl kf
theorem lw_c22 (C : Cx l K Γ RL cL_law 8 rt 14) (Yc : Cy Γ CM CS) (h1 : cs ≤ CM) (h2 : ss ≤ CS) (Xx : Lx Γ b L xs) (hL : L ≤ 3072) (hi : i + 6 ≤ L) (hB1 : 1 ≤ B) (hB : B < 10 ^ 9) (hT : Top B Y X) (kf : ∀ Y' X', Top (B + 100) Y' X' → J l K Γ Q cs ss (ro_W K A Y' ++ mo_W K b' X') 1205 8 (lv4 i (b' 0) (A 4 0) b) []) : J l K Γ Q cs ss (ro_W K A Y ++ mo_W K b' X) 792 8 (lv4 i (b' 0) (A 4 0) b) [] := by
  have e : o_X10_why X (xs (i + 1)) = some (v_X9_why Y (xs (i + 1))) := by
    obtain ⟨c, tc, hc, hI, -⟩ := hT.1
    exact q_why hI (by omega) _
  have kf := kf Y X (hT.mono (by omega))
  refine J_aload_n C 2 dL_law_792 rfl ?_
  refine J_arg C Xx hL hi 1 (by decide) dL_law_793 dL_law_794 dL_law_795 dL_law_796 dL_law_797 ?_
  refine J_callV (v := some (.int (v_X9_why Y (xs (i + 1))))) (ws' := ro_W K A Y ++ mo_W K b' X) C Yc h1 h2 0 9 kd_X9_why ui_X9_why us_X9_why um_L_106 rfl (recv_ro _ _ _ _) (Ct.left _ (c_X9_why l K A Y (xs (i + 1)))) dL_law_798 rfl rfl (by decide) (Nat.le_of_ble_eq_true rfl) ?_
  refine J_aload_n C 1 dL_law_801 rfl ?_
  refine J_arg C Xx hL hi 1 (by decide) dL_law_802 dL_law_803 dL_law_804 dL_law_805 dL_law_806 ?_
  refine J_callV (v := some (.int (v_X9_why Y (xs (i + 1))))) (ws' := ro_W K A Y ++ mo_W K b' X) C Yc h1 h2 276 10 kd_X10_why ui_X10_why us_X10_why um_L_109 rfl (recv_mo _ _ _ _ _) (Ct.right _ (c_X10_why l K b' X (xs (i + 1)) (v_X9_why Y (xs (i + 1))) e)) dL_law_807 rfl rfl (by decide) (Nat.le_of_ble_eq_true rfl) ?_
  exact J_icmp_eq_y C 1205 rfl dL_law_810 rfl kf
theorem lw_c23 (C : Cx l K Γ RL cL_law 8 rt 14) (Yc : Cy Γ CM CS) (h1 : cs ≤ CM) (h2 : ss ≤ CS) (Xx : Lx Γ b L xs) (hL : L ≤ 3072) (hi : i + 6 ≤ L) (hB1 : 1 ≤ B) (hB : B < 10 ^ 9) (hT : Top B Y X) (kf : ∀ Y' X', Top (B + 100) Y' X' → J l K Γ Q cs ss (ro_W K A Y' ++ mo_W K b' X') 1205 8 (lv4 i (b' 0) (A 4 0) b) []) : J l K Γ Q cs ss (ro_W K A Y ++ mo_W K b' X) 815 8 (lv4 i (b' 0) (A 4 0) b) [] := by
  obtain ⟨X', e, hT'⟩ : OpR (B + 100) (p_X9_comesIn Y (xs (i + 1))) (o_X10_comesIn X (xs (i + 1))) := by
    obtain ⟨X', e, hT'⟩ := t_comesIn hT (xs (i + 1))
    exact ⟨X', e, hT'.mono (by omega)⟩
  have kf := kf _ _ hT'
  refine J_aload_n C 2 dL_law_815 rfl ?_
  refine J_arg C Xx hL hi 1 (by decide) dL_law_816 dL_law_817 dL_law_818 dL_law_819 dL_law_820 ?_
  refine J_callV (v := some (.int (p_X9_comesIn Y (xs (i + 1))).1)) (ws' := ro_W K A (p_X9_comesIn Y (xs (i + 1))).2 ++ mo_W K b' X) C Yc h1 h2 0 9 kd_X9_comesIn ui_X9_comesIn us_X9_comesIn um_L_110 rfl (recv_ro _ _ _ _) (Ct.left _ (c_X9_comesIn l K A Y (xs (i + 1)))) dL_law_821 rfl rfl (by decide) (Nat.le_of_ble_eq_true rfl) ?_
  refine J_aload_n C 1 dL_law_824 rfl ?_
  refine J_arg C Xx hL hi 1 (by decide) dL_law_825 dL_law_826 dL_law_827 dL_law_828 dL_law_829 ?_
  refine J_callV (v := some (.int (p_X9_comesIn Y (xs (i + 1))).1)) (ws' := ro_W K A (p_X9_comesIn Y (xs (i + 1))).2 ++ mo_W K b' X') C Yc h1 h2 276 10 kd_X10_comesIn ui_X10_comesIn us_X10_comesIn um_L_113 rfl (recv_mo _ _ _ _ _) (Ct.right _ (c_X10_comesIn l K b' X (xs (i + 1)) ((p_X9_comesIn Y (xs (i + 1))).1, X') e)) dL_law_830 rfl rfl (by decide) (Nat.le_of_ble_eq_true rfl) ?_
  exact J_icmp_eq_y C 1205 rfl dL_law_833 rfl kf
theorem lw_c24 (C : Cx l K Γ RL cL_law 8 rt 14) (Yc : Cy Γ CM CS) (h1 : cs ≤ CM) (h2 : ss ≤ CS) (Xx : Lx Γ b L xs) (hL : L ≤ 3072) (hi : i + 6 ≤ L) (hB1 : 1 ≤ B) (hB : B < 10 ^ 9) (hT : Top B Y X) (kf : ∀ Y' X', Top (B + 100) Y' X' → J l K Γ Q cs ss (ro_W K A Y' ++ mo_W K b' X') 1205 8 (lv4 i (b' 0) (A 4 0) b) []) : J l K Γ Q cs ss (ro_W K A Y ++ mo_W K b' X) 838 8 (lv4 i (b' 0) (A 4 0) b) [] := by
  obtain ⟨X', e, hT'⟩ : OpR (B + 100) (p_X9_doneIn Y ) (o_X10_doneIn X ) := by
    obtain ⟨X', e, hT'⟩ := t_doneIn hT 
    exact ⟨X', e, hT'.mono (by omega)⟩
  have kf := kf _ _ hT'
  refine J_aload_n C 2 dL_law_838 rfl ?_
  refine J_callV (v := some (.int (p_X9_doneIn Y ).1)) (ws' := ro_W K A (p_X9_doneIn Y ).2 ++ mo_W K b' X) C Yc h1 h2 0 9 kd_X9_doneIn ui_X9_doneIn us_X9_doneIn um_L_114 rfl (recv_ro _ _ _ _) (Ct.left _ (c_X9_doneIn l K A Y )) dL_law_839 rfl rfl (by decide) (Nat.le_of_ble_eq_true rfl) ?_
  refine J_aload_n C 1 dL_law_842 rfl ?_
  refine J_callV (v := some (.int (p_X9_doneIn Y ).1)) (ws' := ro_W K A (p_X9_doneIn Y ).2 ++ mo_W K b' X') C Yc h1 h2 276 10 kd_X10_doneIn ui_X10_doneIn us_X10_doneIn um_L_117 rfl (recv_mo _ _ _ _ _) (Ct.right _ (c_X10_doneIn l K b' X  ((p_X9_doneIn Y ).1, X') e)) dL_law_843 rfl rfl (by decide) (Nat.le_of_ble_eq_true rfl) ?_
  exact J_icmp_eq_y C 1205 rfl dL_law_846 rfl kf
theorem lw_c25 (C : Cx l K Γ RL cL_law 8 rt 14) (Yc : Cy Γ CM CS) (h1 : cs ≤ CM) (h2 : ss ≤ CS) (Xx : Lx Γ b L xs) (hL : L ≤ 3072) (hi : i + 6 ≤ L) (hB1 : 1 ≤ B) (hB : B < 10 ^ 9) (hT : Top B Y X) (kf : ∀ Y' X', Top (B + 100) Y' X' → J l K Γ Q cs ss (ro_W K A Y' ++ mo_W K b' X') 1205 8 (lv4 i (b' 0) (A 4 0) b) []) : J l K Γ Q cs ss (ro_W K A Y ++ mo_W K b' X) 851 8 (lv4 i (b' 0) (A 4 0) b) [] := by
  obtain ⟨X', e, hT'⟩ : OpR (B + 100) (p_X9_ifPassed Y (xs (i + 1)) (xs (i + 2))) (o_X10_ifPassed X (xs (i + 1)) (xs (i + 2))) := by
    obtain ⟨X', e, hT'⟩ := t_ifPassed hT (xs (i + 1)) (xs (i + 2))
    exact ⟨X', e, hT'.mono (by omega)⟩
  have kf := kf _ _ hT'
  refine J_aload_n C 2 dL_law_851 rfl ?_
  refine J_arg C Xx hL hi 1 (by decide) dL_law_852 dL_law_853 dL_law_854 dL_law_855 dL_law_856 ?_
  refine J_arg C Xx hL hi 2 (by decide) dL_law_857 dL_law_858 dL_law_859 dL_law_860 dL_law_861 ?_
  refine J_callV (v := some (.int (p_X9_ifPassed Y (xs (i + 1)) (xs (i + 2))).1)) (ws' := ro_W K A (p_X9_ifPassed Y (xs (i + 1)) (xs (i + 2))).2 ++ mo_W K b' X) C Yc h1 h2 0 9 kd_X9_ifPassed ui_X9_ifPassed us_X9_ifPassed um_L_118 rfl (recv_ro _ _ _ _) (Ct.left _ (c_X9_ifPassed l K A Y (xs (i + 1)) (xs (i + 2)))) dL_law_862 rfl rfl (by decide) (Nat.le_of_ble_eq_true rfl) ?_
  refine J_aload_n C 1 dL_law_865 rfl ?_
  refine J_arg C Xx hL hi 1 (by decide) dL_law_866 dL_law_867 dL_law_868 dL_law_869 dL_law_870 ?_
  refine J_arg C Xx hL hi 2 (by decide) dL_law_871 dL_law_872 dL_law_873 dL_law_874 dL_law_875 ?_
  refine J_callV (v := some (.int (p_X9_ifPassed Y (xs (i + 1)) (xs (i + 2))).1)) (ws' := ro_W K A (p_X9_ifPassed Y (xs (i + 1)) (xs (i + 2))).2 ++ mo_W K b' X') C Yc h1 h2 276 10 kd_X10_ifPassed ui_X10_ifPassed us_X10_ifPassed um_L_121 rfl (recv_mo _ _ _ _ _) (Ct.right _ (c_X10_ifPassed l K b' X (xs (i + 1)) (xs (i + 2)) ((p_X9_ifPassed Y (xs (i + 1)) (xs (i + 2))).1, X') e)) dL_law_876 rfl rfl (by decide) (Nat.le_of_ble_eq_true rfl) ?_
  exact J_icmp_eq_y C 1205 rfl dL_law_879 rfl kf
theorem lw_c26 (C : Cx l K Γ RL cL_law 8 rt 14) (Yc : Cy Γ CM CS) (h1 : cs ≤ CM) (h2 : ss ≤ CS) (Xx : Lx Γ b L xs) (hL : L ≤ 3072) (hi : i + 6 ≤ L) (hB1 : 1 ≤ B) (hB : B < 10 ^ 9) (hT : Top B Y X) (kf : ∀ Y' X', Top (B + 100) Y' X' → J l K Γ Q cs ss (ro_W K A Y' ++ mo_W K b' X') 1205 8 (lv4 i (b' 0) (A 4 0) b) []) : J l K Γ Q cs ss (ro_W K A Y ++ mo_W K b' X) 884 8 (lv4 i (b' 0) (A 4 0) b) [] := by
  obtain ⟨X', e, hT'⟩ : OpR (B + 100) (p_X9_ifRule Y (xs (i + 1)) (xs (i + 2)) (xs (i + 3)) (xs (i + 4))) (o_X10_ifRule X (xs (i + 1)) (xs (i + 2)) (xs (i + 3)) (xs (i + 4))) := by
    obtain ⟨X', e, hT'⟩ := t_ifRule hT (xs (i + 1)) (xs (i + 2)) (xs (i + 3)) (xs (i + 4))
    exact ⟨X', e, hT'.mono (by omega)⟩
  have kf := kf _ _ hT'
  refine J_aload_n C 2 dL_law_884 rfl ?_
  refine J_arg C Xx hL hi 1 (by decide) dL_law_885 dL_law_886 dL_law_887 dL_law_888 dL_law_889 ?_
  refine J_arg C Xx hL hi 2 (by decide) dL_law_890 dL_law_891 dL_law_892 dL_law_893 dL_law_894 ?_
  refine J_arg C Xx hL hi 3 (by decide) dL_law_895 dL_law_896 dL_law_897 dL_law_898 dL_law_899 ?_
  refine J_arg C Xx hL hi 4 (by decide) dL_law_900 dL_law_901 dL_law_902 dL_law_903 dL_law_904 ?_
  refine J_callV (v := some (.int (p_X9_ifRule Y (xs (i + 1)) (xs (i + 2)) (xs (i + 3)) (xs (i + 4))).1)) (ws' := ro_W K A (p_X9_ifRule Y (xs (i + 1)) (xs (i + 2)) (xs (i + 3)) (xs (i + 4))).2 ++ mo_W K b' X) C Yc h1 h2 0 9 kd_X9_ifRule ui_X9_ifRule us_X9_ifRule um_L_122 rfl (recv_ro _ _ _ _) (Ct.left _ (c_X9_ifRule l K A Y (xs (i + 1)) (xs (i + 2)) (xs (i + 3)) (xs (i + 4)))) dL_law_905 rfl rfl (by decide) (Nat.le_of_ble_eq_true rfl) ?_
  refine J_aload_n C 1 dL_law_908 rfl ?_
  refine J_arg C Xx hL hi 1 (by decide) dL_law_909 dL_law_910 dL_law_911 dL_law_912 dL_law_913 ?_
  refine J_arg C Xx hL hi 2 (by decide) dL_law_914 dL_law_915 dL_law_916 dL_law_917 dL_law_918 ?_
  refine J_arg C Xx hL hi 3 (by decide) dL_law_919 dL_law_920 dL_law_921 dL_law_922 dL_law_923 ?_
  refine J_arg C Xx hL hi 4 (by decide) dL_law_924 dL_law_925 dL_law_926 dL_law_927 dL_law_928 ?_
  refine J_callV (v := some (.int (p_X9_ifRule Y (xs (i + 1)) (xs (i + 2)) (xs (i + 3)) (xs (i + 4))).1)) (ws' := ro_W K A (p_X9_ifRule Y (xs (i + 1)) (xs (i + 2)) (xs (i + 3)) (xs (i + 4))).2 ++ mo_W K b' X') C Yc h1 h2 276 10 kd_X10_ifRule ui_X10_ifRule us_X10_ifRule um_L_126 rfl (recv_mo _ _ _ _ _) (Ct.right _ (c_X10_ifRule l K b' X (xs (i + 1)) (xs (i + 2)) (xs (i + 3)) (xs (i + 4)) ((p_X9_ifRule Y (xs (i + 1)) (xs (i + 2)) (xs (i + 3)) (xs (i + 4))).1, X') e)) dL_law_929 rfl rfl (by decide) (Nat.le_of_ble_eq_true rfl) ?_
  exact J_icmp_eq_y C 1205 rfl dL_law_932 rfl kf
theorem lw_c27 (C : Cx l K Γ RL cL_law 8 rt 14) (Yc : Cy Γ CM CS) (h1 : cs ≤ CM) (h2 : ss ≤ CS) (Xx : Lx Γ b L xs) (hL : L ≤ 3072) (hi : i + 6 ≤ L) (hB1 : 1 ≤ B) (hB : B < 10 ^ 9) (hT : Top B Y X) (kf : ∀ Y' X', Top (B + 100) Y' X' → J l K Γ Q cs ss (ro_W K A Y' ++ mo_W K b' X') 1205 8 (lv4 i (b' 0) (A 4 0) b) []) : J l K Γ Q cs ss (ro_W K A Y ++ mo_W K b' X) 937 8 (lv4 i (b' 0) (A 4 0) b) [] := by
  obtain ⟨X', e, hT'⟩ : OpR (B + 100) (p_X9_ifShut Y (xs (i + 1)) (xs (i + 2)) (xs (i + 3))) (o_X10_ifShut X (xs (i + 1)) (xs (i + 2)) (xs (i + 3))) := by
    obtain ⟨X', e, hT'⟩ := t_ifShut hT (xs (i + 1)) (xs (i + 2)) (xs (i + 3))
    exact ⟨X', e, hT'.mono (by omega)⟩
  have kf := kf _ _ hT'
  refine J_aload_n C 2 dL_law_937 rfl ?_
  refine J_arg C Xx hL hi 1 (by decide) dL_law_938 dL_law_939 dL_law_940 dL_law_941 dL_law_942 ?_
  refine J_arg C Xx hL hi 2 (by decide) dL_law_943 dL_law_944 dL_law_945 dL_law_946 dL_law_947 ?_
  refine J_arg C Xx hL hi 3 (by decide) dL_law_948 dL_law_949 dL_law_950 dL_law_951 dL_law_952 ?_
  refine J_callV (v := some (.int (p_X9_ifShut Y (xs (i + 1)) (xs (i + 2)) (xs (i + 3))).1)) (ws' := ro_W K A (p_X9_ifShut Y (xs (i + 1)) (xs (i + 2)) (xs (i + 3))).2 ++ mo_W K b' X) C Yc h1 h2 0 9 kd_X9_ifShut ui_X9_ifShut us_X9_ifShut um_L_127 rfl (recv_ro _ _ _ _) (Ct.left _ (c_X9_ifShut l K A Y (xs (i + 1)) (xs (i + 2)) (xs (i + 3)))) dL_law_953 rfl rfl (by decide) (Nat.le_of_ble_eq_true rfl) ?_
  refine J_aload_n C 1 dL_law_956 rfl ?_
  refine J_arg C Xx hL hi 1 (by decide) dL_law_957 dL_law_958 dL_law_959 dL_law_960 dL_law_961 ?_
  refine J_arg C Xx hL hi 2 (by decide) dL_law_962 dL_law_963 dL_law_964 dL_law_965 dL_law_966 ?_
  refine J_arg C Xx hL hi 3 (by decide) dL_law_967 dL_law_968 dL_law_969 dL_law_970 dL_law_971 ?_
  refine J_callV (v := some (.int (p_X9_ifShut Y (xs (i + 1)) (xs (i + 2)) (xs (i + 3))).1)) (ws' := ro_W K A (p_X9_ifShut Y (xs (i + 1)) (xs (i + 2)) (xs (i + 3))).2 ++ mo_W K b' X') C Yc h1 h2 276 10 kd_X10_ifShut ui_X10_ifShut us_X10_ifShut um_L_130 rfl (recv_mo _ _ _ _ _) (Ct.right _ (c_X10_ifShut l K b' X (xs (i + 1)) (xs (i + 2)) (xs (i + 3)) ((p_X9_ifShut Y (xs (i + 1)) (xs (i + 2)) (xs (i + 3))).1, X') e)) dL_law_972 rfl rfl (by decide) (Nat.le_of_ble_eq_true rfl) ?_
  exact J_icmp_eq_y C 1205 rfl dL_law_975 rfl kf
theorem lw_c28 (C : Cx l K Γ RL cL_law 8 rt 14) (Yc : Cy Γ CM CS) (h1 : cs ≤ CM) (h2 : ss ≤ CS) (Xx : Lx Γ b L xs) (hL : L ≤ 3072) (hi : i + 6 ≤ L) (hB1 : 1 ≤ B) (hB : B < 10 ^ 9) (hT : Top B Y X) (kf : ∀ Y' X', Top (B + 100) Y' X' → J l K Γ Q cs ss (ro_W K A Y' ++ mo_W K b' X') 1205 8 (lv4 i (b' 0) (A 4 0) b) []) : J l K Γ Q cs ss (ro_W K A Y ++ mo_W K b' X) 980 8 (lv4 i (b' 0) (A 4 0) b) [] := by
  obtain ⟨X', e, hT'⟩ : OpR (B + 100) (p_X9_bestSpeak Y (xs (i + 1))) (o_X10_bestSpeak X (xs (i + 1))) := by
    obtain ⟨X', e, hT'⟩ := t_bestSpeak hT (xs (i + 1))
    exact ⟨X', e, hT'.mono (by omega)⟩
  have kf := kf _ _ hT'
  refine J_aload_n C 2 dL_law_980 rfl ?_
  refine J_arg C Xx hL hi 1 (by decide) dL_law_981 dL_law_982 dL_law_983 dL_law_984 dL_law_985 ?_
  refine J_callV (v := some (.int (p_X9_bestSpeak Y (xs (i + 1))).1)) (ws' := ro_W K A (p_X9_bestSpeak Y (xs (i + 1))).2 ++ mo_W K b' X) C Yc h1 h2 0 9 kd_X9_bestSpeak ui_X9_bestSpeak us_X9_bestSpeak um_L_131 rfl (recv_ro _ _ _ _) (Ct.left _ (c_X9_bestSpeak l K A Y (xs (i + 1)))) dL_law_986 rfl rfl (by decide) (Nat.le_of_ble_eq_true rfl) ?_
  refine J_aload_n C 1 dL_law_989 rfl ?_
  refine J_arg C Xx hL hi 1 (by decide) dL_law_990 dL_law_991 dL_law_992 dL_law_993 dL_law_994 ?_
  refine J_callV (v := some (.int (p_X9_bestSpeak Y (xs (i + 1))).1)) (ws' := ro_W K A (p_X9_bestSpeak Y (xs (i + 1))).2 ++ mo_W K b' X') C Yc h1 h2 276 10 kd_X10_bestSpeak ui_X10_bestSpeak us_X10_bestSpeak um_L_134 rfl (recv_mo _ _ _ _ _) (Ct.right _ (c_X10_bestSpeak l K b' X (xs (i + 1)) ((p_X9_bestSpeak Y (xs (i + 1))).1, X') e)) dL_law_995 rfl rfl (by decide) (Nat.le_of_ble_eq_true rfl) ?_
  exact J_icmp_eq_y C 1205 rfl dL_law_998 rfl kf
theorem lw_c29 (C : Cx l K Γ RL cL_law 8 rt 14) (Yc : Cy Γ CM CS) (h1 : cs ≤ CM) (h2 : ss ≤ CS) (Xx : Lx Γ b L xs) (hL : L ≤ 3072) (hi : i + 6 ≤ L) (hB1 : 1 ≤ B) (hB : B < 10 ^ 9) (hT : Top B Y X) (kf : ∀ Y' X', Top (B + 100) Y' X' → J l K Γ Q cs ss (ro_W K A Y' ++ mo_W K b' X') 1205 8 (lv4 i (b' 0) (A 4 0) b) []) : J l K Γ Q cs ss (ro_W K A Y ++ mo_W K b' X) 1003 8 (lv4 i (b' 0) (A 4 0) b) [] := by
  obtain ⟨X', e, hT'⟩ : OpR (B + 100) (p_X9_leastQuota Y ) (o_X10_leastQuota X ) := by
    obtain ⟨X', e, hT'⟩ := t_leastQuota hT 
    exact ⟨X', e, hT'.mono (by omega)⟩
  have kf := kf _ _ hT'
  refine J_aload_n C 2 dL_law_1003 rfl ?_
  refine J_callV (v := some (.int (p_X9_leastQuota Y ).1)) (ws' := ro_W K A (p_X9_leastQuota Y ).2 ++ mo_W K b' X) C Yc h1 h2 0 9 kd_X9_leastQuota ui_X9_leastQuota us_X9_leastQuota um_L_135 rfl (recv_ro _ _ _ _) (Ct.left _ (c_X9_leastQuota l K A Y )) dL_law_1004 rfl rfl (by decide) (Nat.le_of_ble_eq_true rfl) ?_
  refine J_aload_n C 1 dL_law_1007 rfl ?_
  refine J_callV (v := some (.int (p_X9_leastQuota Y ).1)) (ws' := ro_W K A (p_X9_leastQuota Y ).2 ++ mo_W K b' X') C Yc h1 h2 276 10 kd_X10_leastQuota ui_X10_leastQuota us_X10_leastQuota um_L_138 rfl (recv_mo _ _ _ _ _) (Ct.right _ (c_X10_leastQuota l K b' X  ((p_X9_leastQuota Y ).1, X') e)) dL_law_1008 rfl rfl (by decide) (Nat.le_of_ble_eq_true rfl) ?_
  exact J_icmp_eq_y C 1205 rfl dL_law_1011 rfl kf
theorem lw_c30 (C : Cx l K Γ RL cL_law 8 rt 14) (Yc : Cy Γ CM CS) (h1 : cs ≤ CM) (h2 : ss ≤ CS) (Xx : Lx Γ b L xs) (hL : L ≤ 3072) (hi : i + 6 ≤ L) (hB1 : 1 ≤ B) (hB : B < 10 ^ 9) (hT : Top B Y X) (kf : ∀ Y' X', Top (B + 100) Y' X' → J l K Γ Q cs ss (ro_W K A Y' ++ mo_W K b' X') 1205 8 (lv4 i (b' 0) (A 4 0) b) []) : J l K Γ Q cs ss (ro_W K A Y ++ mo_W K b' X) 1016 8 (lv4 i (b' 0) (A 4 0) b) [] := by
  have e : o_X10_log X (xs (i + 1)) (xs (i + 2)) = some (v_X9_log Y (xs (i + 1)) (xs (i + 2))) := by
    obtain ⟨c, tc, hc, hI, -⟩ := hT.1
    exact q_log hI _ _
  have kf := kf Y X (hT.mono (by omega))
  refine J_aload_n C 2 dL_law_1016 rfl ?_
  refine J_arg C Xx hL hi 1 (by decide) dL_law_1017 dL_law_1018 dL_law_1019 dL_law_1020 dL_law_1021 ?_
  refine J_arg C Xx hL hi 2 (by decide) dL_law_1022 dL_law_1023 dL_law_1024 dL_law_1025 dL_law_1026 ?_
  refine J_callV (v := some (.int (v_X9_log Y (xs (i + 1)) (xs (i + 2))))) (ws' := ro_W K A Y ++ mo_W K b' X) C Yc h1 h2 0 9 kd_X9_log ui_X9_log us_X9_log um_L_139 rfl (recv_ro _ _ _ _) (Ct.left _ (c_X9_log l K A Y (xs (i + 1)) (xs (i + 2)))) dL_law_1027 rfl rfl (by decide) (Nat.le_of_ble_eq_true rfl) ?_
  refine J_aload_n C 1 dL_law_1030 rfl ?_
  refine J_arg C Xx hL hi 1 (by decide) dL_law_1031 dL_law_1032 dL_law_1033 dL_law_1034 dL_law_1035 ?_
  refine J_arg C Xx hL hi 2 (by decide) dL_law_1036 dL_law_1037 dL_law_1038 dL_law_1039 dL_law_1040 ?_
  refine J_callV (v := some (.int (v_X9_log Y (xs (i + 1)) (xs (i + 2))))) (ws' := ro_W K A Y ++ mo_W K b' X) C Yc h1 h2 276 10 kd_X10_log ui_X10_log us_X10_log um_L_142 rfl (recv_mo _ _ _ _ _) (Ct.right _ (c_X10_log l K b' X (xs (i + 1)) (xs (i + 2)) (v_X9_log Y (xs (i + 1)) (xs (i + 2))) e)) dL_law_1041 rfl rfl (by decide) (Nat.le_of_ble_eq_true rfl) ?_
  exact J_icmp_eq_y C 1205 rfl dL_law_1044 rfl kf
theorem lw_c33 (C : Cx l K Γ RL cL_law 8 rt 14) (Yc : Cy Γ CM CS) (h1 : cs ≤ CM) (h2 : ss ≤ CS) (Xx : Lx Γ b L xs) (hL : L ≤ 3072) (hi : i + 6 ≤ L) (hB1 : 1 ≤ B) (hB : B < 10 ^ 9) (hT : Top B Y X) (kf : ∀ Y' X', Top (B + 100) Y' X' → J l K Γ Q cs ss (ro_W K A Y' ++ mo_W K b' X') 1205 8 (lv4 i (b' 0) (A 4 0) b) []) : J l K Γ Q cs ss (ro_W K A Y ++ mo_W K b' X) 1133 8 (lv4 i (b' 0) (A 4 0) b) [] := by
  obtain ⟨X', e, hT'⟩ : OpR (B + 100) (p_X9_listLength Y ) (o_X10_listLength X ) := by
    obtain ⟨X', e, hT'⟩ := t_listLength hT hB 
    exact ⟨X', e, hT'.mono (by omega)⟩
  have kf := kf _ _ hT'
  refine J_aload_n C 2 dL_law_1133 rfl ?_
  refine J_callV (v := some (.int (p_X9_listLength Y ).1)) (ws' := ro_W K A (p_X9_listLength Y ).2 ++ mo_W K b' X) C Yc h1 h2 0 9 kd_X9_listLength ui_X9_listLength us_X9_listLength um_L_153 rfl (recv_ro _ _ _ _) (Ct.left _ (c_X9_listLength l K A Y )) dL_law_1134 rfl rfl (by decide) (Nat.le_of_ble_eq_true rfl) ?_
  refine J_aload_n C 1 dL_law_1137 rfl ?_
  refine J_callV (v := some (.int (p_X9_listLength Y ).1)) (ws' := ro_W K A (p_X9_listLength Y ).2 ++ mo_W K b' X') C Yc h1 h2 276 10 kd_X10_listLength ui_X10_listLength us_X10_listLength um_L_156 rfl (recv_mo _ _ _ _ _) (Ct.right _ (c_X10_listLength l K b' X  ((p_X9_listLength Y ).1, X') e)) dL_law_1138 rfl rfl (by decide) (Nat.le_of_ble_eq_true rfl) ?_
  exact J_icmp_eq_y C 1205 rfl dL_law_1141 rfl kf
theorem lw_c34 (C : Cx l K Γ RL cL_law 8 rt 14) (Yc : Cy Γ CM CS) (h1 : cs ≤ CM) (h2 : ss ≤ CS) (Xx : Lx Γ b L xs) (hL : L ≤ 3072) (hi : i + 6 ≤ L) (hB1 : 1 ≤ B) (hB : B < 10 ^ 9) (hT : Top B Y X) (kf : ∀ Y' X', Top (B + 100) Y' X' → J l K Γ Q cs ss (ro_W K A Y' ++ mo_W K b' X') 1205 8 (lv4 i (b' 0) (A 4 0) b) []) : J l K Γ Q cs ss (ro_W K A Y ++ mo_W K b' X) 1146 8 (lv4 i (b' 0) (A 4 0) b) [] := by
  obtain ⟨X', e, hT'⟩ : OpR (B + 100) (p_X9_listByte Y (xs (i + 1))) (o_X10_listByte X (xs (i + 1))) := by
    obtain ⟨X', e, hT'⟩ := t_listByte hT hB (xs (i + 1))
    exact ⟨X', e, hT'.mono (by omega)⟩
  have kf := kf _ _ hT'
  refine J_aload_n C 2 dL_law_1146 rfl ?_
  refine J_arg C Xx hL hi 1 (by decide) dL_law_1147 dL_law_1148 dL_law_1149 dL_law_1150 dL_law_1151 ?_
  refine J_callV (v := some (.int (p_X9_listByte Y (xs (i + 1))).1)) (ws' := ro_W K A (p_X9_listByte Y (xs (i + 1))).2 ++ mo_W K b' X) C Yc h1 h2 0 9 kd_X9_listByte ui_X9_listByte us_X9_listByte um_L_157 rfl (recv_ro _ _ _ _) (Ct.left _ (c_X9_listByte l K A Y (xs (i + 1)))) dL_law_1152 rfl rfl (by decide) (Nat.le_of_ble_eq_true rfl) ?_
  refine J_aload_n C 1 dL_law_1155 rfl ?_
  refine J_arg C Xx hL hi 1 (by decide) dL_law_1156 dL_law_1157 dL_law_1158 dL_law_1159 dL_law_1160 ?_
  refine J_callV (v := some (.int (p_X9_listByte Y (xs (i + 1))).1)) (ws' := ro_W K A (p_X9_listByte Y (xs (i + 1))).2 ++ mo_W K b' X') C Yc h1 h2 276 10 kd_X10_listByte ui_X10_listByte us_X10_listByte um_L_160 rfl (recv_mo _ _ _ _ _) (Ct.right _ (c_X10_listByte l K b' X (xs (i + 1)) ((p_X9_listByte Y (xs (i + 1))).1, X') e)) dL_law_1161 rfl rfl (by decide) (Nat.le_of_ble_eq_true rfl) ?_
  exact J_icmp_eq_y C 1205 rfl dL_law_1164 rfl kf
theorem lw_c35 (C : Cx l K Γ RL cL_law 8 rt 14) (Yc : Cy Γ CM CS) (h1 : cs ≤ CM) (h2 : ss ≤ CS) (Xx : Lx Γ b L xs) (hL : L ≤ 3072) (hi : i + 6 ≤ L) (hB1 : 1 ≤ B) (hB : B < 10 ^ 9) (hT : Top B Y X) (kf : ∀ Y' X', Top (B + 100) Y' X' → J l K Γ Q cs ss (ro_W K A Y' ++ mo_W K b' X') 1205 8 (lv4 i (b' 0) (A 4 0) b) []) : J l K Γ Q cs ss (ro_W K A Y ++ mo_W K b' X) 1169 8 (lv4 i (b' 0) (A 4 0) b) [] := by
  obtain ⟨X', e, hT'⟩ : OpR (B + 100) (p_X9_setupLength Y ) (o_X10_setupLength X ) := by
    obtain ⟨X', e, hT'⟩ := t_setupLength hT 
    exact ⟨X', e, hT'.mono (by omega)⟩
  have kf := kf _ _ hT'
  refine J_aload_n C 2 dL_law_1169 rfl ?_
  refine J_callV (v := some (.int (p_X9_setupLength Y ).1)) (ws' := ro_W K A (p_X9_setupLength Y ).2 ++ mo_W K b' X) C Yc h1 h2 0 9 kd_X9_setupLength ui_X9_setupLength us_X9_setupLength um_L_161 rfl (recv_ro _ _ _ _) (Ct.left _ (c_X9_setupLength l K A Y )) dL_law_1170 rfl rfl (by decide) (Nat.le_of_ble_eq_true rfl) ?_
  refine J_aload_n C 1 dL_law_1173 rfl ?_
  refine J_callV (v := some (.int (p_X9_setupLength Y ).1)) (ws' := ro_W K A (p_X9_setupLength Y ).2 ++ mo_W K b' X') C Yc h1 h2 276 10 kd_X10_setupLength ui_X10_setupLength us_X10_setupLength um_L_164 rfl (recv_mo _ _ _ _ _) (Ct.right _ (c_X10_setupLength l K b' X  ((p_X9_setupLength Y ).1, X') e)) dL_law_1174 rfl rfl (by decide) (Nat.le_of_ble_eq_true rfl) ?_
  exact J_icmp_eq_y C 1205 rfl dL_law_1177 rfl kf
theorem lw_c36 (C : Cx l K Γ RL cL_law 8 rt 14) (Yc : Cy Γ CM CS) (h1 : cs ≤ CM) (h2 : ss ≤ CS) (Xx : Lx Γ b L xs) (hL : L ≤ 3072) (hi : i + 6 ≤ L) (hB1 : 1 ≤ B) (hB : B < 10 ^ 9) (hT : Top B Y X) (kf : ∀ Y' X', Top (B + 100) Y' X' → J l K Γ Q cs ss (ro_W K A Y' ++ mo_W K b' X') 1205 8 (lv4 i (b' 0) (A 4 0) b) []) : J l K Γ Q cs ss (ro_W K A Y ++ mo_W K b' X) 1182 8 (lv4 i (b' 0) (A 4 0) b) [] := by
  obtain ⟨X', e, hT'⟩ : OpR (B + 100) (p_X9_setupByte Y (xs (i + 1))) (o_X10_setupByte X (xs (i + 1))) := by
    obtain ⟨X', e, hT'⟩ := t_setupByte hT (xs (i + 1))
    exact ⟨X', e, hT'.mono (by omega)⟩
  have kf := kf _ _ hT'
  refine J_aload_n C 2 dL_law_1182 rfl ?_
  refine J_arg C Xx hL hi 1 (by decide) dL_law_1183 dL_law_1184 dL_law_1185 dL_law_1186 dL_law_1187 ?_
  refine J_callV (v := some (.int (p_X9_setupByte Y (xs (i + 1))).1)) (ws' := ro_W K A (p_X9_setupByte Y (xs (i + 1))).2 ++ mo_W K b' X) C Yc h1 h2 0 9 kd_X9_setupByte ui_X9_setupByte us_X9_setupByte um_L_165 rfl (recv_ro _ _ _ _) (Ct.left _ (c_X9_setupByte l K A Y (xs (i + 1)))) dL_law_1188 rfl rfl (by decide) (Nat.le_of_ble_eq_true rfl) ?_
  refine J_aload_n C 1 dL_law_1191 rfl ?_
  refine J_arg C Xx hL hi 1 (by decide) dL_law_1192 dL_law_1193 dL_law_1194 dL_law_1195 dL_law_1196 ?_
  refine J_callV (v := some (.int (p_X9_setupByte Y (xs (i + 1))).1)) (ws' := ro_W K A (p_X9_setupByte Y (xs (i + 1))).2 ++ mo_W K b' X') C Yc h1 h2 276 10 kd_X10_setupByte ui_X10_setupByte us_X10_setupByte um_L_168 rfl (recv_mo _ _ _ _ _) (Ct.right _ (c_X10_setupByte l K b' X (xs (i + 1)) ((p_X9_setupByte Y (xs (i + 1))).1, X') e)) dL_law_1197 rfl rfl (by decide) (Nat.le_of_ble_eq_true rfl) ?_
  exact J_icmp_eq_y C 1205 rfl dL_law_1200 rfl kf
theorem lw_c31 (C : Cx l K Γ RL cL_law 8 rt 14) (Yc : Cy Γ CM CS) (h1 : cs ≤ CM) (h2 : ss ≤ CS) (Xx : Lx Γ b L xs) (hL : L ≤ 3072) (hi : i + 6 ≤ L) (hB1 : 1 ≤ B) (hB : B < 10 ^ 9) (hT : Top B Y X) (kf : ∀ Y' X', Top (B + 100) Y' X' → J l K Γ Q cs ss (ro_W K A Y' ++ mo_W K b' X') 1205 8 (lv4 i (b' 0) (A 4 0) b) []) : J l K Γ Q cs ss (ro_W K A Y ++ mo_W K b' X) 1049 8 (lv4 i (b' 0) (A 4 0) b) [] := by
  have hnn := f_spoken_nn (at_ 9 (Y 0 1) 8) (Y 0 18 0)
  have e : ((some (Value.float (f_spoken (X 0 (16 : Int32).toNatClampNeg) (X 0 (3 : Int32).toNatClampNeg))), mo_W K b' X) : gR) = (some (.float (f_spoken (at_ 9 (Y 0 1) 8) (Y 0 18 0))), mo_W K b' X) := by
    obtain ⟨c, tc, hc, hI, -⟩ := hT.1
    have g1 : X 0 (16 : Int32).toNatClampNeg = at_ 9 (Y 0 1) 8 := hI.1.2.2.2.2.1 8 (by decide)
    have g2 : X 0 (3 : Int32).toNatClampNeg = Y 0 18 0 := hI.1.2.2.2.2.2.1
    rw [g1, g2]
  have kf := kf Y X (hT.mono (by omega))
  refine J_aload_n C 2 dL_law_1049 rfl ?_
  refine J_callV (v := some (.float (f_spoken (at_ 9 (Y 0 1) 8) (Y 0 18 0)))) (ws' := ro_W K A Y ++ mo_W K b' X) C Yc h1 h2 0 9 kd_X9_spoken ui_X9_spoken us_X9_spoken um_L_143 rfl (recv_ro _ _ _ _) (Ct.left _ (c_X9_spoken l K A Y)) dL_law_1050 rfl rfl (by decide) (Nat.le_of_ble_eq_true rfl) ?_
  refine J_f2d C hnn dL_law_1053 ?_
  refine J_dstore C (lv' := [(4, .double (FP.f2d (f_spoken (at_ 9 (Y 0 1) 8) (Y 0 18 0)))), (3, .int (iN i)), (2, .ref (b' 0)), (1, .ref (A 4 0)), (0, .ref b)]) dL_law_1054 (by decide) rfl ?_
  refine J_aload_n C 2 dL_law_1056 rfl ?_
  refine J_callV (v := some (.float (f_spoken (at_ 9 (Y 0 1) 8) (Y 0 18 0)))) (ws' := ro_W K A Y ++ mo_W K b' X) C Yc h1 h2 276 10 kd_X10_spoken ui_X10_spoken us_X10_spoken um_L_147 rfl (recv_mo _ _ _ _ _) (Ct.right _ (Ct.to (r' := (some (.float (f_spoken (at_ 9 (Y 0 1) 8) (Y 0 18 0))), mo_W K b' X)) (c_X10_spoken l K b' X) e)) dL_law_1057 rfl rfl (by decide) (Nat.le_of_ble_eq_true rfl) ?_
  refine J_f2d C hnn dL_law_1060 ?_
  refine J_dstore C (lv' := [(6, .double (FP.f2d (f_spoken (at_ 9 (Y 0 1) 8) (Y 0 18 0)))), (4, .double (FP.f2d (f_spoken (at_ 9 (Y 0 1) 8) (Y 0 18 0)))), (3, .int (iN i)), (2, .ref (b' 0)), (1, .ref (A 4 0)), (0, .ref b)]) dL_law_1061 (by decide) rfl ?_
  refine J_dload C 1 dL_law_1063 rfl ?_
  refine J_dload C 0 dL_law_1065 rfl ?_
  refine J_dcmpE C (fp_f2d hnn) dL_law_1067 ?_
  refine J_if_eq_y C 1089 rfl dL_law_1068 rfl ?_
  refine J_goto C 1205 dL_law_1089 rfl ?_
  exact J_sub [2, 3, 4, 5] rfl kf
theorem lw_c32 (C : Cx l K Γ RL cL_law 8 rt 14) (Yc : Cy Γ CM CS) (h1 : cs ≤ CM) (h2 : ss ≤ CS) (Xx : Lx Γ b L xs) (hL : L ≤ 3072) (hi : i + 6 ≤ L) (hB1 : 1 ≤ B) (hB : B < 10 ^ 9) (hT : Top B Y X) (kf : ∀ Y' X', Top (B + 100) Y' X' → J l K Γ Q cs ss (ro_W K A Y' ++ mo_W K b' X') 1205 8 (lv4 i (b' 0) (A 4 0) b) []) : J l K Γ Q cs ss (ro_W K A Y ++ mo_W K b' X) 1092 8 (lv4 i (b' 0) (A 4 0) b) [] := by
  have hnn := f_mean_nn (v_X2_lengthInAll (Y 0)) (v_X2_lettersInAll (Y 0))
  obtain ⟨c, tc, hc, hI, -⟩ := hT.1
  have e1 := q_lettersAll hI.1.1
  have e2 := q_lengthAll hI.1.1
  have kf := kf Y X (hT.mono (by omega))
  refine J_aload_n C 2 dL_law_1092 rfl ?_
  refine J_callV (v := some (.double (f_mean (v_X2_lengthInAll (Y 0)) (v_X2_lettersInAll (Y 0))))) (ws' := ro_W K A Y ++ mo_W K b' X) C Yc h1 h2 0 9 kd_X9_meanLength ui_X9_meanLength us_X9_meanLength um_L_148 rfl (recv_ro _ _ _ _) (Ct.left _ (c_X9_meanLength l K A Y)) dL_law_1093 rfl rfl (by decide) (Nat.le_of_ble_eq_true rfl) ?_
  refine J_dstore C (lv' := [(4, .double (f_mean (v_X2_lengthInAll (Y 0)) (v_X2_lettersInAll (Y 0)))), (3, .int (iN i)), (2, .ref (b' 0)), (1, .ref (A 4 0)), (0, .ref b)]) dL_law_1096 (by decide) rfl ?_
  refine J_aload_n C 2 dL_law_1098 rfl ?_
  refine J_callV (v := some (.double (f_mean (v_X2_lengthInAll (Y 0)) (v_X2_lettersInAll (Y 0))))) (ws' := ro_W K A Y ++ mo_W K b' X) C Yc h1 h2 276 10 kd_X10_meanLength ui_X10_meanLength us_X10_meanLength um_L_152 rfl (recv_mo _ _ _ _ _) (Ct.right _ (c_X10_meanLength l K b' X _ _ e1 e2)) dL_law_1099 rfl rfl (by decide) (Nat.le_of_ble_eq_true rfl) ?_
  refine J_dstore C (lv' := [(6, .double (f_mean (v_X2_lengthInAll (Y 0)) (v_X2_lettersInAll (Y 0)))), (4, .double (f_mean (v_X2_lengthInAll (Y 0)) (v_X2_lettersInAll (Y 0)))), (3, .int (iN i)), (2, .ref (b' 0)), (1, .ref (A 4 0)), (0, .ref b)]) dL_law_1102 (by decide) rfl ?_
  refine J_dload C 1 dL_law_1104 rfl ?_
  refine J_dload C 0 dL_law_1106 rfl ?_
  refine J_dcmpE C hnn dL_law_1108 ?_
  refine J_if_eq_y C 1130 rfl dL_law_1109 rfl ?_
  refine J_goto C 1205 dL_law_1130 rfl ?_
  exact J_sub [2, 3, 4, 5] rfl kf
end LAW
