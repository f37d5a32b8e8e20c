-- PART 40: more rows of the judgement J
theorem fp_fcmp {a : UInt32} (h : Jvm.FP.Core.fIsNaN a = false) : FP.fcmp a a = some .eq := by
  refine Jvm.FP.Core.fcmp_self (fun q => ?_)
  rw [(Jvm.FP.Core.fIsNaN_iff a).mpr q] at h
  cases h
section JR2
variable {l : Launch} {K : gK} {Γ : gT} {Q : State → Prop} {cs ss : Nat} {own : String} {cc : ByteArray} {nL : Nat} {ret : Option FieldType} {h : Nat} {ws : va_W} {pc : Nat} {lv : List (Nat × Value)} {st : List Value}
theorem J_iload (C : Cx l K Γ own cc nL ret h) (q : Nat) {i : Nat} {v : Int32} (hdg : decode cc pc = .ok (.iload i, 2)) (hk : lv[q]? = some (i, .int v)) (k : J l K Γ Q cs ss ws (pc + 2) nL lv (.int v :: st)) : J l K Γ Q cs ss ws pc nL lv (st) := by
  obtain ⟨p, e, R, s, m, args, below, meth, c, A⟩ := Γ
  obtain ⟨hx, hb, hml, hown, hts, hr, hlk, hK, hA, hf1, hf2⟩ := C
  intro H locs ls hP hD hS hl
  exact lv_iload hx hb hdg (lv_at hl q hk) (k H locs ls hP hD hS hl)
theorem J_istore (C : Cx l K Γ own cc nL ret h) {i : Nat} {v : Int32} {lv' : List (Nat × Value)} (hdg : decode cc pc = .ok (.istore i, 2)) (hn : i < nL) (hl' : (i, Value.int v) :: lv.filter (fun q => !(q.1 == i) && !(q.1 + 1 == i && q.2.category == 2)) = lv') (k : J l K Γ Q cs ss ws (pc + 2) nL lv' st) : J l K Γ Q cs ss ws pc nL lv (.int v :: st) := by
  obtain ⟨p, e, R, s, m, args, below, meth, c, A⟩ := Γ
  obtain ⟨hx, hb, hml, hown, hts, hr, hlk, hK, hA, hf1, hf2⟩ := C
  intro H locs ls hP hD hS hl
  exact lv_istore hx hb hdg hl hn hl' (fun ls' hl2 => k H locs ls' hP hD hS hl2)
theorem J_aload (C : Cx l K Γ own cc nL ret h) (q : Nat) {i : Nat} {v : Nat} (hdg : decode cc pc = .ok (.aload i, 2)) (hk : lv[q]? = some (i, .ref v)) (k : J l K Γ Q cs ss ws (pc + 2) nL lv (.ref v :: st)) : J l K Γ Q cs ss ws pc nL lv (st) := by
  obtain ⟨p, e, R, s, m, args, below, meth, c, A⟩ := Γ
  obtain ⟨hx, hb, hml, hown, hts, hr, hlk, hK, hA, hf1, hf2⟩ := C
  intro H locs ls hP hD hS hl
  exact lv_aload hx hb hdg (lv_at hl q hk) (k H locs ls hP hD hS hl)
theorem J_astore (C : Cx l K Γ own cc nL ret h) {i : Nat} {v : Nat} {lv' : List (Nat × Value)} (hdg : decode cc pc = .ok (.astore i, 2)) (hn : i < nL) (hl' : (i, Value.ref v) :: lv.filter (fun q => !(q.1 == i) && !(q.1 + 1 == i && q.2.category == 2)) = lv') (k : J l K Γ Q cs ss ws (pc + 2) nL lv' st) : J l K Γ Q cs ss ws pc nL lv (.ref v :: st) := by
  obtain ⟨p, e, R, s, m, args, below, meth, c, A⟩ := Γ
  obtain ⟨hx, hb, hml, hown, hts, hr, hlk, hK, hA, hf1, hf2⟩ := C
  intro H locs ls hP hD hS hl
  exact lv_astore hx hb hdg hl hn hl' (fun ls' hl2 => k H locs ls' hP hD hS hl2)
theorem J_imul (C : Cx l K Γ own cc nL ret h) {a b : Int32} (hdg : decode cc pc = .ok (.imul, 1)) (k : J l K Γ Q cs ss ws (pc + 1) nL lv (.int (a * b) :: st)) : J l K Γ Q cs ss ws pc nL lv (.int b :: .int a :: st) := by
  obtain ⟨p, e, R, s, m, args, below, meth, c, A⟩ := Γ
  obtain ⟨hx, hb, hml, hown, hts, hr, hlk, hK, hA, hf1, hf2⟩ := C
  intro H locs ls hP hD hS hl
  exact lv_imul hx hb hdg (k H locs ls hP hD hS hl)
theorem J_idiv (C : Cx l K Γ own cc nL ret h) {a b : Int32} (hdg : decode cc pc = .ok (.idiv, 1)) (hne : ¬ b = 0) (k : J l K Γ Q cs ss ws (pc + 1) nL lv (.int (a / b) :: st)) : J l K Γ Q cs ss ws pc nL lv (.int b :: .int a :: st) := by
  obtain ⟨p, e, R, s, m, args, below, meth, c, A⟩ := Γ
  obtain ⟨hx, hb, hml, hown, hts, hr, hlk, hK, hA, hf1, hf2⟩ := C
  intro H locs ls hP hD hS hl
  exact lv_idiv hx hb hdg hne (k H locs ls hP hD hS hl)
theorem J_irem (C : Cx l K Γ own cc nL ret h) {a b : Int32} (hdg : decode cc pc = .ok (.irem, 1)) (hne : ¬ b = 0) (k : J l K Γ Q cs ss ws (pc + 1) nL lv (.int (jrem a b) :: st)) : J l K Γ Q cs ss ws pc nL lv (.int b :: .int a :: st) := by
  obtain ⟨p, e, R, s, m, args, below, meth, c, A⟩ := Γ
  obtain ⟨hx, hb, hml, hown, hts, hr, hlk, hK, hA, hf1, hf2⟩ := C
  intro H locs ls hP hD hS hl
  exact lv_irem hx hb hdg hne (k H locs ls hP hD hS hl)
theorem J_dup2 (C : Cx l K Γ own cc nL ret h) {v w : Value} (hdg : decode cc pc = .ok (.dup2, 1)) (hv : v.category = 1) (hw : w.category = 1) (k : J l K Γ Q cs ss ws (pc + 1) nL lv (v :: w :: v :: w :: st)) : J l K Γ Q cs ss ws pc nL lv (v :: w :: st) := by
  obtain ⟨p, e, R, s, m, args, below, meth, c, A⟩ := Γ
  obtain ⟨hx, hb, hml, hown, hts, hr, hlk, hK, hA, hf1, hf2⟩ := C
  intro H locs ls hP hD hS hl
  exact lv_dup2_11 hx hb hdg hv hw (k H locs ls hP hD hS hl)
theorem J_i2b (C : Cx l K Γ own cc nL ret h) {a v : Int32} (hdg : decode cc pc = .ok (.i2b, 1)) (hv : a.toInt8.toInt32 = v) (k : J l K Γ Q cs ss ws (pc + 1) nL lv (.int v :: st)) : J l K Γ Q cs ss ws pc nL lv (.int a :: st) := by
  obtain ⟨p, e, R, s, m, args, below, meth, c, A⟩ := Γ
  obtain ⟨hx, hb, hml, hown, hts, hr, hlk, hK, hA, hf1, hf2⟩ := C
  intro H locs ls hP hD hS hl
  exact lv_i2b hx hb hdg hv (k H locs ls hP hD hS hl)
theorem J_iushr (C : Cx l K Γ own cc nL ret h) {a b v : Int32} (hdg : decode cc pc = .ok (.iushr, 1)) (hv : (a.toUInt32 >>> (b.toUInt32 &&& Int32.toUInt32 31)).toInt32 = v) (k : J l K Γ Q cs ss ws (pc + 1) nL lv (.int v :: st)) : J l K Γ Q cs ss ws pc nL lv (.int b :: .int a :: st) := by
  obtain ⟨p, e, R, s, m, args, below, meth, c, A⟩ := Γ
  obtain ⟨hx, hb, hml, hown, hts, hr, hlk, hK, hA, hf1, hf2⟩ := C
  intro H locs ls hP hD hS hl
  exact lv_iushr hx hb hdg hv (k H locs ls hP hD hS hl)
theorem J_aconst_null (C : Cx l K Γ own cc nL ret h)  (hdg : decode cc pc = .ok (.aconst_null, 1)) (k : J l K Γ Q cs ss ws (pc + 1) nL lv (.null :: st)) : J l K Γ Q cs ss ws pc nL lv (st) := by
  obtain ⟨p, e, R, s, m, args, below, meth, c, A⟩ := Γ
  obtain ⟨hx, hb, hml, hown, hts, hr, hlk, hK, hA, hf1, hf2⟩ := C
  intro H locs ls hP hD hS hl
  exact lv_null hx hb hdg (k H locs ls hP hD hS hl)
theorem J_iald (C : Cx l K Γ own cc nL ret h) (q0 : Nat) {a n : Nat} {f : Nat → Int32} {i : Int32} (hdg : decode cc pc = .ok (.iaload, 1)) (ha : ws[q0]? = some (a, .inl (K.2 0, n, .inl f))) (hin : vp_in i n) (k : J l K Γ Q cs ss ws (pc + 1) nL lv (.int (f i.toNatClampNeg) :: st)) : J l K Γ Q cs ss ws pc nL lv (.int i :: .ref a :: st) := by
  obtain ⟨p, e, R, s, m, args, below, meth, c, A⟩ := Γ
  obtain ⟨hx, hb, hml, hown, hts, hr, hlk, hK, hA, hf1, hf2⟩ := C
  intro H locs ls hP hD hS hl
  exact va_iald hx hb hK.1.1 hP q0 0 ha rfl hin hdg (k H locs ls hP hD hS hl)
theorem J_bald (C : Cx l K Γ own cc nL ret h) (q0 : Nat) {a n : Nat} {f : Nat → Int32} {i : Int32} (hdg : decode cc pc = .ok (.baload, 1)) (ha : ws[q0]? = some (a, .inl (K.2 1, n, .inl f))) (hin : vp_in i n) (k : J l K Γ Q cs ss ws (pc + 1) nL lv (.int (f i.toNatClampNeg) :: st)) : J l K Γ Q cs ss ws pc nL lv (.int i :: .ref a :: st) := by
  obtain ⟨p, e, R, s, m, args, below, meth, c, A⟩ := Γ
  obtain ⟨hx, hb, hml, hown, hts, hr, hlk, hK, hA, hf1, hf2⟩ := C
  intro H locs ls hP hD hS hl
  exact va_bald hx hb hK.1.1 hP q0 1 ha rfl hin hdg (k H locs ls hP hD hS hl)
theorem J_zald (C : Cx l K Γ own cc nL ret h) (q0 : Nat) {a n : Nat} {f : Nat → Int32} {i : Int32} (hdg : decode cc pc = .ok (.baload, 1)) (ha : ws[q0]? = some (a, .inl (K.2 2, n, .inl f))) (hin : vp_in i n) (k : J l K Γ Q cs ss ws (pc + 1) nL lv (.int (f i.toNatClampNeg) :: st)) : J l K Γ Q cs ss ws pc nL lv (.int i :: .ref a :: st) := by
  obtain ⟨p, e, R, s, m, args, below, meth, c, A⟩ := Γ
  obtain ⟨hx, hb, hml, hown, hts, hr, hlk, hK, hA, hf1, hf2⟩ := C
  intro H locs ls hP hD hS hl
  exact va_zald hx hb hK.1.1 hP q0 2 ha rfl hin hdg (k H locs ls hP hD hS hl)
theorem J_bast (C : Cx l K Γ own cc nL ret h) (q0 : Nat) {a n : Nat} {f : Nat → Int32} {i v : Int32} {ws' : va_W} (hdg : decode cc pc = .ok (.bastore, 1)) (ha : ws[q0]? = some (a, .inl (K.2 1, n, .inl f))) (hin : vp_in i n) (hw : ws.set q0 (a, .inl (K.2 1, n, .inl (upd f i.toNatClampNeg (vp_nar .byte v)))) = ws') (k : J l K Γ Q cs ss ws' (pc + 1) nL lv st) : J l K Γ Q cs ss ws pc nL lv (.int v :: .int i :: .ref a :: st) := by
  obtain ⟨p, e, R, s, m, args, below, meth, c, A⟩ := Γ
  obtain ⟨hx, hb, hml, hown, hts, hr, hlk, hK, hA, hf1, hf2⟩ := C
  subst hw
  intro H locs ls hP hD hS hl
  exact va_bast hx hb hK.1.1 hP hD hS q0 1 ha rfl hin hdg (fun H1 locs1 hP hD hS => k H1 locs1 ls hP hD hS hl)
theorem J_zast (C : Cx l K Γ own cc nL ret h) (q0 : Nat) {a n : Nat} {f : Nat → Int32} {i v : Int32} {ws' : va_W} (hdg : decode cc pc = .ok (.bastore, 1)) (ha : ws[q0]? = some (a, .inl (K.2 2, n, .inl f))) (hin : vp_in i n) (hw : ws.set q0 (a, .inl (K.2 2, n, .inl (upd f i.toNatClampNeg (vp_nar .boolean v)))) = ws') (k : J l K Γ Q cs ss ws' (pc + 1) nL lv st) : J l K Γ Q cs ss ws pc nL lv (.int v :: .int i :: .ref a :: st) := by
  obtain ⟨p, e, R, s, m, args, below, meth, c, A⟩ := Γ
  obtain ⟨hx, hb, hml, hown, hts, hr, hlk, hK, hA, hf1, hf2⟩ := C
  subst hw
  intro H locs ls hP hD hS hl
  exact va_zast hx hb hK.1.1 hP hD hS q0 2 ha rfl hin hdg (fun H1 locs1 hP hD hS => k H1 locs1 ls hP hD hS hl)
theorem J_alen (C : Cx l K Γ own cc nL ret h) (q0 t0 : Nat) {a : Nat} {cA : ClassId} {y : vp_A} {ty : FieldType} {v : Int32} (hdg : decode cc pc = .ok (.arraylength, 1)) (ha : ws[q0]? = some (a, .inl (cA, y))) (ht : (tys K)[t0]? = some (cA, ty)) (hv : Int32.ofNat y.1 = v) (k : J l K Γ Q cs ss ws (pc + 1) nL lv (.int v :: st)) : J l K Γ Q cs ss ws pc nL lv (.ref a :: st) := by
  obtain ⟨p, e, R, s, m, args, below, meth, c, A⟩ := Γ
  obtain ⟨hx, hb, hml, hown, hts, hr, hlk, hK, hA, hf1, hf2⟩ := C
  intro H locs ls hP hD hS hl
  exact va_alen hx hb hK.1.1 hP q0 t0 ha ht hv hdg (k H locs ls hP hD hS hl)
theorem J_getcs (C : Cx l K Γ own cc nL ret h) {index : Nat} (hdg : decode cc pc = .ok (.getstatic index, 3)) (hu : Cond.fieldLink own index "java/lang/String" "COMPACT_STRINGS" "Z" ∈ wsL_law) (k : J l K Γ Q cs ss ws (pc + 3) nL lv (.int 1 :: st)) : J l K Γ Q cs ss ws pc nL lv st := by
  obtain ⟨p, e, R, s, m, args, below, meth, c, A⟩ := Γ
  obtain ⟨hx, hb, hml, hown, hts, hr, hlk, hK, hA, hf1, hf2⟩ := C
  intro H locs ls hP hD hS hl
  exact va_gets hx hb hK.2.2.2.2.1 hS hown (hts _ hu) (fun _ h9 => h9) hdg (k H locs ls hP hD hS hl)
theorem J_getfm (C : Cx l K Γ own cc nL ret h) {index : Nat} (hdg : decode cc pc = .ok (.getstatic index, 3)) (hu : Cond.fieldLink own index "jdk/internal/util/Preconditions" "SIOOBE_FORMATTER" "Ljava/util/function/BiFunction;" ∈ wsL_law) (k : ∀ r : Option Nat, J l K Γ Q cs ss ws (pc + 3) nL lv (va_rf r :: st)) : J l K Γ Q cs ss ws pc nL lv st := by
  obtain ⟨p, e, R, s, m, args, below, meth, c, A⟩ := Γ
  obtain ⟨hx, hb, hml, hown, hts, hr, hlk, hK, hA, hf1, hf2⟩ := C
  intro H locs ls hP hD hS hl
  rcases hK.2.2.2.2.2.1 with hZ | ⟨t, hZ⟩
  · exact va_gets hx hb hZ hS hown (hts _ hu) (fun _ h9 => h9) hdg (k none H locs ls hP hD hS hl)
  · exact va_gets hx hb hZ hS hown (hts _ hu) (fun _ h9 => h9) hdg (k (some t) H locs ls hP hD hS hl)
theorem J_scod (C : Cx l K Γ own cc nL ret h) {index j : Nat} (hj : j < 16) (hdg : decode cc pc = .ok (.getfield index, 3)) (hu : Cond.fieldLink own index "java/lang/String" "coder" "B" ∈ wsL_law) (k : J l K Γ Q cs ss ws (pc + 3) nL lv (.int 0 :: st)) : J l K Γ Q cs ss ws pc nL lv (.ref (K.2 (100 + j)) :: st) := by
  obtain ⟨p, e, R, s, m, args, below, meth, c, A⟩ := Γ
  obtain ⟨hx, hb, hml, hown, hts, hr, hlk, hK, hA, hf1, hf2⟩ := C
  intro H locs ls hP hD hS hl
  exact vk_getf hx hb (hK.2.1.1 j hj).2.1 hS hown (hts _ hu) (fun _ h9 => h9) hdg (k H locs ls hP hD hS hl)
theorem J_sval (C : Cx l K Γ own cc nL ret h) {index j : Nat} (hj : j < 16) (hdg : decode cc pc = .ok (.getfield index, 3)) (hu : Cond.fieldLink own index "java/lang/String" "value" "[B" ∈ wsL_law) (k : J l K Γ Q cs ss ws (pc + 3) nL lv (.ref (K.2 (200 + j)) :: st)) : J l K Γ Q cs ss ws pc nL lv (.ref (K.2 (100 + j)) :: st) := by
  obtain ⟨p, e, R, s, m, args, below, meth, c, A⟩ := Γ
  obtain ⟨hx, hb, hml, hown, hts, hr, hlk, hK, hA, hf1, hf2⟩ := C
  intro H locs ls hP hD hS hl
  exact vk_getf hx hb (hK.2.1.1 j hj).2.2.1 hS hown (hts _ hu) (fun _ h9 => h9) hdg (k H locs ls hP hD hS hl)
theorem J_tlen (C : Cx l K Γ own cc nL ret h) {j : Nat} (hj : j < 16) (hdg : decode cc pc = .ok (.arraylength, 1)) (k : J l K Γ Q cs ss ws (pc + 1) nL lv (.int (Int32.ofNat (slen.getD j 0)) :: st)) : J l K Γ Q cs ss ws pc nL lv (.ref (K.2 (200 + j)) :: st) := by
  obtain ⟨p, e, R, s, m, args, below, meth, c, A⟩ := Γ
  obtain ⟨hx, hb, hml, hown, hts, hr, hlk, hK, hA, hf1, hf2⟩ := C
  intro H locs ls hP hD hS hl
  obtain ⟨cell, h1, h2, h3, h4, h5, h6, h7⟩ := (hK.2.1.1 j hj).2.2.2
  exact W.alen (n := Int32.ofNat (slen.getD j 0)) hx hb (by rw [hS.2.1 _ (Array.getElem?_eq_some_iff.mp h1).1 h7]; exact h1) h2 h5 rfl rfl hdg (k H locs ls hP hD hS hl)
theorem J_tbald (C : Cx l K Γ own cc nL ret h) {j : Nat} (hj : j < 16) {i : Int32} (hin : vp_in i (slen.getD j 0)) (hdg : decode cc pc = .ok (.baload, 1)) (k : J l K Γ Q cs ss ws (pc + 1) nL lv (.int ((sbyt.getD j []).getD i.toNatClampNeg 0) :: st)) : J l K Γ Q cs ss ws pc nL lv (.int i :: .ref (K.2 (200 + j)) :: st) := by
  obtain ⟨p, e, R, s, m, args, below, meth, c, A⟩ := Γ
  obtain ⟨hx, hb, hml, hown, hts, hr, hlk, hK, hA, hf1, hf2⟩ := C
  intro H locs ls hP hD hS hl
  exact va_tb hx hb (hK.2.1.1 j hj).2.2.2 hS hin rfl hdg (k H locs ls hP hD hS hl)
theorem J_ishr (C : Cx l K Γ own cc nL ret h) {a b v : Int32} (hdg : decode cc pc = .ok (.ishr, 1)) (hv : a >>> (b &&& 31) = v) (k : J l K Γ Q cs ss ws (pc + 1) nL lv (.int v :: st)) : J l K Γ Q cs ss ws pc nL lv (.int b :: .int a :: st) := by
  obtain ⟨p, e, R, s, m, args, below, meth, c, A⟩ := Γ
  obtain ⟨hx, hb, hml, hown, hts, hr, hlk, hK, hA, hf1, hf2⟩ := C
  subst hv
  intro H locs ls hP hD hS hl
  exact lv_ishr hx hb hdg (k H locs ls hP hD hS hl)
theorem J_i2c (C : Cx l K Γ own cc nL ret h) {a v : Int32} (hdg : decode cc pc = .ok (.i2c, 1)) (hv : (a.toUInt32 % 65536).toInt32 = v) (k : J l K Γ Q cs ss ws (pc + 1) nL lv (.int v :: st)) : J l K Γ Q cs ss ws pc nL lv (.int a :: st) := by
  obtain ⟨p, e, R, s, m, args, below, meth, c, A⟩ := Γ
  obtain ⟨hx, hb, hml, hown, hts, hr, hlk, hK, hA, hf1, hf2⟩ := C
  intro H locs ls hP hD hS hl
  exact lv_i2c hx hb hdg hv (k H locs ls hP hD hS hl)
theorem J_ifnonnull (C : Cx l K Γ own cc nL ret h) {a : Nat} {off : Int} (tgt : Nat) (hdg : decode cc pc = .ok (.ifnonnull off, 3)) (ht : (pc : Int) + off = (tgt : Int)) (k : J l K Γ Q cs ss ws tgt nL lv st) : J l K Γ Q cs ss ws pc nL lv (.ref a :: st) := by
  obtain ⟨p, e, R, s, m, args, below, meth, c, A⟩ := Γ
  obtain ⟨hx, hb, hml, hown, hts, hr, hlk, hK, hA, hf1, hf2⟩ := C
  intro H locs ls hP hD hS hl
  exact lv_ifnonnull hx hb hdg ht (k H locs ls hP hD hS hl)
theorem J_i2f (C : Cx l K Γ own cc nL ret h) {a : Int32} (hdg : decode cc pc = .ok (.i2f, 1)) (k : J l K Γ Q cs ss ws (pc + 1) nL lv (.float (FP.i2f a) :: st)) : J l K Γ Q cs ss ws pc nL lv (.int a :: st) := by
  obtain ⟨p, e, R, s, m, args, below, meth, c, A⟩ := Γ
  obtain ⟨hx, hb, hml, hown, hts, hr, hlk, hK, hA, hf1, hf2⟩ := C
  intro H locs ls hP hD hS hl
  exact lv_i2f hx hb hdg (k H locs ls hP hD hS hl)
theorem J_i2d (C : Cx l K Γ own cc nL ret h) {a : Int32} (hdg : decode cc pc = .ok (.i2d, 1)) (k : J l K Γ Q cs ss ws (pc + 1) nL lv (.double (FP.i2d a) :: st)) : J l K Γ Q cs ss ws pc nL lv (.int a :: st) := by
  obtain ⟨p, e, R, s, m, args, below, meth, c, A⟩ := Γ
  obtain ⟨hx, hb, hml, hown, hts, hr, hlk, hK, hA, hf1, hf2⟩ := C
  intro H locs ls hP hD hS hl
  exact lv_i2d hx hb hdg (k H locs ls hP hD hS hl)
theorem J_fdiv (C : Cx l K Γ own cc nL ret h) {a b : UInt32} (hdg : decode cc pc = .ok (.fdiv, 1)) (hne : vf_n32 (FP.fdiv a b)) (k : J l K Γ Q cs ss ws (pc + 1) nL lv (.float (FP.fdiv a b) :: st)) : J l K Γ Q cs ss ws pc nL lv (.float b :: .float a :: st) := by
  obtain ⟨p, e, R, s, m, args, below, meth, c, A⟩ := Γ
  obtain ⟨hx, hb, hml, hown, hts, hr, hlk, hK, hA, hf1, hf2⟩ := C
  intro H locs ls hP hD hS hl
  exact lv_fdiv hx hb hdg hne (k H locs ls hP hD hS hl)
theorem J_ddiv (C : Cx l K Γ own cc nL ret h) {a b : UInt64} (hdg : decode cc pc = .ok (.ddiv, 1)) (hne : vf_n64 (FP.ddiv a b)) (k : J l K Γ Q cs ss ws (pc + 1) nL lv (.double (FP.ddiv a b) :: st)) : J l K Γ Q cs ss ws pc nL lv (.double b :: .double a :: st) := by
  obtain ⟨p, e, R, s, m, args, below, meth, c, A⟩ := Γ
  obtain ⟨hx, hb, hml, hown, hts, hr, hlk, hK, hA, hf1, hf2⟩ := C
  intro H locs ls hP hD hS hl
  exact lv_ddiv hx hb hdg hne (k H locs ls hP hD hS hl)
theorem J_fconst0 (C : Cx l K Γ own cc nL ret h) (hdg : decode cc pc = .ok (.fconst 0, 1)) (k : J l K Γ Q cs ss ws (pc + 1) nL lv (.float FP.fconst0 :: st)) : J l K Γ Q cs ss ws pc nL lv st := by
  obtain ⟨p, e, R, s, m, args, below, meth, c, A⟩ := Γ
  obtain ⟨hx, hb, hml, hown, hts, hr, hlk, hK, hA, hf1, hf2⟩ := C
  intro H locs ls hP hD hS hl
  exact lv_fconst0 hx hb hdg (k H locs ls hP hD hS hl)
theorem J_dconst0 (C : Cx l K Γ own cc nL ret h) (hdg : decode cc pc = .ok (.dconst 0, 1)) (k : J l K Γ Q cs ss ws (pc + 1) nL lv (.double FP.dconst0 :: st)) : J l K Γ Q cs ss ws pc nL lv st := by
  obtain ⟨p, e, R, s, m, args, below, meth, c, A⟩ := Γ
  obtain ⟨hx, hb, hml, hown, hts, hr, hlk, hK, hA, hf1, hf2⟩ := C
  intro H locs ls hP hD hS hl
  exact lv_dconst0 hx hb hdg (k H locs ls hP hD hS hl)
theorem J_sub (ks : List Nat) {lv' : List (Nat × Value)} (hl' : lv_pick lv ks = lv') (k : J l K Γ Q cs ss ws pc nL lv' st) : J l K Γ Q cs ss ws pc nL lv st := by
  obtain ⟨p, e, R, s, m, args, below, meth, c, A⟩ := Γ
  intro H locs ls hP hD hS hl
  exact k H locs ls hP hD hS (lv_sub hl ks hl')
theorem J_ldc (C : Cx l K Γ own cc nL ret h) {index : Nat} {v : Int32} (hdg : decode cc pc = .ok (.ldc index, 2)) (hu : Cond.constant own index v ∈ wsL_law) (k : J l K Γ Q cs ss ws (pc + 2) nL lv (.int v :: st)) : J l K Γ Q cs ss ws pc nL lv (st) := by
  obtain ⟨p, e, R, s, m, args, below, meth, c, A⟩ := Γ
  obtain ⟨hx, hb, hml, hown, hts, hr, hlk, hK, hA, hf1, hf2⟩ := C
  intro H locs ls hP hD hS hl
  exact lv_ldc hx hb hown (hts _ hu) hdg (k H locs ls hP hD hS hl)
theorem J_copyi (C : Cx l K Γ own cc nL ret h) (q0 q1 : Nat) {index a0 a1 n0 n1 : Nat} {f g : Nat → Int32} {sp dp n : Int32} {ws' : va_W} (hdg : decode cc pc = .ok (.invokestatic index, 3)) (hu : Cond.methodLink own index arraycopyName ∈ wsL_law) (hh : 1 ≤ h) (ha0 : ws[q0]? = some (a0, .inl (K.2 0, n0, .inl f))) (ha1 : ws[q1]? = some (a1, .inl (K.2 0, n1, .inl g))) (h1 : ¬ sp < 0) (h2 : ¬ dp < 0) (h3 : ¬ n < 0) (h4 : sp.toNatClampNeg + n.toNatClampNeg ≤ n0) (h5 : dp.toNatClampNeg + n.toNatClampNeg ≤ n1) (hw : ws.set q1 (a1, .inl (K.2 0, n1, .inl (va_cpy f g sp.toNatClampNeg dp.toNatClampNeg n.toNatClampNeg))) = ws') (k : J l K Γ Q cs ss ws' (pc + 3) nL lv []) : J l K Γ Q cs ss ws pc nL lv [.int n, .int dp, .ref a1, .int sp, .ref a0] := by
  obtain ⟨p, e, R, s, m, args, below, meth, c, A⟩ := Γ
  obtain ⟨hx, hb, hml, hown, hts, hr, hlk, hK, hA, hf1, hf2⟩ := C
  subst hw
  intro H locs ls hP hD hS hl
  exact va_copyi hx hb (hml.trans hl.1.symm) hown (hts _ hu) (hts _ uv_Jcopy) (hts _ ut_Jcopy) (hts _ un_System) hK.1.1 hP hD hS q0 q1 0 0 ha0 ha1 rfl rfl rfl h1 h2 h3 h4 h5 (fun _ _ => rfl) (by omega) (by show 0 + (7 + 11) ≤ R.locals; omega) hdg (fun H1 locs1 hP hD hS => k H1 locs1 ls hP hD hS hl)
theorem J_min (C : Cx l K Γ own cc nL ret h) {index : Nat} {a b : Int32} {CM SM : Nat} (Y : Cy Γ CM SM) (h1 : cs ≤ CM) (h2 : ss ≤ SM) (hdg : decode cc pc = .ok (.invokestatic index, 3)) (hu : Cond.methodLink own index Lib.Math.min.name ∈ wsL_law) (hh : 1 ≤ h) (hrest : (st.map fun v => v.category).sum ≤ 8) (k : J l K Γ Q cs ss ws (pc + 3) nL lv (.int (if b < a then b else a) :: st)) : J l K Γ Q cs ss ws pc nL lv (.int b :: .int a :: st) := by
  obtain ⟨p, e, R, s, m, args, below, meth, c, A⟩ := Γ
  obtain ⟨hx, hb, hml, hown, hts, hr, hlk, hK, hA, hf1, hf2⟩ := C
  intro H locs ls hP hD hS hl
  exact va_mmin hx hb (hml.trans hl.1.symm) hown (hts _ hu) (hts _ ut_Jmin) (hts _ un_Math) (hts _ uc_Jmin) (by omega) (by omega) (Nat.le_trans h1 Y.1) (Nat.le_trans h2 Y.2.1) hdg (k H locs ls hP hD hS hl)
theorem J_if_lt_y (C : Cx l K Γ own cc nL ret h) {a : Int32} {off : Int} (tgt : Nat) (h0 : a < 0) (hdg : decode cc pc = .ok (.ifCond .lt off, 3)) (ht : (pc : Int) + off = (tgt : Int)) (k : J l K Γ Q cs ss ws tgt nL lv st) : J l K Γ Q cs ss ws pc nL lv (.int a :: st) := by
  obtain ⟨p, e, R, s, m, args, below, meth, c, A⟩ := Γ
  obtain ⟨hx, hb, hml, hown, hts, hr, hlk, hK, hA, hf1, hf2⟩ := C
  intro H locs ls hP hD hS hl
  refine lv_if_lt (tgt := tgt) hx hb hdg ht (fun h1 => ?_) (fun h1 => ?_) <;> first | exact absurd h0 h1 | exact absurd h1 h0 | exact absurd h0 (Int32.not_lt.mpr h1) | exact absurd (Int32.not_le.mp h1) h0 | exact k H locs ls hP hD hS hl
theorem J_if_lt_n (C : Cx l K Γ own cc nL ret h) {a : Int32} {off : Int} (tgt : Nat) (h0 : ¬ (a < 0)) (hdg : decode cc pc = .ok (.ifCond .lt off, 3)) (ht : (pc : Int) + off = (tgt : Int)) (k : J l K Γ Q cs ss ws (pc + 3) nL lv st) : J l K Γ Q cs ss ws pc nL lv (.int a :: st) := by
  obtain ⟨p, e, R, s, m, args, below, meth, c, A⟩ := Γ
  obtain ⟨hx, hb, hml, hown, hts, hr, hlk, hK, hA, hf1, hf2⟩ := C
  intro H locs ls hP hD hS hl
  refine lv_if_lt (tgt := tgt) hx hb hdg ht (fun h1 => ?_) (fun h1 => ?_) <;> first | exact absurd h0 h1 | exact absurd h1 h0 | exact absurd h0 (Int32.not_lt.mpr h1) | exact absurd (Int32.not_le.mp h1) h0 | exact k H locs ls hP hD hS hl
theorem J_if_ge_y (C : Cx l K Γ own cc nL ret h) {a : Int32} {off : Int} (tgt : Nat) (h0 : a < 0) (hdg : decode cc pc = .ok (.ifCond .ge off, 3)) (ht : (pc : Int) + off = (tgt : Int)) (k : J l K Γ Q cs ss ws (pc + 3) nL lv st) : J l K Γ Q cs ss ws pc nL lv (.int a :: st) := by
  obtain ⟨p, e, R, s, m, args, below, meth, c, A⟩ := Γ
  obtain ⟨hx, hb, hml, hown, hts, hr, hlk, hK, hA, hf1, hf2⟩ := C
  intro H locs ls hP hD hS hl
  refine lv_if_ge (tgt := tgt) hx hb hdg ht (fun h1 => ?_) (fun h1 => ?_) <;> first | exact absurd h0 h1 | exact absurd h1 h0 | exact absurd h0 (Int32.not_lt.mpr h1) | exact absurd (Int32.not_le.mp h1) h0 | exact k H locs ls hP hD hS hl
theorem J_if_ge_n (C : Cx l K Γ own cc nL ret h) {a : Int32} {off : Int} (tgt : Nat) (h0 : ¬ (a < 0)) (hdg : decode cc pc = .ok (.ifCond .ge off, 3)) (ht : (pc : Int) + off = (tgt : Int)) (k : J l K Γ Q cs ss ws tgt nL lv st) : J l K Γ Q cs ss ws pc nL lv (.int a :: st) := by
  obtain ⟨p, e, R, s, m, args, below, meth, c, A⟩ := Γ
  obtain ⟨hx, hb, hml, hown, hts, hr, hlk, hK, hA, hf1, hf2⟩ := C
  intro H locs ls hP hD hS hl
  refine lv_if_ge (tgt := tgt) hx hb hdg ht (fun h1 => ?_) (fun h1 => ?_) <;> first | exact absurd h0 h1 | exact absurd h1 h0 | exact absurd h0 (Int32.not_lt.mpr h1) | exact absurd (Int32.not_le.mp h1) h0 | exact k H locs ls hP hD hS hl
theorem J_if_gt_y (C : Cx l K Γ own cc nL ret h) {a : Int32} {off : Int} (tgt : Nat) (h0 : 0 < a) (hdg : decode cc pc = .ok (.ifCond .gt off, 3)) (ht : (pc : Int) + off = (tgt : Int)) (k : J l K Γ Q cs ss ws tgt nL lv st) : J l K Γ Q cs ss ws pc nL lv (.int a :: st) := by
  obtain ⟨p, e, R, s, m, args, below, meth, c, A⟩ := Γ
  obtain ⟨hx, hb, hml, hown, hts, hr, hlk, hK, hA, hf1, hf2⟩ := C
  intro H locs ls hP hD hS hl
  refine lv_if_gt (tgt := tgt) hx hb hdg ht (fun h1 => ?_) (fun h1 => ?_) <;> first | exact absurd h0 h1 | exact absurd h1 h0 | exact absurd h0 (Int32.not_lt.mpr h1) | exact absurd (Int32.not_le.mp h1) h0 | exact k H locs ls hP hD hS hl
theorem J_if_gt_n (C : Cx l K Γ own cc nL ret h) {a : Int32} {off : Int} (tgt : Nat) (h0 : ¬ (0 < a)) (hdg : decode cc pc = .ok (.ifCond .gt off, 3)) (ht : (pc : Int) + off = (tgt : Int)) (k : J l K Γ Q cs ss ws (pc + 3) nL lv st) : J l K Γ Q cs ss ws pc nL lv (.int a :: st) := by
  obtain ⟨p, e, R, s, m, args, below, meth, c, A⟩ := Γ
  obtain ⟨hx, hb, hml, hown, hts, hr, hlk, hK, hA, hf1, hf2⟩ := C
  intro H locs ls hP hD hS hl
  refine lv_if_gt (tgt := tgt) hx hb hdg ht (fun h1 => ?_) (fun h1 => ?_) <;> first | exact absurd h0 h1 | exact absurd h1 h0 | exact absurd h0 (Int32.not_lt.mpr h1) | exact absurd (Int32.not_le.mp h1) h0 | exact k H locs ls hP hD hS hl
theorem J_icmp_ne_y (C : Cx l K Γ own cc nL ret h) {a b : Int32} {off : Int} (tgt : Nat) (h0 : a = b) (hdg : decode cc pc = .ok (.if_icmp .ne off, 3)) (ht : (pc : Int) + off = (tgt : Int)) (k : J l K Γ Q cs ss ws (pc + 3) nL lv st) : J l K Γ Q cs ss ws pc nL lv (.int b :: .int a :: st) := by
  obtain ⟨p, e, R, s, m, args, below, meth, c, A⟩ := Γ
  obtain ⟨hx, hb, hml, hown, hts, hr, hlk, hK, hA, hf1, hf2⟩ := C
  intro H locs ls hP hD hS hl
  refine lv_icmp_ne (tgt := tgt) hx hb hdg ht (fun h1 => ?_) (fun h1 => ?_) <;> first | exact absurd h0 h1 | exact absurd h1 h0 | exact absurd h0 (Int32.not_lt.mpr h1) | exact absurd (Int32.not_le.mp h1) h0 | exact k H locs ls hP hD hS hl
theorem J_icmp_ne_n (C : Cx l K Γ own cc nL ret h) {a b : Int32} {off : Int} (tgt : Nat) (h0 : ¬ (a = b)) (hdg : decode cc pc = .ok (.if_icmp .ne off, 3)) (ht : (pc : Int) + off = (tgt : Int)) (k : J l K Γ Q cs ss ws tgt nL lv st) : J l K Γ Q cs ss ws pc nL lv (.int b :: .int a :: st) := by
  obtain ⟨p, e, R, s, m, args, below, meth, c, A⟩ := Γ
  obtain ⟨hx, hb, hml, hown, hts, hr, hlk, hK, hA, hf1, hf2⟩ := C
  intro H locs ls hP hD hS hl
  refine lv_icmp_ne (tgt := tgt) hx hb hdg ht (fun h1 => ?_) (fun h1 => ?_) <;> first | exact absurd h0 h1 | exact absurd h1 h0 | exact absurd h0 (Int32.not_lt.mpr h1) | exact absurd (Int32.not_le.mp h1) h0 | exact k H locs ls hP hD hS hl
theorem J_icmp_lt_y (C : Cx l K Γ own cc nL ret h) {a b : Int32} {off : Int} (tgt : Nat) (h0 : a < b) (hdg : decode cc pc = .ok (.if_icmp .lt off, 3)) (ht : (pc : Int) + off = (tgt : Int)) (k : J l K Γ Q cs ss ws tgt nL lv st) : J l K Γ Q cs ss ws pc nL lv (.int b :: .int a :: st) := by
  obtain ⟨p, e, R, s, m, args, below, meth, c, A⟩ := Γ
  obtain ⟨hx, hb, hml, hown, hts, hr, hlk, hK, hA, hf1, hf2⟩ := C
  intro H locs ls hP hD hS hl
  refine lv_icmp_lt (tgt := tgt) hx hb hdg ht (fun h1 => ?_) (fun h1 => ?_) <;> first | exact absurd h0 h1 | exact absurd h1 h0 | exact absurd h0 (Int32.not_lt.mpr h1) | exact absurd (Int32.not_le.mp h1) h0 | exact k H locs ls hP hD hS hl
theorem J_icmp_lt_n (C : Cx l K Γ own cc nL ret h) {a b : Int32} {off : Int} (tgt : Nat) (h0 : ¬ (a < b)) (hdg : decode cc pc = .ok (.if_icmp .lt off, 3)) (ht : (pc : Int) + off = (tgt : Int)) (k : J l K Γ Q cs ss ws (pc + 3) nL lv st) : J l K Γ Q cs ss ws pc nL lv (.int b :: .int a :: st) := by
  obtain ⟨p, e, R, s, m, args, below, meth, c, A⟩ := Γ
  obtain ⟨hx, hb, hml, hown, hts, hr, hlk, hK, hA, hf1, hf2⟩ := C
  intro H locs ls hP hD hS hl
  refine lv_icmp_lt (tgt := tgt) hx hb hdg ht (fun h1 => ?_) (fun h1 => ?_) <;> first | exact absurd h0 h1 | exact absurd h1 h0 | exact absurd h0 (Int32.not_lt.mpr h1) | exact absurd (Int32.not_le.mp h1) h0 | exact k H locs ls hP hD hS hl
theorem J_icmp_le_y (C : Cx l K Γ own cc nL ret h) {a b : Int32} {off : Int} (tgt : Nat) (h0 : b < a) (hdg : decode cc pc = .ok (.if_icmp .le off, 3)) (ht : (pc : Int) + off = (tgt : Int)) (k : J l K Γ Q cs ss ws (pc + 3) nL lv st) : J l K Γ Q cs ss ws pc nL lv (.int b :: .int a :: st) := by
  obtain ⟨p, e, R, s, m, args, below, meth, c, A⟩ := Γ
  obtain ⟨hx, hb, hml, hown, hts, hr, hlk, hK, hA, hf1, hf2⟩ := C
  intro H locs ls hP hD hS hl
  refine lv_icmp_le (tgt := tgt) hx hb hdg ht (fun h1 => ?_) (fun h1 => ?_) <;> first | exact absurd h0 h1 | exact absurd h1 h0 | exact absurd h0 (Int32.not_lt.mpr h1) | exact absurd (Int32.not_le.mp h1) h0 | exact k H locs ls hP hD hS hl
theorem J_icmp_le_n (C : Cx l K Γ own cc nL ret h) {a b : Int32} {off : Int} (tgt : Nat) (h0 : ¬ (b < a)) (hdg : decode cc pc = .ok (.if_icmp .le off, 3)) (ht : (pc : Int) + off = (tgt : Int)) (k : J l K Γ Q cs ss ws tgt nL lv st) : J l K Γ Q cs ss ws pc nL lv (.int b :: .int a :: st) := by
  obtain ⟨p, e, R, s, m, args, below, meth, c, A⟩ := Γ
  obtain ⟨hx, hb, hml, hown, hts, hr, hlk, hK, hA, hf1, hf2⟩ := C
  intro H locs ls hP hD hS hl
  refine lv_icmp_le (tgt := tgt) hx hb hdg ht (fun h1 => ?_) (fun h1 => ?_) <;> first | exact absurd h0 h1 | exact absurd h1 h0 | exact absurd h0 (Int32.not_lt.mpr h1) | exact absurd (Int32.not_le.mp h1) h0 | exact k H locs ls hP hD hS hl
theorem J_ior (C : Cx l K Γ own cc nL ret h) {a b : Int32} (hdg : decode cc pc = .ok (.ior, 1)) (k : J l K Γ Q cs ss ws (pc + 1) nL lv (.int (a ||| b) :: st)) : J l K Γ Q cs ss ws pc nL lv (.int b :: .int a :: st) := by
  obtain ⟨p, e, R, s, m, args, below, meth, c, A⟩ := Γ
  obtain ⟨hx, hb, hml, hown, hts, hr, hlk, hK, hA, hf1, hf2⟩ := C
  intro H locs ls hP hD hS hl
  exact lv_ior hx hb hdg (k H locs ls hP hD hS hl)
theorem J_ishl (C : Cx l K Γ own cc nL ret h) {a b : Int32} (hdg : decode cc pc = .ok (.ishl, 1)) (k : J l K Γ Q cs ss ws (pc + 1) nL lv (.int (a <<< (b &&& 31)) :: st)) : J l K Γ Q cs ss ws pc nL lv (.int b :: .int a :: st) := by
  obtain ⟨p, e, R, s, m, args, below, meth, c, A⟩ := Γ
  obtain ⟨hx, hb, hml, hown, hts, hr, hlk, hK, hA, hf1, hf2⟩ := C
  intro H locs ls hP hD hS hl
  exact lv_ishl hx hb hdg (k H locs ls hP hD hS hl)
theorem J_ineg (C : Cx l K Γ own cc nL ret h) {a : Int32} (hdg : decode cc pc = .ok (.ineg, 1)) (k : J l K Γ Q cs ss ws (pc + 1) nL lv (.int (-a) :: st)) : J l K Γ Q cs ss ws pc nL lv (.int a :: st) := by
  obtain ⟨p, e, R, s, m, args, below, meth, c, A⟩ := Γ
  obtain ⟨hx, hb, hml, hown, hts, hr, hlk, hK, hA, hf1, hf2⟩ := C
  intro H locs ls hP hD hS hl
  exact lv_ineg hx hb hdg (k H locs ls hP hD hS hl)
theorem J_dup_x1 (C : Cx l K Γ own cc nL ret h) {a b : Value} (ha : a.category = 1) (hb2 : b.category = 1) (hdg : decode cc pc = .ok (.dup_x1, 1)) (k : J l K Γ Q cs ss ws (pc + 1) nL lv (a :: b :: a :: st)) : J l K Γ Q cs ss ws pc nL lv (a :: b :: st) := by
  obtain ⟨p, e, R, s, m, args, below, meth, c, A⟩ := Γ
  obtain ⟨hx, hb, hml, hown, hts, hr, hlk, hK, hA, hf1, hf2⟩ := C
  intro H locs ls hP hD hS hl
  exact lv_dup_x1 hx hb hdg ha hb2 (k H locs ls hP hD hS hl)
theorem J_ladd (C : Cx l K Γ own cc nL ret h) {a b : Int64} (hdg : decode cc pc = .ok (.ladd, 1)) (k : J l K Γ Q cs ss ws (pc + 1) nL lv (.long (a + b) :: st)) : J l K Γ Q cs ss ws pc nL lv (.long b :: .long a :: st) := by
  obtain ⟨p, e, R, s, m, args, below, meth, c, A⟩ := Γ
  obtain ⟨hx, hb, hml, hown, hts, hr, hlk, hK, hA, hf1, hf2⟩ := C
  intro H locs ls hP hD hS hl
  exact lv_ladd hx hb hdg (k H locs ls hP hD hS hl)
theorem J_lmul (C : Cx l K Γ own cc nL ret h) {a b : Int64} (hdg : decode cc pc = .ok (.lmul, 1)) (k : J l K Γ Q cs ss ws (pc + 1) nL lv (.long (a * b) :: st)) : J l K Γ Q cs ss ws pc nL lv (.long b :: .long a :: st) := by
  obtain ⟨p, e, R, s, m, args, below, meth, c, A⟩ := Γ
  obtain ⟨hx, hb, hml, hown, hts, hr, hlk, hK, hA, hf1, hf2⟩ := C
  intro H locs ls hP hD hS hl
  exact lv_lmul hx hb hdg (k H locs ls hP hD hS hl)
theorem J_i2l (C : Cx l K Γ own cc nL ret h) {a : Int32} (hdg : decode cc pc = .ok (.i2l, 1)) (k : J l K Γ Q cs ss ws (pc + 1) nL lv (.long a.toInt64 :: st)) : J l K Γ Q cs ss ws pc nL lv (.int a :: st) := by
  obtain ⟨p, e, R, s, m, args, below, meth, c, A⟩ := Γ
  obtain ⟨hx, hb, hml, hown, hts, hr, hlk, hK, hA, hf1, hf2⟩ := C
  intro H locs ls hP hD hS hl
  exact lv_i2l hx hb hdg rfl (k H locs ls hP hD hS hl)
theorem J_lconst (C : Cx l K Γ own cc nL ret h) {n : Fin 2} {v : Int64} (hv : Int64.ofNat (n : Nat) = v) (hdg : decode cc pc = .ok (.lconst n, 1)) (k : J l K Γ Q cs ss ws (pc + 1) nL lv (.long v :: st)) : J l K Γ Q cs ss ws pc nL lv (st) := by
  obtain ⟨p, e, R, s, m, args, below, meth, c, A⟩ := Γ
  obtain ⟨hx, hb, hml, hown, hts, hr, hlk, hK, hA, hf1, hf2⟩ := C
  intro H locs ls hP hD hS hl
  exact lv_lconst hx hb hdg hv (k H locs ls hP hD hS hl)
theorem J_ldc2 (C : Cx l K Γ own cc nL ret h) {ix : Nat} {v : Int64} (hu : Cond.constantLong own ix v ∈ wsL_law) (hdg : decode cc pc = .ok (.ldc2_w ix, 3)) (k : J l K Γ Q cs ss ws (pc + 3) nL lv (.long v :: st)) : J l K Γ Q cs ss ws pc nL lv (st) := by
  obtain ⟨p, e, R, s, m, args, below, meth, c, A⟩ := Γ
  obtain ⟨hx, hb, hml, hown, hts, hr, hlk, hK, hA, hf1, hf2⟩ := C
  intro H locs ls hP hD hS hl
  exact lv_ldc2 hx hb hown (hts _ hu) hdg (k H locs ls hP hD hS hl)
theorem J_lload_n (C : Cx l K Γ own cc nL ret h) (q : Nat) {n : Fin 4} {v : Int64} (hdg : decode cc pc = .ok (.lload_n n, 1)) (hk : lv[q]? = some ((n : Nat), .long v)) (k : J l K Γ Q cs ss ws (pc + 1) nL lv (.long v :: st)) : J l K Γ Q cs ss ws pc nL lv st := by
  obtain ⟨p, e, R, s, m, args, below, meth, c, A⟩ := Γ
  obtain ⟨hx, hb, hml, hown, hts, hr, hlk, hK, hA, hf1, hf2⟩ := C
  intro H locs ls hP hD hS hl
  exact lv_lload_n hx hb hdg rfl (lv_at hl q hk) (k H locs ls hP hD hS hl)
theorem J_lload (C : Cx l K Γ own cc nL ret h) (q : Nat) {i : Nat} {v : Int64} (hdg : decode cc pc = .ok (.lload i, 2)) (hk : lv[q]? = some (i, .long v)) (k : J l K Γ Q cs ss ws (pc + 2) nL lv (.long v :: st)) : J l K Γ Q cs ss ws pc nL lv st := by
  obtain ⟨p, e, R, s, m, args, below, meth, c, A⟩ := Γ
  obtain ⟨hx, hb, hml, hown, hts, hr, hlk, hK, hA, hf1, hf2⟩ := C
  intro H locs ls hP hD hS hl
  exact lv_lload hx hb hdg (lv_at hl q hk) (k H locs ls hP hD hS hl)
theorem J_lstore_n (C : Cx l K Γ own cc nL ret h) {n : Fin 4} {v : Int64} {lv' : List (Nat × Value)} (hdg : decode cc pc = .ok (.lstore_n n, 1)) (hn : (n : Nat) + 1 < nL) (hl' : ((n : Nat), Value.long v) :: lv.filter (fun q => !(q.1 == (n : Nat)) && (!(q.1 == (n : Nat) + 1) && !(q.1 + 1 == (n : Nat) && q.2.category == 2))) = lv') (k : J l K Γ Q cs ss ws (pc + 1) nL lv' st) : J l K Γ Q cs ss ws pc nL lv (.long v :: st) := by
  obtain ⟨p, e, R, s, m, args, below, meth, c, A⟩ := Γ
  obtain ⟨hx, hb, hml, hown, hts, hr, hlk, hK, hA, hf1, hf2⟩ := C
  intro H locs ls hP hD hS hl
  exact lv_lstore_n hx hb hdg rfl hl hn hl' (fun ls' hl2 => k H locs ls' hP hD hS hl2)
theorem J_lstore (C : Cx l K Γ own cc nL ret h) {i : Nat} {v : Int64} {lv' : List (Nat × Value)} (hdg : decode cc pc = .ok (.lstore i, 2)) (hn : i + 1 < nL) (hl' : (i, Value.long v) :: lv.filter (fun q => !(q.1 == i) && (!(q.1 == i + 1) && !(q.1 + 1 == i && q.2.category == 2))) = lv') (k : J l K Γ Q cs ss ws (pc + 2) nL lv' st) : J l K Γ Q cs ss ws pc nL lv (.long v :: st) := by
  obtain ⟨p, e, R, s, m, args, below, meth, c, A⟩ := Γ
  obtain ⟨hx, hb, hml, hown, hts, hr, hlk, hK, hA, hf1, hf2⟩ := C
  intro H locs ls hP hD hS hl
  exact lv_lstore hx hb hdg hl hn hl' (fun ls' hl2 => k H locs ls' hP hD hS hl2)
theorem J_lcmp0 (C : Cx l K Γ own cc nL ret h) {a b : Int64} (he : a = b) (hdg : decode cc pc = .ok (.lcmp, 1)) (k : J l K Γ Q cs ss ws (pc + 1) nL lv (.int 0 :: st)) : J l K Γ Q cs ss ws pc nL lv (.long b :: .long a :: st) := by
  obtain ⟨p, e, R, s, m, args, below, meth, c, A⟩ := Γ
  obtain ⟨hx, hb, hml, hown, hts, hr, hlk, hK, hA, hf1, hf2⟩ := C
  intro H locs ls hP hD hS hl
  subst he
  refine W.lcmp hx hb hdg ?_
  rw [show lg_cmp a a = 0 by unfold lg_cmp; rw [if_neg (by rw [gt_iff_lt, Int64.lt_iff_toInt_lt]; omega), if_pos rfl]]
  exact k H locs ls hP hD hS hl
theorem J_dcmp0 (C : Cx l K Γ own cc nL ret h) {x y : UInt64} {op : CmpOp} (he : x = y) (hn : Jvm.FP.Core.dIsNaN x = false) (hdg : decode cc pc = .ok (.dcmp op, 1)) (k : J l K Γ Q cs ss ws (pc + 1) nL lv (.int 0 :: st)) : J l K Γ Q cs ss ws pc nL lv (.double y :: .double x :: st) := by
  obtain ⟨p, e, R, s, m, args, below, meth, c, A⟩ := Γ
  obtain ⟨hx, hb, hml, hown, hts, hr, hlk, hK, hA, hf1, hf2⟩ := C
  intro H locs ls hP hD hS hl
  subst he
  refine lv_dcmp hx hb hdg ?_
  rw [fp_dcmp hn]
  exact k H locs ls hP hD hS hl
theorem J_fcmp0 (C : Cx l K Γ own cc nL ret h) {x y : UInt32} {op : CmpOp} (he : x = y) (hn : Jvm.FP.Core.fIsNaN x = false) (hdg : decode cc pc = .ok (.fcmp op, 1)) (k : J l K Γ Q cs ss ws (pc + 1) nL lv (.int 0 :: st)) : J l K Γ Q cs ss ws pc nL lv (.float y :: .float x :: st) := by
  obtain ⟨p, e, R, s, m, args, below, meth, c, A⟩ := Γ
  obtain ⟨hx, hb, hml, hown, hts, hr, hlk, hK, hA, hf1, hf2⟩ := C
  intro H locs ls hP hD hS hl
  subst he
  refine lv_fcmp hx hb hdg ?_
  rw [fp_fcmp hn]
  exact k H locs ls hP hD hS hl
theorem J_ldcL (C : Cx l K Γ own cc nL ret h) {ix j : Nat} {tx : String} (hj : (ix, tx, j) ∈ strL) (ho : own = RL) (hdg : decode cc pc = .ok (.ldc ix, 2)) (k : J l K Γ Q cs ss ws (pc + 2) nL lv (.ref (K.2 (100 + j)) :: st)) : J l K Γ Q cs ss ws pc nL lv (st) := by
  obtain ⟨p, e, R, s, m, args, below, meth, c, A⟩ := Γ
  obtain ⟨hx, hb, hml, hown, hts, hr, hlk, hK, hA, hf1, hf2⟩ := C
  intro H locs ls hP hD hS hl
  subst ho
  exact va_ldcS hx hb hown (hK.2.2.2.1 _ hj) hdg (k H locs ls hP hD hS hl)
/-- the number on top, under another name -/
theorem J_eqi {a b : Int32} (e : a = b) (k : J l K Γ Q cs ss ws pc nL lv (.int b :: st)) : J l K Γ Q cs ss ws pc nL lv (.int a :: st) := by
  subst e
  exact k
theorem J_eql {a b : Int64} (e : a = b) (k : J l K Γ Q cs ss ws pc nL lv (.long b :: st)) : J l K Γ Q cs ss ws pc nL lv (.long a :: st) := by
  subst e
  exact k
theorem J_weq {ws' : va_W} (e : ws = ws') (k : J l K Γ Q cs ss ws' pc nL lv st) : J l K Γ Q cs ss ws pc nL lv st := by
  subst e
  exact k
theorem J_leq {lv' : List (Nat × Value)} (e : lv = lv') (k : J l K Γ Q cs ss ws pc nL lv' st) : J l K Γ Q cs ss ws pc nL lv st := by
  subst e
  exact k
/-- cells in front that are no longer wanted -/
theorem J_drop {u v : va_W} (k : J l K Γ Q cs ss v pc nL lv st) : J l K Γ Q cs ss (u ++ v) pc nL lv st := by
  obtain ⟨p, e, R, s, m, args, below, meth, c, A⟩ := Γ
  intro H locs ls hP hD hS hl
  refine k H locs ls (va_P_iff.mpr fun q hq => va_P_iff.mp hP q (List.mem_append_right _ hq)) (va_D_iff.mpr ?_) hS hl
  have h1 := va_D_iff.mp hD
  rw [List.map_append] at h1
  exact ⟨(List.nodup_append.mp h1.1).2.1, fun q hq => h1.2 q (List.mem_append_right _ hq)⟩
/-- of an array's function only what is below its length matters -/
theorem J_fun {u v : va_W} {a n : Nat} {cA : ClassId} {f g : Nat → Int32} (h : ∀ i, i < n → f i = g i) (k : J l K Γ Q cs ss (u ++ (a, .inl (cA, n, .inl g)) :: v) pc nL lv st) : J l K Γ Q cs ss (u ++ (a, .inl (cA, n, .inl f)) :: v) pc nL lv st := by
  obtain ⟨p, e, R, s, m, args, below, meth, c, A⟩ := Γ
  intro H locs ls hP hD hS hl
  refine k H locs ls (va_P_iff.mpr fun q hq => ?_) (va_D_iff.mpr ?_) hS hl
  · rcases List.mem_append.mp hq with hq | hq
    · exact va_P_iff.mp hP q (List.mem_append_left _ hq)
    · rcases List.mem_cons.mp hq with rfl | hq
      · have h1 := va_P_iff.mp hP (a, .inl (cA, n, .inl f)) (List.mem_append_right _ List.mem_cons_self)
        have e1 : (arrV cA n (fun i => Value.int (f i))) = arrV cA n (fun i => Value.int (g i)) := arrV_cong (fun i hi => by rw [h i hi])
        have h2 : H[a]? = some (arrV cA n (fun i => Value.int (f i))) := h1
        rw [e1] at h2
        exact h2
      · exact va_P_iff.mp hP q (List.mem_append_right _ (List.mem_cons_of_mem _ hq))
  · have h1 := va_D_iff.mp hD
    refine ⟨?_, fun q hq => ?_⟩
    · have h2 := h1.1
      simp only [List.map_append, List.map_cons] at h2 ⊢
      exact h2
    · rcases List.mem_append.mp hq with hq | hq
      · exact h1.2 q (List.mem_append_left _ hq)
      · rcases List.mem_cons.mp hq with rfl | hq
        · exact h1.2 (a, .inl (cA, n, .inl f)) (List.mem_append_right _ List.mem_cons_self)
        · exact h1.2 q (List.mem_append_right _ (List.mem_cons_of_mem _ hq))

theorem J_newI (C : Cx l K Γ own cc nL ret h) {CM SM : Nat} (Y : Cy Γ CM SM) {n : Int32} (N : Nat) (hdg : decode cc pc = .ok (.newarray .int, 2)) (hn : n = iN N) (hN : N ≤ 65536) (h1 : cs + 1 ≤ CM) (h2 : ss + N ≤ SM)
    (kk : ∀ q : Nat, J l K Γ Q (cs + 1) (ss + N) ((q, .inl (K.2 0, N, .inl (fun _ => 0))) :: ws) (pc + 2) nL lv (.ref q :: st)) : J l K Γ Q cs ss ws pc nL lv (.int n :: st) := by
  subst hn
  refine J_newa C Y (atype := .int) 0 N (N, .inl (fun _ => 0)) hdg ur_int rfl rfl (fun _ => rfl) (iN_neg (by omega)) (iN_nat (by omega)) (by show N * 4 ≤ 536870912; omega) h1 h2 (fun q => ?_)
  exact J_perm List.perm_append_comm (kk q)
theorem J_newB (C : Cx l K Γ own cc nL ret h) {CM SM : Nat} (Y : Cy Γ CM SM) {n : Int32} (N : Nat) (hdg : decode cc pc = .ok (.newarray .byte, 2)) (hn : n = iN N) (hN : N ≤ 65536) (h1 : cs + 1 ≤ CM) (h2 : ss + N ≤ SM)
    (kk : ∀ q : Nat, J l K Γ Q (cs + 1) (ss + N) ((q, .inl (K.2 1, N, .inl (fun _ => 0))) :: ws) (pc + 2) nL lv (.ref q :: st)) : J l K Γ Q cs ss ws pc nL lv (.int n :: st) := by
  subst hn
  refine J_newa C Y (atype := .byte) 1 N (N, .inl (fun _ => 0)) hdg ur_byte rfl rfl (fun _ => rfl) (iN_neg (by omega)) (iN_nat (by omega)) (by show N * 1 ≤ 536870912; omega) h1 h2 (fun q => ?_)
  exact J_perm List.perm_append_comm (kk q)
theorem J_newZ (C : Cx l K Γ own cc nL ret h) {CM SM : Nat} (Y : Cy Γ CM SM) {n : Int32} (N : Nat) (hdg : decode cc pc = .ok (.newarray .boolean, 2)) (hn : n = iN N) (hN : N ≤ 65536) (h1 : cs + 1 ≤ CM) (h2 : ss + N ≤ SM)
    (kk : ∀ q : Nat, J l K Γ Q (cs + 1) (ss + N) ((q, .inl (K.2 2, N, .inl (fun _ => 0))) :: ws) (pc + 2) nL lv (.ref q :: st)) : J l K Γ Q cs ss ws pc nL lv (.int n :: st) := by
  subst hn
  refine J_newa C Y (atype := .boolean) 2 N (N, .inl (fun _ => 0)) hdg ur_boolean rfl rfl (fun _ => rfl) (iN_neg (by omega)) (iN_nat (by omega)) (by show N * 1 ≤ 536870912; omega) h1 h2 (fun q => ?_)
  exact J_perm List.perm_append_comm (kk q)
def Lx (Γ : gT) (b L : Nat) (xs : Nat → Int32) : Prop := match Γ with
  | (p, e, R, s, m, args, below, meth, c, A) => va_X b L xs s s.heap ∧ b < s.heap.size ∧ ¬ A b
theorem J_sld (C : Cx l K Γ own cc nL ret h) {b L : Nat} {xs : Nat → Int32} (X : Lx Γ b L xs) {v : Int32} (j : Nat) (hv : v = iN j) (hj : j < L) (hL : L ≤ 260) (hdg : decode cc pc = .ok (.iaload, 1)) (k : J l K Γ Q cs ss ws (pc + 1) nL lv (.int (xs j) :: st)) : J l K Γ Q cs ss ws pc nL lv (.int v :: .ref b :: st) := by
  obtain ⟨p, e, R, s, m, args, below, meth, c, A⟩ := Γ
  obtain ⟨hx, hb, hml, hown, hts, hr, hlk, hK, hA, hf1, hf2⟩ := C
  obtain ⟨hX, hbl, hbA⟩ := X
  subst hv
  intro H locs ls hP hD hS hl
  have h1 := va_sld (rest := st) hx hb hX hbl hbA hS (iN_vp hj (by omega)) hdg (Q := Q) (p := p) (l := l) (e := e) (R := R) (m := m) (args := args) (below := below) (meth := meth) (cells := cs) (slots := ss) (ls := ls)
  rw [show Int32.toNatClampNeg (iN j) = j from iN_nat (by omega)] at h1
  exact h1 (k H locs ls hP hD hS hl)
theorem J_slen (C : Cx l K Γ own cc nL ret h) {b L : Nat} {xs : Nat → Int32} (X : Lx Γ b L xs) (hdg : decode cc pc = .ok (.arraylength, 1)) (k : J l K Γ Q cs ss ws (pc + 1) nL lv (.int (iN L) :: st)) : J l K Γ Q cs ss ws pc nL lv (.ref b :: st) := by
  obtain ⟨p, e, R, s, m, args, below, meth, c, A⟩ := Γ
  obtain ⟨hx, hb, hml, hown, hts, hr, hlk, hK, hA, hf1, hf2⟩ := C
  obtain ⟨hX, hbl, hbA⟩ := X
  intro H locs ls hP hD hS hl
  exact va_slen hx hb hX hbl hbA hS hdg (k H locs ls hP hD hS hl)
theorem J_getd1 (C : Cx l K Γ own cc nL ret h) {index : Nat} (hdg : decode cc pc = .ok (.getstatic index, 3)) (hu : Cond.fieldLink own index "java/lang/Integer" "DigitOnes" "[B" ∈ wsL_law) (k : J l K Γ Q cs ss ws (pc + 3) nL lv (.ref (K.2 300) :: st)) : J l K Γ Q cs ss ws pc nL lv st := by
  obtain ⟨p, e, R, s, m, args, below, meth, c, A⟩ := Γ
  obtain ⟨hx, hb, hml, hown, hts, hr, hlk, hK, hA, hf1, hf2⟩ := C
  intro H locs ls hP hD hS hl
  exact va_gets hx hb hK.2.2.2.2.2.2.1 hS hown (hts _ hu) (fun _ h9 => h9) hdg (k H locs ls hP hD hS hl)
theorem J_ldd1 (C : Cx l K Γ own cc nL ret h) {v : Int32} (j : Nat) (hv : v = iN j) (hj : j < 100) (hdg : decode cc pc = .ok (.baload, 1)) (k : J l K Γ Q cs ss ws (pc + 1) nL lv (.int (dg1 j) :: st)) : J l K Γ Q cs ss ws pc nL lv (.int v :: .ref (K.2 300) :: st) := by
  obtain ⟨p, e, R, s, m, args, below, meth, c, A⟩ := Γ
  obtain ⟨hx, hb, hml, hown, hts, hr, hlk, hK, hA, hf1, hf2⟩ := C
  subst hv
  intro H locs ls hP hD hS hl
  exact va_tb hx hb hK.2.2.2.2.2.2.2.1 hS (iN_vp hj (by omega)) (congrArg (fun z => Value.int (dg1 z)) (iN_nat (by omega))) hdg (k H locs ls hP hD hS hl)
theorem J_getd10 (C : Cx l K Γ own cc nL ret h) {index : Nat} (hdg : decode cc pc = .ok (.getstatic index, 3)) (hu : Cond.fieldLink own index "java/lang/Integer" "DigitTens" "[B" ∈ wsL_law) (k : J l K Γ Q cs ss ws (pc + 3) nL lv (.ref (K.2 301) :: st)) : J l K Γ Q cs ss ws pc nL lv st := by
  obtain ⟨p, e, R, s, m, args, below, meth, c, A⟩ := Γ
  obtain ⟨hx, hb, hml, hown, hts, hr, hlk, hK, hA, hf1, hf2⟩ := C
  intro H locs ls hP hD hS hl
  exact va_gets hx hb hK.2.2.2.2.2.2.2.2.1 hS hown (hts _ hu) (fun _ h9 => h9) hdg (k H locs ls hP hD hS hl)
theorem J_ldd10 (C : Cx l K Γ own cc nL ret h) {v : Int32} (j : Nat) (hv : v = iN j) (hj : j < 100) (hdg : decode cc pc = .ok (.baload, 1)) (k : J l K Γ Q cs ss ws (pc + 1) nL lv (.int (dg10 j) :: st)) : J l K Γ Q cs ss ws pc nL lv (.int v :: .ref (K.2 301) :: st) := by
  obtain ⟨p, e, R, s, m, args, below, meth, c, A⟩ := Γ
  obtain ⟨hx, hb, hml, hown, hts, hr, hlk, hK, hA, hf1, hf2⟩ := C
  subst hv
  intro H locs ls hP hD hS hl
  exact va_tb hx hb hK.2.2.2.2.2.2.2.2.2.1 hS (iN_vp hj (by omega)) (congrArg (fun z => Value.int (dg10 z)) (iN_nat (by omega))) hdg (k H locs ls hP hD hS hl)
end JR2
