-- PART 04d: String constants: the JDK's own members over them, walked
section GR3
variable {α : Type} {l : Launch} {K : gK} {Γ : gT} {own : String} {cc : ByteArray} {nL : Nat} {ret : Option FieldType} {h : Nat} {ws : va_W} {pc : Nat} {lv : List (Nat × Value)} {st : List Value} {κ : α → gR} {x : α}
theorem G_goto0 (C : Cx l K Γ own cc nL ret h) {off : Int} (hdg : decode cc pc = .ok (.ifCond .eq off, 3)) (ho : 0 ≤ (pc : Int) + off) (k : G l K Γ ws (pc + 3) nL lv st κ x) : G l K Γ ws pc nL lv (.int 1 :: st) κ x := by
  obtain ⟨p, e, R, s, m, args, below, meth, c, A⟩ := Γ
  obtain ⟨hx, hb, hml, hown, hts, hr, hlk, hK, hA, hf1, hf2⟩ := C
  intro H locs ls hP hD hS hl
  exact lv_if_eq (tgt := ((pc : Int) + off).toNat) hx hb hdg (by omega) (fun q => absurd q (by decide)) (fun _ => k H locs ls hP hD hS hl)
theorem G_goto1 (C : Cx l K Γ own cc nL ret h) {off : Int} (hdg : decode cc pc = .ok (.ifCond .ne off, 3)) (ho : 0 ≤ (pc : Int) + off) (k : G l K Γ ws (pc + 3) nL lv st κ x) : G l K Γ ws pc nL lv (.int 0 :: st) κ x := by
  obtain ⟨p, e, R, s, m, args, below, meth, c, A⟩ := Γ
  obtain ⟨hx, hb, hml, hown, hts, hr, hlk, hK, hA, hf1, hf2⟩ := C
  intro H locs ls hP hD hS hl
  exact lv_if_ne (tgt := ((pc : Int) + off).toNat) hx hb hdg (by omega) (fun q => absurd rfl q) (fun _ => k H locs ls hP hD hS hl)
theorem G_if_ltF (C : Cx l K Γ own cc nL ret h) {off : Int} {a : Int32} (hn : ¬ a < 0) (hdg : decode cc pc = .ok (.ifCond .lt off, 3)) (ho : 0 ≤ (pc : Int) + off) (k : G l K Γ ws (pc + 3) nL lv st κ x) : G l K Γ ws pc nL lv (.int a :: st) κ x := by
  obtain ⟨p, e, R, s, m, args, below, meth, c, A⟩ := Γ
  obtain ⟨hx, hb, hml, hown, hts, hr, hlk, hK, hA, hf1, hf2⟩ := C
  intro H locs ls hP hD hS hl
  exact lv_if_lt (tgt := ((pc : Int) + off).toNat) hx hb hdg (by omega) (fun q => absurd q hn) (fun _ => k H locs ls hP hD hS hl)
theorem G_icmp_ltT (C : Cx l K Γ own cc nL ret h) (tgt : Nat) {off : Int} {a b : Int32} (hn : a < b) (hdg : decode cc pc = .ok (.if_icmp .lt off, 3)) (ht : (pc : Int) + off = (tgt : Int)) (k : G l K Γ ws tgt nL lv st κ x) : G l K Γ ws pc nL lv (.int b :: .int a :: st) κ x := by
  obtain ⟨p, e, R, s, m, args, below, meth, c, A⟩ := Γ
  obtain ⟨hx, hb, hml, hown, hts, hr, hlk, hK, hA, hf1, hf2⟩ := C
  intro H locs ls hP hD hS hl
  exact lv_icmp_lt (tgt := tgt) hx hb hdg ht (fun _ => k H locs ls hP hD hS hl) (fun q => absurd hn q)
theorem G_nret {ty : FieldType} (C : Cx l K Γ own cc nL (some ty) h) {v : Int32} (hdg : decode cc pc = .ok (.ireturn, 1)) (hn : narrow ty (.int v) = .int v) (hr' : κ x = (some (.int v), ws)) : G l K Γ ws pc nL lv [.int v] κ x := by
  obtain ⟨p, e, R, s, m, args, below, meth, c, A⟩ := Γ
  obtain ⟨hx, hb, hml, hown, hts, hr, hlk, hK, hA, hf1, hf2⟩ := C
  intro H locs ls hP hD hS hl
  exact W.zret hx hb hr hn (fun t ht hW => ⟨⟨by rw [hr'], by rw [hr', ht]; exact hP, by rw [hr']; exact hD⟩, hS.F ht⟩) hS.2.2 hdg
theorem G_aret {C0 : String} (C : Cx l K Γ own cc nL (some (.object C0)) h) {a : Nat} (hdg : decode cc pc = .ok (.areturn, 1)) (hr' : κ x = (some (.ref a), ws)) : G l K Γ ws pc nL lv [.ref a] κ x := by
  obtain ⟨p, e, R, s, m, args, below, meth, c, A⟩ := Γ
  obtain ⟨hx, hb, hml, hown, hts, hr, hlk, hK, hA, hf1, hf2⟩ := C
  intro H locs ls hP hD hS hl
  exact W.aret (v := .ref a) hx hb hr (Or.inl ⟨_, rfl⟩) (Or.inr ⟨_, rfl⟩) (fun t ht hW => ⟨⟨by rw [hr'], by rw [hr', ht]; exact hP, by rw [hr']; exact hD⟩, hS.F ht⟩) hS.2.2 hdg
theorem G_aretN {C0 : String} (C : Cx l K Γ own cc nL (some (.object C0)) h) (hdg : decode cc pc = .ok (.areturn, 1)) (hr' : κ x = (some .null, ws)) : G l K Γ ws pc nL lv [.null] κ x := by
  obtain ⟨p, e, R, s, m, args, below, meth, c, A⟩ := Γ
  obtain ⟨hx, hb, hml, hown, hts, hr, hlk, hK, hA, hf1, hf2⟩ := C
  intro H locs ls hP hD hS hl
  exact W.aret (v := .null) hx hb hr (Or.inl ⟨_, rfl⟩) (Or.inl rfl) (fun t ht hW => ⟨⟨by rw [hr'], by rw [hr', ht]; exact hP, by rw [hr']; exact hD⟩, hS.F ht⟩) hS.2.2 hdg
theorem G_ldcS (C : Cx l K Γ own cc nL ret h) (j : Nat) {index : Nat} {tx : String} (hdg : decode cc pc = .ok (.ldc index, 2)) (hj : strT[j]? = some (own, index, tx)) (k : G l K Γ ws (pc + 2) nL lv (.ref (K.2 (100 + j)) :: st) κ x) : G l K Γ ws pc nL lv st κ x := by
  obtain ⟨p, e, R, s, m, args, below, meth, c, A⟩ := Γ
  obtain ⟨hx, hb, hml, hown, hts, hr, hlk, hK, hA, hf1, hf2⟩ := C
  intro H locs ls hP hD hS hl
  exact va_ldcS hx hb hown (hK.2.2.1 j _ hj) hdg (k H locs ls hP hD hS hl)
theorem G_ishr (C : Cx l K Γ own cc nL ret h) {a b v : Int32} (hdg : decode cc pc = .ok (.ishr, 1)) (hv : a >>> (b &&& 31) = v) (k : G l K Γ ws (pc + 1) nL lv (.int v :: st) κ x) : G l K Γ ws pc nL lv (.int b :: .int a :: st) κ x := by
  obtain ⟨p, e, R, s, m, args, below, meth, c, A⟩ := Γ
  obtain ⟨hx, hb, hml, hown, hts, hr, hlk, hK, hA, hf1, hf2⟩ := C
  subst hv
  intro H locs ls hP hD hS hl
  exact lv_ishr hx hb hdg (k H locs ls hP hD hS hl)
theorem G_i2c (C : Cx l K Γ own cc nL ret h) {a v : Int32} (hdg : decode cc pc = .ok (.i2c, 1)) (hv : (a.toUInt32 % 65536).toInt32 = v) (k : G l K Γ ws (pc + 1) nL lv (.int v :: st) κ x) : G l K Γ ws pc nL lv (.int a :: st) κ x := by
  obtain ⟨p, e, R, s, m, args, below, meth, c, A⟩ := Γ
  obtain ⟨hx, hb, hml, hown, hts, hr, hlk, hK, hA, hf1, hf2⟩ := C
  intro H locs ls hP hD hS hl
  exact lv_i2c hx hb hdg hv (k H locs ls hP hD hS hl)
theorem G_getcs (C : Cx l K Γ own cc nL ret h) {index : Nat} (hdg : decode cc pc = .ok (.getstatic index, 3)) (hu : Cond.fieldLink own index "java/lang/String" "COMPACT_STRINGS" "Z" ∈ wsL_law) (k : G l K Γ ws (pc + 3) nL lv (.int 1 :: st) κ x) : G l K Γ ws pc nL lv st κ x := by
  obtain ⟨p, e, R, s, m, args, below, meth, c, A⟩ := Γ
  obtain ⟨hx, hb, hml, hown, hts, hr, hlk, hK, hA, hf1, hf2⟩ := C
  intro H locs ls hP hD hS hl
  exact va_gets hx hb hK.2.2.2.2.1 hS hown (hts _ hu) (fun _ h9 => h9) hdg (k H locs ls hP hD hS hl)
theorem G_getfm (C : Cx l K Γ own cc nL ret h) {index : Nat} (hdg : decode cc pc = .ok (.getstatic index, 3)) (hu : Cond.fieldLink own index "jdk/internal/util/Preconditions" "SIOOBE_FORMATTER" "Ljava/util/function/BiFunction;" ∈ wsL_law) (k : ∀ r : Option Nat, G l K Γ ws (pc + 3) nL lv (va_rf r :: st) κ x) : G l K Γ ws pc nL lv st κ x := by
  obtain ⟨p, e, R, s, m, args, below, meth, c, A⟩ := Γ
  obtain ⟨hx, hb, hml, hown, hts, hr, hlk, hK, hA, hf1, hf2⟩ := C
  intro H locs ls hP hD hS hl
  rcases hK.2.2.2.2.2.1 with hZ | ⟨t, hZ⟩
  · exact va_gets hx hb hZ hS hown (hts _ hu) (fun _ h9 => h9) hdg (k none H locs ls hP hD hS hl)
  · exact va_gets hx hb hZ hS hown (hts _ hu) (fun _ h9 => h9) hdg (k (some t) H locs ls hP hD hS hl)
theorem G_scod (C : Cx l K Γ own cc nL ret h) {index j : Nat} (hj : j < 16) (hdg : decode cc pc = .ok (.getfield index, 3)) (hu : Cond.fieldLink own index "java/lang/String" "coder" "B" ∈ wsL_law) (k : G l K Γ ws (pc + 3) nL lv (.int 0 :: st) κ x) : G l K Γ ws pc nL lv (.ref (K.2 (100 + j)) :: st) κ x := by
  obtain ⟨p, e, R, s, m, args, below, meth, c, A⟩ := Γ
  obtain ⟨hx, hb, hml, hown, hts, hr, hlk, hK, hA, hf1, hf2⟩ := C
  intro H locs ls hP hD hS hl
  exact vk_getf hx hb (hK.2.1.1 j hj).2.1 hS hown (hts _ hu) (fun _ h9 => h9) hdg (k H locs ls hP hD hS hl)
theorem G_sval (C : Cx l K Γ own cc nL ret h) {index j : Nat} (hj : j < 16) (hdg : decode cc pc = .ok (.getfield index, 3)) (hu : Cond.fieldLink own index "java/lang/String" "value" "[B" ∈ wsL_law) (k : G l K Γ ws (pc + 3) nL lv (.ref (K.2 (200 + j)) :: st) κ x) : G l K Γ ws pc nL lv (.ref (K.2 (100 + j)) :: st) κ x := by
  obtain ⟨p, e, R, s, m, args, below, meth, c, A⟩ := Γ
  obtain ⟨hx, hb, hml, hown, hts, hr, hlk, hK, hA, hf1, hf2⟩ := C
  intro H locs ls hP hD hS hl
  exact vk_getf hx hb (hK.2.1.1 j hj).2.2.1 hS hown (hts _ hu) (fun _ h9 => h9) hdg (k H locs ls hP hD hS hl)
theorem G_tlen (C : Cx l K Γ own cc nL ret h) {j : Nat} (hj : j < 16) (hdg : decode cc pc = .ok (.arraylength, 1)) (k : G l K Γ ws (pc + 1) nL lv (.int (Int32.ofNat (slen.getD j 0)) :: st) κ x) : G l K Γ ws pc nL lv (.ref (K.2 (200 + j)) :: st) κ x := by
  obtain ⟨p, e, R, s, m, args, below, meth, c, A⟩ := Γ
  obtain ⟨hx, hb, hml, hown, hts, hr, hlk, hK, hA, hf1, hf2⟩ := C
  intro H locs ls hP hD hS hl
  obtain ⟨cell, h1, h2, h3, h4, h5, h6, h7⟩ := (hK.2.1.1 j hj).2.2.2
  exact W.alen (n := Int32.ofNat (slen.getD j 0)) hx hb (by rw [hS.2.1 _ (Array.getElem?_eq_some_iff.mp h1).1 h7]; exact h1) h2 h5 rfl rfl hdg (k H locs ls hP hD hS hl)
theorem G_tbald (C : Cx l K Γ own cc nL ret h) {j : Nat} (hj : j < 16) {i : Int32} (hin : vp_in i (slen.getD j 0)) (hdg : decode cc pc = .ok (.baload, 1)) (k : G l K Γ ws (pc + 1) nL lv (.int ((sbyt.getD j []).getD i.toNatClampNeg 0) :: st) κ x) : G l K Γ ws pc nL lv (.int i :: .ref (K.2 (200 + j)) :: st) κ x := by
  obtain ⟨p, e, R, s, m, args, below, meth, c, A⟩ := Γ
  obtain ⟨hx, hb, hml, hown, hts, hr, hlk, hK, hA, hf1, hf2⟩ := C
  intro H locs ls hP hD hS hl
  exact va_tb hx hb (hK.2.1.1 j hj).2.2.2 hS hin rfl hdg (k H locs ls hP hD hS hl)
theorem G_callVS (C : Cx l K Γ own cc nL ret h) {y : MethodName} {bytes : ByteArray} {maxL h' index n : Nat} {rt : Option FieldType} {as rest : List Value} {v : Option Value} {ws' : va_W} {j : Nat} (hj : j < 16) (hyS : y.cls = "java/lang/String") (hcard : Card y bytes maxL rt n) (hins : Cond.instanceMethod y ∈ wsL_law) (hsel : Cond.selects y.cls y y ∈ wsL_law) (hu : Cond.methodLink own index y ∈ wsL_law) (ct : Ct l K y bytes maxL rt h' (.ref (K.2 (100 + j)) :: as) ws (v, ws')) (hdg : decode cc pc = .ok (.invokevirtual index, 3)) (hst : st = as.reverse ++ .ref (K.2 (100 + j)) :: rest) (hn : as.length = n) (hh : h' + 1 ≤ h) (hrest : (rest.map fun v => v.category).sum ≤ 8) (kk : G l K Γ ws' (pc + 3) nL lv (v.toList ++ rest) κ x) : G l K Γ ws pc nL lv st κ x := by
  obtain ⟨p, e, R, s, m, args, below, meth, c, A⟩ := Γ
  obtain ⟨hx, hb, hml, hown, hts, hr, hlk, hK, hA, hf1, hf2⟩ := C
  subst hst
  intro H locs ls hP hD hS hl
  have hM := ct H.size
  have hcd := hcard
  obtain ⟨hc1, hc2, hc3, hc4⟩ := hcd
  have hF : ∀ q, va_A ws H.size q → A q := va_free hD hS hA (List.range ws.length) (g_range ws)
  have hfb : FrameBlind (va_Pc (.ref (K.2 (100 + j)) :: as) (fun U => U.heap.size = H.size ∧ va_P K.1 classes ws U.heap ∧ KS K (va_A ws H.size) U U.heap ∧ va_D (fun _ => True) ws)) := fun a U g mk q => by
    obtain ⟨q0, q1, q2, q3, q4⟩ := q
    exact ⟨q0, q1, q2, ⟨q3.1.calling, q3.2.calling⟩, q4⟩
  have hpre : ∀ U : State, U.heap = H → s.WarmedH U.vm → va_Pc (.ref (K.2 (100 + j)) :: as) (fun U => U.heap.size = H.size ∧ va_P K.1 classes ws U.heap ∧ KS K (va_A ws H.size) U U.heap ∧ va_D (fun _ => True) ws) (.ref (K.2 (100 + j)) :: as).toArray U := fun U hU hW => ⟨rfl, by rw [hU], by rw [hU]; exact hP, ⟨hK.1.warm hW, by rw [hU]; exact ((hK.2.kept hS.2.1).narrow hF).warm hW⟩, hD.weaken (fun _ _ _ _ => trivial)⟩
  have hroom : h' + 1 ≤ R.frames ∧ 8 + (maxL + 11) + 30 * h' ≤ R.locals := ⟨by omega, by omega⟩
  refine g_call (va_runV (As := as) (rest := rest) ⟨hx, hb, hml, hown, hts⟩ hM ⟨callB_of n hts (good_Card hcard) rfl rfl rfl (hts _ hc2) (hts _ hu) hc3 hroom, hts _ hins, hts _ hsel⟩ ⟨hfb, by rw [hyS]; exact vk_recv (i := j) hK.2.1 hj hS, hpre⟩ rfl hn hl.1 rfl (lv_room hrest) hdg ⟨Nat.zero_le _, Nat.zero_le _⟩) hS (fun q _ h => hF q h) hF (fun t H1 locs1 ht hP1 hD1 hk1 hS1 => kk H1 locs1 ls (by rw [← ht]; exact hP1) (hD1.weaken (fun _ q _ hq => hF q.1 hq)) hS1 hl)
theorem G_callVSi (C : Cx l K Γ own cc nL ret h) {y : MethodName} {bytes : ByteArray} {maxL h' index n : Nat} {rt : Option FieldType} {as rest : List Value} {w : Int32} {ws' : va_W} {j : Nat} (hj : j < 16) (hyS : y.cls = "java/lang/String") (hcard : Card y bytes maxL rt n) (hins : Cond.instanceMethod y ∈ wsL_law) (hsel : Cond.selects y.cls y y ∈ wsL_law) (hu : Cond.methodLink own index y ∈ wsL_law) (ct : Ct l K y bytes maxL rt h' (.ref (K.2 (100 + j)) :: as) ws (some (.int w), ws')) (hdg : decode cc pc = .ok (.invokevirtual index, 3)) (hst : st = as.reverse ++ .ref (K.2 (100 + j)) :: rest) (hn : as.length = n) (hh : h' + 1 ≤ h) (hrest : (rest.map fun v => v.category).sum ≤ 8) (kk : G l K Γ ws' (pc + 3) nL lv (.int w :: rest) κ x) : G l K Γ ws pc nL lv st κ x :=
  G_callVS C hj hyS hcard hins hsel hu ct hdg hst hn hh hrest kk
theorem G_callVSv (C : Cx l K Γ own cc nL ret h) {y : MethodName} {bytes : ByteArray} {maxL h' index n : Nat} {rt : Option FieldType} {as rest : List Value} {ws' : va_W} {j : Nat} (hj : j < 16) (hyS : y.cls = "java/lang/String") (hcard : Card y bytes maxL rt n) (hins : Cond.instanceMethod y ∈ wsL_law) (hsel : Cond.selects y.cls y y ∈ wsL_law) (hu : Cond.methodLink own index y ∈ wsL_law) (ct : Ct l K y bytes maxL rt h' (.ref (K.2 (100 + j)) :: as) ws (none, ws')) (hdg : decode cc pc = .ok (.invokevirtual index, 3)) (hst : st = as.reverse ++ .ref (K.2 (100 + j)) :: rest) (hn : as.length = n) (hh : h' + 1 ≤ h) (hrest : (rest.map fun v => v.category).sum ≤ 8) (kk : G l K Γ ws' (pc + 3) nL lv (rest) κ x) : G l K Γ ws pc nL lv st κ x :=
  G_callVS C hj hyS hcard hins hsel hu ct hdg hst hn hh hrest kk
end GR3
theorem kd_J0_coder_7d493 : Card yJ0_coder_7d493 cJ0_coder_7d493 1 (some .byte) 0 := ⟨uc_J0_coder_7d493, un_J0, ⟨by decide, by decide, by decide⟩, by decide⟩
theorem kd_J0_isLatin1_aae02 : Card yJ0_isLatin1_aae02 cJ0_isLatin1_aae02 1 (some .boolean) 0 := ⟨uc_J0_isLatin1_aae02, un_J0, ⟨by decide, by decide, by decide⟩, by decide⟩
theorem kd_J0_length_8abf5 : Card yJ0_length_8abf5 cJ0_length_8abf5 1 (some .int) 0 := ⟨uc_J0_length_8abf5, un_J0, ⟨by decide, by decide, by decide⟩, by decide⟩
theorem kd_J3_checkIndex_8e157 : Card yJ3_checkIndex_8e157 cJ3_checkIndex_8e157 3 (some .int) 3 := ⟨uc_J3_checkIndex_8e157, un_J3, ⟨by decide, by decide, by decide⟩, by decide⟩
theorem kd_J0_checkIndex_df160 : Card yJ0_checkIndex_df160 cJ0_checkIndex_df160 2 none 2 := ⟨uc_J0_checkIndex_df160, un_J0, ⟨by decide, by decide, by decide⟩, by decide⟩
theorem kd_J1_charAt_3b067 : Card yJ1_charAt_3b067 cJ1_charAt_3b067 2 (some .char) 2 := ⟨uc_J1_charAt_3b067, un_J1, ⟨by decide, by decide, by decide⟩, by decide⟩
theorem kd_J0_charAt_5068e : Card yJ0_charAt_5068e cJ0_charAt_5068e 2 (some .char) 1 := ⟨uc_J0_charAt_5068e, un_J0, ⟨by decide, by decide, by decide⟩, by decide⟩
theorem kd_X3_keyword : Card yX3_keyword cX3_keyword 1 (some (.object "java/lang/String")) 1 := ⟨uc_X3_keyword, un_X3, ⟨by decide, by decide, by decide⟩, by decide⟩
theorem c_coder (l : Launch) (K : gK) (ws : va_W) {j : Nat} (hj : j < 16) : Ct l K yJ0_coder_7d493 cJ0_coder_7d493 1 (some .byte) 0 [.ref (K.2 (100 + j))] ws (some (.int 0), ws) := by
  refine Ct.of (own := RJ0) (fun z => (some (.int z), ws)) (x := (0 : Int32)) (by decide) rfl (Nat.le_of_ble_eq_true rfl) (fun Γ C => ?_)
  refine G_getcs C dJ0_coder_7d493_0 uf_J0_38 ?_
  refine G_goto0 C dJ0_coder_7d493_3 (by decide) ?_
  refine G_aload_n C 0 dJ0_coder_7d493_6 rfl ?_
  refine G_scod C hj dJ0_coder_7d493_7 uf_J0_15 ?_
  refine G_goto C 14 dJ0_coder_7d493_10 rfl ?_
  exact G_nret C dJ0_coder_7d493_14 rfl rfl
theorem c_isLatin1 (l : Launch) (K : gK) (ws : va_W) {j : Nat} (hj : j < 16) : Ct l K yJ0_isLatin1_aae02 cJ0_isLatin1_aae02 1 (some .boolean) 0 [.ref (K.2 (100 + j))] ws (some (.int 1), ws) := by
  refine Ct.of (own := RJ0) (fun z => (some (.int z), ws)) (x := (1 : Int32)) (by decide) rfl (Nat.le_of_ble_eq_true rfl) (fun Γ C => ?_)
  refine G_getcs C dJ0_isLatin1_aae02_0 uf_J0_38 ?_
  refine G_goto0 C dJ0_isLatin1_aae02_3 (by decide) ?_
  refine G_aload_n C 0 dJ0_isLatin1_aae02_6 rfl ?_
  refine G_scod C hj dJ0_isLatin1_aae02_7 uf_J0_15 ?_
  refine G_goto1 C dJ0_isLatin1_aae02_10 (by decide) ?_
  refine G_iconst C dJ0_isLatin1_aae02_13 (v := 1) rfl ?_
  refine G_goto C 18 dJ0_isLatin1_aae02_14 rfl ?_
  exact G_nret C dJ0_isLatin1_aae02_18 rfl rfl
theorem slen_shr : ∀ j, j < 16 → Int32.ofNat (slen.getD j 0) >>> ((0 : Int32) &&& 31) = Int32.ofNat (slen.getD j 0) := by decide +kernel
theorem slen_lt : ∀ j, j < 16 → slen.getD j 0 < 2147483648 := by decide +kernel
theorem c_slength (l : Launch) (K : gK) (ws : va_W) {j : Nat} (hj : j < 16) : Ct l K yJ0_length_8abf5 cJ0_length_8abf5 1 (some .int) 1 [.ref (K.2 (100 + j))] ws (some (.int (Int32.ofNat (slen.getD j 0))), ws) := by
  refine Ct.of (own := RJ0) (fun z => (some (.int z), ws)) (x := Int32.ofNat (slen.getD j 0)) (by decide) rfl (Nat.le_of_ble_eq_true rfl) (fun Γ C => ?_)
  refine G_aload_n C 0 dJ0_length_8abf5_0 rfl ?_
  refine G_sval C hj dJ0_length_8abf5_1 uf_J0_9 ?_
  refine G_tlen C hj dJ0_length_8abf5_4 ?_
  refine G_aload_n C 0 dJ0_length_8abf5_5 rfl ?_
  refine G_callVSi C hj rfl kd_J0_coder_7d493 ui_J0_coder_7d493 us_J0_coder_7d493 um_J0_335 (c_coder l K ws hj) dJ0_length_8abf5_6 rfl rfl (Nat.le_of_ble_eq_true rfl) (Nat.le_of_ble_eq_true rfl) ?_
  refine G_ishr C dJ0_length_8abf5_9 (slen_shr j hj) ?_
  exact G_iret C dJ0_length_8abf5_10 rfl
theorem c_pcheck (l : Launch) (K : gK) (ws : va_W) {i n : Int32} (r : Option Nat) (h0 : ¬ i < 0) (h1 : i < n) : Ct l K yJ3_checkIndex_8e157 cJ3_checkIndex_8e157 3 (some .int) 0 [.int i, .int n, va_rf r] ws (some (.int i), ws) := by
  refine Ct.of (own := RJ3) (fun z => (some (.int z), ws)) (x := i) (by decide) rfl (by cases r <;> exact Nat.le_of_ble_eq_true rfl) (fun Γ C => ?_)
  refine G_iload_n C 0 dJ3_checkIndex_8e157_0 rfl ?_
  refine G_if_ltF C h0 dJ3_checkIndex_8e157_1 (by decide) ?_
  refine G_iload_n C 0 dJ3_checkIndex_8e157_4 rfl ?_
  refine G_iload_n C 1 dJ3_checkIndex_8e157_5 rfl ?_
  refine G_icmp_ltT C 16 h1 dJ3_checkIndex_8e157_6 rfl ?_
  refine G_iload_n C 0 dJ3_checkIndex_8e157_16 rfl ?_
  exact G_iret C dJ3_checkIndex_8e157_17 rfl
theorem c_scheck (l : Launch) (K : gK) (ws : va_W) {i n : Int32} (h0 : ¬ i < 0) (h1 : i < n) : Ct l K yJ0_checkIndex_df160 cJ0_checkIndex_df160 2 none 1 [.int i, .int n] ws (none, ws) := by
  refine Ct.of (own := RJ0) (fun (_ : Unit) => (none, ws)) (x := ()) (by decide) rfl (Nat.le_of_ble_eq_true rfl) (fun Γ C => ?_)
  refine G_iload_n C 0 dJ0_checkIndex_df160_0 rfl ?_
  refine G_iload_n C 1 dJ0_checkIndex_df160_1 rfl ?_
  refine G_getfm C dJ0_checkIndex_df160_2 uf_J0_1053 (fun r => ?_)
  refine G_callSi (as := [.int i, .int n, va_rf r]) C kd_J3_checkIndex_8e157 ut_J3_checkIndex_8e157 um_J0_1059 (c_pcheck l K ws r h0 h1) dJ0_checkIndex_df160_5 rfl rfl (Nat.le_of_ble_eq_true rfl) (Nat.le_of_ble_eq_true rfl) ?_
  refine G_pop C dJ0_checkIndex_df160_8 rfl ?_
  exact G_vret C dJ0_checkIndex_df160_9 rfl
/-- the char at i of the constant j -/
def sch (j : Nat) (i : Int32) : Int32 := ((((sbyt.getD j []).getD i.toNatClampNeg 0) &&& 255).toUInt32 % 65536).toInt32
theorem sbyt_all : ∀ j, j < 16 → slen.getD j 0 = (sbyt.getD j []).length ∧ ∀ b ∈ sbyt.getD j [], narrow .char (.int ((b &&& 255).toUInt32 % 65536).toInt32) = .int ((b &&& 255).toUInt32 % 65536).toInt32 := by decide +kernel
theorem sch_nar {j : Nat} (hj : j < 16) {i : Int32} (h0 : ¬ i < 0) (h1 : i < Int32.ofNat (slen.getD j 0)) : narrow .char (.int (sch j i)) = .int (sch j i) := by
  have hin := g_in_of (slen_lt j hj) h0 h1
  have hlt : i.toNatClampNeg < slen.getD j 0 := Nat.not_le.mp fun q => hin (Or.inr q)
  obtain ⟨h2, h3⟩ := sbyt_all j hj
  rw [h2] at hlt
  have h4 : (sbyt.getD j []).getD i.toNatClampNeg 0 = (sbyt.getD j [])[i.toNatClampNeg] := by
    rw [List.getD_eq_getElem?_getD, List.getElem?_eq_getElem hlt]
    rfl
  unfold sch
  rw [h4]
  exact h3 _ (List.getElem_mem hlt)
theorem c_lcharAt (l : Launch) (K : gK) (ws : va_W) {j : Nat} (hj : j < 16) {i : Int32} (h0 : ¬ i < 0) (h1 : i < Int32.ofNat (slen.getD j 0)) : Ct l K yJ1_charAt_3b067 cJ1_charAt_3b067 2 (some .char) 2 [.ref (K.2 (200 + j)), .int i] ws (some (.int (sch j i)), ws) := by
  refine Ct.of (own := RJ1) (fun z => (some (.int z), ws)) (x := sch j i) (by decide) rfl (Nat.le_of_ble_eq_true rfl) (fun Γ C => ?_)
  refine G_iload_n C 1 dJ1_charAt_3b067_0 rfl ?_
  refine G_aload_n C 0 dJ1_charAt_3b067_1 rfl ?_
  refine G_tlen C hj dJ1_charAt_3b067_2 ?_
  refine G_callSv C kd_J0_checkIndex_df160 ut_J0_checkIndex_df160 um_J1_9 (c_scheck l K ws h0 h1) dJ1_charAt_3b067_3 rfl rfl (Nat.le_of_ble_eq_true rfl) (Nat.le_of_ble_eq_true rfl) ?_
  refine G_aload_n C 0 dJ1_charAt_3b067_6 rfl ?_
  refine G_iload_n C 1 dJ1_charAt_3b067_7 rfl ?_
  refine G_tbald C hj (g_in_of (slen_lt j hj) h0 h1) dJ1_charAt_3b067_8 ?_
  refine G_sipush C dJ1_charAt_3b067_9 (v := 255) rfl ?_
  refine G_iand C dJ1_charAt_3b067_12 ?_
  refine G_i2c C dJ1_charAt_3b067_13 rfl ?_
  exact G_nret C dJ1_charAt_3b067_14 (sch_nar hj h0 h1) rfl
theorem c_charAt (l : Launch) (K : gK) (ws : va_W) {j : Nat} (hj : j < 16) {i : Int32} (h0 : ¬ i < 0) (h1 : i < Int32.ofNat (slen.getD j 0)) : Ct l K yJ0_charAt_5068e cJ0_charAt_5068e 2 (some .char) 3 [.ref (K.2 (100 + j)), .int i] ws (some (.int (sch j i)), ws) := by
  refine Ct.of (own := RJ0) (fun z => (some (.int z), ws)) (x := sch j i) (by decide) rfl (Nat.le_of_ble_eq_true rfl) (fun Γ C => ?_)
  refine G_aload_n C 0 dJ0_charAt_5068e_0 rfl ?_
  refine G_callVSi C hj rfl kd_J0_isLatin1_aae02 ui_J0_isLatin1_aae02 us_J0_isLatin1_aae02 um_J0_492 (c_isLatin1 l K ws hj) dJ0_charAt_5068e_1 rfl rfl (Nat.le_of_ble_eq_true rfl) (Nat.le_of_ble_eq_true rfl) ?_
  refine G_goto0 C dJ0_charAt_5068e_4 (by decide) ?_
  refine G_aload_n C 0 dJ0_charAt_5068e_7 rfl ?_
  refine G_sval C hj dJ0_charAt_5068e_8 uf_J0_9 ?_
  refine G_iload_n C 1 dJ0_charAt_5068e_11 rfl ?_
  refine G_callSi C kd_J1_charAt_3b067 ut_J1_charAt_3b067 um_J0_495 (c_lcharAt l K ws hj h0 h1) dJ0_charAt_5068e_12 rfl rfl (Nat.le_of_ble_eq_true rfl) (Nat.le_of_ble_eq_true rfl) ?_
  exact G_nret C dJ0_charAt_5068e_15 (sch_nar hj h0 h1) rfl
/-- the keyword of a number, as a constant's place -/
def v_X3_keyword (x0 : Int32) : Nat := if x0 = 0 then 0 else if x0 = 1 then 1 else if x0 = 2 then 2 else if x0 = 3 then 3 else if x0 = 4 then 4 else if x0 = 5 then 5 else 6
theorem kw_lt (x0 : Int32) : v_X3_keyword x0 < 16 := by
  unfold v_X3_keyword
  repeat' split
  all_goals decide
theorem c_X3_keyword (l : Launch) (K : gK) (ws : va_W) (x0 : Int32) : Ct l K yX3_keyword cX3_keyword 1 (some (.object "java/lang/String")) 0 [.int x0] ws (some (.ref (K.2 (100 + v_X3_keyword x0))), ws) := by
  refine Ct.of (own := RX3) (fun z => (some (.ref (K.2 (100 + z))), ws)) (x := v_X3_keyword x0) (by decide) rfl (Nat.le_of_ble_eq_true rfl) (fun Γ C => ?_)
  unfold v_X3_keyword
  refine G_iload_n C 0 dX3_keyword_0 rfl ?_
  refine G_ite (fun h => ?_) (fun h0 => ?_)
  · refine G_tswIn (v := 0) C 40 0 dX3_keyword_1 h rfl (by decide) rfl rfl ?_
    refine G_ldcS C 0 dX3_keyword_40 rfl ?_
    exact G_aret C dX3_keyword_42 rfl
  · skip
    refine G_ite (fun h => ?_) (fun h1 => ?_)
    · refine G_tswIn (v := 1) C 43 1 dX3_keyword_1 h rfl (by decide) rfl rfl ?_
      refine G_ldcS C 1 dX3_keyword_43 rfl ?_
      exact G_aret C dX3_keyword_45 rfl
    · skip
      refine G_ite (fun h => ?_) (fun h2 => ?_)
      · refine G_tswIn (v := 2) C 46 2 dX3_keyword_1 h rfl (by decide) rfl rfl ?_
        refine G_ldcS C 2 dX3_keyword_46 rfl ?_
        exact G_aret C dX3_keyword_48 rfl
      · skip
        refine G_ite (fun h => ?_) (fun h3 => ?_)
        · refine G_tswIn (v := 3) C 49 3 dX3_keyword_1 h rfl (by decide) rfl rfl ?_
          refine G_ldcS C 3 dX3_keyword_49 rfl ?_
          exact G_aret C dX3_keyword_51 rfl
        · skip
          refine G_ite (fun h => ?_) (fun h4 => ?_)
          · refine G_tswIn (v := 4) C 52 4 dX3_keyword_1 h rfl (by decide) rfl rfl ?_
            refine G_ldcS C 4 dX3_keyword_52 rfl ?_
            exact G_aret C dX3_keyword_54 rfl
          · skip
            refine G_ite (fun h => ?_) (fun h5 => ?_)
            · refine G_tswIn (v := 5) C 55 5 dX3_keyword_1 h rfl (by decide) rfl rfl ?_
              refine G_ldcS C 5 dX3_keyword_55 rfl ?_
              exact G_aret C dX3_keyword_57 rfl
            · skip
              refine G_tswOut C 58 dX3_keyword_1 (by have q0 := i32_ne h0 (n := 0) rfl; have q1 := i32_ne h1 (n := 1) rfl; have q2 := i32_ne h2 (n := 2) rfl; have q3 := i32_ne h3 (n := 3) rfl; have q4 := i32_ne h4 (n := 4) rfl; have q5 := i32_ne h5 (n := 5) rfl; omega) rfl ?_
              refine G_ldcS C 6 dX3_keyword_58 rfl ?_
              exact G_aret C dX3_keyword_60 rfl
