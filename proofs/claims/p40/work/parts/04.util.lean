-- PART 04: rows of arrays and a State's world; the contracts of at, put, raise, takeOut, copyRow
section GR2
variable {α : Type} {l : Launch} {K : gK} {Γ : gT} {own : String} {cc : ByteArray} {nL : Nat} {ret : Option FieldType} {h : Nat} {ws : va_W} {pc : Nat} {lv : List (Nat × Value)} {st : List Value} {κ : α → gR} {x : α}
theorem G_min (C : Cx l K Γ own cc nL ret h) {index : Nat} {a b : Int32} (hdg : decode cc pc = .ok (.invokestatic index, 3)) (hu : Cond.methodLink own index Lib.Math.min.name ∈ wsL_law) (hh : 1 ≤ h) (hrest : (st.map fun v => v.category).sum ≤ 8) (k : G l K Γ ws (pc + 3) nL lv (.int (if b < a then b else a) :: st) κ x) : G l K Γ ws pc nL lv (.int b :: .int a :: st) κ x := by
  obtain ⟨p, e, R, s, m, args, below, meth, c, A⟩ := Γ
  obtain ⟨hx, hb, hml, hown, hts, hr, hlk, hK, hA, hf1, hf2⟩ := C
  intro H locs ls hP hD hS hl
  exact va_mmin hx hb (hml.trans hl.1.symm) hown (hts _ hu) (hts _ ut_Jmin) (hts _ un_Math) (hts _ uc_Jmin) (by omega) (by omega) (Nat.zero_le _) (Nat.zero_le _) hdg (k H locs ls hP hD hS hl)
theorem G_copyi (C : Cx l K Γ own cc nL ret h) (q0 q1 : Nat) {index a0 a1 n0 n1 : Nat} {f g : Nat → Int32} {sp dp n : Int32} {ws' : va_W} (hdg : decode cc pc = .ok (.invokestatic index, 3)) (hu : Cond.methodLink own index arraycopyName ∈ wsL_law) (hh : 1 ≤ h) (ha0 : ws[q0]? = some (a0, .inl (K.2 0, n0, .inl f))) (ha1 : ws[q1]? = some (a1, .inl (K.2 0, n1, .inl g))) (h1 : ¬ sp < 0) (h2 : ¬ dp < 0) (h3 : ¬ n < 0) (h4 : sp.toNatClampNeg + n.toNatClampNeg ≤ n0) (h5 : dp.toNatClampNeg + n.toNatClampNeg ≤ n1) (hw : ws.set q1 (a1, .inl (K.2 0, n1, .inl (va_cpy f g sp.toNatClampNeg dp.toNatClampNeg n.toNatClampNeg))) = ws') (k : G l K Γ ws' (pc + 3) nL lv [] κ x) : G l K Γ ws pc nL lv [.int n, .int dp, .ref a1, .int sp, .ref a0] κ x := by
  obtain ⟨p, e, R, s, m, args, below, meth, c, A⟩ := Γ
  obtain ⟨hx, hb, hml, hown, hts, hr, hlk, hK, hA, hf1, hf2⟩ := C
  subst hw
  intro H locs ls hP hD hS hl
  exact va_copyi hx hb (hml.trans hl.1.symm) hown (hts _ hu) (hts _ uv_Jcopy) (hts _ ut_Jcopy) (hts _ un_System) hK.1.1 hP hD hS q0 q1 0 0 ha0 ha1 rfl rfl rfl h1 h2 h3 h4 h5 (fun _ _ => rfl) (by omega) (by show 0 + (7 + 11) ≤ R.locals; omega) hdg (fun H1 locs1 hP hD hS => k H1 locs1 ls hP hD hS hl)
end GR2
abbrev SM : Type := Nat → Nat → Int32
def sU (S : SM) (k : Nat) (g : Nat → Int32) : SM := fun j => if j = k then g else S j
def sF (S : SM) (j : Nat) (v : Int32) : SM := sU S 18 (upd (S 18) j v)
def st_W (K : gK) (a : Nat → Nat) (S : SM) : va_W :=
  [(a 0, .inr (6, [.ref (a 1), .ref (a 2), .ref (a 3), .ref (a 12), .ref (a 18), .int (S 18 0), .int (S 18 1)])),
   (a 1, .inl (K.2 0, 3, .inl (S 0))), (a 2, .inl (K.2 0, 9, .inl (S 1))),
   (a 3, .inr (2, [.ref (a 4), .ref (a 5), .ref (a 6), .ref (a 7), .ref (a 8), .ref (a 9), .ref (a 10), .ref (a 11), .int (S 18 2)])),
   (a 4, .inl (K.2 0, 10, .inl (S 2))), (a 5, .inl (K.2 0, 10, .inl (S 3))), (a 6, .inl (K.2 0, 10, .inl (S 4))), (a 7, .inl (K.2 0, 10, .inl (S 5))), (a 8, .inl (K.2 0, 10, .inl (S 6))), (a 9, .inl (K.2 0, 10, .inl (S 7))), (a 10, .inl (K.2 0, 60, .inl (S 8))), (a 11, .inl (K.2 0, 60, .inl (S 9))),
   (a 12, .inr (8, [.ref (a 13), .ref (a 14), .ref (a 15), .ref (a 16), .ref (a 17), .int (S 18 3), .int (S 18 4)])),
   (a 13, .inl (K.2 0, 3, .inl (S 10))), (a 14, .inl (K.2 0, 3, .inl (S 11))), (a 15, .inl (K.2 0, 3, .inl (S 12))), (a 16, .inl (K.2 0, 3, .inl (S 13))), (a 17, .inl (K.2 0, 3, .inl (S 14))),
   (a 18, .inr (1, [.ref (a 19), .ref (a 20), .ref (a 21), .int (S 18 5), .int (S 18 6)])),
   (a 19, .inl (K.2 0, 40, .inl (S 15))), (a 20, .inl (K.2 0, 40, .inl (S 16))), (a 21, .inl (K.2 0, 40, .inl (S 17)))]
def at_ (n : Nat) (g : Nat → Int32) (i : Int32) : Int32 := if i < 0 then 0 else if i < Int32.ofNat n then g i.toNatClampNeg else 0
def put_ (n : Nat) (g : Nat → Int32) (i v : Int32) : Nat → Int32 := if i < 0 then g else if i < Int32.ofNat n then upd g i.toNatClampNeg v else g
def raise_ (n : Nat) (g : Nat → Int32) (i : Int32) : Nat → Int32 := if i < 0 then g else if i < Int32.ofNat n then upd g i.toNatClampNeg (g i.toNatClampNeg + 1) else g
def takeOut_ (n : Nat) (g : Nat → Int32) (i ah : Int32) : Nat → Int32 := if i < 0 then g else if i < ah then (if Int32.ofNat n < ah then g else va_cpy g g (i + 1).toNatClampNeg i.toNatClampNeg (ah - i - 1).toNatClampNeg) else g
theorem nw_0 : Cond.methodLinkNest RX9 9 yX6_init RX9 ∈ nestW := List.mem_of_getElem? (i := 0) rfl
theorem nw_1 : Cond.methodLinkNest RX6 20 yX2_init RX9 ∈ nestW := List.mem_of_getElem? (i := 1) rfl
theorem nw_2 : Cond.methodLinkNest RX6 27 yX8_init RX9 ∈ nestW := List.mem_of_getElem? (i := 2) rfl
theorem nw_3 : Cond.methodLinkNest RX6 34 yX1_init RX9 ∈ nestW := List.mem_of_getElem? (i := 3) rfl
theorem nw_4 : Cond.methodLinkNest RX0 17 yX6_init RX9 ∈ nestW := List.mem_of_getElem? (i := 4) rfl
theorem nw_5 : Cond.methodLinkNest RX5 21 yX6_init RX9 ∈ nestW := List.mem_of_getElem? (i := 5) rfl
theorem nw_6 : Cond.methodLinkNest RX9 32 yX4_init RX9 ∈ nestW := List.mem_of_getElem? (i := 6) rfl
theorem nw_7 : Cond.methodLinkNest RX4 11 yX3_init RX9 ∈ nestW := List.mem_of_getElem? (i := 7) rfl
theorem nw_8 : Cond.methodLinkNest RX4 20 yX6_init RX9 ∈ nestW := List.mem_of_getElem? (i := 8) rfl
theorem nw_9 : Cond.methodLinkNest RX6 60 yX9_put RX9 ∈ nestW := List.mem_of_getElem? (i := 9) rfl
theorem nw_10 : Cond.methodLinkNest RX2 44 yX9_put RX9 ∈ nestW := List.mem_of_getElem? (i := 10) rfl
theorem nw_11 : Cond.methodLinkNest RX8 38 yX9_put RX9 ∈ nestW := List.mem_of_getElem? (i := 11) rfl
theorem nw_12 : Cond.methodLinkNest RX4 56 yX9_mostOfRule RX9 ∈ nestW := List.mem_of_getElem? (i := 12) rfl
theorem nw_13 : Cond.methodLinkNest RX4 125 yX9_isWithin RX9 ∈ nestW := List.mem_of_getElem? (i := 13) rfl
theorem nw_14 : Cond.methodLinkNest RX4 70 yX9_put RX9 ∈ nestW := List.mem_of_getElem? (i := 14) rfl
theorem nw_15 : Cond.methodLinkNest RX2 48 yX9_at RX9 ∈ nestW := List.mem_of_getElem? (i := 15) rfl
theorem nw_16 : Cond.methodLinkNest RX4 96 yX9_at RX9 ∈ nestW := List.mem_of_getElem? (i := 16) rfl
theorem nw_17 : Cond.methodLinkNest RX4 106 yX9_raise RX9 ∈ nestW := List.mem_of_getElem? (i := 17) rfl
theorem nw_18 : Cond.methodLinkNest RX6 39 yX9_copyRow RX9 ∈ nestW := List.mem_of_getElem? (i := 18) rfl
theorem nw_19 : Cond.methodLinkNest RX2 36 yX9_copyRow RX9 ∈ nestW := List.mem_of_getElem? (i := 19) rfl
theorem nw_20 : Cond.methodLinkNest RX8 27 yX9_copyRow RX9 ∈ nestW := List.mem_of_getElem? (i := 20) rfl
theorem nw_21 : Cond.methodLinkNest RX1 21 yX9_copyRow RX9 ∈ nestW := List.mem_of_getElem? (i := 21) rfl
theorem nw_22 : Cond.methodLinkNest RX8 49 yX9_at RX9 ∈ nestW := List.mem_of_getElem? (i := 22) rfl
theorem nw_23 : Cond.methodLinkNest RX6 96 yX9_at RX9 ∈ nestW := List.mem_of_getElem? (i := 23) rfl
theorem nw_24 : Cond.methodLinkNest RX6 103 yX9_raise RX9 ∈ nestW := List.mem_of_getElem? (i := 24) rfl
theorem nw_25 : Cond.methodLinkNest RX1 32 yX9_put RX9 ∈ nestW := List.mem_of_getElem? (i := 25) rfl
theorem nw_26 : Cond.methodLinkNest RX2 56 yX9_takeOut RX9 ∈ nestW := List.mem_of_getElem? (i := 26) rfl
theorem nw_27 : Cond.methodLinkNest RX8 46 yX9_takeOut RX9 ∈ nestW := List.mem_of_getElem? (i := 27) rfl
theorem kd_X9_at : Card yX9_at cX9_at 2 (some .int) 2 := ⟨uc_X9_at, un_X9, ⟨by decide, by decide, by decide⟩, by decide⟩
theorem kd_X9_put : Card yX9_put cX9_put 3 none 3 := ⟨uc_X9_put, un_X9, ⟨by decide, by decide, by decide⟩, by decide⟩
theorem kd_X9_raise : Card yX9_raise cX9_raise 2 none 2 := ⟨uc_X9_raise, un_X9, ⟨by decide, by decide, by decide⟩, by decide⟩
theorem kd_X9_takeOut : Card yX9_takeOut cX9_takeOut 3 none 3 := ⟨uc_X9_takeOut, un_X9, ⟨by decide, by decide, by decide⟩, by decide⟩
theorem kd_X9_copyRow : Card yX9_copyRow cX9_copyRow 2 none 2 := ⟨uc_X9_copyRow, un_X9, ⟨by decide, by decide, by decide⟩, by decide⟩
theorem c_at (l : Launch) (K : gK) {ws : va_W} {q0 n ad : Nat} {g : Nat → Int32} (hn : n < 2147483648) (hq : ws[q0]? = some (ad, .inl (K.2 0, n, .inl g))) (x1 : Int32) : Ct l K yX9_at cX9_at 2 (some .int) 0 [.ref ad, .int x1] ws (some (.int (at_ n g x1)), ws) := by
  refine Ct.of (own := RX9) (fun z => (some (.int z), ws)) (x := at_ n g x1) (by decide) rfl (Nat.le_of_ble_eq_true rfl) (fun Γ C => ?_)
  unfold at_
  refine G_iload_n C 1 dX9_at_0 rfl ?_
  refine G_if_lt C 16 dX9_at_1 rfl (fun h1 => ?_) (fun h1 => ?_)
  · refine G_iconst C dX9_at_16 (v := 0) rfl ?_
    exact G_iret C dX9_at_17 rfl
  · refine G_iload_n C 1 dX9_at_4 rfl ?_
    refine G_aload_n C 0 dX9_at_5 rfl ?_
    refine G_alen C q0 0 dX9_at_6 hq rfl (v := Int32.ofNat n) rfl ?_
    refine G_icmp_ge C 16 dX9_at_7 rfl (fun h2 => ?_) (fun h2 => ?_)
    · refine G_aload_n C 0 dX9_at_10 rfl ?_
      refine G_iload_n C 1 dX9_at_11 rfl ?_
      refine G_iald C q0 dX9_at_12 hq (g_in_of hn h1 h2) ?_
      refine G_goto C 17 dX9_at_13 rfl ?_
      exact G_iret C dX9_at_17 rfl
    · refine G_iconst C dX9_at_16 (v := 0) rfl ?_
      exact G_iret C dX9_at_17 rfl
theorem c_put (l : Launch) (K : gK) {ws : va_W} {q0 n ad : Nat} {g : Nat → Int32} (hn : n < 2147483648) (hq : ws[q0]? = some (ad, .inl (K.2 0, n, .inl g))) (x1 x2 : Int32) : Ct l K yX9_put cX9_put 3 none 0 [.ref ad, .int x1, .int x2] ws (none, ws.set q0 (ad, .inl (K.2 0, n, .inl (put_ n g x1 x2)))) := by
  refine Ct.of (own := RX9) (fun z => (none, ws.set q0 (ad, .inl (K.2 0, n, .inl z)))) (x := put_ n g x1 x2) (by decide) rfl (Nat.le_of_ble_eq_true rfl) (fun Γ C => ?_)
  unfold put_
  refine G_iload_n C 1 dX9_put_0 rfl ?_
  refine G_if_lt C 14 dX9_put_1 rfl (fun h1 => ?_) (fun h1 => ?_)
  · exact G_vret C dX9_put_14 (by rw [g_same hq])
  · refine G_iload_n C 1 dX9_put_4 rfl ?_
    refine G_aload_n C 0 dX9_put_5 rfl ?_
    refine G_alen C q0 0 dX9_put_6 hq rfl (v := Int32.ofNat n) rfl ?_
    refine G_icmp_ge C 14 dX9_put_7 rfl (fun h2 => ?_) (fun h2 => ?_)
    · refine G_aload_n C 0 dX9_put_10 rfl ?_
      refine G_iload_n C 1 dX9_put_11 rfl ?_
      refine G_iload_n C 2 dX9_put_12 rfl ?_
      refine G_iast C q0 dX9_put_13 hq (g_in_of hn h1 h2) rfl ?_
      exact G_vret C dX9_put_14 rfl
    · exact G_vret C dX9_put_14 (by rw [g_same hq])
theorem c_raise (l : Launch) (K : gK) {ws : va_W} {q0 n ad : Nat} {g : Nat → Int32} (hn : n < 2147483648) (hq : ws[q0]? = some (ad, .inl (K.2 0, n, .inl g))) (x1 : Int32) : Ct l K yX9_raise cX9_raise 2 none 0 [.ref ad, .int x1] ws (none, ws.set q0 (ad, .inl (K.2 0, n, .inl (raise_ n g x1)))) := by
  refine Ct.of (own := RX9) (fun z => (none, ws.set q0 (ad, .inl (K.2 0, n, .inl z)))) (x := raise_ n g x1) (by decide) rfl (Nat.le_of_ble_eq_true rfl) (fun Γ C => ?_)
  unfold raise_
  refine G_iload_n C 1 dX9_raise_0 rfl ?_
  refine G_if_lt C 17 dX9_raise_1 rfl (fun h1 => ?_) (fun h1 => ?_)
  · exact G_vret C dX9_raise_17 (by rw [g_same hq])
  · refine G_iload_n C 1 dX9_raise_4 rfl ?_
    refine G_aload_n C 0 dX9_raise_5 rfl ?_
    refine G_alen C q0 0 dX9_raise_6 hq rfl (v := Int32.ofNat n) rfl ?_
    refine G_icmp_ge C 17 dX9_raise_7 rfl (fun h2 => ?_) (fun h2 => ?_)
    · refine G_aload_n C 0 dX9_raise_10 rfl ?_
      refine G_iload_n C 1 dX9_raise_11 rfl ?_
      refine G_dup2 C dX9_raise_12 rfl rfl ?_
      refine G_iald C q0 dX9_raise_13 hq (g_in_of hn h1 h2) ?_
      refine G_iconst C dX9_raise_14 (v := 1) rfl ?_
      refine G_iadd C dX9_raise_15 ?_
      refine G_iast C q0 dX9_raise_16 hq (g_in_of hn h1 h2) rfl ?_
      exact G_vret C dX9_raise_17 rfl
    · exact G_vret C dX9_raise_17 (by rw [g_same hq])
theorem toNat_of {i : Int32} (h0 : ¬ i < 0) : (i.toNatClampNeg : Int) = i.toInt := by
  have h3 : ¬ i.toInt < 0 := fun q => h0 (Int32.lt_iff_toInt_lt.mpr q)
  have h4 : i.toNatClampNeg = i.toInt.toNat := rfl
  omega
theorem ge0_of {i : Int32} (h0 : ¬ i < 0) : 0 ≤ i.toInt := by
  have h3 : ¬ i.toInt < 0 := fun q => h0 (Int32.lt_iff_toInt_lt.mpr q)
  omega
theorem not_lt0 {i : Int32} (h0 : 0 ≤ i.toInt) : ¬ i < 0 := fun q => by
  have h3 : i.toInt < 0 := Int32.lt_iff_toInt_lt.mp q
  omega
theorem toInt_sub_of {a b : Int32} (h1 : -2147483648 ≤ a.toInt - b.toInt) (h2 : a.toInt - b.toInt < 2147483648) : (a - b).toInt = a.toInt - b.toInt := by
  rw [Int32.toInt_sub, Int.bmod_eq_of_le (by omega) (by omega)]
theorem toInt_add_of {a b : Int32} (h1 : -2147483648 ≤ a.toInt + b.toInt) (h2 : a.toInt + b.toInt < 2147483648) : (a + b).toInt = a.toInt + b.toInt := by
  rw [Int32.toInt_add, Int.bmod_eq_of_le (by omega) (by omega)]
theorem c_takeOut (l : Launch) (K : gK) {ws : va_W} {q0 n ad : Nat} {g : Nat → Int32} (hn : n < 2147483648) (hq : ws[q0]? = some (ad, .inl (K.2 0, n, .inl g))) (x1 x2 : Int32) : Ct l K yX9_takeOut cX9_takeOut 3 none 1 [.ref ad, .int x1, .int x2] ws (none, ws.set q0 (ad, .inl (K.2 0, n, .inl (takeOut_ n g x1 x2)))) := by
  refine Ct.of (own := RX9) (fun z => (none, ws.set q0 (ad, .inl (K.2 0, n, .inl z)))) (x := takeOut_ n g x1 x2) (by decide) rfl (Nat.le_of_ble_eq_true rfl) (fun Γ C => ?_)
  unfold takeOut_
  refine G_iload_n C 1 dX9_takeOut_0 rfl ?_
  refine G_if_lt C 15 dX9_takeOut_1 rfl (fun h1 => ?_) (fun h1 => ?_)
  · exact G_vret C dX9_takeOut_15 (by rw [g_same hq])
  · refine G_iload_n C 1 dX9_takeOut_4 rfl ?_
    refine G_iload_n C 2 dX9_takeOut_5 rfl ?_
    refine G_icmp_ge C 15 dX9_takeOut_6 rfl (fun h2 => ?_) (fun h2 => ?_)
    · refine G_iload_n C 2 dX9_takeOut_9 rfl ?_
      refine G_aload_n C 0 dX9_takeOut_10 rfl ?_
      refine G_alen C q0 0 dX9_takeOut_11 hq rfl (v := Int32.ofNat n) rfl ?_
      refine G_icmp_le C 16 dX9_takeOut_12 rfl (fun h3 => ?_) (fun h3 => ?_)
      · exact G_vret C dX9_takeOut_15 (by rw [g_same hq])
      · refine G_aload_n C 0 dX9_takeOut_16 rfl ?_
        refine G_iload_n C 1 dX9_takeOut_17 rfl ?_
        refine G_iconst C dX9_takeOut_18 (v := 1) rfl ?_
        refine G_iadd C dX9_takeOut_19 ?_
        refine G_aload_n C 0 dX9_takeOut_20 rfl ?_
        refine G_iload_n C 1 dX9_takeOut_21 rfl ?_
        refine G_iload_n C 2 dX9_takeOut_22 rfl ?_
        refine G_iload_n C 1 dX9_takeOut_23 rfl ?_
        refine G_isub C dX9_takeOut_24 ?_
        refine G_iconst C dX9_takeOut_25 (v := 1) rfl ?_
        refine G_isub C dX9_takeOut_26 ?_
        have e0 := ge0_of h1
        have e1 := Int32.lt_iff_toInt_lt.mp h2
        have e2 : ¬ (Int32.ofNat n).toInt < x2.toInt := fun q => h3 (Int32.lt_iff_toInt_lt.mpr q)
        rw [Int32.toInt_ofNat_of_lt (by omega)] at e2
        have e3 := toInt_lt x2
        have f1 : (x1 + 1).toInt = x1.toInt + 1 := toInt_add1 (by omega)
        have f2 : (x2 - x1).toInt = x2.toInt - x1.toInt := toInt_sub_of (by omega) (by omega)
        have f3 : (x2 - x1 - 1).toInt = x2.toInt - x1.toInt - 1 := by
          rw [toInt_sub_of (by rw [f2]; show -2147483648 ≤ x2.toInt - x1.toInt - 1; omega) (by rw [f2]; show x2.toInt - x1.toInt - 1 < 2147483648; omega), f2]
          rfl
        have g1 := toNat_of (not_lt0 (i := x1 + 1) (by omega))
        have g2 := toNat_of h1
        have g3 := toNat_of (not_lt0 (i := x2 - x1 - 1) (by omega))
        refine G_copyi C q0 q0 dX9_takeOut_27 um_X9_296 (Nat.le_refl _) hq hq (not_lt0 (by omega)) h1 (not_lt0 (by omega)) (by omega) (by omega) rfl ?_
        exact G_vret C dX9_takeOut_30 rfl
    · exact G_vret C dX9_takeOut_15 (by rw [g_same hq])
theorem vp_cell_congr {cA : ClassId} {n : Nat} {f g : Nat → Int32} (h : ∀ j, j < n → f j = g j) : vp_cell cA (n, .inl f) = vp_cell cA (n, .inl g) := by
  rw [vp_cell_i, vp_cell_i]
  unfold arrV
  congr 1
  apply Array.ext
  · simp
  · intro i h1 h2
    simp only [Array.size_ofFn] at h1
    simp [h i h1]
theorem va_P_cell {K : gK} {ws : va_W} {q ad n : Nat} {cA : ClassId} {f g : Nat → Int32} {H : Heap} (h : ∀ j, j < n → f j = g j) (hP : va_P K.1 classes (ws.set q (ad, .inl (cA, n, .inl f))) H) : va_P K.1 classes (ws.set q (ad, .inl (cA, n, .inl g))) H := by
  intro k x hk
  by_cases hq : k = q
  · subst hq
    have hl : k < ws.length := by
      have := (List.getElem?_eq_some_iff.mp hk).1
      simpa using this
    rw [List.getElem?_set_self hl] at hk
    cases hk
    have h1 := hP k _ (List.getElem?_set_self hl)
    show H[ad]? = some (vp_cell _ _)
    rw [← vp_cell_congr h]
    exact h1
  · rw [List.getElem?_set_ne (Ne.symm hq)] at hk
    exact hP k x (by rw [List.getElem?_set_ne (Ne.symm hq)]; exact hk)
theorem va_D_cell {ws : va_W} {q ad n : Nat} {cA : ClassId} {f g : Nat → Int32} {A : Nat → Prop} (hD : va_D A (ws.set q (ad, .inl (cA, n, .inl f)))) : va_D A (ws.set q (ad, .inl (cA, n, .inl g))) := by
  by_cases hl : q < ws.length
  · have h1 := hD.set (p := q) (e := .inl (cA, n, .inl g)) (List.getElem?_set_self hl)
    rw [List.set_set] at h1
    exact h1
  · rw [List.set_eq_of_length_le (by omega)] at hD ⊢
    exact hD
theorem c_copyRow (l : Launch) (K : gK) {ws : va_W} {q0 q1 n a0 a1 : Nat} {f g : Nat → Int32} (hn : n < 2147483648) (h0 : ws[q0]? = some (a0, .inl (K.2 0, n, .inl f))) (h1 : ws[q1]? = some (a1, .inl (K.2 0, n, .inl g))) : Ct l K yX9_copyRow cX9_copyRow 2 none 1 [.ref a0, .ref a1] ws (none, ws.set q1 (a1, .inl (K.2 0, n, .inl f))) := by
  refine Ct.of (own := RX9) (fun z => (none, ws.set q1 (a1, .inl (K.2 0, n, .inl z)))) (x := f) (by decide) rfl (Nat.le_of_ble_eq_true rfl) (fun Γ C => ?_)
  have e1 : (Int32.ofNat n).toInt = (n : Int) := Int32.toInt_ofNat_of_lt (by omega)
  have e2 := toNat_of (not_lt0 (i := Int32.ofNat n) (by omega))
  refine G_aload_n C 0 dX9_copyRow_0 rfl ?_
  refine G_iconst C dX9_copyRow_1 (v := 0) rfl ?_
  refine G_aload_n C 1 dX9_copyRow_2 rfl ?_
  refine G_iconst C dX9_copyRow_3 (v := 0) rfl ?_
  refine G_aload_n C 0 dX9_copyRow_4 rfl ?_
  refine G_alen C q0 0 dX9_copyRow_5 h0 rfl (v := Int32.ofNat n) rfl ?_
  refine G_aload_n C 1 dX9_copyRow_6 rfl ?_
  refine G_alen C q1 0 dX9_copyRow_7 h1 rfl (v := Int32.ofNat n) rfl ?_
  refine G_min C dX9_copyRow_8 um_X9_291 (Nat.le_refl _) (Nat.le_of_ble_eq_true rfl) ?_
  rw [show (if Int32.ofNat n < Int32.ofNat n then Int32.ofNat n else Int32.ofNat n) = Int32.ofNat n by split <;> rfl]
  refine G_copyi C q0 q1 dX9_copyRow_11 um_X9_296 (Nat.le_refl _) h0 h1 (by decide) (by decide) (not_lt0 (by omega)) (by show 0 + _ ≤ n; omega) (by show 0 + _ ≤ n; omega) rfl ?_
  refine G_conv (ws' := ws.set q1 (a1, .inl (K.2 0, n, .inl f))) (fun H hP => va_P_cell (fun j hj => ?_) hP) (fun A hD => va_D_cell hD) ?_
  · unfold va_cpy
    rw [if_pos ⟨Nat.zero_le _, by show j < 0 + _; omega⟩]
    show f (0 + (j - 0)) = f j
    rw [Nat.sub_zero, Nat.zero_add]
  · exact G_vret C dX9_copyRow_14 rfl
theorem mu_upc {i b : Int32} (h : ¬ b < i) (hb : b.toInt < 2147483647) : mu (i + 1) < mu i := by
  have h1 : ¬ b.toInt < i.toInt := fun q => h (Int32.lt_iff_toInt_lt.mpr q)
  have h3 := toInt_ge i
  unfold mu
  rw [toInt_add1 (by omega)]
  omega
