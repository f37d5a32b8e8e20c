-- PART 07: History, Slots, RingOffices (by gen/mkro.py)
section GR4
variable {α : Type} {l : Launch} {K : gK} {Γ : gT} {own : String} {cc : ByteArray} {nL : Nat} {ret : Option FieldType} {h : Nat} {ws : va_W} {pc : Nat} {lv : List (Nat × Value)} {st : List Value} {κ : α → gR} {x : α}
theorem g_ldcStringW {p : Program} {l : Launch} {e : Env} {R : Room} {s : State} {m : MethodId} {args : Array Value} {below : List Frame} {meth : Method} {c : Code} {T : State} {locs : List Loc} {cells slots : Nat}
    (X : Stand p l e R s m args below meth c T locs cells slots) (hexec : p.tables.exec = Jvm.exec) {own text : String} {index : Nat} {a : Addr} (hown : s.vm.findClass own = some m.cls)
    (hconst : (Cond.stringRef own index text).before args s = true) (hev : (Term.string own index).eval args s none [] s = some (.ref a)) {g : JFrame} (hg : g.method = m) (hdg : decode c.code g.pc = .ok (.ldc_w index, 3)) :
    ∀ target, Steps p.tables e below (T.setTop { g with pc := g.pc + 3, stack := .ref a :: g.stack }) target → Steps p.tables e below (T.setTop g) target := by
  obtain ⟨k, cf, i, a', hk, hcf, hcp, -, hr, hev'⟩ := Cond.stringRef_spec hown hconst
  cases hev.symm.trans hev'
  obtain ⟨k', hk', he⟩ := X.warmed.alike.2.2 _ _ hk
  have hr' : k'.resolved[index]? = some (some (.string a)) := by
    rcases X.warmed.entry hk hk' index with h | ⟨h, -⟩
    · rw [h]; exact hr
    · rw [hr] at h; cases h
  intro target hrest
  subst hg
  jvm_step X.here [hexec, hdg, ldc_w.wp_string (e := e) (s := T) (f := g) X.here.top hk' (by rw [he]; exact hcf) hcp hr']
  exact hrest
theorem G_ldcwS (C : Cx l K Γ own cc nL ret h) (j : Nat) {index : Nat} {tx : String} (hdg : decode cc pc = .ok (.ldc_w index, 3)) (hj : strT[j]? = some (own, index, tx)) (k : G l K Γ ws (pc + 3) nL lv (.ref (K.2 (100 + j)) :: st) κ x) : G l K Γ ws pc nL lv st κ x := by
  obtain ⟨p, e, R, s, m, args, below, meth, c, A⟩ := Γ
  obtain ⟨hx, hb, hml, hown, hts, hr, hlk, hK, hA, hf1, hf2⟩ := C
  intro H locs ls hP hD hS hl
  have hZ := hK.2.2.1 j _ hj
  intro T hT X
  obtain ⟨t, a1, b1⟩ := k H locs ls hP hD hS hl T hT X
  exact ⟨t, g_ldcStringW X hx hown (text := tx) (a := K.2 (100 + j)) hZ.1 hZ.2 (g := F0 m pc ls st) rfl (by rw [hb]; exact hdg) t a1, b1⟩
theorem G_aald (C : Cx l K Γ own cc nL ret h) (q0 t0 : Nat) {a n : Nat} {cA : ClassId} {C0 : String} {f : Nat → Option Nat} {i : Int32} {v : Value} (hdg : decode cc pc = .ok (.aaload, 1)) (ha : ws[q0]? = some (a, .inl (cA, n, .inr (.inr (.inr (.inr f)))))) (ht : (tys K)[t0]? = some (cA, .object C0)) (hin : vp_in i n) (hv : va_rf (f i.toNatClampNeg) = v) (k : G l K Γ ws (pc + 1) nL lv (v :: st) κ x) : G l K Γ ws pc nL lv (.int i :: .ref a :: st) κ x := by
  obtain ⟨p, e, R, s, m, args, below, meth, c, A⟩ := Γ
  obtain ⟨hx, hb, hml, hown, hts, hr, hlk, hK, hA, hf1, hf2⟩ := C
  subst hv
  intro H locs ls hP hD hS hl
  exact va_aldq hx hb hK.1.1 hP q0 t0 ha ht hin hdg (k H locs ls hP hD hS hl)
theorem G_ifnull (C : Cx l K Γ own cc nL ret h) {a : Nat} {off : Int} (hdg : decode cc pc = .ok (.ifnull off, 3)) (k : G l K Γ ws (pc + 3) nL lv st κ x) : G l K Γ ws pc nL lv (.ref a :: st) κ x := by
  obtain ⟨p, e, R, s, m, args, below, meth, c, A⟩ := Γ
  obtain ⟨hx, hb, hml, hown, hts, hr, hlk, hK, hA, hf1, hf2⟩ := C
  intro H locs ls hP hD hS hl
  exact lv_ifnull hx hb hdg (k H locs ls hP hD hS hl)
theorem G_ifnonnull (C : Cx l K Γ own cc nL ret h) {a : Nat} {off : Int} (tgt : Nat) (hdg : decode cc pc = .ok (.ifnonnull off, 3)) (ht : (pc : Int) + off = (tgt : Int)) (k : G l K Γ ws tgt nL lv st κ x) : G l K Γ ws pc nL lv (.ref a :: st) κ x := by
  obtain ⟨p, e, R, s, m, args, below, meth, c, A⟩ := Γ
  obtain ⟨hx, hb, hml, hown, hts, hr, hlk, hK, hA, hf1, hf2⟩ := C
  intro H locs ls hP hD hS hl
  exact lv_ifnonnull hx hb hdg ht (k H locs ls hP hD hS hl)
theorem G_ifnonnullN (C : Cx l K Γ own cc nL ret h) {off : Int} (hdg : decode cc pc = .ok (.ifnonnull off, 3)) (k : G l K Γ ws (pc + 3) nL lv st κ x) : G l K Γ ws pc nL lv (.null :: st) κ x := by
  obtain ⟨p, e, R, s, m, args, below, meth, c, A⟩ := Γ
  obtain ⟨hx, hb, hml, hown, hts, hr, hlk, hK, hA, hf1, hf2⟩ := C
  intro H locs ls hP hD hS hl
  exact lv_ifnonnullN hx hb hdg (k H locs ls hP hD hS hl)
end GR4
theorem g_lt_of {i : Int32} {n : Nat} (hn : n < 2147483648) (h0 : ¬ i < 0) (h1 : i < Int32.ofNat n) : i.toNatClampNeg < n := Nat.not_le.mp fun q => g_in_of hn h0 h1 (Or.inr q)
/-- what the parser leaves -/
def yP (Y : RS) (q : PS) : RS := yU (yU Y 1 q.2.2) 4 (sU (sU (Y 4) 1 q.1) 0 (upd (Y 4 0) 1 q.2.1))
theorem c_scratch (l : Launch) (K : gK) (A : Nat → Nat → Nat) (Y : RS) : Ct l K yX6_copyFrom cX6_copyFrom 2 none 3 [.ref (A 1 0), .ref (A 0 0)] (ro_W K A Y) (none, ro_W K A (yU Y 1 (Y 0))) :=
  Ct.chunk2 (cs := ro_C K A Y) (cs' := ro_C K A (yU Y 1 (Y 0))) 3 1 (by decide) rfl rfl rfl (c_copyState l K (A 1) (A 0) (Y 1) (Y 0))
theorem c_fromDraft (l : Launch) (K : gK) (A : Nat → Nat → Nat) (Y : RS) : Ct l K yX6_copyFrom cX6_copyFrom 2 none 3 [.ref (A 0 0), .ref (A 1 0)] (ro_W K A Y) (none, ro_W K A (yU Y 0 (Y 1))) :=
  Ct.chunk2 (cs := ro_C K A Y) (cs' := ro_C K A (yU Y 0 (Y 1))) 1 3 (by decide) rfl rfl rfl (c_copyState l K (A 0) (A 1) (Y 0) (Y 1))
theorem c_keepX (l : Launch) (K : gK) (A : Nat → Nat → Nat) (Y : RS) {n : Nat} (hn : n < 10) : Ct l K yX6_copyFrom cX6_copyFrom 2 none 3 [.ref (A (5 + n) 0), .ref (A 0 0)] (ro_W K A Y) (none, ro_W K A (yU Y (5 + n) (Y 0))) := by
  refine Ct.chunk2 (cs := ro_C K A Y) (cs' := ro_C K A (yU Y (5 + n) (Y 0))) (7 + n) 1 (by omega) (ro_state K A Y hn) rfl ?_ (c_copyState l K (A (5 + n)) (A 0) (Y (5 + n)) (Y 0))
  rw [ro_stateU K A Y hn]
  refine g_same ?_
  show some (st_W K (A 0) (yU Y (5 + n) (Y 0) 0)) = _
  unfold yU
  rw [if_neg (by omega)]
theorem c_backX (l : Launch) (K : gK) (A : Nat → Nat → Nat) (Y : RS) {n : Nat} (hn : n < 10) : Ct l K yX6_copyFrom cX6_copyFrom 2 none 3 [.ref (A 0 0), .ref (A (5 + n) 0)] (ro_W K A Y) (none, ro_W K A (yU Y 0 (Y (5 + n)))) := by
  refine Ct.chunk2 (cs := ro_C K A Y) (cs' := ro_C K A (yU Y 0 (Y (5 + n)))) 1 (7 + n) (by omega) rfl (ro_state K A Y hn) ?_ (c_copyState l K (A 0) (A (5 + n)) (Y 0) (Y (5 + n)))
  show List.set (ro_C K A (yU Y 0 (Y (5 + n)))) (7 + n) _ = _
  refine g_same ?_
  rw [ro_state K A _ hn]
  unfold yU
  rw [if_neg (by omega)]
theorem c_keepH (l : Launch) (K : gK) (A : Nat → Nat → Nat) (Y : RS) {n : Nat} (hn : n < 8) : Ct l K yX6_copyFrom cX6_copyFrom 2 none 3 [.ref (A (5 + n) 0), .ref (A 0 0)] (ro_W K A Y) (none, ro_W K A (yU Y (5 + n) (Y 0))) := c_keepX l K A Y (by omega)
theorem c_backH (l : Launch) (K : gK) (A : Nat → Nat → Nat) (Y : RS) {n : Nat} (hn : n < 8) : Ct l K yX6_copyFrom cX6_copyFrom 2 none 3 [.ref (A 0 0), .ref (A (5 + n) 0)] (ro_W K A Y) (none, ro_W K A (yU Y 0 (Y (5 + n)))) := c_backX l K A Y (by omega)
theorem c_keepS (l : Launch) (K : gK) (A : Nat → Nat → Nat) (Y : RS) {n : Nat} (hn : n < 2) : Ct l K yX6_copyFrom cX6_copyFrom 2 none 3 [.ref (A (13 + n) 0), .ref (A 0 0)] (ro_W K A Y) (none, ro_W K A (yU Y (13 + n) (Y 0))) := by
  have h := c_keepX l K A Y (n := 8 + n) (by omega)
  rw [show 5 + (8 + n) = 13 + n by omega] at h
  exact h
theorem c_backS (l : Launch) (K : gK) (A : Nat → Nat → Nat) (Y : RS) {n : Nat} (hn : n < 2) : Ct l K yX6_copyFrom cX6_copyFrom 2 none 3 [.ref (A 0 0), .ref (A (13 + n) 0)] (ro_W K A Y) (none, ro_W K A (yU Y 0 (Y (13 + n)))) := by
  have h := c_backX l K A Y (n := 8 + n) (by omega)
  rw [show 5 + (8 + n) = 13 + n by omega] at h
  exact h
theorem ro_recv (K : gK) (A : Nat → Nat → Nat) (Y : RS) {n : Nat} (hn : n < 10) : ∃ (q : Nat) (fs : List Value), (ro_W K A Y)[q]? = some (A (5 + n) 0, .inr (6, fs)) := by
  have h := ro_state K A Y hn
  obtain ⟨q, hq⟩ := List.getElem?_of_mem (show (A (5 + n) 0, _) ∈ ro_W K A Y from List.mem_flatten.mpr ⟨_, List.mem_of_getElem? h, List.mem_cons_self⟩)
  exact ⟨q, _, hq⟩


theorem kd_X0_forget : Card yX0_forget cX0_forget 1 none 0 := ⟨uc_X0_forget, un_X0, ⟨by decide, by decide, by decide⟩, by decide⟩
def s_X0_forget (Y : RS) : RS := yF Y 3 0
theorem c_X0_forget (l : Launch) (K : gK) (A : Nat → Nat → Nat) (Y : RS) : Ct l K yX0_forget cX0_forget 1 none 0 [.ref (A 4 1)] (ro_W K A Y) (none, ro_W K A (s_X0_forget Y)) := by
  refine Ct.of (own := RX0) (fun z => (none, ro_W K A z)) (x := s_X0_forget Y) (by decide) rfl (Nat.le_of_ble_eq_true rfl) (fun Γ C => ?_)
  unfold s_X0_forget
  refine G_aload_n C 0 dX0_forget_0 rfl ?_
  refine G_iconst C dX0_forget_1 (v := 0) rfl ?_
  refine G_put (ws' := ro_W K A (yF Y 3 0)) C 51 2 tyX0 .int dX0_forget_2 inlX0 uf_X0_18 tyX0_ok nmX0 rfl (by decide) rfl rfl rfl rfl rfl rfl (Nat.le_of_ble_eq_true rfl) rfl ?_
  exact G_vret C dX0_forget_5 rfl
theorem kd_X0_copyTo : Card yX0_copyTo cX0_copyTo 3 none 1 := ⟨uc_X0_copyTo, un_X0, ⟨by decide, by decide, by decide⟩, by decide⟩
def s_X0_copyTo (Y : RS) : RS := if (Y 4 0 2) < 0 then Y else if (Y 4 0 2) < 8 then yU Y (5 + Int32.toNatClampNeg (Y 4 0 2)) (Y 0) else Y
theorem c_X0_copyTo (l : Launch) (K : gK) (A : Nat → Nat → Nat) (Y : RS) : Ct l K yX0_copyTo cX0_copyTo 3 none 4 [.ref (A 4 1), .ref (A 0 0)] (ro_W K A Y) (none, ro_W K A (s_X0_copyTo Y)) := by
  refine Ct.of (own := RX0) (fun z => (none, ro_W K A z)) (x := s_X0_copyTo Y) (by decide) rfl (Nat.le_of_ble_eq_true rfl) (fun Γ C => ?_)
  unfold s_X0_copyTo
  refine G_aload_n C 0 dX0_copyTo_0 rfl ?_
  refine G_get C 51 1 dX0_copyTo_1 inlX0 uf_X0_26 rfl (by decide) rfl rfl rfl ?_
  refine G_if_lt C 16 dX0_copyTo_4 rfl (fun h1 => ?_) (fun h1 => ?_)
  · exact G_vret C dX0_copyTo_16 rfl
  · refine G_aload_n C 0 dX0_copyTo_7 rfl ?_
    refine G_get C 51 1 dX0_copyTo_8 inlX0 uf_X0_26 rfl (by decide) rfl rfl rfl ?_
    refine G_bipush C dX0_copyTo_11 (v := 8) rfl ?_
    refine G_icmp_lt C 17 dX0_copyTo_13 rfl (fun h2 => ?_) (fun h2 => ?_)
    · refine G_aload_n C 0 dX0_copyTo_17 rfl ?_
      refine G_get C 51 0 dX0_copyTo_18 inlX0 uf_X0_11 rfl (by decide) rfl rfl rfl ?_
      refine G_aload_n C 0 dX0_copyTo_21 rfl ?_
      refine G_get C 51 1 dX0_copyTo_22 inlX0 uf_X0_26 rfl (by decide) rfl rfl rfl ?_
      refine G_aald C 52 3 dX0_copyTo_25 rfl rfl (g_in_of (by decide) h1 h2) (v := .ref (A (5 + Int32.toNatClampNeg (Y 4 0 2)) 0)) rfl ?_
      refine G_astore_n (lv' := [(2, .ref (A (5 + Int32.toNatClampNeg (Y 4 0 2)) 0)), (0, .ref (A 4 1)), (1, .ref (A 0 0))]) C dX0_copyTo_26 (by decide) rfl ?_
      refine G_aload_n C 0 dX0_copyTo_27 rfl ?_
      refine G_ifnull C dX0_copyTo_28 ?_
      refine G_aload_n C 0 dX0_copyTo_31 rfl ?_
      refine G_aload_n C 2 dX0_copyTo_32 rfl ?_
      obtain ⟨q9, fs9, he9⟩ := ro_recv K A Y (n := Int32.toNatClampNeg (Y 4 0 2)) (by have := g_lt_of (n := 8) (by decide) h1 h2; omega)
      refine G_callVv C q9 6 kd_X6_copyFrom ui_X6_copyFrom us_X6_copyFrom um_X0_29 rfl (by first | exact he9 | (rw [← Nat.add_assoc] at he9; exact he9)) (c_keepH l K A Y (by have := g_lt_of (n := 8) (by decide) h1 h2; omega)) dX0_copyTo_33 rfl rfl (Nat.le_of_ble_eq_true rfl) (Nat.le_of_ble_eq_true rfl) ?_
      exact G_vret C dX0_copyTo_36 rfl
    · exact G_vret C dX0_copyTo_16 rfl
theorem kd_X0_remember : Card yX0_remember cX0_remember 2 none 1 := ⟨uc_X0_remember, un_X0, ⟨by decide, by decide, by decide⟩, by decide⟩
def s_X0_remember_L18 (Y : RS) : RS := if (Y 4 0 3) < 8 then yF Y 3 ((Y 4 0 3) + 1) else Y
theorem g_X0_remember_L18 {l : Launch} {K : gK} {Γ : gT} {A : Nat → Nat → Nat} (C : Cx l K Γ RX0 cX0_remember 2 none 5) (Y : RS) : G l K Γ (ro_W K A Y) 18 2 [(0, .ref (A 4 1)), (1, .ref (A 0 0))] [] (fun z => (none, ro_W K A z)) (s_X0_remember_L18 Y) := by
  unfold s_X0_remember_L18
  refine G_aload_n C 0 dX0_remember_18 rfl ?_
  refine G_get C 51 2 dX0_remember_19 inlX0 uf_X0_18 rfl (by decide) rfl rfl rfl ?_
  refine G_bipush C dX0_remember_22 (v := 8) rfl ?_
  refine G_icmp_ge C 37 dX0_remember_24 rfl (fun h1 => ?_) (fun h1 => ?_)
  · refine G_aload_n C 0 dX0_remember_27 rfl ?_
    refine G_dup C dX0_remember_28 rfl ?_
    refine G_get C 51 2 dX0_remember_29 inlX0 uf_X0_18 rfl (by decide) rfl rfl rfl ?_
    refine G_iconst C dX0_remember_32 (v := 1) rfl ?_
    refine G_iadd C dX0_remember_33 ?_
    refine G_put (ws' := ro_W K A (yF Y 3 ((Y 4 0 3) + 1))) C 51 2 tyX0 .int dX0_remember_34 inlX0 uf_X0_18 tyX0_ok nmX0 rfl (by decide) rfl rfl rfl rfl rfl rfl (Nat.le_of_ble_eq_true rfl) rfl ?_
    exact G_vret C dX0_remember_37 rfl
  · exact G_vret C dX0_remember_37 rfl
def s_X0_remember_L5 (Y : RS) : RS := s_X0_remember_L18 (yF Y 2 (jrem ((Y 4 0 2) + 1) 8))
theorem g_X0_remember_L5 {l : Launch} {K : gK} {Γ : gT} {A : Nat → Nat → Nat} (C : Cx l K Γ RX0 cX0_remember 2 none 5) (Y : RS) : G l K Γ (ro_W K A Y) 5 2 [(0, .ref (A 4 1)), (1, .ref (A 0 0))] [] (fun z => (none, ro_W K A z)) (s_X0_remember_L5 Y) := by
  unfold s_X0_remember_L5
  refine G_aload_n C 0 dX0_remember_5 rfl ?_
  refine G_aload_n C 0 dX0_remember_6 rfl ?_
  refine G_get C 51 1 dX0_remember_7 inlX0 uf_X0_26 rfl (by decide) rfl rfl rfl ?_
  refine G_iconst C dX0_remember_10 (v := 1) rfl ?_
  refine G_iadd C dX0_remember_11 ?_
  refine G_bipush C dX0_remember_12 (v := 8) rfl ?_
  refine G_irem C dX0_remember_14 (by decide) ?_
  refine G_put (ws' := ro_W K A (yF Y 2 (jrem ((Y 4 0 2) + 1) 8))) C 51 1 tyX0 .int dX0_remember_15 inlX0 uf_X0_26 tyX0_ok nmX0 rfl (by decide) rfl rfl rfl rfl rfl rfl (Nat.le_of_ble_eq_true rfl) rfl ?_
  refine G_sub [0, 1] rfl ?_
  exact g_X0_remember_L18 C (yF Y 2 (jrem ((Y 4 0 2) + 1) 8))
def s_X0_remember (Y : RS) : RS := s_X0_remember_L5 (s_X0_copyTo Y)
theorem c_X0_remember (l : Launch) (K : gK) (A : Nat → Nat → Nat) (Y : RS) : Ct l K yX0_remember cX0_remember 2 none 5 [.ref (A 4 1), .ref (A 0 0)] (ro_W K A Y) (none, ro_W K A (s_X0_remember Y)) := by
  refine Ct.of (own := RX0) (fun z => (none, ro_W K A z)) (x := s_X0_remember Y) (by decide) rfl (Nat.le_of_ble_eq_true rfl) (fun Γ C => ?_)
  unfold s_X0_remember
  refine G_aload_n C 0 dX0_remember_0 rfl ?_
  refine G_aload_n C 1 dX0_remember_1 rfl ?_
  refine G_callVv C 51 0 kd_X0_copyTo ui_X0_copyTo us_X0_copyTo um_X0_22 rfl rfl (c_X0_copyTo l K A Y) dX0_remember_2 rfl rfl (Nat.le_of_ble_eq_true rfl) (Nat.le_of_ble_eq_true rfl) ?_
  refine G_sub [0, 1] rfl ?_
  exact g_X0_remember_L5 C (s_X0_copyTo Y)
theorem kd_X0_takeBack : Card yX0_takeBack cX0_takeBack 3 none 1 := ⟨uc_X0_takeBack, un_X0, ⟨by decide, by decide, by decide⟩, by decide⟩
def s_X0_takeBack_L34 (Y : RS) : RS := if (Y 4 0 2) < 0 then Y else if (Y 4 0 2) < 8 then yU Y 0 (Y (5 + Int32.toNatClampNeg (Y 4 0 2))) else Y
theorem g_X0_takeBack_L34 {l : Launch} {K : gK} {Γ : gT} {A : Nat → Nat → Nat} (C : Cx l K Γ RX0 cX0_takeBack 3 none 4) (Y : RS) : G l K Γ (ro_W K A Y) 34 3 [(0, .ref (A 4 1)), (1, .ref (A 0 0))] [] (fun z => (none, ro_W K A z)) (s_X0_takeBack_L34 Y) := by
  unfold s_X0_takeBack_L34
  refine G_aload_n C 0 dX0_takeBack_34 rfl ?_
  refine G_get C 51 1 dX0_takeBack_35 inlX0 uf_X0_26 rfl (by decide) rfl rfl rfl ?_
  refine G_if_lt C 50 dX0_takeBack_38 rfl (fun h2 => ?_) (fun h2 => ?_)
  · exact G_vret C dX0_takeBack_50 rfl
  · refine G_aload_n C 0 dX0_takeBack_41 rfl ?_
    refine G_get C 51 1 dX0_takeBack_42 inlX0 uf_X0_26 rfl (by decide) rfl rfl rfl ?_
    refine G_bipush C dX0_takeBack_45 (v := 8) rfl ?_
    refine G_icmp_lt C 51 dX0_takeBack_47 rfl (fun h3 => ?_) (fun h3 => ?_)
    · refine G_aload_n C 0 dX0_takeBack_51 rfl ?_
      refine G_get C 51 0 dX0_takeBack_52 inlX0 uf_X0_11 rfl (by decide) rfl rfl rfl ?_
      refine G_aload_n C 0 dX0_takeBack_55 rfl ?_
      refine G_get C 51 1 dX0_takeBack_56 inlX0 uf_X0_26 rfl (by decide) rfl rfl rfl ?_
      refine G_aald C 52 3 dX0_takeBack_59 rfl rfl (g_in_of (by decide) h2 h3) (v := .ref (A (5 + Int32.toNatClampNeg (Y 4 0 2)) 0)) rfl ?_
      refine G_astore_n (lv' := [(2, .ref (A (5 + Int32.toNatClampNeg (Y 4 0 2)) 0)), (0, .ref (A 4 1)), (1, .ref (A 0 0))]) C dX0_takeBack_60 (by decide) rfl ?_
      refine G_aload_n C 0 dX0_takeBack_61 rfl ?_
      refine G_ifnull C dX0_takeBack_62 ?_
      refine G_aload_n C 2 dX0_takeBack_65 rfl ?_
      refine G_aload_n C 0 dX0_takeBack_66 rfl ?_
      refine G_callVv C 1 6 kd_X6_copyFrom ui_X6_copyFrom us_X6_copyFrom um_X0_29 rfl rfl (c_backH l K A Y (by have := g_lt_of (n := 8) (by decide) h2 h3; omega)) dX0_takeBack_67 rfl rfl (Nat.le_of_ble_eq_true rfl) (Nat.le_of_ble_eq_true rfl) ?_
      exact G_vret C dX0_takeBack_70 rfl
    · exact G_vret C dX0_takeBack_50 rfl
def s_X0_takeBack_L24 (Y : RS) : RS := s_X0_takeBack_L34 (yF Y 3 ((Y 4 0 3) - 1))
theorem g_X0_takeBack_L24 {l : Launch} {K : gK} {Γ : gT} {A : Nat → Nat → Nat} (C : Cx l K Γ RX0 cX0_takeBack 3 none 4) (Y : RS) : G l K Γ (ro_W K A Y) 24 3 [(0, .ref (A 4 1)), (1, .ref (A 0 0))] [] (fun z => (none, ro_W K A z)) (s_X0_takeBack_L24 Y) := by
  unfold s_X0_takeBack_L24
  refine G_aload_n C 0 dX0_takeBack_24 rfl ?_
  refine G_dup C dX0_takeBack_25 rfl ?_
  refine G_get C 51 2 dX0_takeBack_26 inlX0 uf_X0_18 rfl (by decide) rfl rfl rfl ?_
  refine G_iconst C dX0_takeBack_29 (v := 1) rfl ?_
  refine G_isub C dX0_takeBack_30 ?_
  refine G_put (ws' := ro_W K A (yF Y 3 ((Y 4 0 3) - 1))) C 51 2 tyX0 .int dX0_takeBack_31 inlX0 uf_X0_18 tyX0_ok nmX0 rfl (by decide) rfl rfl rfl rfl rfl rfl (Nat.le_of_ble_eq_true rfl) rfl ?_
  refine G_sub [0, 1] rfl ?_
  exact g_X0_takeBack_L34 C (yF Y 3 ((Y 4 0 3) - 1))
def s_X0_takeBack (Y : RS) : RS := if (Y 4 0 3) = 0 then Y else s_X0_takeBack_L24 (yF Y 2 (jrem (((Y 4 0 2) + 8) - 1) 8))
theorem c_X0_takeBack (l : Launch) (K : gK) (A : Nat → Nat → Nat) (Y : RS) : Ct l K yX0_takeBack cX0_takeBack 3 none 4 [.ref (A 4 1), .ref (A 0 0)] (ro_W K A Y) (none, ro_W K A (s_X0_takeBack Y)) := by
  refine Ct.of (own := RX0) (fun z => (none, ro_W K A z)) (x := s_X0_takeBack Y) (by decide) rfl (Nat.le_of_ble_eq_true rfl) (fun Γ C => ?_)
  unfold s_X0_takeBack
  refine G_aload_n C 0 dX0_takeBack_0 rfl ?_
  refine G_get C 51 2 dX0_takeBack_1 inlX0 uf_X0_18 rfl (by decide) rfl rfl rfl ?_
  refine G_if_ne C 8 dX0_takeBack_4 rfl (fun h1 => ?_) (fun h1 => ?_)
  · exact G_vret C dX0_takeBack_7 rfl
  · refine G_aload_n C 0 dX0_takeBack_8 rfl ?_
    refine G_aload_n C 0 dX0_takeBack_9 rfl ?_
    refine G_get C 51 1 dX0_takeBack_10 inlX0 uf_X0_26 rfl (by decide) rfl rfl rfl ?_
    refine G_bipush C dX0_takeBack_13 (v := 8) rfl ?_
    refine G_iadd C dX0_takeBack_15 ?_
    refine G_iconst C dX0_takeBack_16 (v := 1) rfl ?_
    refine G_isub C dX0_takeBack_17 ?_
    refine G_bipush C dX0_takeBack_18 (v := 8) rfl ?_
    refine G_irem C dX0_takeBack_20 (by decide) ?_
    refine G_put (ws' := ro_W K A (yF Y 2 (jrem (((Y 4 0 2) + 8) - 1) 8))) C 51 1 tyX0 .int dX0_takeBack_21 inlX0 uf_X0_26 tyX0_ok nmX0 rfl (by decide) rfl rfl rfl rfl rfl rfl (Nat.le_of_ble_eq_true rfl) rfl ?_
    refine G_sub [0, 1] rfl ?_
    exact g_X0_takeBack_L24 C (yF Y 2 (jrem (((Y 4 0 2) + 8) - 1) 8))
theorem kd_X5_forget : Card yX5_forget cX5_forget 2 none 0 := ⟨uc_X5_forget, un_X5, ⟨by decide, by decide, by decide⟩, by decide⟩
def s_X5_forget (Y : RS) : RS := yU (yU Y 4 (sU (Y 4) 2 (upd (Y 4 2) (0 : Int32).toNatClampNeg (vp_nar .boolean 0)))) 4 (sU ((yU Y 4 (sU (Y 4) 2 (upd (Y 4 2) (0 : Int32).toNatClampNeg (vp_nar .boolean 0)))) 4) 2 (upd ((yU Y 4 (sU (Y 4) 2 (upd (Y 4 2) (0 : Int32).toNatClampNeg (vp_nar .boolean 0)))) 4 2) (1 : Int32).toNatClampNeg (vp_nar .boolean 0)))
theorem c_X5_forget (l : Launch) (K : gK) (A : Nat → Nat → Nat) (Y : RS) : Ct l K yX5_forget cX5_forget 2 none 0 [.ref (A 4 3)] (ro_W K A Y) (none, ro_W K A (s_X5_forget Y)) := by
  refine Ct.of (own := RX5) (fun z => (none, ro_W K A z)) (x := s_X5_forget Y) (by decide) rfl (Nat.le_of_ble_eq_true rfl) (fun Γ C => ?_)
  unfold s_X5_forget
  refine G_iconst C dX5_forget_0 (v := 0) rfl ?_
  refine G_istore_n (lv' := [(1, .int 0), (0, .ref (A 4 3))]) C dX5_forget_1 (by decide) rfl ?_
  refine G_iload_n C 0 dX5_forget_2 rfl ?_
  refine G_iconst C dX5_forget_3 (v := 2) rfl ?_
  refine G_icmp_ge_y C 20 (by decide) dX5_forget_4 rfl ?_
  refine G_aload_n C 1 dX5_forget_7 rfl ?_
  refine G_get C 53 1 dX5_forget_8 inlX5 uf_X5_17 rfl (by decide) rfl rfl rfl ?_
  refine G_iload_n C 0 dX5_forget_11 rfl ?_
  refine G_iconst C dX5_forget_12 (v := 0) rfl ?_
  refine G_zast (ws' := ro_W K A (yU Y 4 (sU (Y 4) 2 (upd (Y 4 2) (0 : Int32).toNatClampNeg (vp_nar .boolean 0))))) C 55 dX5_forget_13 rfl (by unfold vp_in; decide) rfl ?_
  refine G_iinc (lv' := [(1, .int 1), (0, .ref (A 4 3))]) C 0 dX5_forget_14 rfl rfl (by decide) rfl ?_
  refine G_goto C 2 dX5_forget_17 rfl ?_
  refine G_iload_n C 0 dX5_forget_2 rfl ?_
  refine G_iconst C dX5_forget_3 (v := 2) rfl ?_
  refine G_icmp_ge_y C 20 (by decide) dX5_forget_4 rfl ?_
  refine G_aload_n C 1 dX5_forget_7 rfl ?_
  refine G_get C 53 1 dX5_forget_8 inlX5 uf_X5_17 rfl (by decide) rfl rfl rfl ?_
  refine G_iload_n C 0 dX5_forget_11 rfl ?_
  refine G_iconst C dX5_forget_12 (v := 0) rfl ?_
  refine G_zast (ws' := ro_W K A (yU (yU Y 4 (sU (Y 4) 2 (upd (Y 4 2) (0 : Int32).toNatClampNeg (vp_nar .boolean 0)))) 4 (sU ((yU Y 4 (sU (Y 4) 2 (upd (Y 4 2) (0 : Int32).toNatClampNeg (vp_nar .boolean 0)))) 4) 2 (upd ((yU Y 4 (sU (Y 4) 2 (upd (Y 4 2) (0 : Int32).toNatClampNeg (vp_nar .boolean 0)))) 4 2) (1 : Int32).toNatClampNeg (vp_nar .boolean 0))))) C 55 dX5_forget_13 rfl (by unfold vp_in; decide) rfl ?_
  refine G_iinc (lv' := [(1, .int 2), (0, .ref (A 4 3))]) C 0 dX5_forget_14 rfl rfl (by decide) rfl ?_
  refine G_goto C 2 dX5_forget_17 rfl ?_
  refine G_iload_n C 0 dX5_forget_2 rfl ?_
  refine G_iconst C dX5_forget_3 (v := 2) rfl ?_
  refine G_icmp_ge_n C 20 (by decide) dX5_forget_4 rfl ?_
  exact G_vret C dX5_forget_20 rfl
theorem kd_X5_fill : Card yX5_fill cX5_fill 4 none 2 := ⟨uc_X5_fill, un_X5, ⟨by decide, by decide, by decide⟩, by decide⟩
def s_X5_fill (Y : RS) (x1 : Int32) : RS := if x1 < 0 then Y else if x1 < 2 then yU (yU Y (13 + Int32.toNatClampNeg x1) (Y 0)) 4 (sU ((yU Y (13 + Int32.toNatClampNeg x1) (Y 0)) 4) 2 (upd ((yU Y (13 + Int32.toNatClampNeg x1) (Y 0)) 4 2) x1.toNatClampNeg (vp_nar .boolean 1))) else Y
theorem c_X5_fill (l : Launch) (K : gK) (A : Nat → Nat → Nat) (Y : RS) (x1 : Int32) : Ct l K yX5_fill cX5_fill 4 none 4 [.ref (A 4 3), .int x1, .ref (A 0 0)] (ro_W K A Y) (none, ro_W K A (s_X5_fill Y x1)) := by
  refine Ct.of (own := RX5) (fun z => (none, ro_W K A z)) (x := s_X5_fill Y x1) (by decide) rfl (Nat.le_of_ble_eq_true rfl) (fun Γ C => ?_)
  unfold s_X5_fill
  refine G_iload_n C 1 dX5_fill_0 rfl ?_
  refine G_if_lt C 9 dX5_fill_1 rfl (fun h1 => ?_) (fun h1 => ?_)
  · exact G_vret C dX5_fill_9 rfl
  · refine G_iload_n C 1 dX5_fill_4 rfl ?_
    refine G_iconst C dX5_fill_5 (v := 2) rfl ?_
    refine G_icmp_lt C 10 dX5_fill_6 rfl (fun h2 => ?_) (fun h2 => ?_)
    · refine G_aload_n C 0 dX5_fill_10 rfl ?_
      refine G_get C 53 0 dX5_fill_11 inlX5 uf_X5_11 rfl (by decide) rfl rfl rfl ?_
      refine G_iload_n C 1 dX5_fill_14 rfl ?_
      refine G_aald C 54 3 dX5_fill_15 rfl rfl (g_in_of (by decide) h1 h2) (v := .ref (A (13 + Int32.toNatClampNeg x1) 0)) rfl ?_
      refine G_astore_n (lv' := [(3, .ref (A (13 + Int32.toNatClampNeg x1) 0)), (0, .ref (A 4 3)), (1, .int x1), (2, .ref (A 0 0))]) C dX5_fill_16 (by decide) rfl ?_
      refine G_aload_n C 0 dX5_fill_17 rfl ?_
      refine G_ifnonnull C 22 dX5_fill_18 rfl ?_
      refine G_aload_n C 0 dX5_fill_22 rfl ?_
      refine G_aload_n C 3 dX5_fill_23 rfl ?_
      obtain ⟨q9, fs9, he9⟩ := ro_recv K A Y (n := 8 + Int32.toNatClampNeg x1) (by have := g_lt_of (n := 2) (by decide) h1 h2; omega)
      refine G_callVv C q9 6 kd_X6_copyFrom ui_X6_copyFrom us_X6_copyFrom um_X5_22 rfl (by first | exact he9 | (rw [← Nat.add_assoc] at he9; exact he9)) (c_keepS l K A Y (by have := g_lt_of (n := 2) (by decide) h1 h2; omega)) dX5_fill_24 rfl rfl (Nat.le_of_ble_eq_true rfl) (Nat.le_of_ble_eq_true rfl) ?_
      refine G_aload_n C 1 dX5_fill_27 rfl ?_
      refine G_get C 53 1 dX5_fill_28 inlX5 uf_X5_17 rfl (by decide) rfl rfl rfl ?_
      refine G_iload_n C 2 dX5_fill_31 rfl ?_
      refine G_iconst C dX5_fill_32 (v := 1) rfl ?_
      refine G_zast (ws' := ro_W K A (yU (yU Y (13 + Int32.toNatClampNeg x1) (Y 0)) 4 (sU ((yU Y (13 + Int32.toNatClampNeg x1) (Y 0)) 4) 2 (upd ((yU Y (13 + Int32.toNatClampNeg x1) (Y 0)) 4 2) x1.toNatClampNeg (vp_nar .boolean 1))))) C 55 dX5_fill_33 rfl (g_in_of (by decide) h1 h2) rfl ?_
      exact G_vret C dX5_fill_34 rfl
    · exact G_vret C dX5_fill_9 rfl
/-! X9_append -/
theorem kd_X9_append : Card yX9_append cX9_append 6 (some .int) 5 := ⟨uc_X9_append, un_X9, ⟨by decide, by decide, by decide⟩, by decide⟩
def p_X9_append_L57 (Y : RS) (x1 : Int32) (x2 : Int32) (x3 : Int32) (x4 : Int32) (x5 : Int32) : Int32 × RS := (Y 2 1 0, Y)
theorem g_X9_append_L57 {l : Launch} {K : gK} {Γ : gT} {A : Nat → Nat → Nat} (C : Cx l K Γ RX9 cX9_append 6 (some .int) 2) (Y : RS) (x1 : Int32) (x2 : Int32) (x3 : Int32) (x4 : Int32) (x5 : Int32) : G l K Γ (ro_W K A Y) 57 6 [(0, .ref (A 4 0)), (1, .int x1), (2, .int x2), (3, .int x3), (4, .int x4), (5, .int x5)] [] (fun (z : Int32 × RS) => (some (.int z.1), ro_W K A z.2)) (p_X9_append_L57 Y x1 x2 x3 x4 x5) := by
  unfold p_X9_append_L57
  refine G_aload_n C 0 dX9_append_57 rfl ?_
  refine G_get C 0 4 dX9_append_58 inlX9 uf_X9_47 rfl (by decide) rfl rfl rfl ?_
  refine G_get C 25 1 dX9_append_61 inlX7 uf_X9_71 rfl (by decide) rfl rfl rfl ?_
  exact G_iret C dX9_append_64 rfl
def p_X9_append_L48 (Y : RS) (x1 : Int32) (x2 : Int32) (x3 : Int32) (x4 : Int32) (x5 : Int32) : Int32 × RS := p_X9_append_L57 (yU Y 2 (s_X7_addFourBytes (Y 2) x5)) x1 x2 x3 x4 x5
theorem g_X9_append_L48 {l : Launch} {K : gK} {Γ : gT} {A : Nat → Nat → Nat} (C : Cx l K Γ RX9 cX9_append 6 (some .int) 2) (Y : RS) (x1 : Int32) (x2 : Int32) (x3 : Int32) (x4 : Int32) (x5 : Int32) : G l K Γ (ro_W K A Y) 48 6 [(0, .ref (A 4 0)), (1, .int x1), (2, .int x2), (3, .int x3), (4, .int x4), (5, .int x5)] [] (fun (z : Int32 × RS) => (some (.int z.1), ro_W K A z.2)) (p_X9_append_L48 Y x1 x2 x3 x4 x5) := by
  unfold p_X9_append_L48
  refine G_aload_n C 0 dX9_append_48 rfl ?_
  refine G_get C 0 4 dX9_append_49 inlX9 uf_X9_47 rfl (by decide) rfl rfl rfl ?_
  refine G_iload C 5 dX9_append_52 rfl ?_
  refine G_callVv C 25 7 kd_X7_addFourBytes ui_X7_addFourBytes us_X7_addFourBytes um_X9_74 rfl rfl (Ct.chunk1 (cs := ro_C K A Y) (cs' := ro_C K A (yU Y 2 (s_X7_addFourBytes (Y 2) x5))) 2 rfl rfl (Ct.right _ (Ct.right _ (c_X7_addFourBytes l K (A 2) (Y 2) x5)))) dX9_append_54 rfl rfl (Nat.le_of_ble_eq_true rfl) (Nat.le_of_ble_eq_true rfl) ?_
  refine G_sub [0, 1, 2, 3, 4, 5] rfl ?_
  exact g_X9_append_L57 C (yU Y 2 (s_X7_addFourBytes (Y 2) x5)) x1 x2 x3 x4 x5
def p_X9_append_L39 (Y : RS) (x1 : Int32) (x2 : Int32) (x3 : Int32) (x4 : Int32) (x5 : Int32) : Int32 × RS := p_X9_append_L48 (yU Y 2 (s_X7_addFourBytes (Y 2) x4)) x1 x2 x3 x4 x5
theorem g_X9_append_L39 {l : Launch} {K : gK} {Γ : gT} {A : Nat → Nat → Nat} (C : Cx l K Γ RX9 cX9_append 6 (some .int) 2) (Y : RS) (x1 : Int32) (x2 : Int32) (x3 : Int32) (x4 : Int32) (x5 : Int32) : G l K Γ (ro_W K A Y) 39 6 [(0, .ref (A 4 0)), (1, .int x1), (2, .int x2), (3, .int x3), (4, .int x4), (5, .int x5)] [] (fun (z : Int32 × RS) => (some (.int z.1), ro_W K A z.2)) (p_X9_append_L39 Y x1 x2 x3 x4 x5) := by
  unfold p_X9_append_L39
  refine G_aload_n C 0 dX9_append_39 rfl ?_
  refine G_get C 0 4 dX9_append_40 inlX9 uf_X9_47 rfl (by decide) rfl rfl rfl ?_
  refine G_iload C 4 dX9_append_43 rfl ?_
  refine G_callVv C 25 7 kd_X7_addFourBytes ui_X7_addFourBytes us_X7_addFourBytes um_X9_74 rfl rfl (Ct.chunk1 (cs := ro_C K A Y) (cs' := ro_C K A (yU Y 2 (s_X7_addFourBytes (Y 2) x4))) 2 rfl rfl (Ct.right _ (Ct.right _ (c_X7_addFourBytes l K (A 2) (Y 2) x4)))) dX9_append_45 rfl rfl (Nat.le_of_ble_eq_true rfl) (Nat.le_of_ble_eq_true rfl) ?_
  refine G_sub [0, 1, 2, 3, 4, 5] rfl ?_
  exact g_X9_append_L48 C (yU Y 2 (s_X7_addFourBytes (Y 2) x4)) x1 x2 x3 x4 x5
def p_X9_append_L31 (Y : RS) (x1 : Int32) (x2 : Int32) (x3 : Int32) (x4 : Int32) (x5 : Int32) : Int32 × RS := p_X9_append_L39 (yU Y 2 (s_X7_addFourBytes (Y 2) x3)) x1 x2 x3 x4 x5
theorem g_X9_append_L31 {l : Launch} {K : gK} {Γ : gT} {A : Nat → Nat → Nat} (C : Cx l K Γ RX9 cX9_append 6 (some .int) 2) (Y : RS) (x1 : Int32) (x2 : Int32) (x3 : Int32) (x4 : Int32) (x5 : Int32) : G l K Γ (ro_W K A Y) 31 6 [(0, .ref (A 4 0)), (1, .int x1), (2, .int x2), (3, .int x3), (4, .int x4), (5, .int x5)] [] (fun (z : Int32 × RS) => (some (.int z.1), ro_W K A z.2)) (p_X9_append_L31 Y x1 x2 x3 x4 x5) := by
  unfold p_X9_append_L31
  refine G_aload_n C 0 dX9_append_31 rfl ?_
  refine G_get C 0 4 dX9_append_32 inlX9 uf_X9_47 rfl (by decide) rfl rfl rfl ?_
  refine G_iload_n C 3 dX9_append_35 rfl ?_
  refine G_callVv C 25 7 kd_X7_addFourBytes ui_X7_addFourBytes us_X7_addFourBytes um_X9_74 rfl rfl (Ct.chunk1 (cs := ro_C K A Y) (cs' := ro_C K A (yU Y 2 (s_X7_addFourBytes (Y 2) x3))) 2 rfl rfl (Ct.right _ (Ct.right _ (c_X7_addFourBytes l K (A 2) (Y 2) x3)))) dX9_append_36 rfl rfl (Nat.le_of_ble_eq_true rfl) (Nat.le_of_ble_eq_true rfl) ?_
  refine G_sub [0, 1, 2, 3, 4, 5] rfl ?_
  exact g_X9_append_L39 C (yU Y 2 (s_X7_addFourBytes (Y 2) x3)) x1 x2 x3 x4 x5
def p_X9_append_L23 (Y : RS) (x1 : Int32) (x2 : Int32) (x3 : Int32) (x4 : Int32) (x5 : Int32) : Int32 × RS := p_X9_append_L31 (yU Y 2 (s_X7_addFourBytes (Y 2) x2)) x1 x2 x3 x4 x5
theorem g_X9_append_L23 {l : Launch} {K : gK} {Γ : gT} {A : Nat → Nat → Nat} (C : Cx l K Γ RX9 cX9_append 6 (some .int) 2) (Y : RS) (x1 : Int32) (x2 : Int32) (x3 : Int32) (x4 : Int32) (x5 : Int32) : G l K Γ (ro_W K A Y) 23 6 [(0, .ref (A 4 0)), (1, .int x1), (2, .int x2), (3, .int x3), (4, .int x4), (5, .int x5)] [] (fun (z : Int32 × RS) => (some (.int z.1), ro_W K A z.2)) (p_X9_append_L23 Y x1 x2 x3 x4 x5) := by
  unfold p_X9_append_L23
  refine G_aload_n C 0 dX9_append_23 rfl ?_
  refine G_get C 0 4 dX9_append_24 inlX9 uf_X9_47 rfl (by decide) rfl rfl rfl ?_
  refine G_iload_n C 2 dX9_append_27 rfl ?_
  refine G_callVv C 25 7 kd_X7_addFourBytes ui_X7_addFourBytes us_X7_addFourBytes um_X9_74 rfl rfl (Ct.chunk1 (cs := ro_C K A Y) (cs' := ro_C K A (yU Y 2 (s_X7_addFourBytes (Y 2) x2))) 2 rfl rfl (Ct.right _ (Ct.right _ (c_X7_addFourBytes l K (A 2) (Y 2) x2)))) dX9_append_28 rfl rfl (Nat.le_of_ble_eq_true rfl) (Nat.le_of_ble_eq_true rfl) ?_
  refine G_sub [0, 1, 2, 3, 4, 5] rfl ?_
  exact g_X9_append_L31 C (yU Y 2 (s_X7_addFourBytes (Y 2) x2)) x1 x2 x3 x4 x5
def p_X9_append (Y : RS) (x1 : Int32) (x2 : Int32) (x3 : Int32) (x4 : Int32) (x5 : Int32) : Int32 × RS := if 1180 < (Y 2 1 0) then (-1, Y) else p_X9_append_L23 (yU Y 2 (s_X7_addFourBytes (Y 2) x1)) x1 x2 x3 x4 x5
theorem c_X9_append (l : Launch) (K : gK) (A : Nat → Nat → Nat) (Y : RS) (x1 : Int32) (x2 : Int32) (x3 : Int32) (x4 : Int32) (x5 : Int32) : Ct l K yX9_append cX9_append 6 (some .int) 2 [.ref (A 4 0), .int x1, .int x2, .int x3, .int x4, .int x5] (ro_W K A Y) (some (.int (p_X9_append Y x1 x2 x3 x4 x5).1), ro_W K A ((p_X9_append Y x1 x2 x3 x4 x5).2)) := by
  refine Ct.of (own := RX9) (fun (z : Int32 × RS) => (some (.int z.1), ro_W K A z.2)) (x := p_X9_append Y x1 x2 x3 x4 x5) (by decide) rfl (Nat.le_of_ble_eq_true rfl) (fun Γ C => ?_)
  unfold p_X9_append
  refine G_aload_n C 0 dX9_append_0 rfl ?_
  refine G_get C 0 4 dX9_append_1 inlX9 uf_X9_47 rfl (by decide) rfl rfl rfl ?_
  refine G_get C 25 1 dX9_append_4 inlX7 uf_X9_71 rfl (by decide) rfl rfl rfl ?_
  refine G_sipush C dX9_append_7 (v := 1180) rfl ?_
  refine G_icmp_le C 15 dX9_append_10 rfl (fun h1 => ?_) (fun h1 => ?_)
  · refine G_iconst C dX9_append_13 (v := -1) rfl ?_
    exact G_iret C dX9_append_14 rfl
  · refine G_aload_n C 0 dX9_append_15 rfl ?_
    refine G_get C 0 4 dX9_append_16 inlX9 uf_X9_47 rfl (by decide) rfl rfl rfl ?_
    refine G_iload_n C 1 dX9_append_19 rfl ?_
    refine G_callVv C 25 7 kd_X7_addFourBytes ui_X7_addFourBytes us_X7_addFourBytes um_X9_74 rfl rfl (Ct.chunk1 (cs := ro_C K A Y) (cs' := ro_C K A (yU Y 2 (s_X7_addFourBytes (Y 2) x1))) 2 rfl rfl (Ct.right _ (Ct.right _ (c_X7_addFourBytes l K (A 2) (Y 2) x1)))) dX9_append_20 rfl rfl (Nat.le_of_ble_eq_true rfl) (Nat.le_of_ble_eq_true rfl) ?_
    refine G_sub [0, 1, 2, 3, 4, 5] rfl ?_
    exact g_X9_append_L23 C (yU Y 2 (s_X7_addFourBytes (Y 2) x1)) x1 x2 x3 x4 x5
/-! X9_truncate -/
theorem kd_X9_truncate : Card yX9_truncate cX9_truncate 2 (some .int) 1 := ⟨uc_X9_truncate, un_X9, ⟨by decide, by decide, by decide⟩, by decide⟩
def p_X9_truncate_L30 (Y : RS) (x1 : Int32) : Int32 × RS := (Y 2 1 0, Y)
theorem g_X9_truncate_L30 {l : Launch} {K : gK} {Γ : gT} {A : Nat → Nat → Nat} (C : Cx l K Γ RX9 cX9_truncate 2 (some .int) 0) (Y : RS) (x1 : Int32) : G l K Γ (ro_W K A Y) 30 2 [(0, .ref (A 4 0)), (1, .int x1)] [] (fun (z : Int32 × RS) => (some (.int z.1), ro_W K A z.2)) (p_X9_truncate_L30 Y x1) := by
  unfold p_X9_truncate_L30
  refine G_aload_n C 0 dX9_truncate_30 rfl ?_
  refine G_get C 0 4 dX9_truncate_31 inlX9 uf_X9_47 rfl (by decide) rfl rfl rfl ?_
  refine G_get C 25 1 dX9_truncate_34 inlX7 uf_X9_71 rfl (by decide) rfl rfl rfl ?_
  exact G_iret C dX9_truncate_37 rfl
def p_X9_truncate (Y : RS) (x1 : Int32) : Int32 × RS := if x1 < 0 then (-1, Y) else if (Y 2 1 0) < x1 then (-1, Y) else p_X9_truncate_L30 (yL Y 2 ((Y 2 1 0) - x1)) x1
theorem c_X9_truncate (l : Launch) (K : gK) (A : Nat → Nat → Nat) (Y : RS) (x1 : Int32) : Ct l K yX9_truncate cX9_truncate 2 (some .int) 0 [.ref (A 4 0), .int x1] (ro_W K A Y) (some (.int (p_X9_truncate Y x1).1), ro_W K A ((p_X9_truncate Y x1).2)) := by
  refine Ct.of (own := RX9) (fun (z : Int32 × RS) => (some (.int z.1), ro_W K A z.2)) (x := p_X9_truncate Y x1) (by decide) rfl (Nat.le_of_ble_eq_true rfl) (fun Γ C => ?_)
  unfold p_X9_truncate
  refine G_iload_n C 1 dX9_truncate_0 rfl ?_
  refine G_if_lt C 15 dX9_truncate_1 rfl (fun h1 => ?_) (fun h1 => ?_)
  · refine G_iconst C dX9_truncate_15 (v := -1) rfl ?_
    exact G_iret C dX9_truncate_16 rfl
  · refine G_iload_n C 1 dX9_truncate_4 rfl ?_
    refine G_aload_n C 0 dX9_truncate_5 rfl ?_
    refine G_get C 0 4 dX9_truncate_6 inlX9 uf_X9_47 rfl (by decide) rfl rfl rfl ?_
    refine G_get C 25 1 dX9_truncate_9 inlX7 uf_X9_71 rfl (by decide) rfl rfl rfl ?_
    refine G_icmp_le C 17 dX9_truncate_12 rfl (fun h2 => ?_) (fun h2 => ?_)
    · refine G_iconst C dX9_truncate_15 (v := -1) rfl ?_
      exact G_iret C dX9_truncate_16 rfl
    · refine G_aload_n C 0 dX9_truncate_17 rfl ?_
      refine G_get C 0 4 dX9_truncate_18 inlX9 uf_X9_47 rfl (by decide) rfl rfl rfl ?_
      refine G_dup C dX9_truncate_21 rfl ?_
      refine G_get C 25 1 dX9_truncate_22 inlX7 uf_X9_71 rfl (by decide) rfl rfl rfl ?_
      refine G_iload_n C 1 dX9_truncate_25 rfl ?_
      refine G_isub C dX9_truncate_26 ?_
      refine G_put (ws' := ro_W K A (yL Y 2 ((Y 2 1 0) - x1))) C 25 1 tyX7 .int dX9_truncate_27 inlX7 uf_X9_71 tyX7_ok nmX7 rfl (by decide) rfl rfl rfl rfl rfl rfl (Nat.le_of_ble_eq_true rfl) rfl ?_
      refine G_sub [0, 1] rfl ?_
      exact g_X9_truncate_L30 C (yL Y 2 ((Y 2 1 0) - x1)) x1
/-! X9_load -/
theorem kd_X9_load : Card yX9_load cX9_load 1 (some .int) 0 := ⟨uc_X9_load, un_X9, ⟨by decide, by decide, by decide⟩, by decide⟩
def p_X9_load_L58 (Y : RS) : Int32 × RS := (Y 0 18 2, Y)
theorem g_X9_load_L58 {l : Launch} {K : gK} {Γ : gT} {A : Nat → Nat → Nat} (C : Cx l K Γ RX9 cX9_load 1 (some .int) 12) (Y : RS) : G l K Γ (ro_W K A Y) 58 1 [(0, .ref (A 4 0))] [] (fun (z : Int32 × RS) => (some (.int z.1), ro_W K A z.2)) (p_X9_load_L58 Y) := by
  unfold p_X9_load_L58
  refine G_aload_n C 0 dX9_load_58 rfl ?_
  refine G_get C 0 0 dX9_load_59 inlX9 uf_X9_10 rfl (by decide) rfl rfl rfl ?_
  refine G_get C 1 2 dX9_load_62 inlX6 uf_X9_89 rfl (by decide) rfl rfl rfl ?_
  refine G_get C 4 8 dX9_load_65 inlX2 uf_X9_93 rfl (by decide) rfl rfl rfl ?_
  exact G_iret C dX9_load_68 rfl
def p_X9_load_L51 (Y : RS) : Int32 × RS := p_X9_load_L58 (s_X0_forget Y)
theorem g_X9_load_L51 {l : Launch} {K : gK} {Γ : gT} {A : Nat → Nat → Nat} (C : Cx l K Γ RX9 cX9_load 1 (some .int) 12) (Y : RS) : G l K Γ (ro_W K A Y) 51 1 [(0, .ref (A 4 0))] [] (fun (z : Int32 × RS) => (some (.int z.1), ro_W K A z.2)) (p_X9_load_L51 Y) := by
  unfold p_X9_load_L51
  refine G_aload_n C 0 dX9_load_51 rfl ?_
  refine G_get C 0 1 dX9_load_52 inlX9 uf_X9_19 rfl (by decide) rfl rfl rfl ?_
  refine G_callVv C 51 0 kd_X0_forget ui_X0_forget us_X0_forget um_X9_88 rfl rfl (c_X0_forget l K A Y) dX9_load_55 rfl rfl (Nat.le_of_ble_eq_true rfl) (Nat.le_of_ble_eq_true rfl) ?_
  refine G_sub [0] rfl ?_
  exact g_X9_load_L58 C (s_X0_forget Y)
def p_X9_load_L44 (Y : RS) : Int32 × RS := p_X9_load_L51 (s_X5_forget Y)
theorem g_X9_load_L44 {l : Launch} {K : gK} {Γ : gT} {A : Nat → Nat → Nat} (C : Cx l K Γ RX9 cX9_load 1 (some .int) 12) (Y : RS) : G l K Γ (ro_W K A Y) 44 1 [(0, .ref (A 4 0))] [] (fun (z : Int32 × RS) => (some (.int z.1), ro_W K A z.2)) (p_X9_load_L44 Y) := by
  unfold p_X9_load_L44
  refine G_aload_n C 0 dX9_load_44 rfl ?_
  refine G_get C 0 2 dX9_load_45 inlX9 uf_X9_26 rfl (by decide) rfl rfl rfl ?_
  refine G_callVv C 53 5 kd_X5_forget ui_X5_forget us_X5_forget um_X9_85 rfl rfl (c_X5_forget l K A Y) dX9_load_48 rfl rfl (Nat.le_of_ble_eq_true rfl) (Nat.le_of_ble_eq_true rfl) ?_
  refine G_sub [0] rfl ?_
  exact g_X9_load_L51 C (s_X5_forget Y)
def p_X9_load_L19 (Y : RS) : Int32 × RS := if (Y 4 0 0) = (-2) then p_X9_load_L44 (yU Y 0 (Y 1)) else (-1, Y)
theorem g_X9_load_L19 {l : Launch} {K : gK} {Γ : gT} {A : Nat → Nat → Nat} (C : Cx l K Γ RX9 cX9_load 1 (some .int) 12) (Y : RS) : G l K Γ (ro_W K A Y) 19 1 [(0, .ref (A 4 0))] [] (fun (z : Int32 × RS) => (some (.int z.1), ro_W K A z.2)) (p_X9_load_L19 Y) := by
  unfold p_X9_load_L19
  refine G_aload_n C 0 dX9_load_19 rfl ?_
  refine G_get C 0 7 dX9_load_20 inlX9 uf_X9_64 rfl (by decide) rfl rfl rfl ?_
  refine G_bipush C dX9_load_23 (v := -2) rfl ?_
  refine G_icmp_eq C 30 dX9_load_25 rfl (fun h1 => ?_) (fun h1 => ?_)
  · refine G_aload_n C 0 dX9_load_30 rfl ?_
    refine G_get C 0 0 dX9_load_31 inlX9 uf_X9_10 rfl (by decide) rfl rfl rfl ?_
    refine G_aload_n C 0 dX9_load_34 rfl ?_
    refine G_get C 0 3 dX9_load_35 inlX9 uf_X9_33 rfl (by decide) rfl rfl rfl ?_
    refine G_get C 23 1 dX9_load_38 inlX4 uf_X9_50 rfl (by decide) rfl rfl rfl ?_
    refine G_callVv C 1 6 kd_X6_copyFrom ui_X6_copyFrom us_X6_copyFrom um_X9_81 rfl rfl (c_fromDraft l K A Y) dX9_load_41 rfl rfl (Nat.le_of_ble_eq_true rfl) (Nat.le_of_ble_eq_true rfl) ?_
    refine G_sub [0] rfl ?_
    exact g_X9_load_L44 C (yU Y 0 (Y 1))
  · refine G_iconst C dX9_load_28 (v := -1) rfl ?_
    exact G_iret C dX9_load_29 rfl
def p_X9_load_L11 (Y : RS) : Int32 × RS := p_X9_load_L19 (yL Y 2 0)
theorem g_X9_load_L11 {l : Launch} {K : gK} {Γ : gT} {A : Nat → Nat → Nat} (C : Cx l K Γ RX9 cX9_load 1 (some .int) 12) (Y : RS) : G l K Γ (ro_W K A Y) 11 1 [(0, .ref (A 4 0))] [] (fun (z : Int32 × RS) => (some (.int z.1), ro_W K A z.2)) (p_X9_load_L11 Y) := by
  unfold p_X9_load_L11
  refine G_aload_n C 0 dX9_load_11 rfl ?_
  refine G_get C 0 4 dX9_load_12 inlX9 uf_X9_47 rfl (by decide) rfl rfl rfl ?_
  refine G_iconst C dX9_load_15 (v := 0) rfl ?_
  refine G_put (ws' := ro_W K A (yL Y 2 0)) C 25 1 tyX7 .int dX9_load_16 inlX7 uf_X9_71 tyX7_ok nmX7 rfl (by decide) rfl rfl rfl rfl rfl rfl (Nat.le_of_ble_eq_true rfl) rfl ?_
  refine G_sub [0] rfl ?_
  exact g_X9_load_L19 C (yL Y 2 0)
def p_X9_load_L8 (Y : RS) (t0 : Int32) : Int32 × RS := p_X9_load_L11 (yF Y 0 t0)
theorem g_X9_load_L8 {l : Launch} {K : gK} {Γ : gT} {A : Nat → Nat → Nat} (C : Cx l K Γ RX9 cX9_load 1 (some .int) 12) (Y : RS) (t0 : Int32) : G l K Γ (ro_W K A Y) 8 1 [(0, .ref (A 4 0))] [.int t0, .ref (A 4 0)] (fun (z : Int32 × RS) => (some (.int z.1), ro_W K A z.2)) (p_X9_load_L8 Y t0) := by
  unfold p_X9_load_L8
  refine G_put (ws' := ro_W K A (yF Y 0 t0)) C 0 7 tyX9 .int dX9_load_8 inlX9 uf_X9_64 tyX9_ok nmX9 rfl (by decide) rfl rfl rfl rfl rfl rfl (Nat.le_of_ble_eq_true rfl) rfl ?_
  refine G_sub [0] rfl ?_
  exact g_X9_load_L11 C (yF Y 0 t0)
def p_X9_load (Y : RS) : Int32 × RS := p_X9_load_L8 (yP Y (p_X4_parse (Y 4 1, Y 4 0 1, Y 1) (Y 2)).2) ((p_X4_parse (Y 4 1, Y 4 0 1, Y 1) (Y 2)).1)
theorem c_X9_load (l : Launch) (K : gK) (A : Nat → Nat → Nat) (Y : RS) : Ct l K yX9_load cX9_load 1 (some .int) 12 [.ref (A 4 0)] (ro_W K A Y) (some (.int (p_X9_load Y).1), ro_W K A ((p_X9_load Y).2)) := by
  refine Ct.of (own := RX9) (fun (z : Int32 × RS) => (some (.int z.1), ro_W K A z.2)) (x := p_X9_load Y) (by decide) rfl (Nat.le_of_ble_eq_true rfl) (fun Γ C => ?_)
  unfold p_X9_load
  refine G_aload_n C 0 dX9_load_0 rfl ?_
  refine G_aload_n C 0 dX9_load_1 rfl ?_
  refine G_get C 0 3 dX9_load_2 inlX9 uf_X9_33 rfl (by decide) rfl rfl rfl ?_
  refine G_callVi C 23 4 kd_X4_parse ui_X4_parse us_X4_parse um_X9_77 rfl rfl (Ct.chunk2 (cs := ro_C K A Y) (cs' := ro_C K A (yP Y (p_X4_parse (Y 4 1, Y 4 0 1, Y 1) (Y 2)).2)) 2 3 (by decide) rfl rfl rfl (c_X4_parse l K (A 2) (A 1) (Y 4 1, Y 4 0 1, Y 1) (Y 2))) dX9_load_5 rfl rfl (Nat.le_of_ble_eq_true rfl) (Nat.le_of_ble_eq_true rfl) ?_
  refine G_sub [0] rfl ?_
  exact g_X9_load_L8 C (yP Y (p_X4_parse (Y 4 1, Y 4 0 1, Y 1) (Y 2)).2) ((p_X4_parse (Y 4 1, Y 4 0 1, Y 1) (Y 2)).1)
/-! X9_errorPosition -/
theorem kd_X9_errorPosition : Card yX9_errorPosition cX9_errorPosition 1 (some .int) 0 := ⟨uc_X9_errorPosition, un_X9, ⟨by decide, by decide, by decide⟩, by decide⟩
def v_X9_errorPosition (Y : RS) : Int32 := Y 4 0 0
theorem c_X9_errorPosition (l : Launch) (K : gK) (A : Nat → Nat → Nat) (Y : RS) : Ct l K yX9_errorPosition cX9_errorPosition 1 (some .int) 0 [.ref (A 4 0)] (ro_W K A Y) (some (.int (v_X9_errorPosition Y)), ro_W K A Y) := by
  refine Ct.of (own := RX9) (fun z => (some (.int z), ro_W K A Y)) (x := v_X9_errorPosition Y) (by decide) rfl (Nat.le_of_ble_eq_true rfl) (fun Γ C => ?_)
  unfold v_X9_errorPosition
  refine G_aload_n C 0 dX9_errorPosition_0 rfl ?_
  refine G_get C 0 7 dX9_errorPosition_1 inlX9 uf_X9_64 rfl (by decide) rfl rfl rfl ?_
  exact G_iret C dX9_errorPosition_4 rfl
/-! X9_letter -/
theorem kd_X9_letter : Card yX9_letter cX9_letter 5 (some .int) 3 := ⟨uc_X9_letter, un_X9, ⟨by decide, by decide, by decide⟩, by decide⟩
def p_X9_letter_L106 (Y : RS) (x1 : Int32) (x2 : Int32) (x3 : Int32) : Int32 × RS := (at_ 10 (Y 0 7) x1, Y)
theorem g_X9_letter_L106 {l : Launch} {K : gK} {Γ : gT} {A : Nat → Nat → Nat} (C : Cx l K Γ RX9 cX9_letter 5 (some .int) 6) (Y : RS) (x1 : Int32) (x2 : Int32) (x3 : Int32) : G l K Γ (ro_W K A Y) 106 5 [(0, .ref (A 4 0)), (1, .int x1), (2, .int x2), (3, .int x3), (4, .ref (A 0 3))] [] (fun (z : Int32 × RS) => (some (.int z.1), ro_W K A z.2)) (p_X9_letter_L106 Y x1 x2 x3) := by
  unfold p_X9_letter_L106
  refine G_aload C 4 dX9_letter_106 rfl ?_
  refine G_get C 4 5 dX9_letter_108 inlX2 uf_X9_106 rfl (by decide) rfl rfl rfl ?_
  refine G_iload_n C 1 dX9_letter_111 rfl ?_
  refine G_callSi C kd_X9_at ut_X9_at um_X9_110 (c_at l K (ws := ro_W K A Y) (q0 := 10) (n := 10) (g := Y 0 7) (ad := (A 0 9)) (by decide) rfl x1) dX9_letter_112 rfl rfl (Nat.le_of_ble_eq_true rfl) (Nat.le_of_ble_eq_true rfl) ?_
  exact G_iret C dX9_letter_115 rfl
def p_X9_letter_L93 (Y : RS) (x1 : Int32) (x2 : Int32) (x3 : Int32) : Int32 × RS := p_X9_letter_L106 (yU Y 0 (s_X1_add (Y 0) 0 x1 x3)) x1 x2 x3
theorem g_X9_letter_L93 {l : Launch} {K : gK} {Γ : gT} {A : Nat → Nat → Nat} (C : Cx l K Γ RX9 cX9_letter 5 (some .int) 6) (Y : RS) (x1 : Int32) (x2 : Int32) (x3 : Int32) : G l K Γ (ro_W K A Y) 93 5 [(0, .ref (A 4 0)), (1, .int x1), (2, .int x2), (3, .int x3), (4, .ref (A 0 3))] [] (fun (z : Int32 × RS) => (some (.int z.1), ro_W K A z.2)) (p_X9_letter_L93 Y x1 x2 x3) := by
  unfold p_X9_letter_L93
  refine G_aload_n C 0 dX9_letter_93 rfl ?_
  refine G_get C 0 0 dX9_letter_94 inlX9 uf_X9_10 rfl (by decide) rfl rfl rfl ?_
  refine G_get C 1 4 dX9_letter_97 inlX6 uf_X9_128 rfl (by decide) rfl rfl rfl ?_
  refine G_iconst C dX9_letter_100 (v := 0) rfl ?_
  refine G_iload_n C 1 dX9_letter_101 rfl ?_
  refine G_iload_n C 3 dX9_letter_102 rfl ?_
  refine G_callVv C 19 1 kd_X1_add ui_X1_add us_X1_add um_X9_132 rfl rfl (Ct.chunk1 (cs := ro_C K A Y) (cs' := ro_C K A (yU Y 0 (s_X1_add (Y 0) 0 x1 x3))) 1 rfl rfl (c_X1_add l K (A 0) (Y 0) 0 x1 x3)) dX9_letter_103 rfl rfl (Nat.le_of_ble_eq_true rfl) (Nat.le_of_ble_eq_true rfl) ?_
  refine G_sub [0, 1, 2, 3, 4] rfl ?_
  exact g_X9_letter_L106 C (yU Y 0 (s_X1_add (Y 0) 0 x1 x3)) x1 x2 x3
def p_X9_letter_L82 (Y : RS) (x1 : Int32) (x2 : Int32) (x3 : Int32) : Int32 × RS := p_X9_letter_L93 (yU Y 0 (sU (Y 0) 1 (raise_ 9 (Y 0 1) 0))) x1 x2 x3
theorem g_X9_letter_L82 {l : Launch} {K : gK} {Γ : gT} {A : Nat → Nat → Nat} (C : Cx l K Γ RX9 cX9_letter 5 (some .int) 6) (Y : RS) (x1 : Int32) (x2 : Int32) (x3 : Int32) : G l K Γ (ro_W K A Y) 82 5 [(0, .ref (A 4 0)), (1, .int x1), (2, .int x2), (3, .int x3), (4, .ref (A 0 3))] [] (fun (z : Int32 × RS) => (some (.int z.1), ro_W K A z.2)) (p_X9_letter_L82 Y x1 x2 x3) := by
  unfold p_X9_letter_L82
  refine G_aload_n C 0 dX9_letter_82 rfl ?_
  refine G_get C 0 0 dX9_letter_83 inlX9 uf_X9_10 rfl (by decide) rfl rfl rfl ?_
  refine G_get C 1 1 dX9_letter_86 inlX6 uf_X9_121 rfl (by decide) rfl rfl rfl ?_
  refine G_iconst C dX9_letter_89 (v := 0) rfl ?_
  refine G_callSv C kd_X9_raise ut_X9_raise um_X9_124 (Ct.to (r' := (none, ro_W K A (yU Y 0 (sU (Y 0) 1 (raise_ 9 (Y 0 1) 0))))) (c_raise l K (ws := ro_W K A Y) (q0 := 3) (n := 9) (g := Y 0 1) (ad := (A 0 2)) (by decide) rfl 0) rfl) dX9_letter_90 rfl rfl (Nat.le_of_ble_eq_true rfl) (Nat.le_of_ble_eq_true rfl) ?_
  refine G_sub [0, 1, 2, 3, 4] rfl ?_
  exact g_X9_letter_L93 C (yU Y 0 (sU (Y 0) 1 (raise_ 9 (Y 0 1) 0))) x1 x2 x3
def p_X9_letter_L74 (Y : RS) (x1 : Int32) (x2 : Int32) (x3 : Int32) : Int32 × RS := p_X9_letter_L82 (yU Y 0 (s_X2_addLetter (Y 0) x1 x2 x3)) x1 x2 x3
theorem g_X9_letter_L74 {l : Launch} {K : gK} {Γ : gT} {A : Nat → Nat → Nat} (C : Cx l K Γ RX9 cX9_letter 5 (some .int) 6) (Y : RS) (x1 : Int32) (x2 : Int32) (x3 : Int32) : G l K Γ (ro_W K A Y) 74 5 [(0, .ref (A 4 0)), (1, .int x1), (2, .int x2), (3, .int x3), (4, .ref (A 0 3))] [] (fun (z : Int32 × RS) => (some (.int z.1), ro_W K A z.2)) (p_X9_letter_L74 Y x1 x2 x3) := by
  unfold p_X9_letter_L74
  refine G_aload C 4 dX9_letter_74 rfl ?_
  refine G_iload_n C 1 dX9_letter_76 rfl ?_
  refine G_iload_n C 2 dX9_letter_77 rfl ?_
  refine G_iload_n C 3 dX9_letter_78 rfl ?_
  refine G_callVv C 4 2 kd_X2_addLetter ui_X2_addLetter us_X2_addLetter um_X9_117 rfl rfl (Ct.chunk1 (cs := ro_C K A Y) (cs' := ro_C K A (yU Y 0 (s_X2_addLetter (Y 0) x1 x2 x3))) 1 rfl rfl (c_X2_addLetter l K (A 0) (Y 0) x1 x2 x3)) dX9_letter_79 rfl rfl (Nat.le_of_ble_eq_true rfl) (Nat.le_of_ble_eq_true rfl) ?_
  refine G_sub [0, 1, 2, 3, 4] rfl ?_
  exact g_X9_letter_L82 C (yU Y 0 (s_X2_addLetter (Y 0) x1 x2 x3)) x1 x2 x3
def p_X9_letter (Y : RS) (x1 : Int32) (x2 : Int32) (x3 : Int32) : Int32 × RS := if (v_X2_has (Y 0) x1) = 0 then (-1, Y) else if (v_X2_has (Y 0) x2) = 0 then (-1, Y) else if x1 = x2 then (-1, Y) else if (v_X9_isWithin x3 1 9) = 0 then (-1, Y) else if (at_ 10 (Y 0 7) x1) < 6 then p_X9_letter_L74 (s_X0_remember Y) x1 x2 x3 else (-3, Y)
theorem c_X9_letter (l : Launch) (K : gK) (A : Nat → Nat → Nat) (Y : RS) (x1 : Int32) (x2 : Int32) (x3 : Int32) : Ct l K yX9_letter cX9_letter 5 (some .int) 6 [.ref (A 4 0), .int x1, .int x2, .int x3] (ro_W K A Y) (some (.int (p_X9_letter Y x1 x2 x3).1), ro_W K A ((p_X9_letter Y x1 x2 x3).2)) := by
  refine Ct.of (own := RX9) (fun (z : Int32 × RS) => (some (.int z.1), ro_W K A z.2)) (x := p_X9_letter Y x1 x2 x3) (by decide) rfl (Nat.le_of_ble_eq_true rfl) (fun Γ C => ?_)
  unfold p_X9_letter
  refine G_aload_n C 0 dX9_letter_0 rfl ?_
  refine G_get C 0 0 dX9_letter_1 inlX9 uf_X9_10 rfl (by decide) rfl rfl rfl ?_
  refine G_get C 1 2 dX9_letter_4 inlX6 uf_X9_89 rfl (by decide) rfl rfl rfl ?_
  refine G_astore (lv' := [(4, .ref (A 0 3)), (0, .ref (A 4 0)), (1, .int x1), (2, .int x2), (3, .int x3)]) C dX9_letter_7 (by decide) rfl ?_
  refine G_aload C 0 dX9_letter_9 rfl ?_
  refine G_iload_n C 2 dX9_letter_11 rfl ?_
  refine G_callVi C 4 2 kd_X2_has ui_X2_has us_X2_has um_X9_98 rfl rfl (Ct.chunk1 (cs := ro_C K A Y) (cs' := ro_C K A Y) 1 rfl rfl (c_X2_has l K (A 0) (Y 0) x1)) dX9_letter_12 rfl rfl (Nat.le_of_ble_eq_true rfl) (Nat.le_of_ble_eq_true rfl) ?_
  refine G_if_eq C 32 dX9_letter_15 rfl (fun h1 => ?_) (fun h1 => ?_)
  · refine G_iconst C dX9_letter_32 (v := -1) rfl ?_
    exact G_iret C dX9_letter_33 rfl
  · refine G_aload C 0 dX9_letter_18 rfl ?_
    refine G_iload_n C 3 dX9_letter_20 rfl ?_
    refine G_callVi C 4 2 kd_X2_has ui_X2_has us_X2_has um_X9_98 rfl rfl (Ct.chunk1 (cs := ro_C K A Y) (cs' := ro_C K A Y) 1 rfl rfl (c_X2_has l K (A 0) (Y 0) x2)) dX9_letter_21 rfl rfl (Nat.le_of_ble_eq_true rfl) (Nat.le_of_ble_eq_true rfl) ?_
    refine G_if_eq C 32 dX9_letter_24 rfl (fun h2 => ?_) (fun h2 => ?_)
    · refine G_iconst C dX9_letter_32 (v := -1) rfl ?_
      exact G_iret C dX9_letter_33 rfl
    · refine G_iload_n C 2 dX9_letter_27 rfl ?_
      refine G_iload_n C 3 dX9_letter_28 rfl ?_
      refine G_icmp_ne C 34 dX9_letter_29 rfl (fun h3 => ?_) (fun h3 => ?_)
      · refine G_iconst C dX9_letter_32 (v := -1) rfl ?_
        exact G_iret C dX9_letter_33 rfl
      · refine G_iload_n C 4 dX9_letter_34 rfl ?_
        refine G_iconst C dX9_letter_35 (v := 1) rfl ?_
        refine G_bipush C dX9_letter_36 (v := 9) rfl ?_
        refine G_callSi C kd_X9_isWithin ut_X9_isWithin um_X9_102 (c_X9_isWithin l K (ro_W K A Y) x3 1 9) dX9_letter_38 rfl rfl (Nat.le_of_ble_eq_true rfl) (Nat.le_of_ble_eq_true rfl) ?_
        refine G_if_ne C 46 dX9_letter_41 rfl (fun h4 => ?_) (fun h4 => ?_)
        · refine G_iconst C dX9_letter_44 (v := -1) rfl ?_
          exact G_iret C dX9_letter_45 rfl
        · refine G_aload C 0 dX9_letter_46 rfl ?_
          refine G_get C 4 5 dX9_letter_48 inlX2 uf_X9_106 rfl (by decide) rfl rfl rfl ?_
          refine G_iload_n C 2 dX9_letter_51 rfl ?_
          refine G_callSi C kd_X9_at ut_X9_at um_X9_110 (c_at l K (ws := ro_W K A Y) (q0 := 10) (n := 10) (g := Y 0 7) (ad := (A 0 9)) (by decide) rfl x1) dX9_letter_52 rfl rfl (Nat.le_of_ble_eq_true rfl) (Nat.le_of_ble_eq_true rfl) ?_
          refine G_bipush C dX9_letter_55 (v := 6) rfl ?_
          refine G_icmp_lt C 63 dX9_letter_57 rfl (fun h5 => ?_) (fun h5 => ?_)
          · refine G_aload_n C 1 dX9_letter_63 rfl ?_
            refine G_get C 0 1 dX9_letter_64 inlX9 uf_X9_19 rfl (by decide) rfl rfl rfl ?_
            refine G_aload_n C 1 dX9_letter_67 rfl ?_
            refine G_get C 0 0 dX9_letter_68 inlX9 uf_X9_10 rfl (by decide) rfl rfl rfl ?_
            refine G_callVv C 51 0 kd_X0_remember ui_X0_remember us_X0_remember um_X9_114 rfl rfl (c_X0_remember l K A Y) dX9_letter_71 rfl rfl (Nat.le_of_ble_eq_true rfl) (Nat.le_of_ble_eq_true rfl) ?_
            refine G_sub [1, 2, 3, 4, 0] rfl ?_
            exact g_X9_letter_L74 C (s_X0_remember Y) x1 x2 x3
          · refine G_bipush C dX9_letter_60 (v := -3) rfl ?_
            exact G_iret C dX9_letter_62 rfl
/-! X9_cancel -/
theorem kd_X9_cancel : Card yX9_cancel cX9_cancel 5 (some .int) 2 := ⟨uc_X9_cancel, un_X9, ⟨by decide, by decide, by decide⟩, by decide⟩
def p_X9_cancel_L109 (Y : RS) (x1 : Int32) (x2 : Int32) (x4 : Int32) : Int32 × RS := (at_ 10 (Y 0 7) x1, Y)
theorem g_X9_cancel_L109 {l : Launch} {K : gK} {Γ : gT} {A : Nat → Nat → Nat} (C : Cx l K Γ RX9 cX9_cancel 5 (some .int) 6) (Y : RS) (x1 : Int32) (x2 : Int32) (x4 : Int32) : G l K Γ (ro_W K A Y) 109 5 [(0, .ref (A 4 0)), (1, .int x1), (2, .int x2), (3, .ref (A 0 3)), (4, .int x4)] [] (fun (z : Int32 × RS) => (some (.int z.1), ro_W K A z.2)) (p_X9_cancel_L109 Y x1 x2 x4) := by
  unfold p_X9_cancel_L109
  refine G_aload_n C 3 dX9_cancel_109 rfl ?_
  refine G_get C 4 5 dX9_cancel_110 inlX2 uf_X9_106 rfl (by decide) rfl rfl rfl ?_
  refine G_iload_n C 1 dX9_cancel_113 rfl ?_
  refine G_callSi C kd_X9_at ut_X9_at um_X9_110 (c_at l K (ws := ro_W K A Y) (q0 := 10) (n := 10) (g := Y 0 7) (ad := (A 0 9)) (by decide) rfl x1) dX9_cancel_114 rfl rfl (Nat.le_of_ble_eq_true rfl) (Nat.le_of_ble_eq_true rfl) ?_
  exact G_iret C dX9_cancel_117 rfl
def p_X9_cancel_L94 (Y : RS) (x1 : Int32) (x2 : Int32) (x4 : Int32) : Int32 × RS := p_X9_cancel_L109 (yU Y 0 (s_X1_add (Y 0) 9 x1 x4)) x1 x2 x4
theorem g_X9_cancel_L94 {l : Launch} {K : gK} {Γ : gT} {A : Nat → Nat → Nat} (C : Cx l K Γ RX9 cX9_cancel 5 (some .int) 6) (Y : RS) (x1 : Int32) (x2 : Int32) (x4 : Int32) : G l K Γ (ro_W K A Y) 94 5 [(0, .ref (A 4 0)), (1, .int x1), (2, .int x2), (3, .ref (A 0 3)), (4, .int x4)] [] (fun (z : Int32 × RS) => (some (.int z.1), ro_W K A z.2)) (p_X9_cancel_L94 Y x1 x2 x4) := by
  unfold p_X9_cancel_L94
  refine G_aload_n C 0 dX9_cancel_94 rfl ?_
  refine G_get C 0 0 dX9_cancel_95 inlX9 uf_X9_10 rfl (by decide) rfl rfl rfl ?_
  refine G_get C 1 4 dX9_cancel_98 inlX6 uf_X9_128 rfl (by decide) rfl rfl rfl ?_
  refine G_bipush C dX9_cancel_101 (v := 9) rfl ?_
  refine G_iload_n C 1 dX9_cancel_103 rfl ?_
  refine G_iload C 4 dX9_cancel_104 rfl ?_
  refine G_callVv C 19 1 kd_X1_add ui_X1_add us_X1_add um_X9_132 rfl rfl (Ct.chunk1 (cs := ro_C K A Y) (cs' := ro_C K A (yU Y 0 (s_X1_add (Y 0) 9 x1 x4))) 1 rfl rfl (c_X1_add l K (A 0) (Y 0) 9 x1 x4)) dX9_cancel_106 rfl rfl (Nat.le_of_ble_eq_true rfl) (Nat.le_of_ble_eq_true rfl) ?_
  refine G_sub [0, 1, 2, 3, 4] rfl ?_
  exact g_X9_cancel_L109 C (yU Y 0 (s_X1_add (Y 0) 9 x1 x4)) x1 x2 x4
def p_X9_cancel_L83 (Y : RS) (x1 : Int32) (x2 : Int32) (x4 : Int32) : Int32 × RS := p_X9_cancel_L94 (yU Y 0 (sU (Y 0) 1 (raise_ 9 (Y 0 1) 3))) x1 x2 x4
theorem g_X9_cancel_L83 {l : Launch} {K : gK} {Γ : gT} {A : Nat → Nat → Nat} (C : Cx l K Γ RX9 cX9_cancel 5 (some .int) 6) (Y : RS) (x1 : Int32) (x2 : Int32) (x4 : Int32) : G l K Γ (ro_W K A Y) 83 5 [(0, .ref (A 4 0)), (1, .int x1), (2, .int x2), (3, .ref (A 0 3)), (4, .int x4)] [] (fun (z : Int32 × RS) => (some (.int z.1), ro_W K A z.2)) (p_X9_cancel_L83 Y x1 x2 x4) := by
  unfold p_X9_cancel_L83
  refine G_aload_n C 0 dX9_cancel_83 rfl ?_
  refine G_get C 0 0 dX9_cancel_84 inlX9 uf_X9_10 rfl (by decide) rfl rfl rfl ?_
  refine G_get C 1 1 dX9_cancel_87 inlX6 uf_X9_121 rfl (by decide) rfl rfl rfl ?_
  refine G_iconst C dX9_cancel_90 (v := 3) rfl ?_
  refine G_callSv C kd_X9_raise ut_X9_raise um_X9_124 (Ct.to (r' := (none, ro_W K A (yU Y 0 (sU (Y 0) 1 (raise_ 9 (Y 0 1) 3))))) (c_raise l K (ws := ro_W K A Y) (q0 := 3) (n := 9) (g := Y 0 1) (ad := (A 0 2)) (by decide) rfl 3) rfl) dX9_cancel_91 rfl rfl (Nat.le_of_ble_eq_true rfl) (Nat.le_of_ble_eq_true rfl) ?_
  refine G_sub [0, 1, 2, 3, 4] rfl ?_
  exact g_X9_cancel_L94 C (yU Y 0 (sU (Y 0) 1 (raise_ 9 (Y 0 1) 3))) x1 x2 x4
def p_X9_cancel_L69 (Y : RS) (x1 : Int32) (x2 : Int32) : Int32 × RS := p_X9_cancel_L83 (yU Y 0 (s_X2_removeLetter (Y 0) x1 x2)) x1 x2 (v_X2_lengthOf (Y 0) x1 x2)
theorem g_X9_cancel_L69 {l : Launch} {K : gK} {Γ : gT} {A : Nat → Nat → Nat} (C : Cx l K Γ RX9 cX9_cancel 5 (some .int) 6) (Y : RS) (x1 : Int32) (x2 : Int32) : G l K Γ (ro_W K A Y) 69 5 [(0, .ref (A 4 0)), (1, .int x1), (2, .int x2), (3, .ref (A 0 3))] [] (fun (z : Int32 × RS) => (some (.int z.1), ro_W K A z.2)) (p_X9_cancel_L69 Y x1 x2) := by
  unfold p_X9_cancel_L69
  refine G_aload_n C 3 dX9_cancel_69 rfl ?_
  refine G_iload_n C 1 dX9_cancel_70 rfl ?_
  refine G_iload_n C 2 dX9_cancel_71 rfl ?_
  refine G_callVi C 4 2 kd_X2_lengthOf ui_X2_lengthOf us_X2_lengthOf um_X9_147 rfl rfl (Ct.chunk1 (cs := ro_C K A Y) (cs' := ro_C K A Y) 1 rfl rfl (c_X2_lengthOf l K (A 0) (Y 0) x1 x2)) dX9_cancel_72 rfl rfl (Nat.le_of_ble_eq_true rfl) (Nat.le_of_ble_eq_true rfl) ?_
  refine G_istore (lv' := [(4, .int (v_X2_lengthOf (Y 0) x1 x2)), (0, .ref (A 4 0)), (1, .int x1), (2, .int x2), (3, .ref (A 0 3))]) C dX9_cancel_75 (by decide) rfl ?_
  refine G_aload_n C 4 dX9_cancel_77 rfl ?_
  refine G_iload_n C 2 dX9_cancel_78 rfl ?_
  refine G_iload_n C 3 dX9_cancel_79 rfl ?_
  refine G_callVv C 4 2 kd_X2_removeLetter ui_X2_removeLetter us_X2_removeLetter um_X9_151 rfl rfl (Ct.chunk1 (cs := ro_C K A Y) (cs' := ro_C K A (yU Y 0 (s_X2_removeLetter (Y 0) x1 x2))) 1 rfl rfl (c_X2_removeLetter l K (A 0) (Y 0) x1 x2)) dX9_cancel_80 rfl rfl (Nat.le_of_ble_eq_true rfl) (Nat.le_of_ble_eq_true rfl) ?_
  refine G_sub [1, 2, 3, 4, 0] rfl ?_
  exact g_X9_cancel_L83 C (yU Y 0 (s_X2_removeLetter (Y 0) x1 x2)) x1 x2 (v_X2_lengthOf (Y 0) x1 x2)
def p_X9_cancel_L58 (Y : RS) (x1 : Int32) (x2 : Int32) : Int32 × RS := p_X9_cancel_L69 (s_X0_remember Y) x1 x2
theorem g_X9_cancel_L58 {l : Launch} {K : gK} {Γ : gT} {A : Nat → Nat → Nat} (C : Cx l K Γ RX9 cX9_cancel 5 (some .int) 6) (Y : RS) (x1 : Int32) (x2 : Int32) : G l K Γ (ro_W K A Y) 58 5 [(0, .ref (A 4 0)), (1, .int x1), (2, .int x2), (3, .ref (A 0 3))] [] (fun (z : Int32 × RS) => (some (.int z.1), ro_W K A z.2)) (p_X9_cancel_L58 Y x1 x2) := by
  unfold p_X9_cancel_L58
  refine G_aload_n C 0 dX9_cancel_58 rfl ?_
  refine G_get C 0 1 dX9_cancel_59 inlX9 uf_X9_19 rfl (by decide) rfl rfl rfl ?_
  refine G_aload_n C 0 dX9_cancel_62 rfl ?_
  refine G_get C 0 0 dX9_cancel_63 inlX9 uf_X9_10 rfl (by decide) rfl rfl rfl ?_
  refine G_callVv C 51 0 kd_X0_remember ui_X0_remember us_X0_remember um_X9_114 rfl rfl (c_X0_remember l K A Y) dX9_cancel_66 rfl rfl (Nat.le_of_ble_eq_true rfl) (Nat.le_of_ble_eq_true rfl) ?_
  refine G_sub [0, 1, 2, 3] rfl ?_
  exact g_X9_cancel_L69 C (s_X0_remember Y) x1 x2
def p_X9_cancel (Y : RS) (x1 : Int32) (x2 : Int32) : Int32 × RS := if (v_X2_has (Y 0) x1) = 0 then (-1, Y) else if x2 < 0 then (-1, Y) else if x2 < (at_ 10 (Y 0 7) x1) then if x2 = 0 then if 0 < (v_X8_leftAt (Y 0) x1) then (-4, Y) else p_X9_cancel_L58 Y x1 x2 else p_X9_cancel_L58 Y x1 x2 else (-2, Y)
theorem c_X9_cancel (l : Launch) (K : gK) (A : Nat → Nat → Nat) (Y : RS) (x1 : Int32) (x2 : Int32) : Ct l K yX9_cancel cX9_cancel 5 (some .int) 6 [.ref (A 4 0), .int x1, .int x2] (ro_W K A Y) (some (.int (p_X9_cancel Y x1 x2).1), ro_W K A ((p_X9_cancel Y x1 x2).2)) := by
  refine Ct.of (own := RX9) (fun (z : Int32 × RS) => (some (.int z.1), ro_W K A z.2)) (x := p_X9_cancel Y x1 x2) (by decide) rfl (Nat.le_of_ble_eq_true rfl) (fun Γ C => ?_)
  unfold p_X9_cancel
  refine G_aload_n C 0 dX9_cancel_0 rfl ?_
  refine G_get C 0 0 dX9_cancel_1 inlX9 uf_X9_10 rfl (by decide) rfl rfl rfl ?_
  refine G_get C 1 2 dX9_cancel_4 inlX6 uf_X9_89 rfl (by decide) rfl rfl rfl ?_
  refine G_astore_n (lv' := [(3, .ref (A 0 3)), (0, .ref (A 4 0)), (1, .int x1), (2, .int x2)]) C dX9_cancel_7 (by decide) rfl ?_
  refine G_aload_n C 0 dX9_cancel_8 rfl ?_
  refine G_iload_n C 2 dX9_cancel_9 rfl ?_
  refine G_callVi C 4 2 kd_X2_has ui_X2_has us_X2_has um_X9_98 rfl rfl (Ct.chunk1 (cs := ro_C K A Y) (cs' := ro_C K A Y) 1 rfl rfl (c_X2_has l K (A 0) (Y 0) x1)) dX9_cancel_10 rfl rfl (Nat.le_of_ble_eq_true rfl) (Nat.le_of_ble_eq_true rfl) ?_
  refine G_if_eq C 20 dX9_cancel_13 rfl (fun h1 => ?_) (fun h1 => ?_)
  · refine G_iconst C dX9_cancel_20 (v := -1) rfl ?_
    exact G_iret C dX9_cancel_21 rfl
  · refine G_iload_n C 3 dX9_cancel_16 rfl ?_
    refine G_if_ge C 22 dX9_cancel_17 rfl (fun h2 => ?_) (fun h2 => ?_)
    · refine G_iconst C dX9_cancel_20 (v := -1) rfl ?_
      exact G_iret C dX9_cancel_21 rfl
    · refine G_iload_n C 3 dX9_cancel_22 rfl ?_
      refine G_aload_n C 0 dX9_cancel_23 rfl ?_
      refine G_get C 4 5 dX9_cancel_24 inlX2 uf_X9_106 rfl (by decide) rfl rfl rfl ?_
      refine G_iload_n C 2 dX9_cancel_27 rfl ?_
      refine G_callSi C kd_X9_at ut_X9_at um_X9_110 (c_at l K (ws := ro_W K A Y) (q0 := 10) (n := 10) (g := Y 0 7) (ad := (A 0 9)) (by decide) rfl x1) dX9_cancel_28 rfl rfl (Nat.le_of_ble_eq_true rfl) (Nat.le_of_ble_eq_true rfl) ?_
      refine G_icmp_lt C 37 dX9_cancel_31 rfl (fun h3 => ?_) (fun h3 => ?_)
      · refine G_iload_n C 3 dX9_cancel_37 rfl ?_
        refine G_if_ne C 58 dX9_cancel_38 rfl (fun h4 => ?_) (fun h4 => ?_)
        · refine G_aload_n C 1 dX9_cancel_41 rfl ?_
          refine G_get C 0 0 dX9_cancel_42 inlX9 uf_X9_10 rfl (by decide) rfl rfl rfl ?_
          refine G_get C 1 3 dX9_cancel_45 inlX6 uf_X9_137 rfl (by decide) rfl rfl rfl ?_
          refine G_iload_n C 2 dX9_cancel_48 rfl ?_
          refine G_callVi C 13 8 kd_X8_leftAt ui_X8_leftAt us_X8_leftAt um_X9_141 rfl rfl (Ct.chunk1 (cs := ro_C K A Y) (cs' := ro_C K A Y) 1 rfl rfl (c_X8_leftAt l K (A 0) (Y 0) x1)) dX9_cancel_49 rfl rfl (Nat.le_of_ble_eq_true rfl) (Nat.le_of_ble_eq_true rfl) ?_
          refine G_if_le C 58 dX9_cancel_52 rfl (fun h5 => ?_) (fun h5 => ?_)
          · refine G_bipush C dX9_cancel_55 (v := -4) rfl ?_
            exact G_iret C dX9_cancel_57 rfl
          · refine G_sub [1, 2, 3, 0] rfl ?_
            exact g_X9_cancel_L58 C Y x1 x2
        · refine G_sub [1, 2, 3, 0] rfl ?_
          exact g_X9_cancel_L58 C Y x1 x2
      · refine G_bipush C dX9_cancel_34 (v := -2) rfl ?_
        exact G_iret C dX9_cancel_36 rfl
/-! X9_shut -/
theorem kd_X9_shut : Card yX9_shut cX9_shut 4 (some .int) 2 := ⟨uc_X9_shut, un_X9, ⟨by decide, by decide, by decide⟩, by decide⟩
def p_X9_shut_L79 (Y : RS) (x1 : Int32) (x2 : Int32) (x3 : Int32) : Int32 × RS := ((at_ 9 (Y 0 1) 6) - x3, Y)
theorem g_X9_shut_L79 {l : Launch} {K : gK} {Γ : gT} {A : Nat → Nat → Nat} (C : Cx l K Γ RX9 cX9_shut 4 (some .int) 6) (Y : RS) (x1 : Int32) (x2 : Int32) (x3 : Int32) : G l K Γ (ro_W K A Y) 79 4 [(0, .ref (A 4 0)), (1, .int x1), (2, .int x2), (3, .int x3)] [] (fun (z : Int32 × RS) => (some (.int z.1), ro_W K A z.2)) (p_X9_shut_L79 Y x1 x2 x3) := by
  unfold p_X9_shut_L79
  refine G_aload_n C 0 dX9_shut_79 rfl ?_
  refine G_get C 0 0 dX9_shut_80 inlX9 uf_X9_10 rfl (by decide) rfl rfl rfl ?_
  refine G_get C 1 1 dX9_shut_83 inlX6 uf_X9_121 rfl (by decide) rfl rfl rfl ?_
  refine G_bipush C dX9_shut_86 (v := 6) rfl ?_
  refine G_callSi C kd_X9_at ut_X9_at um_X9_110 (c_at l K (ws := ro_W K A Y) (q0 := 3) (n := 9) (g := Y 0 1) (ad := (A 0 2)) (by decide) rfl 6) dX9_shut_88 rfl rfl (Nat.le_of_ble_eq_true rfl) (Nat.le_of_ble_eq_true rfl) ?_
  refine G_iload_n C 3 dX9_shut_91 rfl ?_
  refine G_isub C dX9_shut_92 ?_
  exact G_iret C dX9_shut_93 rfl
def p_X9_shut_L57 (Y : RS) (x1 : Int32) (x2 : Int32) : Int32 × RS := p_X9_shut_L79 (yU Y 0 (s_X6_shutOrOpen (Y 0) x1 x2)) x1 x2 (at_ 9 (Y 0 1) 6)
theorem g_X9_shut_L57 {l : Launch} {K : gK} {Γ : gT} {A : Nat → Nat → Nat} (C : Cx l K Γ RX9 cX9_shut 4 (some .int) 6) (Y : RS) (x1 : Int32) (x2 : Int32) : G l K Γ (ro_W K A Y) 57 4 [(0, .ref (A 4 0)), (1, .int x1), (2, .int x2)] [] (fun (z : Int32 × RS) => (some (.int z.1), ro_W K A z.2)) (p_X9_shut_L57 Y x1 x2) := by
  unfold p_X9_shut_L57
  refine G_aload_n C 0 dX9_shut_57 rfl ?_
  refine G_get C 0 0 dX9_shut_58 inlX9 uf_X9_10 rfl (by decide) rfl rfl rfl ?_
  refine G_get C 1 1 dX9_shut_61 inlX6 uf_X9_121 rfl (by decide) rfl rfl rfl ?_
  refine G_bipush C dX9_shut_64 (v := 6) rfl ?_
  refine G_callSi C kd_X9_at ut_X9_at um_X9_110 (c_at l K (ws := ro_W K A Y) (q0 := 3) (n := 9) (g := Y 0 1) (ad := (A 0 2)) (by decide) rfl 6) dX9_shut_66 rfl rfl (Nat.le_of_ble_eq_true rfl) (Nat.le_of_ble_eq_true rfl) ?_
  refine G_istore_n (lv' := [(3, .int (at_ 9 (Y 0 1) 6)), (0, .ref (A 4 0)), (1, .int x1), (2, .int x2)]) C dX9_shut_69 (by decide) rfl ?_
  refine G_aload_n C 1 dX9_shut_70 rfl ?_
  refine G_get C 0 0 dX9_shut_71 inlX9 uf_X9_10 rfl (by decide) rfl rfl rfl ?_
  refine G_iload_n C 2 dX9_shut_74 rfl ?_
  refine G_iload_n C 3 dX9_shut_75 rfl ?_
  refine G_callVv C 1 6 kd_X6_shutOrOpen ui_X6_shutOrOpen us_X6_shutOrOpen um_X9_158 rfl rfl (Ct.chunk1 (cs := ro_C K A Y) (cs' := ro_C K A (yU Y 0 (s_X6_shutOrOpen (Y 0) x1 x2))) 1 rfl rfl (c_X6_shutOrOpen l K (A 0) (Y 0) x1 x2)) dX9_shut_76 rfl rfl (Nat.le_of_ble_eq_true rfl) (Nat.le_of_ble_eq_true rfl) ?_
  refine G_sub [1, 2, 3, 0] rfl ?_
  exact g_X9_shut_L79 C (yU Y 0 (s_X6_shutOrOpen (Y 0) x1 x2)) x1 x2 (at_ 9 (Y 0 1) 6)
def p_X9_shut (Y : RS) (x1 : Int32) (x2 : Int32) : Int32 × RS := if (v_X2_has (Y 0) x1) = 0 then (-1, Y) else if (v_X9_isWithin x2 0 1) = 0 then (-1, Y) else if (at_ 10 (Y 0 4) x1) = x2 then (-2, Y) else p_X9_shut_L57 (s_X0_remember Y) x1 x2
theorem c_X9_shut (l : Launch) (K : gK) (A : Nat → Nat → Nat) (Y : RS) (x1 : Int32) (x2 : Int32) : Ct l K yX9_shut cX9_shut 4 (some .int) 6 [.ref (A 4 0), .int x1, .int x2] (ro_W K A Y) (some (.int (p_X9_shut Y x1 x2).1), ro_W K A ((p_X9_shut Y x1 x2).2)) := by
  refine Ct.of (own := RX9) (fun (z : Int32 × RS) => (some (.int z.1), ro_W K A z.2)) (x := p_X9_shut Y x1 x2) (by decide) rfl (Nat.le_of_ble_eq_true rfl) (fun Γ C => ?_)
  unfold p_X9_shut
  refine G_aload_n C 0 dX9_shut_0 rfl ?_
  refine G_get C 0 0 dX9_shut_1 inlX9 uf_X9_10 rfl (by decide) rfl rfl rfl ?_
  refine G_get C 1 2 dX9_shut_4 inlX6 uf_X9_89 rfl (by decide) rfl rfl rfl ?_
  refine G_iload_n C 1 dX9_shut_7 rfl ?_
  refine G_callVi C 4 2 kd_X2_has ui_X2_has us_X2_has um_X9_98 rfl rfl (Ct.chunk1 (cs := ro_C K A Y) (cs' := ro_C K A Y) 1 rfl rfl (c_X2_has l K (A 0) (Y 0) x1)) dX9_shut_8 rfl rfl (Nat.le_of_ble_eq_true rfl) (Nat.le_of_ble_eq_true rfl) ?_
  refine G_if_eq C 23 dX9_shut_11 rfl (fun h1 => ?_) (fun h1 => ?_)
  · refine G_iconst C dX9_shut_23 (v := -1) rfl ?_
    exact G_iret C dX9_shut_24 rfl
  · refine G_iload_n C 2 dX9_shut_14 rfl ?_
    refine G_iconst C dX9_shut_15 (v := 0) rfl ?_
    refine G_iconst C dX9_shut_16 (v := 1) rfl ?_
    refine G_callSi C kd_X9_isWithin ut_X9_isWithin um_X9_102 (c_X9_isWithin l K (ro_W K A Y) x2 0 1) dX9_shut_17 rfl rfl (Nat.le_of_ble_eq_true rfl) (Nat.le_of_ble_eq_true rfl) ?_
    refine G_if_ne C 25 dX9_shut_20 rfl (fun h2 => ?_) (fun h2 => ?_)
    · refine G_iconst C dX9_shut_23 (v := -1) rfl ?_
      exact G_iret C dX9_shut_24 rfl
    · refine G_aload_n C 0 dX9_shut_25 rfl ?_
      refine G_get C 0 0 dX9_shut_26 inlX9 uf_X9_10 rfl (by decide) rfl rfl rfl ?_
      refine G_get C 1 2 dX9_shut_29 inlX6 uf_X9_89 rfl (by decide) rfl rfl rfl ?_
      refine G_get C 4 2 dX9_shut_32 inlX2 uf_X9_155 rfl (by decide) rfl rfl rfl ?_
      refine G_iload_n C 1 dX9_shut_35 rfl ?_
      refine G_callSi C kd_X9_at ut_X9_at um_X9_110 (c_at l K (ws := ro_W K A Y) (q0 := 7) (n := 10) (g := Y 0 4) (ad := (A 0 6)) (by decide) rfl x1) dX9_shut_36 rfl rfl (Nat.le_of_ble_eq_true rfl) (Nat.le_of_ble_eq_true rfl) ?_
      refine G_iload_n C 2 dX9_shut_39 rfl ?_
      refine G_icmp_ne C 46 dX9_shut_40 rfl (fun h3 => ?_) (fun h3 => ?_)
      · refine G_bipush C dX9_shut_43 (v := -2) rfl ?_
        exact G_iret C dX9_shut_45 rfl
      · refine G_aload_n C 0 dX9_shut_46 rfl ?_
        refine G_get C 0 1 dX9_shut_47 inlX9 uf_X9_19 rfl (by decide) rfl rfl rfl ?_
        refine G_aload_n C 0 dX9_shut_50 rfl ?_
        refine G_get C 0 0 dX9_shut_51 inlX9 uf_X9_10 rfl (by decide) rfl rfl rfl ?_
        refine G_callVv C 51 0 kd_X0_remember ui_X0_remember us_X0_remember um_X9_114 rfl rfl (c_X0_remember l K A Y) dX9_shut_54 rfl rfl (Nat.le_of_ble_eq_true rfl) (Nat.le_of_ble_eq_true rfl) ?_
        refine G_sub [0, 1, 2] rfl ?_
        exact g_X9_shut_L57 C (s_X0_remember Y) x1 x2
/-! X9_lose -/
theorem kd_X9_lose : Card yX9_lose cX9_lose 3 (some .int) 1 := ⟨uc_X9_lose, un_X9, ⟨by decide, by decide, by decide⟩, by decide⟩
def p_X9_lose_L27 (Y : RS) (x1 : Int32) : Int32 × RS := (at_ 3 (Y 0 10) x1, yU Y 0 (s_X6_loseToken (Y 0) x1))
theorem g_X9_lose_L27 {l : Launch} {K : gK} {Γ : gT} {A : Nat → Nat → Nat} (C : Cx l K Γ RX9 cX9_lose 3 (some .int) 6) (Y : RS) (x1 : Int32) : G l K Γ (ro_W K A Y) 27 3 [(0, .ref (A 4 0)), (1, .int x1)] [] (fun (z : Int32 × RS) => (some (.int z.1), ro_W K A z.2)) (p_X9_lose_L27 Y x1) := by
  unfold p_X9_lose_L27
  refine G_aload_n C 0 dX9_lose_27 rfl ?_
  refine G_get C 0 0 dX9_lose_28 inlX9 uf_X9_10 rfl (by decide) rfl rfl rfl ?_
  refine G_get C 1 3 dX9_lose_31 inlX6 uf_X9_137 rfl (by decide) rfl rfl rfl ?_
  refine G_get C 13 0 dX9_lose_34 inlX8 uf_X9_162 rfl (by decide) rfl rfl rfl ?_
  refine G_iload_n C 1 dX9_lose_37 rfl ?_
  refine G_callSi C kd_X9_at ut_X9_at um_X9_110 (c_at l K (ws := ro_W K A Y) (q0 := 14) (n := 3) (g := Y 0 10) (ad := (A 0 13)) (by decide) rfl x1) dX9_lose_38 rfl rfl (Nat.le_of_ble_eq_true rfl) (Nat.le_of_ble_eq_true rfl) ?_
  refine G_istore_n (lv' := [(2, .int (at_ 3 (Y 0 10) x1)), (0, .ref (A 4 0)), (1, .int x1)]) C dX9_lose_41 (by decide) rfl ?_
  refine G_aload_n C 1 dX9_lose_42 rfl ?_
  refine G_get C 0 0 dX9_lose_43 inlX9 uf_X9_10 rfl (by decide) rfl rfl rfl ?_
  refine G_iload_n C 2 dX9_lose_46 rfl ?_
  refine G_callVv C 1 6 kd_X6_loseToken ui_X6_loseToken us_X6_loseToken um_X9_165 rfl rfl (Ct.chunk1 (cs := ro_C K A Y) (cs' := ro_C K A (yU Y 0 (s_X6_loseToken (Y 0) x1))) 1 rfl rfl (c_X6_loseToken l K (A 0) (Y 0) x1)) dX9_lose_47 rfl rfl (Nat.le_of_ble_eq_true rfl) (Nat.le_of_ble_eq_true rfl) ?_
  refine G_iload_n C 0 dX9_lose_50 rfl ?_
  exact G_iret C dX9_lose_51 rfl
def p_X9_lose (Y : RS) (x1 : Int32) : Int32 × RS := if (v_X8_has (Y 0) x1) = 0 then (-1, Y) else p_X9_lose_L27 (s_X0_remember Y) x1
theorem c_X9_lose (l : Launch) (K : gK) (A : Nat → Nat → Nat) (Y : RS) (x1 : Int32) : Ct l K yX9_lose cX9_lose 3 (some .int) 6 [.ref (A 4 0), .int x1] (ro_W K A Y) (some (.int (p_X9_lose Y x1).1), ro_W K A ((p_X9_lose Y x1).2)) := by
  refine Ct.of (own := RX9) (fun (z : Int32 × RS) => (some (.int z.1), ro_W K A z.2)) (x := p_X9_lose Y x1) (by decide) rfl (Nat.le_of_ble_eq_true rfl) (fun Γ C => ?_)
  unfold p_X9_lose
  refine G_aload_n C 0 dX9_lose_0 rfl ?_
  refine G_get C 0 0 dX9_lose_1 inlX9 uf_X9_10 rfl (by decide) rfl rfl rfl ?_
  refine G_get C 1 3 dX9_lose_4 inlX6 uf_X9_137 rfl (by decide) rfl rfl rfl ?_
  refine G_iload_n C 1 dX9_lose_7 rfl ?_
  refine G_callVi C 13 8 kd_X8_has ui_X8_has us_X8_has um_X9_161 rfl rfl (Ct.chunk1 (cs := ro_C K A Y) (cs' := ro_C K A Y) 1 rfl rfl (c_X8_has l K (A 0) (Y 0) x1)) dX9_lose_8 rfl rfl (Nat.le_of_ble_eq_true rfl) (Nat.le_of_ble_eq_true rfl) ?_
  refine G_if_ne C 16 dX9_lose_11 rfl (fun h1 => ?_) (fun h1 => ?_)
  · refine G_iconst C dX9_lose_14 (v := -1) rfl ?_
    exact G_iret C dX9_lose_15 rfl
  · refine G_aload_n C 0 dX9_lose_16 rfl ?_
    refine G_get C 0 1 dX9_lose_17 inlX9 uf_X9_19 rfl (by decide) rfl rfl rfl ?_
    refine G_aload_n C 0 dX9_lose_20 rfl ?_
    refine G_get C 0 0 dX9_lose_21 inlX9 uf_X9_10 rfl (by decide) rfl rfl rfl ?_
    refine G_callVv C 51 0 kd_X0_remember ui_X0_remember us_X0_remember um_X9_114 rfl rfl (c_X0_remember l K A Y) dX9_lose_24 rfl rfl (Nat.le_of_ble_eq_true rfl) (Nat.le_of_ble_eq_true rfl) ?_
    refine G_sub [0, 1] rfl ?_
    exact g_X9_lose_L27 C (s_X0_remember Y) x1
/-! X9_stray -/
theorem kd_X9_stray : Card yX9_stray cX9_stray 3 (some .int) 1 := ⟨uc_X9_stray, un_X9, ⟨by decide, by decide, by decide⟩, by decide⟩
def p_X9_stray_L97 (Y : RS) (x1 : Int32) (x2 : Int32) : Int32 × RS := (x2, yU Y 0 (s_X6_tearUpWhereTwoMeet (Y 0)))
theorem g_X9_stray_L97 {l : Launch} {K : gK} {Γ : gT} {A : Nat → Nat → Nat} (C : Cx l K Γ RX9 cX9_stray 3 (some .int) 6) (Y : RS) (x1 : Int32) (x2 : Int32) : G l K Γ (ro_W K A Y) 97 3 [(0, .ref (A 4 0)), (1, .int x1), (2, .int x2)] [] (fun (z : Int32 × RS) => (some (.int z.1), ro_W K A z.2)) (p_X9_stray_L97 Y x1 x2) := by
  unfold p_X9_stray_L97
  refine G_aload_n C 0 dX9_stray_97 rfl ?_
  refine G_get C 0 0 dX9_stray_98 inlX9 uf_X9_10 rfl (by decide) rfl rfl rfl ?_
  refine G_callVv C 1 6 kd_X6_tearUpWhereTwoMeet ui_X6_tearUpWhereTwoMeet us_X6_tearUpWhereTwoMeet um_X9_177 rfl rfl (Ct.chunk1 (cs := ro_C K A Y) (cs' := ro_C K A (yU Y 0 (s_X6_tearUpWhereTwoMeet (Y 0)))) 1 rfl rfl (c_X6_tearUpWhereTwoMeet l K (A 0) (Y 0))) dX9_stray_101 rfl rfl (Nat.le_of_ble_eq_true rfl) (Nat.le_of_ble_eq_true rfl) ?_
  refine G_iload_n C 2 dX9_stray_104 rfl ?_
  exact G_iret C dX9_stray_105 rfl
def p_X9_stray_L72 (Y : RS) (x1 : Int32) : Int32 × RS := p_X9_stray_L97 (yU Y 0 (s_X1_add (Y 0) 6 (Y 0 18 4) x1)) x1 (Y 0 18 4)
theorem g_X9_stray_L72 {l : Launch} {K : gK} {Γ : gT} {A : Nat → Nat → Nat} (C : Cx l K Γ RX9 cX9_stray 3 (some .int) 6) (Y : RS) (x1 : Int32) : G l K Γ (ro_W K A Y) 72 3 [(0, .ref (A 4 0)), (1, .int x1)] [] (fun (z : Int32 × RS) => (some (.int z.1), ro_W K A z.2)) (p_X9_stray_L72 Y x1) := by
  unfold p_X9_stray_L72
  refine G_aload_n C 0 dX9_stray_72 rfl ?_
  refine G_get C 0 0 dX9_stray_73 inlX9 uf_X9_10 rfl (by decide) rfl rfl rfl ?_
  refine G_get C 1 3 dX9_stray_76 inlX6 uf_X9_137 rfl (by decide) rfl rfl rfl ?_
  refine G_get C 13 6 dX9_stray_79 inlX8 uf_X9_174 rfl (by decide) rfl rfl rfl ?_
  refine G_istore_n (lv' := [(2, .int (Y 0 18 4)), (0, .ref (A 4 0)), (1, .int x1)]) C dX9_stray_82 (by decide) rfl ?_
  refine G_aload_n C 1 dX9_stray_83 rfl ?_
  refine G_get C 0 0 dX9_stray_84 inlX9 uf_X9_10 rfl (by decide) rfl rfl rfl ?_
  refine G_get C 1 4 dX9_stray_87 inlX6 uf_X9_128 rfl (by decide) rfl rfl rfl ?_
  refine G_bipush C dX9_stray_90 (v := 6) rfl ?_
  refine G_iload_n C 0 dX9_stray_92 rfl ?_
  refine G_iload_n C 2 dX9_stray_93 rfl ?_
  refine G_callVv C 19 1 kd_X1_add ui_X1_add us_X1_add um_X9_132 rfl rfl (Ct.chunk1 (cs := ro_C K A Y) (cs' := ro_C K A (yU Y 0 (s_X1_add (Y 0) 6 (Y 0 18 4) x1))) 1 rfl rfl (c_X1_add l K (A 0) (Y 0) 6 (Y 0 18 4) x1)) dX9_stray_94 rfl rfl (Nat.le_of_ble_eq_true rfl) (Nat.le_of_ble_eq_true rfl) ?_
  refine G_sub [1, 2, 0] rfl ?_
  exact g_X9_stray_L97 C (yU Y 0 (s_X1_add (Y 0) 6 (Y 0 18 4) x1)) x1 (Y 0 18 4)
def p_X9_stray_L61 (Y : RS) (x1 : Int32) : Int32 × RS := p_X9_stray_L72 (yU Y 0 (s_X8_add (Y 0) x1)) x1
theorem g_X9_stray_L61 {l : Launch} {K : gK} {Γ : gT} {A : Nat → Nat → Nat} (C : Cx l K Γ RX9 cX9_stray 3 (some .int) 6) (Y : RS) (x1 : Int32) : G l K Γ (ro_W K A Y) 61 3 [(0, .ref (A 4 0)), (1, .int x1)] [] (fun (z : Int32 × RS) => (some (.int z.1), ro_W K A z.2)) (p_X9_stray_L61 Y x1) := by
  unfold p_X9_stray_L61
  refine G_aload_n C 0 dX9_stray_61 rfl ?_
  refine G_get C 0 0 dX9_stray_62 inlX9 uf_X9_10 rfl (by decide) rfl rfl rfl ?_
  refine G_get C 1 3 dX9_stray_65 inlX6 uf_X9_137 rfl (by decide) rfl rfl rfl ?_
  refine G_iload_n C 1 dX9_stray_68 rfl ?_
  refine G_callVv C 13 8 kd_X8_add ui_X8_add us_X8_add um_X9_172 rfl rfl (Ct.chunk1 (cs := ro_C K A Y) (cs' := ro_C K A (yU Y 0 (s_X8_add (Y 0) x1))) 1 rfl rfl (c_X8_add l K (A 0) (Y 0) x1)) dX9_stray_69 rfl rfl (Nat.le_of_ble_eq_true rfl) (Nat.le_of_ble_eq_true rfl) ?_
  refine G_sub [0, 1] rfl ?_
  exact g_X9_stray_L72 C (yU Y 0 (s_X8_add (Y 0) x1)) x1
def p_X9_stray (Y : RS) (x1 : Int32) : Int32 × RS := if (v_X2_has (Y 0) x1) = 0 then (-1, Y) else if (v_X2_isOpen (Y 0) x1) = 0 then (-4, Y) else if (Y 0 18 3) < 3 then p_X9_stray_L61 (s_X0_remember Y) x1 else (-3, Y)
theorem c_X9_stray (l : Launch) (K : gK) (A : Nat → Nat → Nat) (Y : RS) (x1 : Int32) : Ct l K yX9_stray cX9_stray 3 (some .int) 6 [.ref (A 4 0), .int x1] (ro_W K A Y) (some (.int (p_X9_stray Y x1).1), ro_W K A ((p_X9_stray Y x1).2)) := by
  refine Ct.of (own := RX9) (fun (z : Int32 × RS) => (some (.int z.1), ro_W K A z.2)) (x := p_X9_stray Y x1) (by decide) rfl (Nat.le_of_ble_eq_true rfl) (fun Γ C => ?_)
  unfold p_X9_stray
  refine G_aload_n C 0 dX9_stray_0 rfl ?_
  refine G_get C 0 0 dX9_stray_1 inlX9 uf_X9_10 rfl (by decide) rfl rfl rfl ?_
  refine G_get C 1 2 dX9_stray_4 inlX6 uf_X9_89 rfl (by decide) rfl rfl rfl ?_
  refine G_iload_n C 1 dX9_stray_7 rfl ?_
  refine G_callVi C 4 2 kd_X2_has ui_X2_has us_X2_has um_X9_98 rfl rfl (Ct.chunk1 (cs := ro_C K A Y) (cs' := ro_C K A Y) 1 rfl rfl (c_X2_has l K (A 0) (Y 0) x1)) dX9_stray_8 rfl rfl (Nat.le_of_ble_eq_true rfl) (Nat.le_of_ble_eq_true rfl) ?_
  refine G_if_ne C 16 dX9_stray_11 rfl (fun h1 => ?_) (fun h1 => ?_)
  · refine G_iconst C dX9_stray_14 (v := -1) rfl ?_
    exact G_iret C dX9_stray_15 rfl
  · refine G_aload_n C 0 dX9_stray_16 rfl ?_
    refine G_get C 0 0 dX9_stray_17 inlX9 uf_X9_10 rfl (by decide) rfl rfl rfl ?_
    refine G_get C 1 2 dX9_stray_20 inlX6 uf_X9_89 rfl (by decide) rfl rfl rfl ?_
    refine G_iload_n C 1 dX9_stray_23 rfl ?_
    refine G_callVi C 4 2 kd_X2_isOpen ui_X2_isOpen us_X2_isOpen um_X9_168 rfl rfl (Ct.chunk1 (cs := ro_C K A Y) (cs' := ro_C K A Y) 1 rfl rfl (c_X2_isOpen l K (A 0) (Y 0) x1)) dX9_stray_24 rfl rfl (Nat.le_of_ble_eq_true rfl) (Nat.le_of_ble_eq_true rfl) ?_
    refine G_if_ne C 33 dX9_stray_27 rfl (fun h2 => ?_) (fun h2 => ?_)
    · refine G_bipush C dX9_stray_30 (v := -4) rfl ?_
      exact G_iret C dX9_stray_32 rfl
    · refine G_aload_n C 0 dX9_stray_33 rfl ?_
      refine G_get C 0 0 dX9_stray_34 inlX9 uf_X9_10 rfl (by decide) rfl rfl rfl ?_
      refine G_get C 1 3 dX9_stray_37 inlX6 uf_X9_137 rfl (by decide) rfl rfl rfl ?_
      refine G_get C 13 5 dX9_stray_40 inlX8 uf_X9_171 rfl (by decide) rfl rfl rfl ?_
      refine G_iconst C dX9_stray_43 (v := 3) rfl ?_
      refine G_icmp_lt C 50 dX9_stray_44 rfl (fun h3 => ?_) (fun h3 => ?_)
      · refine G_aload_n C 0 dX9_stray_50 rfl ?_
        refine G_get C 0 1 dX9_stray_51 inlX9 uf_X9_19 rfl (by decide) rfl rfl rfl ?_
        refine G_aload_n C 0 dX9_stray_54 rfl ?_
        refine G_get C 0 0 dX9_stray_55 inlX9 uf_X9_10 rfl (by decide) rfl rfl rfl ?_
        refine G_callVv C 51 0 kd_X0_remember ui_X0_remember us_X0_remember um_X9_114 rfl rfl (c_X0_remember l K A Y) dX9_stray_58 rfl rfl (Nat.le_of_ble_eq_true rfl) (Nat.le_of_ble_eq_true rfl) ?_
        refine G_sub [0, 1] rfl ?_
        exact g_X9_stray_L61 C (s_X0_remember Y) x1
      · refine G_bipush C dX9_stray_47 (v := -3) rfl ?_
        exact G_iret C dX9_stray_49 rfl
/-! X9_minute -/
theorem kd_X9_minute : Card yX9_minute cX9_minute 4 (some .int) 1 := ⟨uc_X9_minute, un_X9, ⟨by decide, by decide, by decide⟩, by decide⟩
def p_X9_minute_L55 : Nat → RS → Int32 → Int32 → Int32 → Int32 × RS
  | 0, Y, _, _, _ => (0, Y)
  | fuel + 1, Y, x1, x2, x3 => if x3 < x1 then p_X9_minute_L55 fuel (yU Y 0 (s_X6_passMinute (Y 0))) x1 x2 (x3 + 1) else ((at_ 9 (Y 0 1) 1) - x2, Y)
theorem g_X9_minute_L55 {l : Launch} {K : gK} {Γ : gT} {A : Nat → Nat → Nat} (C : Cx l K Γ RX9 cX9_minute 4 (some .int) 6) : ∀ (n : Nat) (Y : RS) (x1 : Int32) (x2 : Int32) (x3 : Int32), mu x3 < n → G l K Γ (ro_W K A Y) 55 4 [(0, .ref (A 4 0)), (1, .int x1), (2, .int x2), (3, .int x3)] [] (fun (z : Int32 × RS) => (some (.int z.1), ro_W K A z.2)) (p_X9_minute_L55 n Y x1 x2 x3) := by
  intro n
  induction n with
  | zero =>
    intro Y x1 x2 x3 hm
    exact absurd hm (Nat.not_lt_zero _)
  | succ n ih =>
    intro Y x1 x2 x3 hm
    rw [p_X9_minute_L55]
    refine G_iload_n C 3 dX9_minute_55 rfl ?_
    refine G_iload_n C 1 dX9_minute_56 rfl ?_
    refine G_icmp_ge C 73 dX9_minute_57 rfl (fun h3 => ?_) (fun h3 => ?_)
    · refine G_aload_n C 0 dX9_minute_60 rfl ?_
      refine G_get C 0 0 dX9_minute_61 inlX9 uf_X9_10 rfl (by decide) rfl rfl rfl ?_
      refine G_callVv C 1 6 kd_X6_passMinute ui_X6_passMinute us_X6_passMinute um_X9_183 rfl rfl (Ct.chunk1 (cs := ro_C K A Y) (cs' := ro_C K A (yU Y 0 (s_X6_passMinute (Y 0)))) 1 rfl rfl (c_X6_passMinute l K (A 0) (Y 0))) dX9_minute_64 rfl rfl (Nat.le_of_ble_eq_true rfl) (Nat.le_of_ble_eq_true rfl) ?_
      refine G_iinc (lv' := [(3, .int (x3 + 1)), (0, .ref (A 4 0)), (1, .int x1), (2, .int x2)]) C 3 dX9_minute_67 rfl rfl (by decide) rfl ?_
      refine G_goto C 55 dX9_minute_70 rfl ?_
      refine G_sub [1, 2, 3, 0] rfl ?_
      exact ih (yU Y 0 (s_X6_passMinute (Y 0))) x1 x2 (x3 + 1) (by have := mu_up h3; omega)
    · refine G_aload_n C 0 dX9_minute_73 rfl ?_
      refine G_get C 0 0 dX9_minute_74 inlX9 uf_X9_10 rfl (by decide) rfl rfl rfl ?_
      refine G_get C 1 1 dX9_minute_77 inlX6 uf_X9_121 rfl (by decide) rfl rfl rfl ?_
      refine G_iconst C dX9_minute_80 (v := 1) rfl ?_
      refine G_callSi C kd_X9_at ut_X9_at um_X9_110 (c_at l K (ws := ro_W K A Y) (q0 := 3) (n := 9) (g := Y 0 1) (ad := (A 0 2)) (by decide) rfl 1) dX9_minute_81 rfl rfl (Nat.le_of_ble_eq_true rfl) (Nat.le_of_ble_eq_true rfl) ?_
      refine G_iload_n C 2 dX9_minute_84 rfl ?_
      refine G_isub C dX9_minute_85 ?_
      exact G_iret C dX9_minute_86 rfl
def p_X9_minute_L41 (Y : RS) (x1 : Int32) : Int32 × RS := p_X9_minute_L55 (mu 0 + 1) Y x1 (at_ 9 (Y 0 1) 1) 0
theorem g_X9_minute_L41 {l : Launch} {K : gK} {Γ : gT} {A : Nat → Nat → Nat} (C : Cx l K Γ RX9 cX9_minute 4 (some .int) 6) (Y : RS) (x1 : Int32) : G l K Γ (ro_W K A Y) 41 4 [(0, .ref (A 4 0)), (1, .int x1)] [] (fun (z : Int32 × RS) => (some (.int z.1), ro_W K A z.2)) (p_X9_minute_L41 Y x1) := by
  unfold p_X9_minute_L41
  refine G_aload_n C 0 dX9_minute_41 rfl ?_
  refine G_get C 0 0 dX9_minute_42 inlX9 uf_X9_10 rfl (by decide) rfl rfl rfl ?_
  refine G_get C 1 1 dX9_minute_45 inlX6 uf_X9_121 rfl (by decide) rfl rfl rfl ?_
  refine G_iconst C dX9_minute_48 (v := 1) rfl ?_
  refine G_callSi C kd_X9_at ut_X9_at um_X9_110 (c_at l K (ws := ro_W K A Y) (q0 := 3) (n := 9) (g := Y 0 1) (ad := (A 0 2)) (by decide) rfl 1) dX9_minute_49 rfl rfl (Nat.le_of_ble_eq_true rfl) (Nat.le_of_ble_eq_true rfl) ?_
  refine G_istore_n (lv' := [(2, .int (at_ 9 (Y 0 1) 1)), (0, .ref (A 4 0)), (1, .int x1)]) C dX9_minute_52 (by decide) rfl ?_
  refine G_iconst C dX9_minute_53 (v := 0) rfl ?_
  refine G_istore_n (lv' := [(3, .int 0), (2, .int (at_ 9 (Y 0 1) 1)), (0, .ref (A 4 0)), (1, .int x1)]) C dX9_minute_54 (by decide) rfl ?_
  refine G_sub [2, 3, 1, 0] rfl ?_
  exact g_X9_minute_L55 C _ Y x1 (at_ 9 (Y 0 1) 1) 0 (Nat.lt_succ_self _)
def p_X9_minute (Y : RS) (x1 : Int32) : Int32 × RS := if (v_X9_isWithin x1 1 100) = 0 then (-1, Y) else if (9999 - x1) < (Y 0 18 0) then (-3, Y) else p_X9_minute_L41 (s_X0_remember Y) x1
theorem c_X9_minute (l : Launch) (K : gK) (A : Nat → Nat → Nat) (Y : RS) (x1 : Int32) : Ct l K yX9_minute cX9_minute 4 (some .int) 6 [.ref (A 4 0), .int x1] (ro_W K A Y) (some (.int (p_X9_minute Y x1).1), ro_W K A ((p_X9_minute Y x1).2)) := by
  refine Ct.of (own := RX9) (fun (z : Int32 × RS) => (some (.int z.1), ro_W K A z.2)) (x := p_X9_minute Y x1) (by decide) rfl (Nat.le_of_ble_eq_true rfl) (fun Γ C => ?_)
  unfold p_X9_minute
  refine G_iload_n C 1 dX9_minute_0 rfl ?_
  refine G_iconst C dX9_minute_1 (v := 1) rfl ?_
  refine G_bipush C dX9_minute_2 (v := 100) rfl ?_
  refine G_callSi C kd_X9_isWithin ut_X9_isWithin um_X9_102 (c_X9_isWithin l K (ro_W K A Y) x1 1 100) dX9_minute_4 rfl rfl (Nat.le_of_ble_eq_true rfl) (Nat.le_of_ble_eq_true rfl) ?_
  refine G_if_ne C 12 dX9_minute_7 rfl (fun h1 => ?_) (fun h1 => ?_)
  · refine G_iconst C dX9_minute_10 (v := -1) rfl ?_
    exact G_iret C dX9_minute_11 rfl
  · refine G_aload_n C 0 dX9_minute_12 rfl ?_
    refine G_get C 0 0 dX9_minute_13 inlX9 uf_X9_10 rfl (by decide) rfl rfl rfl ?_
    refine G_get C 1 5 dX9_minute_16 inlX6 uf_X9_180 rfl (by decide) rfl rfl rfl ?_
    refine G_sipush C dX9_minute_19 (v := 9999) rfl ?_
    refine G_iload_n C 1 dX9_minute_22 rfl ?_
    refine G_isub C dX9_minute_23 ?_
    refine G_icmp_le C 30 dX9_minute_24 rfl (fun h2 => ?_) (fun h2 => ?_)
    · refine G_bipush C dX9_minute_27 (v := -3) rfl ?_
      exact G_iret C dX9_minute_29 rfl
    · refine G_aload_n C 0 dX9_minute_30 rfl ?_
      refine G_get C 0 1 dX9_minute_31 inlX9 uf_X9_19 rfl (by decide) rfl rfl rfl ?_
      refine G_aload_n C 0 dX9_minute_34 rfl ?_
      refine G_get C 0 0 dX9_minute_35 inlX9 uf_X9_10 rfl (by decide) rfl rfl rfl ?_
      refine G_callVv C 51 0 kd_X0_remember ui_X0_remember us_X0_remember um_X9_114 rfl rfl (c_X0_remember l K A Y) dX9_minute_38 rfl rfl (Nat.le_of_ble_eq_true rfl) (Nat.le_of_ble_eq_true rfl) ?_
      refine G_sub [0, 1] rfl ?_
      exact g_X9_minute_L41 C (s_X0_remember Y) x1
/-! X9_set -/
theorem kd_X9_set : Card yX9_set cX9_set 6 (some .int) 3 := ⟨uc_X9_set, un_X9, ⟨by decide, by decide, by decide⟩, by decide⟩
def p_X9_set (Y : RS) (x1 : Int32) (x2 : Int32) (x3 : Int32) : Int32 × RS := if (v_X2_has (Y 0) x1) = 0 then (-1, Y) else if (v_X9_isWithin x2 0 1) = 0 then (-1, Y) else if x2 = 0 then if (v_X9_isWithin x3 1 9) = 0 then (-1, Y) else if x2 = 0 then if (at_ 10 (Y 0 2) x1) = x3 then (-2, Y) else if x2 = 1 then if (v_X2_isNameTaken (Y 0) x3) = 0 then (at_ 10 (Y 0 2) x1, yU (yU (s_X0_remember Y) 0 (sU ((s_X0_remember Y) 0) 2 (put_ 10 ((s_X0_remember Y) 0 2) x1 x3))) 0 (s_X1_add ((yU (s_X0_remember Y) 0 (sU ((s_X0_remember Y) 0) 2 (put_ 10 ((s_X0_remember Y) 0 2) x1 x3))) 0) 10 ((10 * x1) + x2) (at_ 10 (Y 0 2) x1))) else (-4, Y) else (at_ 10 (Y 0 2) x1, yU (yU (s_X0_remember Y) 0 (sU ((s_X0_remember Y) 0) 2 (put_ 10 ((s_X0_remember Y) 0 2) x1 x3))) 0 (s_X1_add ((yU (s_X0_remember Y) 0 (sU ((s_X0_remember Y) 0) 2 (put_ 10 ((s_X0_remember Y) 0 2) x1 x3))) 0) 10 ((10 * x1) + x2) (at_ 10 (Y 0 2) x1))) else if (at_ 10 (Y 0 3) x1) = x3 then (-2, Y) else if x2 = 1 then if (v_X2_isNameTaken (Y 0) x3) = 0 then (at_ 10 (Y 0 3) x1, yU (yU (s_X0_remember Y) 0 (sU ((s_X0_remember Y) 0) 3 (put_ 10 ((s_X0_remember Y) 0 3) x1 x3))) 0 (s_X1_add ((yU (s_X0_remember Y) 0 (sU ((s_X0_remember Y) 0) 3 (put_ 10 ((s_X0_remember Y) 0 3) x1 x3))) 0) 10 ((10 * x1) + x2) (at_ 10 (Y 0 3) x1))) else (-4, Y) else (at_ 10 (Y 0 3) x1, yU (yU (s_X0_remember Y) 0 (sU ((s_X0_remember Y) 0) 3 (put_ 10 ((s_X0_remember Y) 0 3) x1 x3))) 0 (s_X1_add ((yU (s_X0_remember Y) 0 (sU ((s_X0_remember Y) 0) 3 (put_ 10 ((s_X0_remember Y) 0 3) x1 x3))) 0) 10 ((10 * x1) + x2) (at_ 10 (Y 0 3) x1))) else if (v_X9_isWithin x3 1 99) = 0 then (-1, Y) else if x2 = 0 then if (at_ 10 (Y 0 2) x1) = x3 then (-2, Y) else if x2 = 1 then if (v_X2_isNameTaken (Y 0) x3) = 0 then (at_ 10 (Y 0 2) x1, yU (yU (s_X0_remember Y) 0 (sU ((s_X0_remember Y) 0) 2 (put_ 10 ((s_X0_remember Y) 0 2) x1 x3))) 0 (s_X1_add ((yU (s_X0_remember Y) 0 (sU ((s_X0_remember Y) 0) 2 (put_ 10 ((s_X0_remember Y) 0 2) x1 x3))) 0) 10 ((10 * x1) + x2) (at_ 10 (Y 0 2) x1))) else (-4, Y) else (at_ 10 (Y 0 2) x1, yU (yU (s_X0_remember Y) 0 (sU ((s_X0_remember Y) 0) 2 (put_ 10 ((s_X0_remember Y) 0 2) x1 x3))) 0 (s_X1_add ((yU (s_X0_remember Y) 0 (sU ((s_X0_remember Y) 0) 2 (put_ 10 ((s_X0_remember Y) 0 2) x1 x3))) 0) 10 ((10 * x1) + x2) (at_ 10 (Y 0 2) x1))) else if (at_ 10 (Y 0 3) x1) = x3 then (-2, Y) else if x2 = 1 then if (v_X2_isNameTaken (Y 0) x3) = 0 then (at_ 10 (Y 0 3) x1, yU (yU (s_X0_remember Y) 0 (sU ((s_X0_remember Y) 0) 3 (put_ 10 ((s_X0_remember Y) 0 3) x1 x3))) 0 (s_X1_add ((yU (s_X0_remember Y) 0 (sU ((s_X0_remember Y) 0) 3 (put_ 10 ((s_X0_remember Y) 0 3) x1 x3))) 0) 10 ((10 * x1) + x2) (at_ 10 (Y 0 3) x1))) else (-4, Y) else (at_ 10 (Y 0 3) x1, yU (yU (s_X0_remember Y) 0 (sU ((s_X0_remember Y) 0) 3 (put_ 10 ((s_X0_remember Y) 0 3) x1 x3))) 0 (s_X1_add ((yU (s_X0_remember Y) 0 (sU ((s_X0_remember Y) 0) 3 (put_ 10 ((s_X0_remember Y) 0 3) x1 x3))) 0) 10 ((10 * x1) + x2) (at_ 10 (Y 0 3) x1)))
theorem c_X9_set (l : Launch) (K : gK) (A : Nat → Nat → Nat) (Y : RS) (x1 : Int32) (x2 : Int32) (x3 : Int32) : Ct l K yX9_set cX9_set 6 (some .int) 6 [.ref (A 4 0), .int x1, .int x2, .int x3] (ro_W K A Y) (some (.int (p_X9_set Y x1 x2 x3).1), ro_W K A ((p_X9_set Y x1 x2 x3).2)) := by
  refine Ct.of (own := RX9) (fun (z : Int32 × RS) => (some (.int z.1), ro_W K A z.2)) (x := p_X9_set Y x1 x2 x3) (by decide) rfl (Nat.le_of_ble_eq_true rfl) (fun Γ C => ?_)
  unfold p_X9_set
  refine G_aload_n C 0 dX9_set_0 rfl ?_
  refine G_get C 0 0 dX9_set_1 inlX9 uf_X9_10 rfl (by decide) rfl rfl rfl ?_
  refine G_get C 1 2 dX9_set_4 inlX6 uf_X9_89 rfl (by decide) rfl rfl rfl ?_
  refine G_iload_n C 1 dX9_set_7 rfl ?_
  refine G_callVi C 4 2 kd_X2_has ui_X2_has us_X2_has um_X9_98 rfl rfl (Ct.chunk1 (cs := ro_C K A Y) (cs' := ro_C K A Y) 1 rfl rfl (c_X2_has l K (A 0) (Y 0) x1)) dX9_set_8 rfl rfl (Nat.le_of_ble_eq_true rfl) (Nat.le_of_ble_eq_true rfl) ?_
  refine G_if_eq C 23 dX9_set_11 rfl (fun h1 => ?_) (fun h1 => ?_)
  · refine G_iconst C dX9_set_23 (v := -1) rfl ?_
    exact G_iret C dX9_set_24 rfl
  · refine G_iload_n C 2 dX9_set_14 rfl ?_
    refine G_iconst C dX9_set_15 (v := 0) rfl ?_
    refine G_iconst C dX9_set_16 (v := 1) rfl ?_
    refine G_callSi C kd_X9_isWithin ut_X9_isWithin um_X9_102 (c_X9_isWithin l K (ro_W K A Y) x2 0 1) dX9_set_17 rfl rfl (Nat.le_of_ble_eq_true rfl) (Nat.le_of_ble_eq_true rfl) ?_
    refine G_if_ne C 25 dX9_set_20 rfl (fun h2 => ?_) (fun h2 => ?_)
    · refine G_iconst C dX9_set_23 (v := -1) rfl ?_
      exact G_iret C dX9_set_24 rfl
    · refine G_iload_n C 3 dX9_set_25 rfl ?_
      refine G_iconst C dX9_set_26 (v := 1) rfl ?_
      refine G_iload_n C 2 dX9_set_27 rfl ?_
      refine G_if_ne C 36 dX9_set_28 rfl (fun h3 => ?_) (fun h3 => ?_)
      · refine G_bipush C dX9_set_31 (v := 9) rfl ?_
        refine G_goto C 38 dX9_set_33 rfl ?_
        refine G_callSi C kd_X9_isWithin ut_X9_isWithin um_X9_102 (c_X9_isWithin l K (ro_W K A Y) x3 1 9) dX9_set_38 rfl rfl (Nat.le_of_ble_eq_true rfl) (Nat.le_of_ble_eq_true rfl) ?_
        refine G_if_ne C 46 dX9_set_41 rfl (fun h4 => ?_) (fun h4 => ?_)
        · refine G_iconst C dX9_set_44 (v := -1) rfl ?_
          exact G_iret C dX9_set_45 rfl
        · refine G_iload_n C 2 dX9_set_46 rfl ?_
          refine G_if_ne C 63 dX9_set_47 rfl (fun h5 => ?_) (fun h5 => ?_)
          · refine G_aload_n C 0 dX9_set_50 rfl ?_
            refine G_get C 0 0 dX9_set_51 inlX9 uf_X9_10 rfl (by decide) rfl rfl rfl ?_
            refine G_get C 1 2 dX9_set_54 inlX6 uf_X9_89 rfl (by decide) rfl rfl rfl ?_
            refine G_get C 4 0 dX9_set_57 inlX2 uf_X9_186 rfl (by decide) rfl rfl rfl ?_
            refine G_goto C 73 dX9_set_60 rfl ?_
            refine G_astore (lv' := [(4, .ref (A 0 4)), (0, .ref (A 4 0)), (1, .int x1), (2, .int x2), (3, .int x3)]) C dX9_set_73 (by decide) rfl ?_
            refine G_aload C 0 dX9_set_75 rfl ?_
            refine G_iload_n C 2 dX9_set_77 rfl ?_
            refine G_callSi C kd_X9_at ut_X9_at um_X9_110 (c_at l K (ws := ro_W K A Y) (q0 := 5) (n := 10) (g := Y 0 2) (ad := (A 0 4)) (by decide) rfl x1) dX9_set_78 rfl rfl (Nat.le_of_ble_eq_true rfl) (Nat.le_of_ble_eq_true rfl) ?_
            refine G_istore (lv' := [(5, .int (at_ 10 (Y 0 2) x1)), (4, .ref (A 0 4)), (0, .ref (A 4 0)), (1, .int x1), (2, .int x2), (3, .int x3)]) C dX9_set_81 (by decide) rfl ?_
            refine G_iload C 0 dX9_set_83 rfl ?_
            refine G_iload_n C 5 dX9_set_85 rfl ?_
            refine G_icmp_ne C 92 dX9_set_86 rfl (fun h6 => ?_) (fun h6 => ?_)
            · refine G_bipush C dX9_set_89 (v := -2) rfl ?_
              exact G_iret C dX9_set_91 rfl
            · refine G_iload_n C 4 dX9_set_92 rfl ?_
              refine G_iconst C dX9_set_93 (v := 1) rfl ?_
              refine G_icmp_ne C 114 dX9_set_94 rfl (fun h7 => ?_) (fun h7 => ?_)
              · refine G_aload_n C 2 dX9_set_97 rfl ?_
                refine G_get C 0 0 dX9_set_98 inlX9 uf_X9_10 rfl (by decide) rfl rfl rfl ?_
                refine G_get C 1 2 dX9_set_101 inlX6 uf_X9_89 rfl (by decide) rfl rfl rfl ?_
                refine G_iload_n C 5 dX9_set_104 rfl ?_
                refine G_callVi C 4 2 kd_X2_isNameTaken ui_X2_isNameTaken us_X2_isNameTaken um_X9_192 rfl rfl (Ct.chunk1 (cs := ro_C K A Y) (cs' := ro_C K A Y) 1 rfl rfl (c_X2_isNameTaken l K (A 0) (Y 0) x3)) dX9_set_105 rfl rfl (Nat.le_of_ble_eq_true rfl) (Nat.le_of_ble_eq_true rfl) ?_
                refine G_if_eq C 114 dX9_set_108 rfl (fun h8 => ?_) (fun h8 => ?_)
                · refine G_aload_n C 2 dX9_set_114 rfl ?_
                  refine G_get C 0 1 dX9_set_115 inlX9 uf_X9_19 rfl (by decide) rfl rfl rfl ?_
                  refine G_aload_n C 2 dX9_set_118 rfl ?_
                  refine G_get C 0 0 dX9_set_119 inlX9 uf_X9_10 rfl (by decide) rfl rfl rfl ?_
                  refine G_callVv C 51 0 kd_X0_remember ui_X0_remember us_X0_remember um_X9_114 rfl rfl (c_X0_remember l K A Y) dX9_set_122 rfl rfl (Nat.le_of_ble_eq_true rfl) (Nat.le_of_ble_eq_true rfl) ?_
                  refine G_aload C 1 dX9_set_125 rfl ?_
                  refine G_iload_n C 3 dX9_set_127 rfl ?_
                  refine G_iload_n C 5 dX9_set_128 rfl ?_
                  refine G_callSv C kd_X9_put ut_X9_put um_X9_195 (Ct.to (r' := (none, ro_W K A (yU (s_X0_remember Y) 0 (sU ((s_X0_remember Y) 0) 2 (put_ 10 ((s_X0_remember Y) 0 2) x1 x3))))) (c_put l K (ws := ro_W K A (s_X0_remember Y)) (q0 := 5) (n := 10) (g := (s_X0_remember Y) 0 2) (ad := (A 0 4)) (by decide) rfl x1 x3) rfl) dX9_set_129 rfl rfl (Nat.le_of_ble_eq_true rfl) (Nat.le_of_ble_eq_true rfl) ?_
                  refine G_aload_n C 2 dX9_set_132 rfl ?_
                  refine G_get C 0 0 dX9_set_133 inlX9 uf_X9_10 rfl (by decide) rfl rfl rfl ?_
                  refine G_get C 1 4 dX9_set_136 inlX6 uf_X9_128 rfl (by decide) rfl rfl rfl ?_
                  refine G_bipush C dX9_set_139 (v := 10) rfl ?_
                  refine G_bipush C dX9_set_141 (v := 10) rfl ?_
                  refine G_iload_n C 3 dX9_set_143 rfl ?_
                  refine G_imul C dX9_set_144 ?_
                  refine G_iload_n C 4 dX9_set_145 rfl ?_
                  refine G_iadd C dX9_set_146 ?_
                  refine G_iload C 0 dX9_set_147 rfl ?_
                  refine G_callVv C 19 1 kd_X1_add ui_X1_add us_X1_add um_X9_132 rfl rfl (Ct.chunk1 (cs := ro_C K A (yU (s_X0_remember Y) 0 (sU ((s_X0_remember Y) 0) 2 (put_ 10 ((s_X0_remember Y) 0 2) x1 x3)))) (cs' := ro_C K A (yU (yU (s_X0_remember Y) 0 (sU ((s_X0_remember Y) 0) 2 (put_ 10 ((s_X0_remember Y) 0 2) x1 x3))) 0 (s_X1_add ((yU (s_X0_remember Y) 0 (sU ((s_X0_remember Y) 0) 2 (put_ 10 ((s_X0_remember Y) 0 2) x1 x3))) 0) 10 ((10 * x1) + x2) (at_ 10 (Y 0 2) x1)))) 1 rfl rfl (c_X1_add l K (A 0) ((yU (s_X0_remember Y) 0 (sU ((s_X0_remember Y) 0) 2 (put_ 10 ((s_X0_remember Y) 0 2) x1 x3))) 0) 10 ((10 * x1) + x2) (at_ 10 (Y 0 2) x1))) dX9_set_149 rfl rfl (Nat.le_of_ble_eq_true rfl) (Nat.le_of_ble_eq_true rfl) ?_
                  refine G_iload C 0 dX9_set_152 rfl ?_
                  exact G_iret C dX9_set_154 rfl
                · refine G_bipush C dX9_set_111 (v := -4) rfl ?_
                  exact G_iret C dX9_set_113 rfl
              · refine G_aload_n C 2 dX9_set_114 rfl ?_
                refine G_get C 0 1 dX9_set_115 inlX9 uf_X9_19 rfl (by decide) rfl rfl rfl ?_
                refine G_aload_n C 2 dX9_set_118 rfl ?_
                refine G_get C 0 0 dX9_set_119 inlX9 uf_X9_10 rfl (by decide) rfl rfl rfl ?_
                refine G_callVv C 51 0 kd_X0_remember ui_X0_remember us_X0_remember um_X9_114 rfl rfl (c_X0_remember l K A Y) dX9_set_122 rfl rfl (Nat.le_of_ble_eq_true rfl) (Nat.le_of_ble_eq_true rfl) ?_
                refine G_aload C 1 dX9_set_125 rfl ?_
                refine G_iload_n C 3 dX9_set_127 rfl ?_
                refine G_iload_n C 5 dX9_set_128 rfl ?_
                refine G_callSv C kd_X9_put ut_X9_put um_X9_195 (Ct.to (r' := (none, ro_W K A (yU (s_X0_remember Y) 0 (sU ((s_X0_remember Y) 0) 2 (put_ 10 ((s_X0_remember Y) 0 2) x1 x3))))) (c_put l K (ws := ro_W K A (s_X0_remember Y)) (q0 := 5) (n := 10) (g := (s_X0_remember Y) 0 2) (ad := (A 0 4)) (by decide) rfl x1 x3) rfl) dX9_set_129 rfl rfl (Nat.le_of_ble_eq_true rfl) (Nat.le_of_ble_eq_true rfl) ?_
                refine G_aload_n C 2 dX9_set_132 rfl ?_
                refine G_get C 0 0 dX9_set_133 inlX9 uf_X9_10 rfl (by decide) rfl rfl rfl ?_
                refine G_get C 1 4 dX9_set_136 inlX6 uf_X9_128 rfl (by decide) rfl rfl rfl ?_
                refine G_bipush C dX9_set_139 (v := 10) rfl ?_
                refine G_bipush C dX9_set_141 (v := 10) rfl ?_
                refine G_iload_n C 3 dX9_set_143 rfl ?_
                refine G_imul C dX9_set_144 ?_
                refine G_iload_n C 4 dX9_set_145 rfl ?_
                refine G_iadd C dX9_set_146 ?_
                refine G_iload C 0 dX9_set_147 rfl ?_
                refine G_callVv C 19 1 kd_X1_add ui_X1_add us_X1_add um_X9_132 rfl rfl (Ct.chunk1 (cs := ro_C K A (yU (s_X0_remember Y) 0 (sU ((s_X0_remember Y) 0) 2 (put_ 10 ((s_X0_remember Y) 0 2) x1 x3)))) (cs' := ro_C K A (yU (yU (s_X0_remember Y) 0 (sU ((s_X0_remember Y) 0) 2 (put_ 10 ((s_X0_remember Y) 0 2) x1 x3))) 0 (s_X1_add ((yU (s_X0_remember Y) 0 (sU ((s_X0_remember Y) 0) 2 (put_ 10 ((s_X0_remember Y) 0 2) x1 x3))) 0) 10 ((10 * x1) + x2) (at_ 10 (Y 0 2) x1)))) 1 rfl rfl (c_X1_add l K (A 0) ((yU (s_X0_remember Y) 0 (sU ((s_X0_remember Y) 0) 2 (put_ 10 ((s_X0_remember Y) 0 2) x1 x3))) 0) 10 ((10 * x1) + x2) (at_ 10 (Y 0 2) x1))) dX9_set_149 rfl rfl (Nat.le_of_ble_eq_true rfl) (Nat.le_of_ble_eq_true rfl) ?_
                refine G_iload C 0 dX9_set_152 rfl ?_
                exact G_iret C dX9_set_154 rfl
          · refine G_aload_n C 0 dX9_set_63 rfl ?_
            refine G_get C 0 0 dX9_set_64 inlX9 uf_X9_10 rfl (by decide) rfl rfl rfl ?_
            refine G_get C 1 2 dX9_set_67 inlX6 uf_X9_89 rfl (by decide) rfl rfl rfl ?_
            refine G_get C 4 1 dX9_set_70 inlX2 uf_X9_189 rfl (by decide) rfl rfl rfl ?_
            refine G_astore (lv' := [(4, .ref (A 0 5)), (0, .ref (A 4 0)), (1, .int x1), (2, .int x2), (3, .int x3)]) C dX9_set_73 (by decide) rfl ?_
            refine G_aload C 0 dX9_set_75 rfl ?_
            refine G_iload_n C 2 dX9_set_77 rfl ?_
            refine G_callSi C kd_X9_at ut_X9_at um_X9_110 (c_at l K (ws := ro_W K A Y) (q0 := 6) (n := 10) (g := Y 0 3) (ad := (A 0 5)) (by decide) rfl x1) dX9_set_78 rfl rfl (Nat.le_of_ble_eq_true rfl) (Nat.le_of_ble_eq_true rfl) ?_
            refine G_istore (lv' := [(5, .int (at_ 10 (Y 0 3) x1)), (4, .ref (A 0 5)), (0, .ref (A 4 0)), (1, .int x1), (2, .int x2), (3, .int x3)]) C dX9_set_81 (by decide) rfl ?_
            refine G_iload C 0 dX9_set_83 rfl ?_
            refine G_iload_n C 5 dX9_set_85 rfl ?_
            refine G_icmp_ne C 92 dX9_set_86 rfl (fun h9 => ?_) (fun h9 => ?_)
            · refine G_bipush C dX9_set_89 (v := -2) rfl ?_
              exact G_iret C dX9_set_91 rfl
            · refine G_iload_n C 4 dX9_set_92 rfl ?_
              refine G_iconst C dX9_set_93 (v := 1) rfl ?_
              refine G_icmp_ne C 114 dX9_set_94 rfl (fun h10 => ?_) (fun h10 => ?_)
              · refine G_aload_n C 2 dX9_set_97 rfl ?_
                refine G_get C 0 0 dX9_set_98 inlX9 uf_X9_10 rfl (by decide) rfl rfl rfl ?_
                refine G_get C 1 2 dX9_set_101 inlX6 uf_X9_89 rfl (by decide) rfl rfl rfl ?_
                refine G_iload_n C 5 dX9_set_104 rfl ?_
                refine G_callVi C 4 2 kd_X2_isNameTaken ui_X2_isNameTaken us_X2_isNameTaken um_X9_192 rfl rfl (Ct.chunk1 (cs := ro_C K A Y) (cs' := ro_C K A Y) 1 rfl rfl (c_X2_isNameTaken l K (A 0) (Y 0) x3)) dX9_set_105 rfl rfl (Nat.le_of_ble_eq_true rfl) (Nat.le_of_ble_eq_true rfl) ?_
                refine G_if_eq C 114 dX9_set_108 rfl (fun h11 => ?_) (fun h11 => ?_)
                · refine G_aload_n C 2 dX9_set_114 rfl ?_
                  refine G_get C 0 1 dX9_set_115 inlX9 uf_X9_19 rfl (by decide) rfl rfl rfl ?_
                  refine G_aload_n C 2 dX9_set_118 rfl ?_
                  refine G_get C 0 0 dX9_set_119 inlX9 uf_X9_10 rfl (by decide) rfl rfl rfl ?_
                  refine G_callVv C 51 0 kd_X0_remember ui_X0_remember us_X0_remember um_X9_114 rfl rfl (c_X0_remember l K A Y) dX9_set_122 rfl rfl (Nat.le_of_ble_eq_true rfl) (Nat.le_of_ble_eq_true rfl) ?_
                  refine G_aload C 1 dX9_set_125 rfl ?_
                  refine G_iload_n C 3 dX9_set_127 rfl ?_
                  refine G_iload_n C 5 dX9_set_128 rfl ?_
                  refine G_callSv C kd_X9_put ut_X9_put um_X9_195 (Ct.to (r' := (none, ro_W K A (yU (s_X0_remember Y) 0 (sU ((s_X0_remember Y) 0) 3 (put_ 10 ((s_X0_remember Y) 0 3) x1 x3))))) (c_put l K (ws := ro_W K A (s_X0_remember Y)) (q0 := 6) (n := 10) (g := (s_X0_remember Y) 0 3) (ad := (A 0 5)) (by decide) rfl x1 x3) rfl) dX9_set_129 rfl rfl (Nat.le_of_ble_eq_true rfl) (Nat.le_of_ble_eq_true rfl) ?_
                  refine G_aload_n C 2 dX9_set_132 rfl ?_
                  refine G_get C 0 0 dX9_set_133 inlX9 uf_X9_10 rfl (by decide) rfl rfl rfl ?_
                  refine G_get C 1 4 dX9_set_136 inlX6 uf_X9_128 rfl (by decide) rfl rfl rfl ?_
                  refine G_bipush C dX9_set_139 (v := 10) rfl ?_
                  refine G_bipush C dX9_set_141 (v := 10) rfl ?_
                  refine G_iload_n C 3 dX9_set_143 rfl ?_
                  refine G_imul C dX9_set_144 ?_
                  refine G_iload_n C 4 dX9_set_145 rfl ?_
                  refine G_iadd C dX9_set_146 ?_
                  refine G_iload C 0 dX9_set_147 rfl ?_
                  refine G_callVv C 19 1 kd_X1_add ui_X1_add us_X1_add um_X9_132 rfl rfl (Ct.chunk1 (cs := ro_C K A (yU (s_X0_remember Y) 0 (sU ((s_X0_remember Y) 0) 3 (put_ 10 ((s_X0_remember Y) 0 3) x1 x3)))) (cs' := ro_C K A (yU (yU (s_X0_remember Y) 0 (sU ((s_X0_remember Y) 0) 3 (put_ 10 ((s_X0_remember Y) 0 3) x1 x3))) 0 (s_X1_add ((yU (s_X0_remember Y) 0 (sU ((s_X0_remember Y) 0) 3 (put_ 10 ((s_X0_remember Y) 0 3) x1 x3))) 0) 10 ((10 * x1) + x2) (at_ 10 (Y 0 3) x1)))) 1 rfl rfl (c_X1_add l K (A 0) ((yU (s_X0_remember Y) 0 (sU ((s_X0_remember Y) 0) 3 (put_ 10 ((s_X0_remember Y) 0 3) x1 x3))) 0) 10 ((10 * x1) + x2) (at_ 10 (Y 0 3) x1))) dX9_set_149 rfl rfl (Nat.le_of_ble_eq_true rfl) (Nat.le_of_ble_eq_true rfl) ?_
                  refine G_iload C 0 dX9_set_152 rfl ?_
                  exact G_iret C dX9_set_154 rfl
                · refine G_bipush C dX9_set_111 (v := -4) rfl ?_
                  exact G_iret C dX9_set_113 rfl
              · refine G_aload_n C 2 dX9_set_114 rfl ?_
                refine G_get C 0 1 dX9_set_115 inlX9 uf_X9_19 rfl (by decide) rfl rfl rfl ?_
                refine G_aload_n C 2 dX9_set_118 rfl ?_
                refine G_get C 0 0 dX9_set_119 inlX9 uf_X9_10 rfl (by decide) rfl rfl rfl ?_
                refine G_callVv C 51 0 kd_X0_remember ui_X0_remember us_X0_remember um_X9_114 rfl rfl (c_X0_remember l K A Y) dX9_set_122 rfl rfl (Nat.le_of_ble_eq_true rfl) (Nat.le_of_ble_eq_true rfl) ?_
                refine G_aload C 1 dX9_set_125 rfl ?_
                refine G_iload_n C 3 dX9_set_127 rfl ?_
                refine G_iload_n C 5 dX9_set_128 rfl ?_
                refine G_callSv C kd_X9_put ut_X9_put um_X9_195 (Ct.to (r' := (none, ro_W K A (yU (s_X0_remember Y) 0 (sU ((s_X0_remember Y) 0) 3 (put_ 10 ((s_X0_remember Y) 0 3) x1 x3))))) (c_put l K (ws := ro_W K A (s_X0_remember Y)) (q0 := 6) (n := 10) (g := (s_X0_remember Y) 0 3) (ad := (A 0 5)) (by decide) rfl x1 x3) rfl) dX9_set_129 rfl rfl (Nat.le_of_ble_eq_true rfl) (Nat.le_of_ble_eq_true rfl) ?_
                refine G_aload_n C 2 dX9_set_132 rfl ?_
                refine G_get C 0 0 dX9_set_133 inlX9 uf_X9_10 rfl (by decide) rfl rfl rfl ?_
                refine G_get C 1 4 dX9_set_136 inlX6 uf_X9_128 rfl (by decide) rfl rfl rfl ?_
                refine G_bipush C dX9_set_139 (v := 10) rfl ?_
                refine G_bipush C dX9_set_141 (v := 10) rfl ?_
                refine G_iload_n C 3 dX9_set_143 rfl ?_
                refine G_imul C dX9_set_144 ?_
                refine G_iload_n C 4 dX9_set_145 rfl ?_
                refine G_iadd C dX9_set_146 ?_
                refine G_iload C 0 dX9_set_147 rfl ?_
                refine G_callVv C 19 1 kd_X1_add ui_X1_add us_X1_add um_X9_132 rfl rfl (Ct.chunk1 (cs := ro_C K A (yU (s_X0_remember Y) 0 (sU ((s_X0_remember Y) 0) 3 (put_ 10 ((s_X0_remember Y) 0 3) x1 x3)))) (cs' := ro_C K A (yU (yU (s_X0_remember Y) 0 (sU ((s_X0_remember Y) 0) 3 (put_ 10 ((s_X0_remember Y) 0 3) x1 x3))) 0 (s_X1_add ((yU (s_X0_remember Y) 0 (sU ((s_X0_remember Y) 0) 3 (put_ 10 ((s_X0_remember Y) 0 3) x1 x3))) 0) 10 ((10 * x1) + x2) (at_ 10 (Y 0 3) x1)))) 1 rfl rfl (c_X1_add l K (A 0) ((yU (s_X0_remember Y) 0 (sU ((s_X0_remember Y) 0) 3 (put_ 10 ((s_X0_remember Y) 0 3) x1 x3))) 0) 10 ((10 * x1) + x2) (at_ 10 (Y 0 3) x1))) dX9_set_149 rfl rfl (Nat.le_of_ble_eq_true rfl) (Nat.le_of_ble_eq_true rfl) ?_
                refine G_iload C 0 dX9_set_152 rfl ?_
                exact G_iret C dX9_set_154 rfl
      · refine G_bipush C dX9_set_36 (v := 99) rfl ?_
        refine G_callSi C kd_X9_isWithin ut_X9_isWithin um_X9_102 (c_X9_isWithin l K (ro_W K A Y) x3 1 99) dX9_set_38 rfl rfl (Nat.le_of_ble_eq_true rfl) (Nat.le_of_ble_eq_true rfl) ?_
        refine G_if_ne C 46 dX9_set_41 rfl (fun h12 => ?_) (fun h12 => ?_)
        · refine G_iconst C dX9_set_44 (v := -1) rfl ?_
          exact G_iret C dX9_set_45 rfl
        · refine G_iload_n C 2 dX9_set_46 rfl ?_
          refine G_if_ne C 63 dX9_set_47 rfl (fun h13 => ?_) (fun h13 => ?_)
          · refine G_aload_n C 0 dX9_set_50 rfl ?_
            refine G_get C 0 0 dX9_set_51 inlX9 uf_X9_10 rfl (by decide) rfl rfl rfl ?_
            refine G_get C 1 2 dX9_set_54 inlX6 uf_X9_89 rfl (by decide) rfl rfl rfl ?_
            refine G_get C 4 0 dX9_set_57 inlX2 uf_X9_186 rfl (by decide) rfl rfl rfl ?_
            refine G_goto C 73 dX9_set_60 rfl ?_
            refine G_astore (lv' := [(4, .ref (A 0 4)), (0, .ref (A 4 0)), (1, .int x1), (2, .int x2), (3, .int x3)]) C dX9_set_73 (by decide) rfl ?_
            refine G_aload C 0 dX9_set_75 rfl ?_
            refine G_iload_n C 2 dX9_set_77 rfl ?_
            refine G_callSi C kd_X9_at ut_X9_at um_X9_110 (c_at l K (ws := ro_W K A Y) (q0 := 5) (n := 10) (g := Y 0 2) (ad := (A 0 4)) (by decide) rfl x1) dX9_set_78 rfl rfl (Nat.le_of_ble_eq_true rfl) (Nat.le_of_ble_eq_true rfl) ?_
            refine G_istore (lv' := [(5, .int (at_ 10 (Y 0 2) x1)), (4, .ref (A 0 4)), (0, .ref (A 4 0)), (1, .int x1), (2, .int x2), (3, .int x3)]) C dX9_set_81 (by decide) rfl ?_
            refine G_iload C 0 dX9_set_83 rfl ?_
            refine G_iload_n C 5 dX9_set_85 rfl ?_
            refine G_icmp_ne C 92 dX9_set_86 rfl (fun h14 => ?_) (fun h14 => ?_)
            · refine G_bipush C dX9_set_89 (v := -2) rfl ?_
              exact G_iret C dX9_set_91 rfl
            · refine G_iload_n C 4 dX9_set_92 rfl ?_
              refine G_iconst C dX9_set_93 (v := 1) rfl ?_
              refine G_icmp_ne C 114 dX9_set_94 rfl (fun h15 => ?_) (fun h15 => ?_)
              · refine G_aload_n C 2 dX9_set_97 rfl ?_
                refine G_get C 0 0 dX9_set_98 inlX9 uf_X9_10 rfl (by decide) rfl rfl rfl ?_
                refine G_get C 1 2 dX9_set_101 inlX6 uf_X9_89 rfl (by decide) rfl rfl rfl ?_
                refine G_iload_n C 5 dX9_set_104 rfl ?_
                refine G_callVi C 4 2 kd_X2_isNameTaken ui_X2_isNameTaken us_X2_isNameTaken um_X9_192 rfl rfl (Ct.chunk1 (cs := ro_C K A Y) (cs' := ro_C K A Y) 1 rfl rfl (c_X2_isNameTaken l K (A 0) (Y 0) x3)) dX9_set_105 rfl rfl (Nat.le_of_ble_eq_true rfl) (Nat.le_of_ble_eq_true rfl) ?_
                refine G_if_eq C 114 dX9_set_108 rfl (fun h16 => ?_) (fun h16 => ?_)
                · refine G_aload_n C 2 dX9_set_114 rfl ?_
                  refine G_get C 0 1 dX9_set_115 inlX9 uf_X9_19 rfl (by decide) rfl rfl rfl ?_
                  refine G_aload_n C 2 dX9_set_118 rfl ?_
                  refine G_get C 0 0 dX9_set_119 inlX9 uf_X9_10 rfl (by decide) rfl rfl rfl ?_
                  refine G_callVv C 51 0 kd_X0_remember ui_X0_remember us_X0_remember um_X9_114 rfl rfl (c_X0_remember l K A Y) dX9_set_122 rfl rfl (Nat.le_of_ble_eq_true rfl) (Nat.le_of_ble_eq_true rfl) ?_
                  refine G_aload C 1 dX9_set_125 rfl ?_
                  refine G_iload_n C 3 dX9_set_127 rfl ?_
                  refine G_iload_n C 5 dX9_set_128 rfl ?_
                  refine G_callSv C kd_X9_put ut_X9_put um_X9_195 (Ct.to (r' := (none, ro_W K A (yU (s_X0_remember Y) 0 (sU ((s_X0_remember Y) 0) 2 (put_ 10 ((s_X0_remember Y) 0 2) x1 x3))))) (c_put l K (ws := ro_W K A (s_X0_remember Y)) (q0 := 5) (n := 10) (g := (s_X0_remember Y) 0 2) (ad := (A 0 4)) (by decide) rfl x1 x3) rfl) dX9_set_129 rfl rfl (Nat.le_of_ble_eq_true rfl) (Nat.le_of_ble_eq_true rfl) ?_
                  refine G_aload_n C 2 dX9_set_132 rfl ?_
                  refine G_get C 0 0 dX9_set_133 inlX9 uf_X9_10 rfl (by decide) rfl rfl rfl ?_
                  refine G_get C 1 4 dX9_set_136 inlX6 uf_X9_128 rfl (by decide) rfl rfl rfl ?_
                  refine G_bipush C dX9_set_139 (v := 10) rfl ?_
                  refine G_bipush C dX9_set_141 (v := 10) rfl ?_
                  refine G_iload_n C 3 dX9_set_143 rfl ?_
                  refine G_imul C dX9_set_144 ?_
                  refine G_iload_n C 4 dX9_set_145 rfl ?_
                  refine G_iadd C dX9_set_146 ?_
                  refine G_iload C 0 dX9_set_147 rfl ?_
                  refine G_callVv C 19 1 kd_X1_add ui_X1_add us_X1_add um_X9_132 rfl rfl (Ct.chunk1 (cs := ro_C K A (yU (s_X0_remember Y) 0 (sU ((s_X0_remember Y) 0) 2 (put_ 10 ((s_X0_remember Y) 0 2) x1 x3)))) (cs' := ro_C K A (yU (yU (s_X0_remember Y) 0 (sU ((s_X0_remember Y) 0) 2 (put_ 10 ((s_X0_remember Y) 0 2) x1 x3))) 0 (s_X1_add ((yU (s_X0_remember Y) 0 (sU ((s_X0_remember Y) 0) 2 (put_ 10 ((s_X0_remember Y) 0 2) x1 x3))) 0) 10 ((10 * x1) + x2) (at_ 10 (Y 0 2) x1)))) 1 rfl rfl (c_X1_add l K (A 0) ((yU (s_X0_remember Y) 0 (sU ((s_X0_remember Y) 0) 2 (put_ 10 ((s_X0_remember Y) 0 2) x1 x3))) 0) 10 ((10 * x1) + x2) (at_ 10 (Y 0 2) x1))) dX9_set_149 rfl rfl (Nat.le_of_ble_eq_true rfl) (Nat.le_of_ble_eq_true rfl) ?_
                  refine G_iload C 0 dX9_set_152 rfl ?_
                  exact G_iret C dX9_set_154 rfl
                · refine G_bipush C dX9_set_111 (v := -4) rfl ?_
                  exact G_iret C dX9_set_113 rfl
              · refine G_aload_n C 2 dX9_set_114 rfl ?_
                refine G_get C 0 1 dX9_set_115 inlX9 uf_X9_19 rfl (by decide) rfl rfl rfl ?_
                refine G_aload_n C 2 dX9_set_118 rfl ?_
                refine G_get C 0 0 dX9_set_119 inlX9 uf_X9_10 rfl (by decide) rfl rfl rfl ?_
                refine G_callVv C 51 0 kd_X0_remember ui_X0_remember us_X0_remember um_X9_114 rfl rfl (c_X0_remember l K A Y) dX9_set_122 rfl rfl (Nat.le_of_ble_eq_true rfl) (Nat.le_of_ble_eq_true rfl) ?_
                refine G_aload C 1 dX9_set_125 rfl ?_
                refine G_iload_n C 3 dX9_set_127 rfl ?_
                refine G_iload_n C 5 dX9_set_128 rfl ?_
                refine G_callSv C kd_X9_put ut_X9_put um_X9_195 (Ct.to (r' := (none, ro_W K A (yU (s_X0_remember Y) 0 (sU ((s_X0_remember Y) 0) 2 (put_ 10 ((s_X0_remember Y) 0 2) x1 x3))))) (c_put l K (ws := ro_W K A (s_X0_remember Y)) (q0 := 5) (n := 10) (g := (s_X0_remember Y) 0 2) (ad := (A 0 4)) (by decide) rfl x1 x3) rfl) dX9_set_129 rfl rfl (Nat.le_of_ble_eq_true rfl) (Nat.le_of_ble_eq_true rfl) ?_
                refine G_aload_n C 2 dX9_set_132 rfl ?_
                refine G_get C 0 0 dX9_set_133 inlX9 uf_X9_10 rfl (by decide) rfl rfl rfl ?_
                refine G_get C 1 4 dX9_set_136 inlX6 uf_X9_128 rfl (by decide) rfl rfl rfl ?_
                refine G_bipush C dX9_set_139 (v := 10) rfl ?_
                refine G_bipush C dX9_set_141 (v := 10) rfl ?_
                refine G_iload_n C 3 dX9_set_143 rfl ?_
                refine G_imul C dX9_set_144 ?_
                refine G_iload_n C 4 dX9_set_145 rfl ?_
                refine G_iadd C dX9_set_146 ?_
                refine G_iload C 0 dX9_set_147 rfl ?_
                refine G_callVv C 19 1 kd_X1_add ui_X1_add us_X1_add um_X9_132 rfl rfl (Ct.chunk1 (cs := ro_C K A (yU (s_X0_remember Y) 0 (sU ((s_X0_remember Y) 0) 2 (put_ 10 ((s_X0_remember Y) 0 2) x1 x3)))) (cs' := ro_C K A (yU (yU (s_X0_remember Y) 0 (sU ((s_X0_remember Y) 0) 2 (put_ 10 ((s_X0_remember Y) 0 2) x1 x3))) 0 (s_X1_add ((yU (s_X0_remember Y) 0 (sU ((s_X0_remember Y) 0) 2 (put_ 10 ((s_X0_remember Y) 0 2) x1 x3))) 0) 10 ((10 * x1) + x2) (at_ 10 (Y 0 2) x1)))) 1 rfl rfl (c_X1_add l K (A 0) ((yU (s_X0_remember Y) 0 (sU ((s_X0_remember Y) 0) 2 (put_ 10 ((s_X0_remember Y) 0 2) x1 x3))) 0) 10 ((10 * x1) + x2) (at_ 10 (Y 0 2) x1))) dX9_set_149 rfl rfl (Nat.le_of_ble_eq_true rfl) (Nat.le_of_ble_eq_true rfl) ?_
                refine G_iload C 0 dX9_set_152 rfl ?_
                exact G_iret C dX9_set_154 rfl
          · refine G_aload_n C 0 dX9_set_63 rfl ?_
            refine G_get C 0 0 dX9_set_64 inlX9 uf_X9_10 rfl (by decide) rfl rfl rfl ?_
            refine G_get C 1 2 dX9_set_67 inlX6 uf_X9_89 rfl (by decide) rfl rfl rfl ?_
            refine G_get C 4 1 dX9_set_70 inlX2 uf_X9_189 rfl (by decide) rfl rfl rfl ?_
            refine G_astore (lv' := [(4, .ref (A 0 5)), (0, .ref (A 4 0)), (1, .int x1), (2, .int x2), (3, .int x3)]) C dX9_set_73 (by decide) rfl ?_
            refine G_aload C 0 dX9_set_75 rfl ?_
            refine G_iload_n C 2 dX9_set_77 rfl ?_
            refine G_callSi C kd_X9_at ut_X9_at um_X9_110 (c_at l K (ws := ro_W K A Y) (q0 := 6) (n := 10) (g := Y 0 3) (ad := (A 0 5)) (by decide) rfl x1) dX9_set_78 rfl rfl (Nat.le_of_ble_eq_true rfl) (Nat.le_of_ble_eq_true rfl) ?_
            refine G_istore (lv' := [(5, .int (at_ 10 (Y 0 3) x1)), (4, .ref (A 0 5)), (0, .ref (A 4 0)), (1, .int x1), (2, .int x2), (3, .int x3)]) C dX9_set_81 (by decide) rfl ?_
            refine G_iload C 0 dX9_set_83 rfl ?_
            refine G_iload_n C 5 dX9_set_85 rfl ?_
            refine G_icmp_ne C 92 dX9_set_86 rfl (fun h17 => ?_) (fun h17 => ?_)
            · refine G_bipush C dX9_set_89 (v := -2) rfl ?_
              exact G_iret C dX9_set_91 rfl
            · refine G_iload_n C 4 dX9_set_92 rfl ?_
              refine G_iconst C dX9_set_93 (v := 1) rfl ?_
              refine G_icmp_ne C 114 dX9_set_94 rfl (fun h18 => ?_) (fun h18 => ?_)
              · refine G_aload_n C 2 dX9_set_97 rfl ?_
                refine G_get C 0 0 dX9_set_98 inlX9 uf_X9_10 rfl (by decide) rfl rfl rfl ?_
                refine G_get C 1 2 dX9_set_101 inlX6 uf_X9_89 rfl (by decide) rfl rfl rfl ?_
                refine G_iload_n C 5 dX9_set_104 rfl ?_
                refine G_callVi C 4 2 kd_X2_isNameTaken ui_X2_isNameTaken us_X2_isNameTaken um_X9_192 rfl rfl (Ct.chunk1 (cs := ro_C K A Y) (cs' := ro_C K A Y) 1 rfl rfl (c_X2_isNameTaken l K (A 0) (Y 0) x3)) dX9_set_105 rfl rfl (Nat.le_of_ble_eq_true rfl) (Nat.le_of_ble_eq_true rfl) ?_
                refine G_if_eq C 114 dX9_set_108 rfl (fun h19 => ?_) (fun h19 => ?_)
                · refine G_aload_n C 2 dX9_set_114 rfl ?_
                  refine G_get C 0 1 dX9_set_115 inlX9 uf_X9_19 rfl (by decide) rfl rfl rfl ?_
                  refine G_aload_n C 2 dX9_set_118 rfl ?_
                  refine G_get C 0 0 dX9_set_119 inlX9 uf_X9_10 rfl (by decide) rfl rfl rfl ?_
                  refine G_callVv C 51 0 kd_X0_remember ui_X0_remember us_X0_remember um_X9_114 rfl rfl (c_X0_remember l K A Y) dX9_set_122 rfl rfl (Nat.le_of_ble_eq_true rfl) (Nat.le_of_ble_eq_true rfl) ?_
                  refine G_aload C 1 dX9_set_125 rfl ?_
                  refine G_iload_n C 3 dX9_set_127 rfl ?_
                  refine G_iload_n C 5 dX9_set_128 rfl ?_
                  refine G_callSv C kd_X9_put ut_X9_put um_X9_195 (Ct.to (r' := (none, ro_W K A (yU (s_X0_remember Y) 0 (sU ((s_X0_remember Y) 0) 3 (put_ 10 ((s_X0_remember Y) 0 3) x1 x3))))) (c_put l K (ws := ro_W K A (s_X0_remember Y)) (q0 := 6) (n := 10) (g := (s_X0_remember Y) 0 3) (ad := (A 0 5)) (by decide) rfl x1 x3) rfl) dX9_set_129 rfl rfl (Nat.le_of_ble_eq_true rfl) (Nat.le_of_ble_eq_true rfl) ?_
                  refine G_aload_n C 2 dX9_set_132 rfl ?_
                  refine G_get C 0 0 dX9_set_133 inlX9 uf_X9_10 rfl (by decide) rfl rfl rfl ?_
                  refine G_get C 1 4 dX9_set_136 inlX6 uf_X9_128 rfl (by decide) rfl rfl rfl ?_
                  refine G_bipush C dX9_set_139 (v := 10) rfl ?_
                  refine G_bipush C dX9_set_141 (v := 10) rfl ?_
                  refine G_iload_n C 3 dX9_set_143 rfl ?_
                  refine G_imul C dX9_set_144 ?_
                  refine G_iload_n C 4 dX9_set_145 rfl ?_
                  refine G_iadd C dX9_set_146 ?_
                  refine G_iload C 0 dX9_set_147 rfl ?_
                  refine G_callVv C 19 1 kd_X1_add ui_X1_add us_X1_add um_X9_132 rfl rfl (Ct.chunk1 (cs := ro_C K A (yU (s_X0_remember Y) 0 (sU ((s_X0_remember Y) 0) 3 (put_ 10 ((s_X0_remember Y) 0 3) x1 x3)))) (cs' := ro_C K A (yU (yU (s_X0_remember Y) 0 (sU ((s_X0_remember Y) 0) 3 (put_ 10 ((s_X0_remember Y) 0 3) x1 x3))) 0 (s_X1_add ((yU (s_X0_remember Y) 0 (sU ((s_X0_remember Y) 0) 3 (put_ 10 ((s_X0_remember Y) 0 3) x1 x3))) 0) 10 ((10 * x1) + x2) (at_ 10 (Y 0 3) x1)))) 1 rfl rfl (c_X1_add l K (A 0) ((yU (s_X0_remember Y) 0 (sU ((s_X0_remember Y) 0) 3 (put_ 10 ((s_X0_remember Y) 0 3) x1 x3))) 0) 10 ((10 * x1) + x2) (at_ 10 (Y 0 3) x1))) dX9_set_149 rfl rfl (Nat.le_of_ble_eq_true rfl) (Nat.le_of_ble_eq_true rfl) ?_
                  refine G_iload C 0 dX9_set_152 rfl ?_
                  exact G_iret C dX9_set_154 rfl
                · refine G_bipush C dX9_set_111 (v := -4) rfl ?_
                  exact G_iret C dX9_set_113 rfl
              · refine G_aload_n C 2 dX9_set_114 rfl ?_
                refine G_get C 0 1 dX9_set_115 inlX9 uf_X9_19 rfl (by decide) rfl rfl rfl ?_
                refine G_aload_n C 2 dX9_set_118 rfl ?_
                refine G_get C 0 0 dX9_set_119 inlX9 uf_X9_10 rfl (by decide) rfl rfl rfl ?_
                refine G_callVv C 51 0 kd_X0_remember ui_X0_remember us_X0_remember um_X9_114 rfl rfl (c_X0_remember l K A Y) dX9_set_122 rfl rfl (Nat.le_of_ble_eq_true rfl) (Nat.le_of_ble_eq_true rfl) ?_
                refine G_aload C 1 dX9_set_125 rfl ?_
                refine G_iload_n C 3 dX9_set_127 rfl ?_
                refine G_iload_n C 5 dX9_set_128 rfl ?_
                refine G_callSv C kd_X9_put ut_X9_put um_X9_195 (Ct.to (r' := (none, ro_W K A (yU (s_X0_remember Y) 0 (sU ((s_X0_remember Y) 0) 3 (put_ 10 ((s_X0_remember Y) 0 3) x1 x3))))) (c_put l K (ws := ro_W K A (s_X0_remember Y)) (q0 := 6) (n := 10) (g := (s_X0_remember Y) 0 3) (ad := (A 0 5)) (by decide) rfl x1 x3) rfl) dX9_set_129 rfl rfl (Nat.le_of_ble_eq_true rfl) (Nat.le_of_ble_eq_true rfl) ?_
                refine G_aload_n C 2 dX9_set_132 rfl ?_
                refine G_get C 0 0 dX9_set_133 inlX9 uf_X9_10 rfl (by decide) rfl rfl rfl ?_
                refine G_get C 1 4 dX9_set_136 inlX6 uf_X9_128 rfl (by decide) rfl rfl rfl ?_
                refine G_bipush C dX9_set_139 (v := 10) rfl ?_
                refine G_bipush C dX9_set_141 (v := 10) rfl ?_
                refine G_iload_n C 3 dX9_set_143 rfl ?_
                refine G_imul C dX9_set_144 ?_
                refine G_iload_n C 4 dX9_set_145 rfl ?_
                refine G_iadd C dX9_set_146 ?_
                refine G_iload C 0 dX9_set_147 rfl ?_
                refine G_callVv C 19 1 kd_X1_add ui_X1_add us_X1_add um_X9_132 rfl rfl (Ct.chunk1 (cs := ro_C K A (yU (s_X0_remember Y) 0 (sU ((s_X0_remember Y) 0) 3 (put_ 10 ((s_X0_remember Y) 0 3) x1 x3)))) (cs' := ro_C K A (yU (yU (s_X0_remember Y) 0 (sU ((s_X0_remember Y) 0) 3 (put_ 10 ((s_X0_remember Y) 0 3) x1 x3))) 0 (s_X1_add ((yU (s_X0_remember Y) 0 (sU ((s_X0_remember Y) 0) 3 (put_ 10 ((s_X0_remember Y) 0 3) x1 x3))) 0) 10 ((10 * x1) + x2) (at_ 10 (Y 0 3) x1)))) 1 rfl rfl (c_X1_add l K (A 0) ((yU (s_X0_remember Y) 0 (sU ((s_X0_remember Y) 0) 3 (put_ 10 ((s_X0_remember Y) 0 3) x1 x3))) 0) 10 ((10 * x1) + x2) (at_ 10 (Y 0 3) x1))) dX9_set_149 rfl rfl (Nat.le_of_ble_eq_true rfl) (Nat.le_of_ble_eq_true rfl) ?_
                refine G_iload C 0 dX9_set_152 rfl ?_
                exact G_iret C dX9_set_154 rfl
/-! X9_rule -/
theorem kd_X9_rule : Card yX9_rule cX9_rule 4 (some .int) 2 := ⟨uc_X9_rule, un_X9, ⟨by decide, by decide, by decide⟩, by decide⟩
def p_X9_rule_L53 (Y : RS) (x1 : Int32) (x2 : Int32) (x3 : Int32) : Int32 × RS := (x3, yU Y 0 (s_X1_add (Y 0) 8 x1 x3))
theorem g_X9_rule_L53 {l : Launch} {K : gK} {Γ : gT} {A : Nat → Nat → Nat} (C : Cx l K Γ RX9 cX9_rule 4 (some .int) 6) (Y : RS) (x1 : Int32) (x2 : Int32) (x3 : Int32) : G l K Γ (ro_W K A Y) 53 4 [(0, .ref (A 4 0)), (1, .int x1), (2, .int x2), (3, .int x3)] [] (fun (z : Int32 × RS) => (some (.int z.1), ro_W K A z.2)) (p_X9_rule_L53 Y x1 x2 x3) := by
  unfold p_X9_rule_L53
  refine G_aload_n C 0 dX9_rule_53 rfl ?_
  refine G_get C 0 0 dX9_rule_54 inlX9 uf_X9_10 rfl (by decide) rfl rfl rfl ?_
  refine G_get C 1 4 dX9_rule_57 inlX6 uf_X9_128 rfl (by decide) rfl rfl rfl ?_
  refine G_bipush C dX9_rule_60 (v := 8) rfl ?_
  refine G_iload_n C 1 dX9_rule_62 rfl ?_
  refine G_iload_n C 3 dX9_rule_63 rfl ?_
  refine G_callVv C 19 1 kd_X1_add ui_X1_add us_X1_add um_X9_132 rfl rfl (Ct.chunk1 (cs := ro_C K A Y) (cs' := ro_C K A (yU Y 0 (s_X1_add (Y 0) 8 x1 x3))) 1 rfl rfl (c_X1_add l K (A 0) (Y 0) 8 x1 x3)) dX9_rule_64 rfl rfl (Nat.le_of_ble_eq_true rfl) (Nat.le_of_ble_eq_true rfl) ?_
  refine G_iload_n C 3 dX9_rule_67 rfl ?_
  exact G_iret C dX9_rule_68 rfl
def p_X9_rule_L41 (Y : RS) (x1 : Int32) (x2 : Int32) (x3 : Int32) : Int32 × RS := p_X9_rule_L53 (yU Y 0 (sU (Y 0) 0 (put_ 3 (Y 0 0) x1 x2))) x1 x2 x3
theorem g_X9_rule_L41 {l : Launch} {K : gK} {Γ : gT} {A : Nat → Nat → Nat} (C : Cx l K Γ RX9 cX9_rule 4 (some .int) 6) (Y : RS) (x1 : Int32) (x2 : Int32) (x3 : Int32) : G l K Γ (ro_W K A Y) 41 4 [(0, .ref (A 4 0)), (1, .int x1), (2, .int x2), (3, .int x3)] [] (fun (z : Int32 × RS) => (some (.int z.1), ro_W K A z.2)) (p_X9_rule_L41 Y x1 x2 x3) := by
  unfold p_X9_rule_L41
  refine G_aload_n C 0 dX9_rule_41 rfl ?_
  refine G_get C 0 0 dX9_rule_42 inlX9 uf_X9_10 rfl (by decide) rfl rfl rfl ?_
  refine G_get C 1 0 dX9_rule_45 inlX6 uf_X9_203 rfl (by decide) rfl rfl rfl ?_
  refine G_iload_n C 1 dX9_rule_48 rfl ?_
  refine G_iload_n C 2 dX9_rule_49 rfl ?_
  refine G_callSv C kd_X9_put ut_X9_put um_X9_195 (Ct.to (r' := (none, ro_W K A (yU Y 0 (sU (Y 0) 0 (put_ 3 (Y 0 0) x1 x2))))) (c_put l K (ws := ro_W K A Y) (q0 := 2) (n := 3) (g := Y 0 0) (ad := (A 0 1)) (by decide) rfl x1 x2) rfl) dX9_rule_50 rfl rfl (Nat.le_of_ble_eq_true rfl) (Nat.le_of_ble_eq_true rfl) ?_
  refine G_sub [0, 1, 2, 3] rfl ?_
  exact g_X9_rule_L53 C (yU Y 0 (sU (Y 0) 0 (put_ 3 (Y 0 0) x1 x2))) x1 x2 x3
def p_X9_rule (Y : RS) (x1 : Int32) (x2 : Int32) : Int32 × RS := if (v_X9_isRule x1 x2) = 0 then (-1, Y) else if (at_ 3 (Y 0 0) x1) = x2 then (-2, Y) else p_X9_rule_L41 (s_X0_remember Y) x1 x2 (at_ 3 (Y 0 0) x1)
theorem c_X9_rule (l : Launch) (K : gK) (A : Nat → Nat → Nat) (Y : RS) (x1 : Int32) (x2 : Int32) : Ct l K yX9_rule cX9_rule 4 (some .int) 6 [.ref (A 4 0), .int x1, .int x2] (ro_W K A Y) (some (.int (p_X9_rule Y x1 x2).1), ro_W K A ((p_X9_rule Y x1 x2).2)) := by
  refine Ct.of (own := RX9) (fun (z : Int32 × RS) => (some (.int z.1), ro_W K A z.2)) (x := p_X9_rule Y x1 x2) (by decide) rfl (Nat.le_of_ble_eq_true rfl) (fun Γ C => ?_)
  unfold p_X9_rule
  refine G_iload_n C 1 dX9_rule_0 rfl ?_
  refine G_iload_n C 2 dX9_rule_1 rfl ?_
  refine G_callSi C kd_X9_isRule ut_X9_isRule um_X9_199 (c_X9_isRule l K (ro_W K A Y) x1 x2) dX9_rule_2 rfl rfl (Nat.le_of_ble_eq_true rfl) (Nat.le_of_ble_eq_true rfl) ?_
  refine G_if_ne C 10 dX9_rule_5 rfl (fun h1 => ?_) (fun h1 => ?_)
  · refine G_iconst C dX9_rule_8 (v := -1) rfl ?_
    exact G_iret C dX9_rule_9 rfl
  · refine G_aload_n C 0 dX9_rule_10 rfl ?_
    refine G_get C 0 0 dX9_rule_11 inlX9 uf_X9_10 rfl (by decide) rfl rfl rfl ?_
    refine G_get C 1 0 dX9_rule_14 inlX6 uf_X9_203 rfl (by decide) rfl rfl rfl ?_
    refine G_iload_n C 1 dX9_rule_17 rfl ?_
    refine G_callSi C kd_X9_at ut_X9_at um_X9_110 (c_at l K (ws := ro_W K A Y) (q0 := 2) (n := 3) (g := Y 0 0) (ad := (A 0 1)) (by decide) rfl x1) dX9_rule_18 rfl rfl (Nat.le_of_ble_eq_true rfl) (Nat.le_of_ble_eq_true rfl) ?_
    refine G_istore_n (lv' := [(3, .int (at_ 3 (Y 0 0) x1)), (0, .ref (A 4 0)), (1, .int x1), (2, .int x2)]) C dX9_rule_21 (by decide) rfl ?_
    refine G_iload_n C 0 dX9_rule_22 rfl ?_
    refine G_iload_n C 3 dX9_rule_23 rfl ?_
    refine G_icmp_ne C 30 dX9_rule_24 rfl (fun h2 => ?_) (fun h2 => ?_)
    · refine G_bipush C dX9_rule_27 (v := -2) rfl ?_
      exact G_iret C dX9_rule_29 rfl
    · refine G_aload_n C 1 dX9_rule_30 rfl ?_
      refine G_get C 0 1 dX9_rule_31 inlX9 uf_X9_19 rfl (by decide) rfl rfl rfl ?_
      refine G_aload_n C 1 dX9_rule_34 rfl ?_
      refine G_get C 0 0 dX9_rule_35 inlX9 uf_X9_10 rfl (by decide) rfl rfl rfl ?_
      refine G_callVv C 51 0 kd_X0_remember ui_X0_remember us_X0_remember um_X9_114 rfl rfl (c_X0_remember l K A Y) dX9_rule_38 rfl rfl (Nat.le_of_ble_eq_true rfl) (Nat.le_of_ble_eq_true rfl) ?_
      refine G_sub [1, 2, 3, 0] rfl ?_
      exact g_X9_rule_L41 C (s_X0_remember Y) x1 x2 (at_ 3 (Y 0 0) x1)
/-! X9_keep -/
theorem kd_X9_keep : Card yX9_keep cX9_keep 2 (some .int) 1 := ⟨uc_X9_keep, un_X9, ⟨by decide, by decide, by decide⟩, by decide⟩
def p_X9_keep_L23 (Y : RS) (x1 : Int32) : Int32 × RS := (Y 0 18 0, Y)
theorem g_X9_keep_L23 {l : Launch} {K : gK} {Γ : gT} {A : Nat → Nat → Nat} (C : Cx l K Γ RX9 cX9_keep 2 (some .int) 5) (Y : RS) (x1 : Int32) : G l K Γ (ro_W K A Y) 23 2 [(0, .ref (A 4 0)), (1, .int x1)] [] (fun (z : Int32 × RS) => (some (.int z.1), ro_W K A z.2)) (p_X9_keep_L23 Y x1) := by
  unfold p_X9_keep_L23
  refine G_aload_n C 0 dX9_keep_23 rfl ?_
  refine G_get C 0 0 dX9_keep_24 inlX9 uf_X9_10 rfl (by decide) rfl rfl rfl ?_
  refine G_get C 1 5 dX9_keep_27 inlX6 uf_X9_180 rfl (by decide) rfl rfl rfl ?_
  exact G_iret C dX9_keep_30 rfl
def p_X9_keep (Y : RS) (x1 : Int32) : Int32 × RS := if (v_X9_isWithin x1 0 1) = 0 then (-1, Y) else p_X9_keep_L23 (s_X5_fill Y x1) x1
theorem c_X9_keep (l : Launch) (K : gK) (A : Nat → Nat → Nat) (Y : RS) (x1 : Int32) : Ct l K yX9_keep cX9_keep 2 (some .int) 5 [.ref (A 4 0), .int x1] (ro_W K A Y) (some (.int (p_X9_keep Y x1).1), ro_W K A ((p_X9_keep Y x1).2)) := by
  refine Ct.of (own := RX9) (fun (z : Int32 × RS) => (some (.int z.1), ro_W K A z.2)) (x := p_X9_keep Y x1) (by decide) rfl (Nat.le_of_ble_eq_true rfl) (fun Γ C => ?_)
  unfold p_X9_keep
  refine G_iload_n C 1 dX9_keep_0 rfl ?_
  refine G_iconst C dX9_keep_1 (v := 0) rfl ?_
  refine G_iconst C dX9_keep_2 (v := 1) rfl ?_
  refine G_callSi C kd_X9_isWithin ut_X9_isWithin um_X9_102 (c_X9_isWithin l K (ro_W K A Y) x1 0 1) dX9_keep_3 rfl rfl (Nat.le_of_ble_eq_true rfl) (Nat.le_of_ble_eq_true rfl) ?_
  refine G_if_ne C 11 dX9_keep_6 rfl (fun h1 => ?_) (fun h1 => ?_)
  · refine G_iconst C dX9_keep_9 (v := -1) rfl ?_
    exact G_iret C dX9_keep_10 rfl
  · refine G_aload_n C 0 dX9_keep_11 rfl ?_
    refine G_get C 0 2 dX9_keep_12 inlX9 uf_X9_26 rfl (by decide) rfl rfl rfl ?_
    refine G_iload_n C 1 dX9_keep_15 rfl ?_
    refine G_aload_n C 0 dX9_keep_16 rfl ?_
    refine G_get C 0 0 dX9_keep_17 inlX9 uf_X9_10 rfl (by decide) rfl rfl rfl ?_
    refine G_callVv C 53 5 kd_X5_fill ui_X5_fill us_X5_fill um_X9_206 rfl rfl (c_X5_fill l K A Y x1) dX9_keep_20 rfl rfl (Nat.le_of_ble_eq_true rfl) (Nat.le_of_ble_eq_true rfl) ?_
    refine G_sub [0, 1] rfl ?_
    exact g_X9_keep_L23 C (s_X5_fill Y x1) x1
/-! X9_undo -/
theorem kd_X9_undo : Card yX9_undo cX9_undo 1 (some .int) 0 := ⟨uc_X9_undo, un_X9, ⟨by decide, by decide, by decide⟩, by decide⟩
def p_X9_undo_L23 (Y : RS) : Int32 × RS := (Y 4 0 3, Y)
theorem g_X9_undo_L23 {l : Launch} {K : gK} {Γ : gT} {A : Nat → Nat → Nat} (C : Cx l K Γ RX9 cX9_undo 1 (some .int) 5) (Y : RS) : G l K Γ (ro_W K A Y) 23 1 [(0, .ref (A 4 0))] [] (fun (z : Int32 × RS) => (some (.int z.1), ro_W K A z.2)) (p_X9_undo_L23 Y) := by
  unfold p_X9_undo_L23
  refine G_aload_n C 0 dX9_undo_23 rfl ?_
  refine G_get C 0 1 dX9_undo_24 inlX9 uf_X9_19 rfl (by decide) rfl rfl rfl ?_
  refine G_get C 51 2 dX9_undo_27 inlX0 uf_X9_214 rfl (by decide) rfl rfl rfl ?_
  exact G_iret C dX9_undo_30 rfl
def p_X9_undo (Y : RS) : Int32 × RS := if (Y 4 0 3) = 0 then (-1, Y) else p_X9_undo_L23 (s_X0_takeBack Y)
theorem c_X9_undo (l : Launch) (K : gK) (A : Nat → Nat → Nat) (Y : RS) : Ct l K yX9_undo cX9_undo 1 (some .int) 5 [.ref (A 4 0)] (ro_W K A Y) (some (.int (p_X9_undo Y).1), ro_W K A ((p_X9_undo Y).2)) := by
  refine Ct.of (own := RX9) (fun (z : Int32 × RS) => (some (.int z.1), ro_W K A z.2)) (x := p_X9_undo Y) (by decide) rfl (Nat.le_of_ble_eq_true rfl) (fun Γ C => ?_)
  unfold p_X9_undo
  refine G_aload_n C 0 dX9_undo_0 rfl ?_
  refine G_get C 0 1 dX9_undo_1 inlX9 uf_X9_19 rfl (by decide) rfl rfl rfl ?_
  refine G_get C 51 2 dX9_undo_4 inlX0 uf_X9_214 rfl (by decide) rfl rfl rfl ?_
  refine G_if_ne C 12 dX9_undo_7 rfl (fun h1 => ?_) (fun h1 => ?_)
  · refine G_iconst C dX9_undo_10 (v := -1) rfl ?_
    exact G_iret C dX9_undo_11 rfl
  · refine G_aload_n C 0 dX9_undo_12 rfl ?_
    refine G_get C 0 1 dX9_undo_13 inlX9 uf_X9_19 rfl (by decide) rfl rfl rfl ?_
    refine G_aload_n C 0 dX9_undo_16 rfl ?_
    refine G_get C 0 0 dX9_undo_17 inlX9 uf_X9_10 rfl (by decide) rfl rfl rfl ?_
    refine G_callVv C 51 0 kd_X0_takeBack ui_X0_takeBack us_X0_takeBack um_X9_215 rfl rfl (c_X0_takeBack l K A Y) dX9_undo_20 rfl rfl (Nat.le_of_ble_eq_true rfl) (Nat.le_of_ble_eq_true rfl) ?_
    refine G_sub [0] rfl ?_
    exact g_X9_undo_L23 C (s_X0_takeBack Y)
/-! X9_value -/
theorem kd_X9_value : Card yX9_value cX9_value 2 (some .int) 1 := ⟨uc_X9_value, un_X9, ⟨by decide, by decide, by decide⟩, by decide⟩
def v_X9_value (Y : RS) (x1 : Int32) : Int32 := if (v_X9_isWithin x1 0 2) = 0 then if (v_X9_isWithin x1 10 18) = 0 then if x1 = 3 then Y 0 18 0 else if x1 = 4 then Y 0 18 2 else if x1 = 5 then v_X2_howManyOpen (Y 0) else if x1 = 6 then Y 0 18 3 else if x1 = 7 then Y 0 18 1 else if x1 = 8 then v_X2_lettersInAll (Y 0) else if x1 = 9 then v_X2_lengthInAll (Y 0) else if x1 = 10 then -1 else if x1 = 11 then -1 else if x1 = 12 then -1 else if x1 = 13 then -1 else if x1 = 14 then -1 else if x1 = 15 then -1 else if x1 = 16 then -1 else if x1 = 17 then -1 else if x1 = 18 then -1 else if x1 = 19 then Y 0 18 6 else if x1 = 20 then Y 4 0 3 else -1 else at_ 9 (Y 0 1) (x1 - 10) else at_ 3 (Y 0 0) x1
theorem c_X9_value (l : Launch) (K : gK) (A : Nat → Nat → Nat) (Y : RS) (x1 : Int32) : Ct l K yX9_value cX9_value 2 (some .int) 4 [.ref (A 4 0), .int x1] (ro_W K A Y) (some (.int (v_X9_value Y x1)), ro_W K A Y) := by
  refine Ct.of (own := RX9) (fun z => (some (.int z), ro_W K A Y)) (x := v_X9_value Y x1) (by decide) rfl (Nat.le_of_ble_eq_true rfl) (fun Γ C => ?_)
  unfold v_X9_value
  refine G_iload_n C 1 dX9_value_0 rfl ?_
  refine G_iconst C dX9_value_1 (v := 0) rfl ?_
  refine G_iconst C dX9_value_2 (v := 2) rfl ?_
  refine G_callSi C kd_X9_isWithin ut_X9_isWithin um_X9_102 (c_X9_isWithin l K (ro_W K A Y) x1 0 2) dX9_value_3 rfl rfl (Nat.le_of_ble_eq_true rfl) (Nat.le_of_ble_eq_true rfl) ?_
  refine G_if_eq C 21 dX9_value_6 rfl (fun h1 => ?_) (fun h1 => ?_)
  · refine G_iload_n C 1 dX9_value_21 rfl ?_
    refine G_bipush C dX9_value_22 (v := 10) rfl ?_
    refine G_bipush C dX9_value_24 (v := 18) rfl ?_
    refine G_callSi C kd_X9_isWithin ut_X9_isWithin um_X9_102 (c_X9_isWithin l K (ro_W K A Y) x1 10 18) dX9_value_26 rfl rfl (Nat.le_of_ble_eq_true rfl) (Nat.le_of_ble_eq_true rfl) ?_
    refine G_if_eq C 47 dX9_value_29 rfl (fun h2 => ?_) (fun h2 => ?_)
    · refine G_iload_n C 1 dX9_value_47 rfl ?_
      refine G_ite (fun h3 => ?_) (fun h3 => ?_)
      · refine G_tswIn (v := 3) C 136 0 dX9_value_48 h3 rfl (by decide) rfl rfl ?_
        refine G_aload_n C 0 dX9_value_136 rfl ?_
        refine G_get C 0 0 dX9_value_137 inlX9 uf_X9_10 rfl (by decide) rfl rfl rfl ?_
        refine G_get C 1 5 dX9_value_140 inlX6 uf_X9_180 rfl (by decide) rfl rfl rfl ?_
        exact G_iret C dX9_value_143 rfl
      · skip
        refine G_ite (fun h4 => ?_) (fun h4 => ?_)
        · refine G_tswIn (v := 4) C 144 1 dX9_value_48 h4 rfl (by decide) rfl rfl ?_
          refine G_aload_n C 0 dX9_value_144 rfl ?_
          refine G_get C 0 0 dX9_value_145 inlX9 uf_X9_10 rfl (by decide) rfl rfl rfl ?_
          refine G_get C 1 2 dX9_value_148 inlX6 uf_X9_89 rfl (by decide) rfl rfl rfl ?_
          refine G_get C 4 8 dX9_value_151 inlX2 uf_X9_93 rfl (by decide) rfl rfl rfl ?_
          exact G_iret C dX9_value_154 rfl
        · skip
          refine G_ite (fun h5 => ?_) (fun h5 => ?_)
          · refine G_tswIn (v := 5) C 155 2 dX9_value_48 h5 rfl (by decide) rfl rfl ?_
            refine G_aload_n C 0 dX9_value_155 rfl ?_
            refine G_get C 0 0 dX9_value_156 inlX9 uf_X9_10 rfl (by decide) rfl rfl rfl ?_
            refine G_get C 1 2 dX9_value_159 inlX6 uf_X9_89 rfl (by decide) rfl rfl rfl ?_
            refine G_callVi C 4 2 kd_X2_howManyOpen ui_X2_howManyOpen us_X2_howManyOpen um_X9_218 rfl rfl (Ct.chunk1 (cs := ro_C K A Y) (cs' := ro_C K A Y) 1 rfl rfl (c_X2_howManyOpen l K (A 0) (Y 0))) dX9_value_162 rfl rfl (Nat.le_of_ble_eq_true rfl) (Nat.le_of_ble_eq_true rfl) ?_
            exact G_iret C dX9_value_165 rfl
          · skip
            refine G_ite (fun h6 => ?_) (fun h6 => ?_)
            · refine G_tswIn (v := 6) C 166 3 dX9_value_48 h6 rfl (by decide) rfl rfl ?_
              refine G_aload_n C 0 dX9_value_166 rfl ?_
              refine G_get C 0 0 dX9_value_167 inlX9 uf_X9_10 rfl (by decide) rfl rfl rfl ?_
              refine G_get C 1 3 dX9_value_170 inlX6 uf_X9_137 rfl (by decide) rfl rfl rfl ?_
              refine G_get C 13 5 dX9_value_173 inlX8 uf_X9_171 rfl (by decide) rfl rfl rfl ?_
              exact G_iret C dX9_value_176 rfl
            · skip
              refine G_ite (fun h7 => ?_) (fun h7 => ?_)
              · refine G_tswIn (v := 7) C 177 4 dX9_value_48 h7 rfl (by decide) rfl rfl ?_
                refine G_aload_n C 0 dX9_value_177 rfl ?_
                refine G_get C 0 0 dX9_value_178 inlX9 uf_X9_10 rfl (by decide) rfl rfl rfl ?_
                refine G_get C 1 6 dX9_value_181 inlX6 uf_X9_221 rfl (by decide) rfl rfl rfl ?_
                exact G_iret C dX9_value_184 rfl
              · skip
                refine G_ite (fun h8 => ?_) (fun h8 => ?_)
                · refine G_tswIn (v := 8) C 185 5 dX9_value_48 h8 rfl (by decide) rfl rfl ?_
                  refine G_aload_n C 0 dX9_value_185 rfl ?_
                  refine G_get C 0 0 dX9_value_186 inlX9 uf_X9_10 rfl (by decide) rfl rfl rfl ?_
                  refine G_get C 1 2 dX9_value_189 inlX6 uf_X9_89 rfl (by decide) rfl rfl rfl ?_
                  refine G_callVi C 4 2 kd_X2_lettersInAll ui_X2_lettersInAll us_X2_lettersInAll um_X9_224 rfl rfl (Ct.chunk1 (cs := ro_C K A Y) (cs' := ro_C K A Y) 1 rfl rfl (c_X2_lettersInAll l K (A 0) (Y 0))) dX9_value_192 rfl rfl (Nat.le_of_ble_eq_true rfl) (Nat.le_of_ble_eq_true rfl) ?_
                  exact G_iret C dX9_value_195 rfl
                · skip
                  refine G_ite (fun h9 => ?_) (fun h9 => ?_)
                  · refine G_tswIn (v := 9) C 196 6 dX9_value_48 h9 rfl (by decide) rfl rfl ?_
                    refine G_aload_n C 0 dX9_value_196 rfl ?_
                    refine G_get C 0 0 dX9_value_197 inlX9 uf_X9_10 rfl (by decide) rfl rfl rfl ?_
                    refine G_get C 1 2 dX9_value_200 inlX6 uf_X9_89 rfl (by decide) rfl rfl rfl ?_
                    refine G_callVi C 4 2 kd_X2_lengthInAll ui_X2_lengthInAll us_X2_lengthInAll um_X9_227 rfl rfl (Ct.chunk1 (cs := ro_C K A Y) (cs' := ro_C K A Y) 1 rfl rfl (c_X2_lengthInAll l K (A 0) (Y 0))) dX9_value_203 rfl rfl (Nat.le_of_ble_eq_true rfl) (Nat.le_of_ble_eq_true rfl) ?_
                    exact G_iret C dX9_value_206 rfl
                  · skip
                    refine G_ite (fun h10 => ?_) (fun h10 => ?_)
                    · refine G_tswIn (v := 10) C 226 7 dX9_value_48 h10 rfl (by decide) rfl rfl ?_
                      refine G_iconst C dX9_value_226 (v := -1) rfl ?_
                      exact G_iret C dX9_value_227 rfl
                    · skip
                      refine G_ite (fun h11 => ?_) (fun h11 => ?_)
                      · refine G_tswIn (v := 11) C 226 8 dX9_value_48 h11 rfl (by decide) rfl rfl ?_
                        refine G_iconst C dX9_value_226 (v := -1) rfl ?_
                        exact G_iret C dX9_value_227 rfl
                      · skip
                        refine G_ite (fun h12 => ?_) (fun h12 => ?_)
                        · refine G_tswIn (v := 12) C 226 9 dX9_value_48 h12 rfl (by decide) rfl rfl ?_
                          refine G_iconst C dX9_value_226 (v := -1) rfl ?_
                          exact G_iret C dX9_value_227 rfl
                        · skip
                          refine G_ite (fun h13 => ?_) (fun h13 => ?_)
                          · refine G_tswIn (v := 13) C 226 10 dX9_value_48 h13 rfl (by decide) rfl rfl ?_
                            refine G_iconst C dX9_value_226 (v := -1) rfl ?_
                            exact G_iret C dX9_value_227 rfl
                          · skip
                            refine G_ite (fun h14 => ?_) (fun h14 => ?_)
                            · refine G_tswIn (v := 14) C 226 11 dX9_value_48 h14 rfl (by decide) rfl rfl ?_
                              refine G_iconst C dX9_value_226 (v := -1) rfl ?_
                              exact G_iret C dX9_value_227 rfl
                            · skip
                              refine G_ite (fun h15 => ?_) (fun h15 => ?_)
                              · refine G_tswIn (v := 15) C 226 12 dX9_value_48 h15 rfl (by decide) rfl rfl ?_
                                refine G_iconst C dX9_value_226 (v := -1) rfl ?_
                                exact G_iret C dX9_value_227 rfl
                              · skip
                                refine G_ite (fun h16 => ?_) (fun h16 => ?_)
                                · refine G_tswIn (v := 16) C 226 13 dX9_value_48 h16 rfl (by decide) rfl rfl ?_
                                  refine G_iconst C dX9_value_226 (v := -1) rfl ?_
                                  exact G_iret C dX9_value_227 rfl
                                · skip
                                  refine G_ite (fun h17 => ?_) (fun h17 => ?_)
                                  · refine G_tswIn (v := 17) C 226 14 dX9_value_48 h17 rfl (by decide) rfl rfl ?_
                                    refine G_iconst C dX9_value_226 (v := -1) rfl ?_
                                    exact G_iret C dX9_value_227 rfl
                                  · skip
                                    refine G_ite (fun h18 => ?_) (fun h18 => ?_)
                                    · refine G_tswIn (v := 18) C 226 15 dX9_value_48 h18 rfl (by decide) rfl rfl ?_
                                      refine G_iconst C dX9_value_226 (v := -1) rfl ?_
                                      exact G_iret C dX9_value_227 rfl
                                    · skip
                                      refine G_ite (fun h19 => ?_) (fun h19 => ?_)
                                      · refine G_tswIn (v := 19) C 207 16 dX9_value_48 h19 rfl (by decide) rfl rfl ?_
                                        refine G_aload_n C 0 dX9_value_207 rfl ?_
                                        refine G_get C 0 0 dX9_value_208 inlX9 uf_X9_10 rfl (by decide) rfl rfl rfl ?_
                                        refine G_get C 1 4 dX9_value_211 inlX6 uf_X9_128 rfl (by decide) rfl rfl rfl ?_
                                        refine G_get C 19 4 dX9_value_214 inlX1 uf_X9_230 rfl (by decide) rfl rfl rfl ?_
                                        exact G_iret C dX9_value_217 rfl
                                      · skip
                                        refine G_ite (fun h20 => ?_) (fun h20 => ?_)
                                        · refine G_tswIn (v := 20) C 218 17 dX9_value_48 h20 rfl (by decide) rfl rfl ?_
                                          refine G_aload_n C 0 dX9_value_218 rfl ?_
                                          refine G_get C 0 1 dX9_value_219 inlX9 uf_X9_19 rfl (by decide) rfl rfl rfl ?_
                                          refine G_get C 51 2 dX9_value_222 inlX0 uf_X9_214 rfl (by decide) rfl rfl rfl ?_
                                          exact G_iret C dX9_value_225 rfl
                                        · skip
                                          refine G_tswOut C 226 dX9_value_48 (by have q0 := i32_ne h3 (n := 3) rfl; have q1 := i32_ne h4 (n := 4) rfl; have q2 := i32_ne h5 (n := 5) rfl; have q3 := i32_ne h6 (n := 6) rfl; have q4 := i32_ne h7 (n := 7) rfl; have q5 := i32_ne h8 (n := 8) rfl; have q6 := i32_ne h9 (n := 9) rfl; have q7 := i32_ne h10 (n := 10) rfl; have q8 := i32_ne h11 (n := 11) rfl; have q9 := i32_ne h12 (n := 12) rfl; have q10 := i32_ne h13 (n := 13) rfl; have q11 := i32_ne h14 (n := 14) rfl; have q12 := i32_ne h15 (n := 15) rfl; have q13 := i32_ne h16 (n := 16) rfl; have q14 := i32_ne h17 (n := 17) rfl; have q15 := i32_ne h18 (n := 18) rfl; have q16 := i32_ne h19 (n := 19) rfl; have q17 := i32_ne h20 (n := 20) rfl; omega) rfl ?_
                                          refine G_iconst C dX9_value_226 (v := -1) rfl ?_
                                          exact G_iret C dX9_value_227 rfl
    · refine G_aload_n C 0 dX9_value_32 rfl ?_
      refine G_get C 0 0 dX9_value_33 inlX9 uf_X9_10 rfl (by decide) rfl rfl rfl ?_
      refine G_get C 1 1 dX9_value_36 inlX6 uf_X9_121 rfl (by decide) rfl rfl rfl ?_
      refine G_iload_n C 1 dX9_value_39 rfl ?_
      refine G_bipush C dX9_value_40 (v := 10) rfl ?_
      refine G_isub C dX9_value_42 ?_
      refine G_callSi C kd_X9_at ut_X9_at um_X9_110 (c_at l K (ws := ro_W K A Y) (q0 := 3) (n := 9) (g := Y 0 1) (ad := (A 0 2)) (by decide) rfl (x1 - 10)) dX9_value_43 rfl rfl (Nat.le_of_ble_eq_true rfl) (Nat.le_of_ble_eq_true rfl) ?_
      exact G_iret C dX9_value_46 rfl
  · refine G_aload_n C 0 dX9_value_9 rfl ?_
    refine G_get C 0 0 dX9_value_10 inlX9 uf_X9_10 rfl (by decide) rfl rfl rfl ?_
    refine G_get C 1 0 dX9_value_13 inlX6 uf_X9_203 rfl (by decide) rfl rfl rfl ?_
    refine G_iload_n C 1 dX9_value_16 rfl ?_
    refine G_callSi C kd_X9_at ut_X9_at um_X9_110 (c_at l K (ws := ro_W K A Y) (q0 := 2) (n := 3) (g := Y 0 0) (ad := (A 0 1)) (by decide) rfl x1) dX9_value_17 rfl rfl (Nat.le_of_ble_eq_true rfl) (Nat.le_of_ble_eq_true rfl) ?_
    exact G_iret C dX9_value_20 rfl
/-! X9_office -/
theorem kd_X9_office : Card yX9_office cX9_office 4 (some .int) 2 := ⟨uc_X9_office, un_X9, ⟨by decide, by decide, by decide⟩, by decide⟩
def v_X9_office (Y : RS) (x1 : Int32) (x2 : Int32) : Int32 := if (v_X2_has (Y 0) x1) = 0 then -1 else if x2 = 0 then at_ 10 (Y 0 2) x1 else if x2 = 1 then at_ 10 (Y 0 3) x1 else if x2 = 2 then at_ 10 (Y 0 4) x1 else if x2 = 3 then at_ 10 (Y 0 5) x1 else if x2 = 4 then at_ 10 (Y 0 7) x1 else if x2 = 5 then v_X2_lengthInQueue (Y 0) x1 else if x2 = 6 then v_X8_standingAt (Y 0) x1 else if x2 = 7 then at_ 10 (Y 0 6) x1 else if x2 = 8 then v_X2_lettersTo (Y 0) x1 else -1
theorem c_X9_office (l : Launch) (K : gK) (A : Nat → Nat → Nat) (Y : RS) (x1 : Int32) (x2 : Int32) : Ct l K yX9_office cX9_office 4 (some .int) 3 [.ref (A 4 0), .int x1, .int x2] (ro_W K A Y) (some (.int (v_X9_office Y x1 x2)), ro_W K A Y) := by
  refine Ct.of (own := RX9) (fun z => (some (.int z), ro_W K A Y)) (x := v_X9_office Y x1 x2) (by decide) rfl (Nat.le_of_ble_eq_true rfl) (fun Γ C => ?_)
  unfold v_X9_office
  refine G_aload_n C 0 dX9_office_0 rfl ?_
  refine G_get C 0 0 dX9_office_1 inlX9 uf_X9_10 rfl (by decide) rfl rfl rfl ?_
  refine G_get C 1 2 dX9_office_4 inlX6 uf_X9_89 rfl (by decide) rfl rfl rfl ?_
  refine G_astore_n (lv' := [(3, .ref (A 0 3)), (0, .ref (A 4 0)), (1, .int x1), (2, .int x2)]) C dX9_office_7 (by decide) rfl ?_
  refine G_aload_n C 0 dX9_office_8 rfl ?_
  refine G_iload_n C 2 dX9_office_9 rfl ?_
  refine G_callVi C 4 2 kd_X2_has ui_X2_has us_X2_has um_X9_98 rfl rfl (Ct.chunk1 (cs := ro_C K A Y) (cs' := ro_C K A Y) 1 rfl rfl (c_X2_has l K (A 0) (Y 0) x1)) dX9_office_10 rfl rfl (Nat.le_of_ble_eq_true rfl) (Nat.le_of_ble_eq_true rfl) ?_
  refine G_if_ne C 18 dX9_office_13 rfl (fun h1 => ?_) (fun h1 => ?_)
  · refine G_iconst C dX9_office_16 (v := -1) rfl ?_
    exact G_iret C dX9_office_17 rfl
  · refine G_iload_n C 3 dX9_office_18 rfl ?_
    refine G_ite (fun h2 => ?_) (fun h2 => ?_)
    · refine G_tswIn (v := 0) C 68 0 dX9_office_19 h2 rfl (by decide) rfl rfl ?_
      refine G_aload_n C 0 dX9_office_68 rfl ?_
      refine G_get C 4 0 dX9_office_69 inlX2 uf_X9_186 rfl (by decide) rfl rfl rfl ?_
      refine G_iload_n C 2 dX9_office_72 rfl ?_
      refine G_callSi C kd_X9_at ut_X9_at um_X9_110 (c_at l K (ws := ro_W K A Y) (q0 := 5) (n := 10) (g := Y 0 2) (ad := (A 0 4)) (by decide) rfl x1) dX9_office_73 rfl rfl (Nat.le_of_ble_eq_true rfl) (Nat.le_of_ble_eq_true rfl) ?_
      exact G_iret C dX9_office_76 rfl
    · skip
      refine G_ite (fun h3 => ?_) (fun h3 => ?_)
      · refine G_tswIn (v := 1) C 77 1 dX9_office_19 h3 rfl (by decide) rfl rfl ?_
        refine G_aload_n C 0 dX9_office_77 rfl ?_
        refine G_get C 4 1 dX9_office_78 inlX2 uf_X9_189 rfl (by decide) rfl rfl rfl ?_
        refine G_iload_n C 2 dX9_office_81 rfl ?_
        refine G_callSi C kd_X9_at ut_X9_at um_X9_110 (c_at l K (ws := ro_W K A Y) (q0 := 6) (n := 10) (g := Y 0 3) (ad := (A 0 5)) (by decide) rfl x1) dX9_office_82 rfl rfl (Nat.le_of_ble_eq_true rfl) (Nat.le_of_ble_eq_true rfl) ?_
        exact G_iret C dX9_office_85 rfl
      · skip
        refine G_ite (fun h4 => ?_) (fun h4 => ?_)
        · refine G_tswIn (v := 2) C 86 2 dX9_office_19 h4 rfl (by decide) rfl rfl ?_
          refine G_aload_n C 0 dX9_office_86 rfl ?_
          refine G_get C 4 2 dX9_office_87 inlX2 uf_X9_155 rfl (by decide) rfl rfl rfl ?_
          refine G_iload_n C 2 dX9_office_90 rfl ?_
          refine G_callSi C kd_X9_at ut_X9_at um_X9_110 (c_at l K (ws := ro_W K A Y) (q0 := 7) (n := 10) (g := Y 0 4) (ad := (A 0 6)) (by decide) rfl x1) dX9_office_91 rfl rfl (Nat.le_of_ble_eq_true rfl) (Nat.le_of_ble_eq_true rfl) ?_
          exact G_iret C dX9_office_94 rfl
        · skip
          refine G_ite (fun h5 => ?_) (fun h5 => ?_)
          · refine G_tswIn (v := 3) C 95 3 dX9_office_19 h5 rfl (by decide) rfl rfl ?_
            refine G_aload_n C 0 dX9_office_95 rfl ?_
            refine G_get C 4 3 dX9_office_96 inlX2 uf_X9_231 rfl (by decide) rfl rfl rfl ?_
            refine G_iload_n C 2 dX9_office_99 rfl ?_
            refine G_callSi C kd_X9_at ut_X9_at um_X9_110 (c_at l K (ws := ro_W K A Y) (q0 := 8) (n := 10) (g := Y 0 5) (ad := (A 0 7)) (by decide) rfl x1) dX9_office_100 rfl rfl (Nat.le_of_ble_eq_true rfl) (Nat.le_of_ble_eq_true rfl) ?_
            exact G_iret C dX9_office_103 rfl
          · skip
            refine G_ite (fun h6 => ?_) (fun h6 => ?_)
            · refine G_tswIn (v := 4) C 104 4 dX9_office_19 h6 rfl (by decide) rfl rfl ?_
              refine G_aload_n C 0 dX9_office_104 rfl ?_
              refine G_get C 4 5 dX9_office_105 inlX2 uf_X9_106 rfl (by decide) rfl rfl rfl ?_
              refine G_iload_n C 2 dX9_office_108 rfl ?_
              refine G_callSi C kd_X9_at ut_X9_at um_X9_110 (c_at l K (ws := ro_W K A Y) (q0 := 10) (n := 10) (g := Y 0 7) (ad := (A 0 9)) (by decide) rfl x1) dX9_office_109 rfl rfl (Nat.le_of_ble_eq_true rfl) (Nat.le_of_ble_eq_true rfl) ?_
              exact G_iret C dX9_office_112 rfl
            · skip
              refine G_ite (fun h7 => ?_) (fun h7 => ?_)
              · refine G_tswIn (v := 5) C 113 5 dX9_office_19 h7 rfl (by decide) rfl rfl ?_
                refine G_aload_n C 0 dX9_office_113 rfl ?_
                refine G_iload_n C 2 dX9_office_114 rfl ?_
                refine G_callVi C 4 2 kd_X2_lengthInQueue ui_X2_lengthInQueue us_X2_lengthInQueue um_X9_234 rfl rfl (Ct.chunk1 (cs := ro_C K A Y) (cs' := ro_C K A Y) 1 rfl rfl (c_X2_lengthInQueue l K (A 0) (Y 0) x1)) dX9_office_115 rfl rfl (Nat.le_of_ble_eq_true rfl) (Nat.le_of_ble_eq_true rfl) ?_
                exact G_iret C dX9_office_118 rfl
              · skip
                refine G_ite (fun h8 => ?_) (fun h8 => ?_)
                · refine G_tswIn (v := 6) C 119 6 dX9_office_19 h8 rfl (by decide) rfl rfl ?_
                  refine G_aload_n C 1 dX9_office_119 rfl ?_
                  refine G_get C 0 0 dX9_office_120 inlX9 uf_X9_10 rfl (by decide) rfl rfl rfl ?_
                  refine G_get C 1 3 dX9_office_123 inlX6 uf_X9_137 rfl (by decide) rfl rfl rfl ?_
                  refine G_iload_n C 2 dX9_office_126 rfl ?_
                  refine G_callVi C 13 8 kd_X8_standingAt ui_X8_standingAt us_X8_standingAt um_X9_237 rfl rfl (Ct.chunk1 (cs := ro_C K A Y) (cs' := ro_C K A Y) 1 rfl rfl (c_X8_standingAt l K (A 0) (Y 0) x1)) dX9_office_127 rfl rfl (Nat.le_of_ble_eq_true rfl) (Nat.le_of_ble_eq_true rfl) ?_
                  exact G_iret C dX9_office_130 rfl
                · skip
                  refine G_ite (fun h9 => ?_) (fun h9 => ?_)
                  · refine G_tswIn (v := 7) C 131 7 dX9_office_19 h9 rfl (by decide) rfl rfl ?_
                    refine G_aload_n C 0 dX9_office_131 rfl ?_
                    refine G_get C 4 4 dX9_office_132 inlX2 uf_X9_240 rfl (by decide) rfl rfl rfl ?_
                    refine G_iload_n C 2 dX9_office_135 rfl ?_
                    refine G_callSi C kd_X9_at ut_X9_at um_X9_110 (c_at l K (ws := ro_W K A Y) (q0 := 9) (n := 10) (g := Y 0 6) (ad := (A 0 8)) (by decide) rfl x1) dX9_office_136 rfl rfl (Nat.le_of_ble_eq_true rfl) (Nat.le_of_ble_eq_true rfl) ?_
                    exact G_iret C dX9_office_139 rfl
                  · skip
                    refine G_ite (fun h10 => ?_) (fun h10 => ?_)
                    · refine G_tswIn (v := 8) C 140 8 dX9_office_19 h10 rfl (by decide) rfl rfl ?_
                      refine G_aload_n C 0 dX9_office_140 rfl ?_
                      refine G_iload_n C 2 dX9_office_141 rfl ?_
                      refine G_callVi C 4 2 kd_X2_lettersTo ui_X2_lettersTo us_X2_lettersTo um_X9_243 rfl rfl (Ct.chunk1 (cs := ro_C K A Y) (cs' := ro_C K A Y) 1 rfl rfl (c_X2_lettersTo l K (A 0) (Y 0) x1)) dX9_office_142 rfl rfl (Nat.le_of_ble_eq_true rfl) (Nat.le_of_ble_eq_true rfl) ?_
                      exact G_iret C dX9_office_145 rfl
                    · skip
                      refine G_tswOut C 146 dX9_office_19 (by have q0 := i32_ne h2 (n := 0) rfl; have q1 := i32_ne h3 (n := 1) rfl; have q2 := i32_ne h4 (n := 2) rfl; have q3 := i32_ne h5 (n := 3) rfl; have q4 := i32_ne h6 (n := 4) rfl; have q5 := i32_ne h7 (n := 5) rfl; have q6 := i32_ne h8 (n := 6) rfl; have q7 := i32_ne h9 (n := 7) rfl; have q8 := i32_ne h10 (n := 8) rfl; omega) rfl ?_
                      refine G_iconst C dX9_office_146 (v := -1) rfl ?_
                      exact G_iret C dX9_office_147 rfl
/-! X9_queue -/
theorem kd_X9_queue : Card yX9_queue cX9_queue 6 (some .int) 3 := ⟨uc_X9_queue, un_X9, ⟨by decide, by decide, by decide⟩, by decide⟩
def v_X9_queue_L91 (Y : RS) (x1 : Int32) (x2 : Int32) (x3 : Int32) (x5 : Int32) : Int32 := v_X2_lengthOf (Y 0) x1 x2
theorem g_X9_queue_L91 {l : Launch} {K : gK} {Γ : gT} {A : Nat → Nat → Nat} (C : Cx l K Γ RX9 cX9_queue 6 (some .int) 4) (Y : RS) (x1 : Int32) (x2 : Int32) (x3 : Int32) (x5 : Int32) : G l K Γ (ro_W K A Y) 91 6 [(0, .ref (A 4 0)), (1, .int x1), (2, .int x2), (3, .int x3), (4, .ref (A 0 3)), (5, .int x5)] [] (fun z => (some (.int z), ro_W K A Y)) (v_X9_queue_L91 Y x1 x2 x3 x5) := by
  unfold v_X9_queue_L91
  refine G_aload C 4 dX9_queue_91 rfl ?_
  refine G_iload_n C 1 dX9_queue_93 rfl ?_
  refine G_iload_n C 2 dX9_queue_94 rfl ?_
  refine G_callVi C 4 2 kd_X2_lengthOf ui_X2_lengthOf us_X2_lengthOf um_X9_147 rfl rfl (Ct.chunk1 (cs := ro_C K A Y) (cs' := ro_C K A Y) 1 rfl rfl (c_X2_lengthOf l K (A 0) (Y 0) x1 x2)) dX9_queue_95 rfl rfl (Nat.le_of_ble_eq_true rfl) (Nat.le_of_ble_eq_true rfl) ?_
  exact G_iret C dX9_queue_98 rfl
def v_X9_queue (Y : RS) (x1 : Int32) (x2 : Int32) (x3 : Int32) : Int32 := if (v_X2_has (Y 0) x1) = 0 then -1 else if x2 < 0 then -1 else if (v_X9_isWithin x3 0 2) = 0 then -1 else if x2 < (at_ 10 (Y 0 7) x1) then if x3 = 0 then v_X2_toOf (Y 0) x1 x2 else if x3 = 2 then if x2 = 0 then if 0 < (v_X8_leftAt (Y 0) x1) then v_X8_leftAt (Y 0) x1 else v_X9_queue_L91 Y x1 x2 x3 (v_X8_leftAt (Y 0) x1) else v_X9_queue_L91 Y x1 x2 x3 (v_X8_leftAt (Y 0) x1) else v_X9_queue_L91 Y x1 x2 x3 (v_X8_leftAt (Y 0) x1) else -2
theorem c_X9_queue (l : Launch) (K : gK) (A : Nat → Nat → Nat) (Y : RS) (x1 : Int32) (x2 : Int32) (x3 : Int32) : Ct l K yX9_queue cX9_queue 6 (some .int) 4 [.ref (A 4 0), .int x1, .int x2, .int x3] (ro_W K A Y) (some (.int (v_X9_queue Y x1 x2 x3)), ro_W K A Y) := by
  refine Ct.of (own := RX9) (fun z => (some (.int z), ro_W K A Y)) (x := v_X9_queue Y x1 x2 x3) (by decide) rfl (Nat.le_of_ble_eq_true rfl) (fun Γ C => ?_)
  unfold v_X9_queue
  refine G_aload_n C 0 dX9_queue_0 rfl ?_
  refine G_get C 0 0 dX9_queue_1 inlX9 uf_X9_10 rfl (by decide) rfl rfl rfl ?_
  refine G_get C 1 2 dX9_queue_4 inlX6 uf_X9_89 rfl (by decide) rfl rfl rfl ?_
  refine G_astore (lv' := [(4, .ref (A 0 3)), (0, .ref (A 4 0)), (1, .int x1), (2, .int x2), (3, .int x3)]) C dX9_queue_7 (by decide) rfl ?_
  refine G_aload C 0 dX9_queue_9 rfl ?_
  refine G_iload_n C 2 dX9_queue_11 rfl ?_
  refine G_callVi C 4 2 kd_X2_has ui_X2_has us_X2_has um_X9_98 rfl rfl (Ct.chunk1 (cs := ro_C K A Y) (cs' := ro_C K A Y) 1 rfl rfl (c_X2_has l K (A 0) (Y 0) x1)) dX9_queue_12 rfl rfl (Nat.le_of_ble_eq_true rfl) (Nat.le_of_ble_eq_true rfl) ?_
  refine G_if_eq C 31 dX9_queue_15 rfl (fun h1 => ?_) (fun h1 => ?_)
  · refine G_iconst C dX9_queue_31 (v := -1) rfl ?_
    exact G_iret C dX9_queue_32 rfl
  · refine G_iload_n C 3 dX9_queue_18 rfl ?_
    refine G_if_lt C 31 dX9_queue_19 rfl (fun h2 => ?_) (fun h2 => ?_)
    · refine G_iconst C dX9_queue_31 (v := -1) rfl ?_
      exact G_iret C dX9_queue_32 rfl
    · refine G_iload_n C 4 dX9_queue_22 rfl ?_
      refine G_iconst C dX9_queue_23 (v := 0) rfl ?_
      refine G_iconst C dX9_queue_24 (v := 2) rfl ?_
      refine G_callSi C kd_X9_isWithin ut_X9_isWithin um_X9_102 (c_X9_isWithin l K (ro_W K A Y) x3 0 2) dX9_queue_25 rfl rfl (Nat.le_of_ble_eq_true rfl) (Nat.le_of_ble_eq_true rfl) ?_
      refine G_if_ne C 33 dX9_queue_28 rfl (fun h3 => ?_) (fun h3 => ?_)
      · refine G_iconst C dX9_queue_31 (v := -1) rfl ?_
        exact G_iret C dX9_queue_32 rfl
      · refine G_iload_n C 3 dX9_queue_33 rfl ?_
        refine G_aload C 0 dX9_queue_34 rfl ?_
        refine G_get C 4 5 dX9_queue_36 inlX2 uf_X9_106 rfl (by decide) rfl rfl rfl ?_
        refine G_iload_n C 2 dX9_queue_39 rfl ?_
        refine G_callSi C kd_X9_at ut_X9_at um_X9_110 (c_at l K (ws := ro_W K A Y) (q0 := 10) (n := 10) (g := Y 0 7) (ad := (A 0 9)) (by decide) rfl x1) dX9_queue_40 rfl rfl (Nat.le_of_ble_eq_true rfl) (Nat.le_of_ble_eq_true rfl) ?_
        refine G_icmp_lt C 49 dX9_queue_43 rfl (fun h4 => ?_) (fun h4 => ?_)
        · refine G_iload_n C 4 dX9_queue_49 rfl ?_
          refine G_if_ne C 61 dX9_queue_50 rfl (fun h5 => ?_) (fun h5 => ?_)
          · refine G_aload C 0 dX9_queue_53 rfl ?_
            refine G_iload_n C 2 dX9_queue_55 rfl ?_
            refine G_iload_n C 3 dX9_queue_56 rfl ?_
            refine G_callVi C 4 2 kd_X2_toOf ui_X2_toOf us_X2_toOf um_X9_246 rfl rfl (Ct.chunk1 (cs := ro_C K A Y) (cs' := ro_C K A Y) 1 rfl rfl (c_X2_toOf l K (A 0) (Y 0) x1 x2)) dX9_queue_57 rfl rfl (Nat.le_of_ble_eq_true rfl) (Nat.le_of_ble_eq_true rfl) ?_
            exact G_iret C dX9_queue_60 rfl
          · refine G_aload_n C 1 dX9_queue_61 rfl ?_
            refine G_get C 0 0 dX9_queue_62 inlX9 uf_X9_10 rfl (by decide) rfl rfl rfl ?_
            refine G_get C 1 3 dX9_queue_65 inlX6 uf_X9_137 rfl (by decide) rfl rfl rfl ?_
            refine G_iload_n C 2 dX9_queue_68 rfl ?_
            refine G_callVi C 13 8 kd_X8_leftAt ui_X8_leftAt us_X8_leftAt um_X9_141 rfl rfl (Ct.chunk1 (cs := ro_C K A Y) (cs' := ro_C K A Y) 1 rfl rfl (c_X8_leftAt l K (A 0) (Y 0) x1)) dX9_queue_69 rfl rfl (Nat.le_of_ble_eq_true rfl) (Nat.le_of_ble_eq_true rfl) ?_
            refine G_istore (lv' := [(5, .int (v_X8_leftAt (Y 0) x1)), (4, .ref (A 0 3)), (0, .ref (A 4 0)), (1, .int x1), (2, .int x2), (3, .int x3)]) C dX9_queue_72 (by decide) rfl ?_
            refine G_iload_n C 5 dX9_queue_74 rfl ?_
            refine G_iconst C dX9_queue_75 (v := 2) rfl ?_
            refine G_icmp_ne C 91 dX9_queue_76 rfl (fun h6 => ?_) (fun h6 => ?_)
            · refine G_iload_n C 4 dX9_queue_79 rfl ?_
              refine G_if_ne C 91 dX9_queue_80 rfl (fun h7 => ?_) (fun h7 => ?_)
              · refine G_iload C 0 dX9_queue_83 rfl ?_
                refine G_if_le C 91 dX9_queue_85 rfl (fun h8 => ?_) (fun h8 => ?_)
                · refine G_iload C 0 dX9_queue_88 rfl ?_
                  exact G_iret C dX9_queue_90 rfl
                · refine G_sub [2, 3, 4, 5, 1, 0] rfl ?_
                  exact g_X9_queue_L91 C Y x1 x2 x3 (v_X8_leftAt (Y 0) x1)
              · refine G_sub [2, 3, 4, 5, 1, 0] rfl ?_
                exact g_X9_queue_L91 C Y x1 x2 x3 (v_X8_leftAt (Y 0) x1)
            · refine G_sub [2, 3, 4, 5, 1, 0] rfl ?_
              exact g_X9_queue_L91 C Y x1 x2 x3 (v_X8_leftAt (Y 0) x1)
        · refine G_bipush C dX9_queue_46 (v := -2) rfl ?_
          exact G_iret C dX9_queue_48 rfl
/-! X9_token -/
theorem kd_X9_token : Card yX9_token cX9_token 4 (some .int) 2 := ⟨uc_X9_token, un_X9, ⟨by decide, by decide, by decide⟩, by decide⟩
def v_X9_token (Y : RS) (x1 : Int32) (x2 : Int32) : Int32 := if (v_X8_has (Y 0) x1) = 0 then -1 else if x2 = 0 then at_ 3 (Y 0 10) x1 else if x2 = 1 then at_ 3 (Y 0 11) x1 else if x2 = 2 then at_ 3 (Y 0 12) x1 else if x2 = 3 then at_ 3 (Y 0 13) x1 else if x2 = 4 then at_ 3 (Y 0 14) x1 else -1
theorem c_X9_token (l : Launch) (K : gK) (A : Nat → Nat → Nat) (Y : RS) (x1 : Int32) (x2 : Int32) : Ct l K yX9_token cX9_token 4 (some .int) 1 [.ref (A 4 0), .int x1, .int x2] (ro_W K A Y) (some (.int (v_X9_token Y x1 x2)), ro_W K A Y) := by
  refine Ct.of (own := RX9) (fun z => (some (.int z), ro_W K A Y)) (x := v_X9_token Y x1 x2) (by decide) rfl (Nat.le_of_ble_eq_true rfl) (fun Γ C => ?_)
  unfold v_X9_token
  refine G_aload_n C 0 dX9_token_0 rfl ?_
  refine G_get C 0 0 dX9_token_1 inlX9 uf_X9_10 rfl (by decide) rfl rfl rfl ?_
  refine G_get C 1 3 dX9_token_4 inlX6 uf_X9_137 rfl (by decide) rfl rfl rfl ?_
  refine G_astore_n (lv' := [(3, .ref (A 0 12)), (0, .ref (A 4 0)), (1, .int x1), (2, .int x2)]) C dX9_token_7 (by decide) rfl ?_
  refine G_aload_n C 0 dX9_token_8 rfl ?_
  refine G_iload_n C 2 dX9_token_9 rfl ?_
  refine G_callVi C 13 8 kd_X8_has ui_X8_has us_X8_has um_X9_161 rfl rfl (Ct.chunk1 (cs := ro_C K A Y) (cs' := ro_C K A Y) 1 rfl rfl (c_X8_has l K (A 0) (Y 0) x1)) dX9_token_10 rfl rfl (Nat.le_of_ble_eq_true rfl) (Nat.le_of_ble_eq_true rfl) ?_
  refine G_if_ne C 18 dX9_token_13 rfl (fun h1 => ?_) (fun h1 => ?_)
  · refine G_iconst C dX9_token_16 (v := -1) rfl ?_
    exact G_iret C dX9_token_17 rfl
  · refine G_iload_n C 3 dX9_token_18 rfl ?_
    refine G_ite (fun h2 => ?_) (fun h2 => ?_)
    · refine G_tswIn (v := 0) C 52 0 dX9_token_19 h2 rfl (by decide) rfl rfl ?_
      refine G_aload_n C 0 dX9_token_52 rfl ?_
      refine G_get C 13 0 dX9_token_53 inlX8 uf_X9_162 rfl (by decide) rfl rfl rfl ?_
      refine G_iload_n C 2 dX9_token_56 rfl ?_
      refine G_callSi C kd_X9_at ut_X9_at um_X9_110 (c_at l K (ws := ro_W K A Y) (q0 := 14) (n := 3) (g := Y 0 10) (ad := (A 0 13)) (by decide) rfl x1) dX9_token_57 rfl rfl (Nat.le_of_ble_eq_true rfl) (Nat.le_of_ble_eq_true rfl) ?_
      exact G_iret C dX9_token_60 rfl
    · skip
      refine G_ite (fun h3 => ?_) (fun h3 => ?_)
      · refine G_tswIn (v := 1) C 61 1 dX9_token_19 h3 rfl (by decide) rfl rfl ?_
        refine G_aload_n C 0 dX9_token_61 rfl ?_
        refine G_get C 13 1 dX9_token_62 inlX8 uf_X9_249 rfl (by decide) rfl rfl rfl ?_
        refine G_iload_n C 2 dX9_token_65 rfl ?_
        refine G_callSi C kd_X9_at ut_X9_at um_X9_110 (c_at l K (ws := ro_W K A Y) (q0 := 15) (n := 3) (g := Y 0 11) (ad := (A 0 14)) (by decide) rfl x1) dX9_token_66 rfl rfl (Nat.le_of_ble_eq_true rfl) (Nat.le_of_ble_eq_true rfl) ?_
        exact G_iret C dX9_token_69 rfl
      · skip
        refine G_ite (fun h4 => ?_) (fun h4 => ?_)
        · refine G_tswIn (v := 2) C 70 2 dX9_token_19 h4 rfl (by decide) rfl rfl ?_
          refine G_aload_n C 0 dX9_token_70 rfl ?_
          refine G_get C 13 2 dX9_token_71 inlX8 uf_X9_252 rfl (by decide) rfl rfl rfl ?_
          refine G_iload_n C 2 dX9_token_74 rfl ?_
          refine G_callSi C kd_X9_at ut_X9_at um_X9_110 (c_at l K (ws := ro_W K A Y) (q0 := 16) (n := 3) (g := Y 0 12) (ad := (A 0 15)) (by decide) rfl x1) dX9_token_75 rfl rfl (Nat.le_of_ble_eq_true rfl) (Nat.le_of_ble_eq_true rfl) ?_
          exact G_iret C dX9_token_78 rfl
        · skip
          refine G_ite (fun h5 => ?_) (fun h5 => ?_)
          · refine G_tswIn (v := 3) C 79 3 dX9_token_19 h5 rfl (by decide) rfl rfl ?_
            refine G_aload_n C 0 dX9_token_79 rfl ?_
            refine G_get C 13 3 dX9_token_80 inlX8 uf_X9_255 rfl (by decide) rfl rfl rfl ?_
            refine G_iload_n C 2 dX9_token_83 rfl ?_
            refine G_callSi C kd_X9_at ut_X9_at um_X9_110 (c_at l K (ws := ro_W K A Y) (q0 := 17) (n := 3) (g := Y 0 13) (ad := (A 0 16)) (by decide) rfl x1) dX9_token_84 rfl rfl (Nat.le_of_ble_eq_true rfl) (Nat.le_of_ble_eq_true rfl) ?_
            exact G_iret C dX9_token_87 rfl
          · skip
            refine G_ite (fun h6 => ?_) (fun h6 => ?_)
            · refine G_tswIn (v := 4) C 88 4 dX9_token_19 h6 rfl (by decide) rfl rfl ?_
              refine G_aload_n C 0 dX9_token_88 rfl ?_
              refine G_get C 13 4 dX9_token_89 inlX8 uf_X9_258 rfl (by decide) rfl rfl rfl ?_
              refine G_iload_n C 2 dX9_token_92 rfl ?_
              refine G_callSi C kd_X9_at ut_X9_at um_X9_110 (c_at l K (ws := ro_W K A Y) (q0 := 18) (n := 3) (g := Y 0 14) (ad := (A 0 17)) (by decide) rfl x1) dX9_token_93 rfl rfl (Nat.le_of_ble_eq_true rfl) (Nat.le_of_ble_eq_true rfl) ?_
              exact G_iret C dX9_token_96 rfl
            · skip
              refine G_tswOut C 97 dX9_token_19 (by have q0 := i32_ne h2 (n := 0) rfl; have q1 := i32_ne h3 (n := 1) rfl; have q2 := i32_ne h4 (n := 2) rfl; have q3 := i32_ne h5 (n := 3) rfl; have q4 := i32_ne h6 (n := 4) rfl; omega) rfl ?_
              refine G_iconst C dX9_token_97 (v := -1) rfl ?_
              exact G_iret C dX9_token_98 rfl
/-! X9_winner -/
theorem kd_X9_winner : Card yX9_winner cX9_winner 1 (some .int) 0 := ⟨uc_X9_winner, un_X9, ⟨by decide, by decide, by decide⟩, by decide⟩
def v_X9_winner (Y : RS) : Int32 := v_X2_openWithGreatestName (Y 0)
theorem c_X9_winner (l : Launch) (K : gK) (A : Nat → Nat → Nat) (Y : RS) : Ct l K yX9_winner cX9_winner 1 (some .int) 3 [.ref (A 4 0)] (ro_W K A Y) (some (.int (v_X9_winner Y)), ro_W K A Y) := by
  refine Ct.of (own := RX9) (fun z => (some (.int z), ro_W K A Y)) (x := v_X9_winner Y) (by decide) rfl (Nat.le_of_ble_eq_true rfl) (fun Γ C => ?_)
  unfold v_X9_winner
  refine G_aload_n C 0 dX9_winner_0 rfl ?_
  refine G_get C 0 0 dX9_winner_1 inlX9 uf_X9_10 rfl (by decide) rfl rfl rfl ?_
  refine G_get C 1 2 dX9_winner_4 inlX6 uf_X9_89 rfl (by decide) rfl rfl rfl ?_
  refine G_callVi C 4 2 kd_X2_openWithGreatestName ui_X2_openWithGreatestName us_X2_openWithGreatestName um_X9_261 rfl rfl (Ct.chunk1 (cs := ro_C K A Y) (cs' := ro_C K A Y) 1 rfl rfl (c_X2_openWithGreatestName l K (A 0) (Y 0))) dX9_winner_7 rfl rfl (Nat.le_of_ble_eq_true rfl) (Nat.le_of_ble_eq_true rfl) ?_
  exact G_iret C dX9_winner_10 rfl
/-! X9_round -/
theorem kd_X9_round : Card yX9_round cX9_round 3 (some .int) 0 := ⟨uc_X9_round, un_X9, ⟨by decide, by decide, by decide⟩, by decide⟩
def v_X9_round_L4 : Nat → RS → Int32 → Int32 → Int32
  | 0, _, _, _ => 0
  | fuel + 1, Y, x1, x2 => if x2 < (Y 0 18 2) then v_X9_round_L4 fuel Y (x1 + (at_ 10 (Y 0 2) x2)) (x2 + 1) else x1
theorem g_X9_round_L4 {l : Launch} {K : gK} {Γ : gT} {A : Nat → Nat → Nat} (C : Cx l K Γ RX9 cX9_round 3 (some .int) 1) : ∀ (n : Nat) (Y : RS) (x1 : Int32) (x2 : Int32), mu x2 < n → G l K Γ (ro_W K A Y) 4 3 [(0, .ref (A 4 0)), (1, .int x1), (2, .int x2)] [] (fun z => (some (.int z), ro_W K A Y)) (v_X9_round_L4 n Y x1 x2) := by
  intro n
  induction n with
  | zero =>
    intro Y x1 x2 hm
    exact absurd hm (Nat.not_lt_zero _)
  | succ n ih =>
    intro Y x1 x2 hm
    rw [v_X9_round_L4]
    refine G_iload_n C 2 dX9_round_4 rfl ?_
    refine G_aload_n C 0 dX9_round_5 rfl ?_
    refine G_get C 0 0 dX9_round_6 inlX9 uf_X9_10 rfl (by decide) rfl rfl rfl ?_
    refine G_get C 1 2 dX9_round_9 inlX6 uf_X9_89 rfl (by decide) rfl rfl rfl ?_
    refine G_get C 4 8 dX9_round_12 inlX2 uf_X9_93 rfl (by decide) rfl rfl rfl ?_
    refine G_icmp_ge C 41 dX9_round_15 rfl (fun h1 => ?_) (fun h1 => ?_)
    · refine G_iload_n C 1 dX9_round_18 rfl ?_
      refine G_aload_n C 0 dX9_round_19 rfl ?_
      refine G_get C 0 0 dX9_round_20 inlX9 uf_X9_10 rfl (by decide) rfl rfl rfl ?_
      refine G_get C 1 2 dX9_round_23 inlX6 uf_X9_89 rfl (by decide) rfl rfl rfl ?_
      refine G_get C 4 0 dX9_round_26 inlX2 uf_X9_186 rfl (by decide) rfl rfl rfl ?_
      refine G_iload_n C 2 dX9_round_29 rfl ?_
      refine G_callSi C kd_X9_at ut_X9_at um_X9_110 (c_at l K (ws := ro_W K A Y) (q0 := 5) (n := 10) (g := Y 0 2) (ad := (A 0 4)) (by decide) rfl x2) dX9_round_30 rfl rfl (Nat.le_of_ble_eq_true rfl) (Nat.le_of_ble_eq_true rfl) ?_
      refine G_iadd C dX9_round_33 ?_
      refine G_istore_n (lv' := [(1, .int (x1 + (at_ 10 (Y 0 2) x2))), (0, .ref (A 4 0)), (2, .int x2)]) C dX9_round_34 (by decide) rfl ?_
      refine G_iinc (lv' := [(2, .int (x2 + 1)), (1, .int (x1 + (at_ 10 (Y 0 2) x2))), (0, .ref (A 4 0))]) C 2 dX9_round_35 rfl rfl (by decide) rfl ?_
      refine G_goto C 4 dX9_round_38 rfl ?_
      refine G_sub [2, 1, 0] rfl ?_
      exact ih Y (x1 + (at_ 10 (Y 0 2) x2)) (x2 + 1) (by have := mu_up h1; omega)
    · refine G_iload_n C 1 dX9_round_41 rfl ?_
      exact G_iret C dX9_round_42 rfl
def v_X9_round (Y : RS) : Int32 := v_X9_round_L4 (mu 0 + 1) Y 0 0
theorem c_X9_round (l : Launch) (K : gK) (A : Nat → Nat → Nat) (Y : RS) : Ct l K yX9_round cX9_round 3 (some .int) 1 [.ref (A 4 0)] (ro_W K A Y) (some (.int (v_X9_round Y)), ro_W K A Y) := by
  refine Ct.of (own := RX9) (fun z => (some (.int z), ro_W K A Y)) (x := v_X9_round Y) (by decide) rfl (Nat.le_of_ble_eq_true rfl) (fun Γ C => ?_)
  unfold v_X9_round
  refine G_iconst C dX9_round_0 (v := 0) rfl ?_
  refine G_istore_n (lv' := [(1, .int 0), (0, .ref (A 4 0))]) C dX9_round_1 (by decide) rfl ?_
  refine G_iconst C dX9_round_2 (v := 0) rfl ?_
  refine G_istore_n (lv' := [(2, .int 0), (1, .int 0), (0, .ref (A 4 0))]) C dX9_round_3 (by decide) rfl ?_
  refine G_sub [2, 1, 0] rfl ?_
  exact g_X9_round_L4 C _ Y 0 0 (Nat.lt_succ_self _)
/-! X9_busiest -/
theorem kd_X9_busiest : Card yX9_busiest cX9_busiest 3 (some .int) 0 := ⟨uc_X9_busiest, un_X9, ⟨by decide, by decide, by decide⟩, by decide⟩
def v_X9_busiest_L4 : Nat → RS → Int32 → Int32 → Int32
  | 0, _, _, _ => 0
  | fuel + 1, Y, x1, x2 => if x2 < (Y 0 18 2) then if (v_X2_lengthInQueue (Y 0) x1) < (v_X2_lengthInQueue (Y 0) x2) then v_X9_busiest_L4 fuel Y x2 (x2 + 1) else v_X9_busiest_L4 fuel Y x1 (x2 + 1) else x1
theorem g_X9_busiest_L4 {l : Launch} {K : gK} {Γ : gT} {A : Nat → Nat → Nat} (C : Cx l K Γ RX9 cX9_busiest 3 (some .int) 3) : ∀ (n : Nat) (Y : RS) (x1 : Int32) (x2 : Int32), mu x2 < n → G l K Γ (ro_W K A Y) 4 3 [(0, .ref (A 4 0)), (1, .int x1), (2, .int x2)] [] (fun z => (some (.int z), ro_W K A Y)) (v_X9_busiest_L4 n Y x1 x2) := by
  intro n
  induction n with
  | zero =>
    intro Y x1 x2 hm
    exact absurd hm (Nat.not_lt_zero _)
  | succ n ih =>
    intro Y x1 x2 hm
    rw [v_X9_busiest_L4]
    refine G_iload_n C 2 dX9_busiest_4 rfl ?_
    refine G_aload_n C 0 dX9_busiest_5 rfl ?_
    refine G_get C 0 0 dX9_busiest_6 inlX9 uf_X9_10 rfl (by decide) rfl rfl rfl ?_
    refine G_get C 1 2 dX9_busiest_9 inlX6 uf_X9_89 rfl (by decide) rfl rfl rfl ?_
    refine G_get C 4 8 dX9_busiest_12 inlX2 uf_X9_93 rfl (by decide) rfl rfl rfl ?_
    refine G_icmp_ge C 51 dX9_busiest_15 rfl (fun h1 => ?_) (fun h1 => ?_)
    · refine G_aload_n C 0 dX9_busiest_18 rfl ?_
      refine G_get C 0 0 dX9_busiest_19 inlX9 uf_X9_10 rfl (by decide) rfl rfl rfl ?_
      refine G_get C 1 2 dX9_busiest_22 inlX6 uf_X9_89 rfl (by decide) rfl rfl rfl ?_
      refine G_iload_n C 2 dX9_busiest_25 rfl ?_
      refine G_callVi C 4 2 kd_X2_lengthInQueue ui_X2_lengthInQueue us_X2_lengthInQueue um_X9_234 rfl rfl (Ct.chunk1 (cs := ro_C K A Y) (cs' := ro_C K A Y) 1 rfl rfl (c_X2_lengthInQueue l K (A 0) (Y 0) x2)) dX9_busiest_26 rfl rfl (Nat.le_of_ble_eq_true rfl) (Nat.le_of_ble_eq_true rfl) ?_
      refine G_aload_n C 0 dX9_busiest_29 rfl ?_
      refine G_get C 0 0 dX9_busiest_30 inlX9 uf_X9_10 rfl (by decide) rfl rfl rfl ?_
      refine G_get C 1 2 dX9_busiest_33 inlX6 uf_X9_89 rfl (by decide) rfl rfl rfl ?_
      refine G_iload_n C 1 dX9_busiest_36 rfl ?_
      refine G_callVi C 4 2 kd_X2_lengthInQueue ui_X2_lengthInQueue us_X2_lengthInQueue um_X9_234 rfl rfl (Ct.chunk1 (cs := ro_C K A Y) (cs' := ro_C K A Y) 1 rfl rfl (c_X2_lengthInQueue l K (A 0) (Y 0) x1)) dX9_busiest_37 rfl rfl (Nat.le_of_ble_eq_true rfl) (Nat.le_of_ble_eq_true rfl) ?_
      refine G_icmp_le C 45 dX9_busiest_40 rfl (fun h2 => ?_) (fun h2 => ?_)
      · refine G_iload_n C 2 dX9_busiest_43 rfl ?_
        refine G_istore_n (lv' := [(1, .int x2), (0, .ref (A 4 0)), (2, .int x2)]) C dX9_busiest_44 (by decide) rfl ?_
        refine G_iinc (lv' := [(2, .int (x2 + 1)), (1, .int x2), (0, .ref (A 4 0))]) C 2 dX9_busiest_45 rfl rfl (by decide) rfl ?_
        refine G_goto C 4 dX9_busiest_48 rfl ?_
        refine G_sub [2, 1, 0] rfl ?_
        exact ih Y x2 (x2 + 1) (by have := mu_up h1; omega)
      · refine G_iinc (lv' := [(2, .int (x2 + 1)), (0, .ref (A 4 0)), (1, .int x1)]) C 2 dX9_busiest_45 rfl rfl (by decide) rfl ?_
        refine G_goto C 4 dX9_busiest_48 rfl ?_
        refine G_sub [1, 2, 0] rfl ?_
        exact ih Y x1 (x2 + 1) (by have := mu_up h1; omega)
    · refine G_iload_n C 1 dX9_busiest_51 rfl ?_
      exact G_iret C dX9_busiest_52 rfl
def v_X9_busiest (Y : RS) : Int32 := v_X9_busiest_L4 (mu 1 + 1) Y 0 1
theorem c_X9_busiest (l : Launch) (K : gK) (A : Nat → Nat → Nat) (Y : RS) : Ct l K yX9_busiest cX9_busiest 3 (some .int) 3 [.ref (A 4 0)] (ro_W K A Y) (some (.int (v_X9_busiest Y)), ro_W K A Y) := by
  refine Ct.of (own := RX9) (fun z => (some (.int z), ro_W K A Y)) (x := v_X9_busiest Y) (by decide) rfl (Nat.le_of_ble_eq_true rfl) (fun Γ C => ?_)
  unfold v_X9_busiest
  refine G_iconst C dX9_busiest_0 (v := 0) rfl ?_
  refine G_istore_n (lv' := [(1, .int 0), (0, .ref (A 4 0))]) C dX9_busiest_1 (by decide) rfl ?_
  refine G_iconst C dX9_busiest_2 (v := 1) rfl ?_
  refine G_istore_n (lv' := [(2, .int 1), (1, .int 0), (0, .ref (A 4 0))]) C dX9_busiest_3 (by decide) rfl ?_
  refine G_sub [2, 1, 0] rfl ?_
  exact g_X9_busiest_L4 C _ Y 0 1 (Nat.lt_succ_self _)
/-! X9_why -/
theorem kd_X9_why : Card yX9_why cX9_why 4 (some .int) 1 := ⟨uc_X9_why, un_X9, ⟨by decide, by decide, by decide⟩, by decide⟩
def v_X9_why (Y : RS) (x1 : Int32) : Int32 := if (v_X2_has (Y 0) x1) = 0 then -1 else if 0 < (at_ 3 (Y 0 14) (v_X8_standingAt (Y 0) x1)) then 0 else if (v_X2_isOpen (Y 0) x1) = 0 then 1 else if (v_X8_standingAt (Y 0) x1) = (-2) then 2 else if (at_ 10 (Y 0 7) x1) = 0 then 3 else if (v_X6_fitsInTurn (Y 0) x1 (v_X8_standingAt (Y 0) x1)) = 0 then 4 else if (v_X6_fitsInDay (Y 0) x1) = 0 then 5 else 6
theorem c_X9_why (l : Launch) (K : gK) (A : Nat → Nat → Nat) (Y : RS) (x1 : Int32) : Ct l K yX9_why cX9_why 4 (some .int) 3 [.ref (A 4 0), .int x1] (ro_W K A Y) (some (.int (v_X9_why Y x1)), ro_W K A Y) := by
  refine Ct.of (own := RX9) (fun z => (some (.int z), ro_W K A Y)) (x := v_X9_why Y x1) (by decide) rfl (Nat.le_of_ble_eq_true rfl) (fun Γ C => ?_)
  unfold v_X9_why
  refine G_aload_n C 0 dX9_why_0 rfl ?_
  refine G_get C 0 0 dX9_why_1 inlX9 uf_X9_10 rfl (by decide) rfl rfl rfl ?_
  refine G_get C 1 2 dX9_why_4 inlX6 uf_X9_89 rfl (by decide) rfl rfl rfl ?_
  refine G_astore_n (lv' := [(2, .ref (A 0 3)), (0, .ref (A 4 0)), (1, .int x1)]) C dX9_why_7 (by decide) rfl ?_
  refine G_aload_n C 0 dX9_why_8 rfl ?_
  refine G_iload_n C 2 dX9_why_9 rfl ?_
  refine G_callVi C 4 2 kd_X2_has ui_X2_has us_X2_has um_X9_98 rfl rfl (Ct.chunk1 (cs := ro_C K A Y) (cs' := ro_C K A Y) 1 rfl rfl (c_X2_has l K (A 0) (Y 0) x1)) dX9_why_10 rfl rfl (Nat.le_of_ble_eq_true rfl) (Nat.le_of_ble_eq_true rfl) ?_
  refine G_if_ne C 18 dX9_why_13 rfl (fun h1 => ?_) (fun h1 => ?_)
  · refine G_iconst C dX9_why_16 (v := -1) rfl ?_
    exact G_iret C dX9_why_17 rfl
  · refine G_aload_n C 1 dX9_why_18 rfl ?_
    refine G_get C 0 0 dX9_why_19 inlX9 uf_X9_10 rfl (by decide) rfl rfl rfl ?_
    refine G_get C 1 3 dX9_why_22 inlX6 uf_X9_137 rfl (by decide) rfl rfl rfl ?_
    refine G_iload_n C 2 dX9_why_25 rfl ?_
    refine G_callVi C 13 8 kd_X8_standingAt ui_X8_standingAt us_X8_standingAt um_X9_237 rfl rfl (Ct.chunk1 (cs := ro_C K A Y) (cs' := ro_C K A Y) 1 rfl rfl (c_X8_standingAt l K (A 0) (Y 0) x1)) dX9_why_26 rfl rfl (Nat.le_of_ble_eq_true rfl) (Nat.le_of_ble_eq_true rfl) ?_
    refine G_istore_n (lv' := [(3, .int (v_X8_standingAt (Y 0) x1)), (2, .ref (A 0 3)), (0, .ref (A 4 0)), (1, .int x1)]) C dX9_why_29 (by decide) rfl ?_
    refine G_aload_n C 2 dX9_why_30 rfl ?_
    refine G_get C 0 0 dX9_why_31 inlX9 uf_X9_10 rfl (by decide) rfl rfl rfl ?_
    refine G_get C 1 3 dX9_why_34 inlX6 uf_X9_137 rfl (by decide) rfl rfl rfl ?_
    refine G_get C 13 4 dX9_why_37 inlX8 uf_X9_258 rfl (by decide) rfl rfl rfl ?_
    refine G_iload_n C 0 dX9_why_40 rfl ?_
    refine G_callSi C kd_X9_at ut_X9_at um_X9_110 (c_at l K (ws := ro_W K A Y) (q0 := 18) (n := 3) (g := Y 0 14) (ad := (A 0 17)) (by decide) rfl (v_X8_standingAt (Y 0) x1)) dX9_why_41 rfl rfl (Nat.le_of_ble_eq_true rfl) (Nat.le_of_ble_eq_true rfl) ?_
    refine G_if_le C 49 dX9_why_44 rfl (fun h2 => ?_) (fun h2 => ?_)
    · refine G_iconst C dX9_why_47 (v := 0) rfl ?_
      exact G_iret C dX9_why_48 rfl
    · refine G_aload_n C 1 dX9_why_49 rfl ?_
      refine G_iload_n C 3 dX9_why_50 rfl ?_
      refine G_callVi C 4 2 kd_X2_isOpen ui_X2_isOpen us_X2_isOpen um_X9_168 rfl rfl (Ct.chunk1 (cs := ro_C K A Y) (cs' := ro_C K A Y) 1 rfl rfl (c_X2_isOpen l K (A 0) (Y 0) x1)) dX9_why_51 rfl rfl (Nat.le_of_ble_eq_true rfl) (Nat.le_of_ble_eq_true rfl) ?_
      refine G_if_ne C 59 dX9_why_54 rfl (fun h3 => ?_) (fun h3 => ?_)
      · refine G_iconst C dX9_why_57 (v := 1) rfl ?_
        exact G_iret C dX9_why_58 rfl
      · refine G_iload_n C 0 dX9_why_59 rfl ?_
        refine G_bipush C dX9_why_60 (v := -2) rfl ?_
        refine G_icmp_ne C 67 dX9_why_62 rfl (fun h4 => ?_) (fun h4 => ?_)
        · refine G_iconst C dX9_why_65 (v := 2) rfl ?_
          exact G_iret C dX9_why_66 rfl
        · refine G_aload_n C 1 dX9_why_67 rfl ?_
          refine G_get C 4 5 dX9_why_68 inlX2 uf_X9_106 rfl (by decide) rfl rfl rfl ?_
          refine G_iload_n C 3 dX9_why_71 rfl ?_
          refine G_callSi C kd_X9_at ut_X9_at um_X9_110 (c_at l K (ws := ro_W K A Y) (q0 := 10) (n := 10) (g := Y 0 7) (ad := (A 0 9)) (by decide) rfl x1) dX9_why_72 rfl rfl (Nat.le_of_ble_eq_true rfl) (Nat.le_of_ble_eq_true rfl) ?_
          refine G_if_ne C 80 dX9_why_75 rfl (fun h5 => ?_) (fun h5 => ?_)
          · refine G_iconst C dX9_why_78 (v := 3) rfl ?_
            exact G_iret C dX9_why_79 rfl
          · refine G_aload_n C 2 dX9_why_80 rfl ?_
            refine G_get C 0 0 dX9_why_81 inlX9 uf_X9_10 rfl (by decide) rfl rfl rfl ?_
            refine G_iload_n C 3 dX9_why_84 rfl ?_
            refine G_iload_n C 0 dX9_why_85 rfl ?_
            refine G_callVi C 1 6 kd_X6_fitsInTurn ui_X6_fitsInTurn us_X6_fitsInTurn um_X9_264 rfl rfl (Ct.chunk1 (cs := ro_C K A Y) (cs' := ro_C K A Y) 1 rfl rfl (c_X6_fitsInTurn l K (A 0) (Y 0) x1 (v_X8_standingAt (Y 0) x1))) dX9_why_86 rfl rfl (Nat.le_of_ble_eq_true rfl) (Nat.le_of_ble_eq_true rfl) ?_
            refine G_if_ne C 94 dX9_why_89 rfl (fun h6 => ?_) (fun h6 => ?_)
            · refine G_iconst C dX9_why_92 (v := 4) rfl ?_
              exact G_iret C dX9_why_93 rfl
            · refine G_aload_n C 2 dX9_why_94 rfl ?_
              refine G_get C 0 0 dX9_why_95 inlX9 uf_X9_10 rfl (by decide) rfl rfl rfl ?_
              refine G_iload_n C 3 dX9_why_98 rfl ?_
              refine G_callVi C 1 6 kd_X6_fitsInDay ui_X6_fitsInDay us_X6_fitsInDay um_X9_267 rfl rfl (Ct.chunk1 (cs := ro_C K A Y) (cs' := ro_C K A Y) 1 rfl rfl (c_X6_fitsInDay l K (A 0) (Y 0) x1)) dX9_why_99 rfl rfl (Nat.le_of_ble_eq_true rfl) (Nat.le_of_ble_eq_true rfl) ?_
              refine G_if_ne C 107 dX9_why_102 rfl (fun h7 => ?_) (fun h7 => ?_)
              · refine G_iconst C dX9_why_105 (v := 5) rfl ?_
                exact G_iret C dX9_why_106 rfl
              · refine G_bipush C dX9_why_107 (v := 6) rfl ?_
                exact G_iret C dX9_why_109 rfl
/-! X9_comesIn -/
theorem kd_X9_comesIn : Card yX9_comesIn cX9_comesIn 3 (some .int) 1 := ⟨uc_X9_comesIn, un_X9, ⟨by decide, by decide, by decide⟩, by decide⟩
def p_X9_comesIn_L29 : Nat → RS → Int32 → Int32 → Int32 × RS
  | 0, Y, _, _ => (0, Y)
  | fuel + 1, Y, x1, x2 => if 300 < x2 then (-2, Y) else if (v_X8_standingAt (Y 1) x1) = (-2) then p_X9_comesIn_L29 fuel (yU Y 1 (s_X6_passMinute (Y 1))) x1 (x2 + 1) else (x2, Y)
theorem g_X9_comesIn_L29 {l : Launch} {K : gK} {Γ : gT} {A : Nat → Nat → Nat} (C : Cx l K Γ RX9 cX9_comesIn 3 (some .int) 6) : ∀ (n : Nat) (Y : RS) (x1 : Int32) (x2 : Int32), mu x2 < n → G l K Γ (ro_W K A Y) 29 3 [(0, .ref (A 4 0)), (1, .int x1), (2, .int x2)] [] (fun (z : Int32 × RS) => (some (.int z.1), ro_W K A z.2)) (p_X9_comesIn_L29 n Y x1 x2) := by
  intro n
  induction n with
  | zero =>
    intro Y x1 x2 hm
    exact absurd hm (Nat.not_lt_zero _)
  | succ n ih =>
    intro Y x1 x2 hm
    rw [p_X9_comesIn_L29]
    refine G_iload_n C 2 dX9_comesIn_29 rfl ?_
    refine G_sipush C dX9_comesIn_30 (v := 300) rfl ?_
    refine G_icmp_gt C 67 dX9_comesIn_33 rfl (fun h2 => ?_) (fun h2 => ?_)
    · refine G_bipush C dX9_comesIn_67 (v := -2) rfl ?_
      exact G_iret C dX9_comesIn_69 rfl
    · refine G_aload_n C 0 dX9_comesIn_36 rfl ?_
      refine G_get C 0 5 dX9_comesIn_37 inlX9 uf_X9_53 rfl (by decide) rfl rfl rfl ?_
      refine G_get C 27 3 dX9_comesIn_40 inlX6 uf_X9_137 rfl (by decide) rfl rfl rfl ?_
      refine G_iload_n C 1 dX9_comesIn_43 rfl ?_
      refine G_callVi C 39 8 kd_X8_standingAt ui_X8_standingAt us_X8_standingAt um_X9_237 rfl rfl (Ct.chunk1 (cs := ro_C K A Y) (cs' := ro_C K A Y) 3 rfl rfl (c_X8_standingAt l K (A 1) (Y 1) x1)) dX9_comesIn_44 rfl rfl (Nat.le_of_ble_eq_true rfl) (Nat.le_of_ble_eq_true rfl) ?_
      refine G_bipush C dX9_comesIn_47 (v := -2) rfl ?_
      refine G_icmp_eq C 54 dX9_comesIn_49 rfl (fun h3 => ?_) (fun h3 => ?_)
      · refine G_aload_n C 0 dX9_comesIn_54 rfl ?_
        refine G_get C 0 5 dX9_comesIn_55 inlX9 uf_X9_53 rfl (by decide) rfl rfl rfl ?_
        refine G_callVv C 27 6 kd_X6_passMinute ui_X6_passMinute us_X6_passMinute um_X9_183 rfl rfl (Ct.chunk1 (cs := ro_C K A Y) (cs' := ro_C K A (yU Y 1 (s_X6_passMinute (Y 1)))) 3 rfl rfl (c_X6_passMinute l K (A 1) (Y 1))) dX9_comesIn_58 rfl rfl (Nat.le_of_ble_eq_true rfl) (Nat.le_of_ble_eq_true rfl) ?_
        refine G_iinc (lv' := [(2, .int (x2 + 1)), (0, .ref (A 4 0)), (1, .int x1)]) C 2 dX9_comesIn_61 rfl rfl (by decide) rfl ?_
        refine G_goto C 29 dX9_comesIn_64 rfl ?_
        refine G_sub [1, 2, 0] rfl ?_
        exact ih (yU Y 1 (s_X6_passMinute (Y 1))) x1 (x2 + 1) (by have := mu_upc h2 (by decide); omega)
      · refine G_iload_n C 2 dX9_comesIn_52 rfl ?_
        exact G_iret C dX9_comesIn_53 rfl
def p_X9_comesIn_L27 (Y : RS) (x1 : Int32) : Int32 × RS := p_X9_comesIn_L29 (mu 0 + 1) Y x1 0
theorem g_X9_comesIn_L27 {l : Launch} {K : gK} {Γ : gT} {A : Nat → Nat → Nat} (C : Cx l K Γ RX9 cX9_comesIn 3 (some .int) 6) (Y : RS) (x1 : Int32) : G l K Γ (ro_W K A Y) 27 3 [(0, .ref (A 4 0)), (1, .int x1)] [] (fun (z : Int32 × RS) => (some (.int z.1), ro_W K A z.2)) (p_X9_comesIn_L27 Y x1) := by
  unfold p_X9_comesIn_L27
  refine G_iconst C dX9_comesIn_27 (v := 0) rfl ?_
  refine G_istore_n (lv' := [(2, .int 0), (0, .ref (A 4 0)), (1, .int x1)]) C dX9_comesIn_28 (by decide) rfl ?_
  refine G_sub [1, 2, 0] rfl ?_
  exact g_X9_comesIn_L29 C _ Y x1 0 (Nat.lt_succ_self _)
def p_X9_comesIn (Y : RS) (x1 : Int32) : Int32 × RS := if (v_X2_has (Y 0) x1) = 0 then (-1, Y) else p_X9_comesIn_L27 (yU Y 1 (Y 0)) x1
theorem c_X9_comesIn (l : Launch) (K : gK) (A : Nat → Nat → Nat) (Y : RS) (x1 : Int32) : Ct l K yX9_comesIn cX9_comesIn 3 (some .int) 6 [.ref (A 4 0), .int x1] (ro_W K A Y) (some (.int (p_X9_comesIn Y x1).1), ro_W K A ((p_X9_comesIn Y x1).2)) := by
  refine Ct.of (own := RX9) (fun (z : Int32 × RS) => (some (.int z.1), ro_W K A z.2)) (x := p_X9_comesIn Y x1) (by decide) rfl (Nat.le_of_ble_eq_true rfl) (fun Γ C => ?_)
  unfold p_X9_comesIn
  refine G_aload_n C 0 dX9_comesIn_0 rfl ?_
  refine G_get C 0 0 dX9_comesIn_1 inlX9 uf_X9_10 rfl (by decide) rfl rfl rfl ?_
  refine G_get C 1 2 dX9_comesIn_4 inlX6 uf_X9_89 rfl (by decide) rfl rfl rfl ?_
  refine G_iload_n C 1 dX9_comesIn_7 rfl ?_
  refine G_callVi C 4 2 kd_X2_has ui_X2_has us_X2_has um_X9_98 rfl rfl (Ct.chunk1 (cs := ro_C K A Y) (cs' := ro_C K A Y) 1 rfl rfl (c_X2_has l K (A 0) (Y 0) x1)) dX9_comesIn_8 rfl rfl (Nat.le_of_ble_eq_true rfl) (Nat.le_of_ble_eq_true rfl) ?_
  refine G_if_ne C 16 dX9_comesIn_11 rfl (fun h1 => ?_) (fun h1 => ?_)
  · refine G_iconst C dX9_comesIn_14 (v := -1) rfl ?_
    exact G_iret C dX9_comesIn_15 rfl
  · refine G_aload_n C 0 dX9_comesIn_16 rfl ?_
    refine G_get C 0 5 dX9_comesIn_17 inlX9 uf_X9_53 rfl (by decide) rfl rfl rfl ?_
    refine G_aload_n C 0 dX9_comesIn_20 rfl ?_
    refine G_get C 0 0 dX9_comesIn_21 inlX9 uf_X9_10 rfl (by decide) rfl rfl rfl ?_
    refine G_callVv C 27 6 kd_X6_copyFrom ui_X6_copyFrom us_X6_copyFrom um_X9_81 rfl rfl (c_scratch l K A Y) dX9_comesIn_24 rfl rfl (Nat.le_of_ble_eq_true rfl) (Nat.le_of_ble_eq_true rfl) ?_
    refine G_sub [0, 1] rfl ?_
    exact g_X9_comesIn_L27 C (yU Y 1 (Y 0)) x1
/-! X9_triedUntilDone -/
theorem kd_X9_triedUntilDone : Card yX9_triedUntilDone cX9_triedUntilDone 3 (some .int) 1 := ⟨uc_X9_triedUntilDone, un_X9, ⟨by decide, by decide, by decide⟩, by decide⟩
def p_X9_triedUntilDone_L2 : Nat → RS → Int32 → Int32 → Int32 × RS
  | 0, Y, _, _ => (0, Y)
  | fuel + 1, Y, x1, x2 => if x1 < x2 then (-2, Y) else if (v_X2_lettersInAll (Y 1)) = 0 then (x2, Y) else p_X9_triedUntilDone_L2 fuel (yU Y 1 (s_X6_passMinute (Y 1))) x1 (x2 + 1)
theorem g_X9_triedUntilDone_L2 {l : Launch} {K : gK} {Γ : gT} {A : Nat → Nat → Nat} (C : Cx l K Γ RX9 cX9_triedUntilDone 3 (some .int) 6) : ∀ (n : Nat) (Y : RS) (x1 : Int32) (x2 : Int32), mu x2 < n → G l K Γ (ro_W K A Y) 2 3 [(0, .ref (A 4 0)), (1, .int x1), (2, .int x2)] [] (fun (z : Int32 × RS) => (some (.int z.1), ro_W K A z.2)) (p_X9_triedUntilDone_L2 n Y x1 x2) := by
  intro n
  induction n with
  | zero =>
    intro Y x1 x2 hm
    exact absurd hm (Nat.not_lt_zero _)
  | succ n ih =>
    intro Y x1 x2 hm
    rw [p_X9_triedUntilDone_L2]
    refine G_iload_n C 2 dX9_triedUntilDone_2 rfl ?_
    refine G_iload_n C 1 dX9_triedUntilDone_3 rfl ?_
    refine G_icmp_gt C 35 dX9_triedUntilDone_4 rfl (fun h1 => ?_) (fun h1 => ?_)
    · refine G_bipush C dX9_triedUntilDone_35 (v := -2) rfl ?_
      exact G_iret C dX9_triedUntilDone_37 rfl
    · refine G_aload_n C 0 dX9_triedUntilDone_7 rfl ?_
      refine G_get C 0 5 dX9_triedUntilDone_8 inlX9 uf_X9_53 rfl (by decide) rfl rfl rfl ?_
      refine G_get C 27 2 dX9_triedUntilDone_11 inlX6 uf_X9_89 rfl (by decide) rfl rfl rfl ?_
      refine G_callVi C 30 2 kd_X2_lettersInAll ui_X2_lettersInAll us_X2_lettersInAll um_X9_224 rfl rfl (Ct.chunk1 (cs := ro_C K A Y) (cs' := ro_C K A Y) 3 rfl rfl (c_X2_lettersInAll l K (A 1) (Y 1))) dX9_triedUntilDone_14 rfl rfl (Nat.le_of_ble_eq_true rfl) (Nat.le_of_ble_eq_true rfl) ?_
      refine G_if_ne C 22 dX9_triedUntilDone_17 rfl (fun h2 => ?_) (fun h2 => ?_)
      · refine G_iload_n C 2 dX9_triedUntilDone_20 rfl ?_
        exact G_iret C dX9_triedUntilDone_21 rfl
      · refine G_aload_n C 0 dX9_triedUntilDone_22 rfl ?_
        refine G_get C 0 5 dX9_triedUntilDone_23 inlX9 uf_X9_53 rfl (by decide) rfl rfl rfl ?_
        refine G_callVv C 27 6 kd_X6_passMinute ui_X6_passMinute us_X6_passMinute um_X9_183 rfl rfl (Ct.chunk1 (cs := ro_C K A Y) (cs' := ro_C K A (yU Y 1 (s_X6_passMinute (Y 1)))) 3 rfl rfl (c_X6_passMinute l K (A 1) (Y 1))) dX9_triedUntilDone_26 rfl rfl (Nat.le_of_ble_eq_true rfl) (Nat.le_of_ble_eq_true rfl) ?_
        refine G_iinc (lv' := [(2, .int (x2 + 1)), (0, .ref (A 4 0)), (1, .int x1)]) C 2 dX9_triedUntilDone_29 rfl rfl (by decide) rfl ?_
        refine G_goto C 2 dX9_triedUntilDone_32 rfl ?_
        refine G_sub [1, 2, 0] rfl ?_
        exact ih (yU Y 1 (s_X6_passMinute (Y 1))) x1 (x2 + 1) (by have := mu_upc h1 (by decide); omega)
def p_X9_triedUntilDone (Y : RS) (x1 : Int32) : Int32 × RS := p_X9_triedUntilDone_L2 (mu 0 + 1) Y x1 0
theorem c_X9_triedUntilDone (l : Launch) (K : gK) (A : Nat → Nat → Nat) (Y : RS) (x1 : Int32) : Ct l K yX9_triedUntilDone cX9_triedUntilDone 3 (some .int) 6 [.ref (A 4 0), .int x1] (ro_W K A Y) (some (.int (p_X9_triedUntilDone Y x1).1), ro_W K A ((p_X9_triedUntilDone Y x1).2)) := by
  refine Ct.of (own := RX9) (fun (z : Int32 × RS) => (some (.int z.1), ro_W K A z.2)) (x := p_X9_triedUntilDone Y x1) (by decide) rfl (Nat.le_of_ble_eq_true rfl) (fun Γ C => ?_)
  unfold p_X9_triedUntilDone
  refine G_iconst C dX9_triedUntilDone_0 (v := 0) rfl ?_
  refine G_istore_n (lv' := [(2, .int 0), (0, .ref (A 4 0)), (1, .int x1)]) C dX9_triedUntilDone_1 (by decide) rfl ?_
  refine G_sub [1, 2, 0] rfl ?_
  exact g_X9_triedUntilDone_L2 C _ Y x1 0 (Nat.lt_succ_self _)
/-! X9_doneIn -/
theorem kd_X9_doneIn : Card yX9_doneIn cX9_doneIn 1 (some .int) 0 := ⟨uc_X9_doneIn, un_X9, ⟨by decide, by decide, by decide⟩, by decide⟩
def p_X9_doneIn_L11 (Y : RS) : Int32 × RS := ((p_X9_triedUntilDone Y 500).1, (p_X9_triedUntilDone Y 500).2)
theorem g_X9_doneIn_L11 {l : Launch} {K : gK} {Γ : gT} {A : Nat → Nat → Nat} (C : Cx l K Γ RX9 cX9_doneIn 1 (some .int) 7) (Y : RS) : G l K Γ (ro_W K A Y) 11 1 [(0, .ref (A 4 0))] [] (fun (z : Int32 × RS) => (some (.int z.1), ro_W K A z.2)) (p_X9_doneIn_L11 Y) := by
  unfold p_X9_doneIn_L11
  refine G_aload_n C 0 dX9_doneIn_11 rfl ?_
  refine G_sipush C dX9_doneIn_12 (v := 500) rfl ?_
  refine G_callVi C 0 9 kd_X9_triedUntilDone ui_X9_triedUntilDone us_X9_triedUntilDone um_X9_270 rfl rfl (c_X9_triedUntilDone l K A Y 500) dX9_doneIn_15 rfl rfl (Nat.le_of_ble_eq_true rfl) (Nat.le_of_ble_eq_true rfl) ?_
  exact G_iret C dX9_doneIn_18 rfl
def p_X9_doneIn (Y : RS) : Int32 × RS := p_X9_doneIn_L11 (yU Y 1 (Y 0))
theorem c_X9_doneIn (l : Launch) (K : gK) (A : Nat → Nat → Nat) (Y : RS) : Ct l K yX9_doneIn cX9_doneIn 1 (some .int) 7 [.ref (A 4 0)] (ro_W K A Y) (some (.int (p_X9_doneIn Y).1), ro_W K A ((p_X9_doneIn Y).2)) := by
  refine Ct.of (own := RX9) (fun (z : Int32 × RS) => (some (.int z.1), ro_W K A z.2)) (x := p_X9_doneIn Y) (by decide) rfl (Nat.le_of_ble_eq_true rfl) (fun Γ C => ?_)
  unfold p_X9_doneIn
  refine G_aload_n C 0 dX9_doneIn_0 rfl ?_
  refine G_get C 0 5 dX9_doneIn_1 inlX9 uf_X9_53 rfl (by decide) rfl rfl rfl ?_
  refine G_aload_n C 0 dX9_doneIn_4 rfl ?_
  refine G_get C 0 0 dX9_doneIn_5 inlX9 uf_X9_10 rfl (by decide) rfl rfl rfl ?_
  refine G_callVv C 27 6 kd_X6_copyFrom ui_X6_copyFrom us_X6_copyFrom um_X9_81 rfl rfl (c_scratch l K A Y) dX9_doneIn_8 rfl rfl (Nat.le_of_ble_eq_true rfl) (Nat.le_of_ble_eq_true rfl) ?_
  refine G_sub [0] rfl ?_
  exact g_X9_doneIn_L11 C (yU Y 1 (Y 0))
/-! X9_triedMinutes -/
theorem kd_X9_triedMinutes : Card yX9_triedMinutes cX9_triedMinutes 4 (some .int) 2 := ⟨uc_X9_triedMinutes, un_X9, ⟨by decide, by decide, by decide⟩, by decide⟩
def p_X9_triedMinutes_L2 : Nat → RS → Int32 → Int32 → Int32 → Int32 × RS
  | 0, Y, _, _, _ => (0, Y)
  | fuel + 1, Y, x1, x2, x3 => if x3 < x1 then p_X9_triedMinutes_L2 fuel (yU Y 1 (s_X6_passMinute (Y 1))) x1 x2 (x3 + 1) else if x2 = 3 then (Y 1 18 3, Y) else ((at_ 9 (Y 1 1) (v_X9_countTold x2)) - (at_ 9 (Y 0 1) (v_X9_countTold x2)), Y)
theorem g_X9_triedMinutes_L2 {l : Launch} {K : gK} {Γ : gT} {A : Nat → Nat → Nat} (C : Cx l K Γ RX9 cX9_triedMinutes 4 (some .int) 6) : ∀ (n : Nat) (Y : RS) (x1 : Int32) (x2 : Int32) (x3 : Int32), mu x3 < n → G l K Γ (ro_W K A Y) 2 4 [(0, .ref (A 4 0)), (1, .int x1), (2, .int x2), (3, .int x3)] [] (fun (z : Int32 × RS) => (some (.int z.1), ro_W K A z.2)) (p_X9_triedMinutes_L2 n Y x1 x2 x3) := by
  intro n
  induction n with
  | zero =>
    intro Y x1 x2 x3 hm
    exact absurd hm (Nat.not_lt_zero _)
  | succ n ih =>
    intro Y x1 x2 x3 hm
    rw [p_X9_triedMinutes_L2]
    refine G_iload_n C 3 dX9_triedMinutes_2 rfl ?_
    refine G_iload_n C 1 dX9_triedMinutes_3 rfl ?_
    refine G_icmp_ge C 20 dX9_triedMinutes_4 rfl (fun h1 => ?_) (fun h1 => ?_)
    · refine G_aload_n C 0 dX9_triedMinutes_7 rfl ?_
      refine G_get C 0 5 dX9_triedMinutes_8 inlX9 uf_X9_53 rfl (by decide) rfl rfl rfl ?_
      refine G_callVv C 27 6 kd_X6_passMinute ui_X6_passMinute us_X6_passMinute um_X9_183 rfl rfl (Ct.chunk1 (cs := ro_C K A Y) (cs' := ro_C K A (yU Y 1 (s_X6_passMinute (Y 1)))) 3 rfl rfl (c_X6_passMinute l K (A 1) (Y 1))) dX9_triedMinutes_11 rfl rfl (Nat.le_of_ble_eq_true rfl) (Nat.le_of_ble_eq_true rfl) ?_
      refine G_iinc (lv' := [(3, .int (x3 + 1)), (0, .ref (A 4 0)), (1, .int x1), (2, .int x2)]) C 3 dX9_triedMinutes_14 rfl rfl (by decide) rfl ?_
      refine G_goto C 2 dX9_triedMinutes_17 rfl ?_
      refine G_sub [1, 2, 3, 0] rfl ?_
      exact ih (yU Y 1 (s_X6_passMinute (Y 1))) x1 x2 (x3 + 1) (by have := mu_up h1; omega)
    · refine G_iload_n C 2 dX9_triedMinutes_20 rfl ?_
      refine G_iconst C dX9_triedMinutes_21 (v := 3) rfl ?_
      refine G_icmp_ne C 36 dX9_triedMinutes_22 rfl (fun h2 => ?_) (fun h2 => ?_)
      · refine G_aload_n C 0 dX9_triedMinutes_25 rfl ?_
        refine G_get C 0 5 dX9_triedMinutes_26 inlX9 uf_X9_53 rfl (by decide) rfl rfl rfl ?_
        refine G_get C 27 3 dX9_triedMinutes_29 inlX6 uf_X9_137 rfl (by decide) rfl rfl rfl ?_
        refine G_get C 39 5 dX9_triedMinutes_32 inlX8 uf_X9_171 rfl (by decide) rfl rfl rfl ?_
        exact G_iret C dX9_triedMinutes_35 rfl
      · refine G_iload_n C 2 dX9_triedMinutes_36 rfl ?_
        refine G_callSi C kd_X9_countTold ut_X9_countTold um_X9_305 (c_X9_countTold l K (ro_W K A Y) x2) dX9_triedMinutes_37 rfl rfl (Nat.le_of_ble_eq_true rfl) (Nat.le_of_ble_eq_true rfl) ?_
        refine G_istore_n (lv' := [(3, .int (v_X9_countTold x2)), (0, .ref (A 4 0)), (1, .int x1), (2, .int x2)]) C dX9_triedMinutes_40 (by decide) rfl ?_
        refine G_aload_n C 1 dX9_triedMinutes_41 rfl ?_
        refine G_get C 0 5 dX9_triedMinutes_42 inlX9 uf_X9_53 rfl (by decide) rfl rfl rfl ?_
        refine G_get C 27 1 dX9_triedMinutes_45 inlX6 uf_X9_121 rfl (by decide) rfl rfl rfl ?_
        refine G_iload_n C 0 dX9_triedMinutes_48 rfl ?_
        refine G_callSi C kd_X9_at ut_X9_at um_X9_110 (c_at l K (ws := ro_W K A Y) (q0 := 29) (n := 9) (g := Y 1 1) (ad := (A 1 2)) (by decide) rfl (v_X9_countTold x2)) dX9_triedMinutes_49 rfl rfl (Nat.le_of_ble_eq_true rfl) (Nat.le_of_ble_eq_true rfl) ?_
        refine G_aload_n C 1 dX9_triedMinutes_52 rfl ?_
        refine G_get C 0 0 dX9_triedMinutes_53 inlX9 uf_X9_10 rfl (by decide) rfl rfl rfl ?_
        refine G_get C 1 1 dX9_triedMinutes_56 inlX6 uf_X9_121 rfl (by decide) rfl rfl rfl ?_
        refine G_iload_n C 0 dX9_triedMinutes_59 rfl ?_
        refine G_callSi C kd_X9_at ut_X9_at um_X9_110 (c_at l K (ws := ro_W K A Y) (q0 := 3) (n := 9) (g := Y 0 1) (ad := (A 0 2)) (by decide) rfl (v_X9_countTold x2)) dX9_triedMinutes_60 rfl rfl (Nat.le_of_ble_eq_true rfl) (Nat.le_of_ble_eq_true rfl) ?_
        refine G_isub C dX9_triedMinutes_63 ?_
        exact G_iret C dX9_triedMinutes_64 rfl
def p_X9_triedMinutes (Y : RS) (x1 : Int32) (x2 : Int32) : Int32 × RS := p_X9_triedMinutes_L2 (mu 0 + 1) Y x1 x2 0
theorem c_X9_triedMinutes (l : Launch) (K : gK) (A : Nat → Nat → Nat) (Y : RS) (x1 : Int32) (x2 : Int32) : Ct l K yX9_triedMinutes cX9_triedMinutes 4 (some .int) 6 [.ref (A 4 0), .int x1, .int x2] (ro_W K A Y) (some (.int (p_X9_triedMinutes Y x1 x2).1), ro_W K A ((p_X9_triedMinutes Y x1 x2).2)) := by
  refine Ct.of (own := RX9) (fun (z : Int32 × RS) => (some (.int z.1), ro_W K A z.2)) (x := p_X9_triedMinutes Y x1 x2) (by decide) rfl (Nat.le_of_ble_eq_true rfl) (fun Γ C => ?_)
  unfold p_X9_triedMinutes
  refine G_iconst C dX9_triedMinutes_0 (v := 0) rfl ?_
  refine G_istore_n (lv' := [(3, .int 0), (0, .ref (A 4 0)), (1, .int x1), (2, .int x2)]) C dX9_triedMinutes_1 (by decide) rfl ?_
  refine G_sub [1, 2, 3, 0] rfl ?_
  exact g_X9_triedMinutes_L2 C _ Y x1 x2 0 (Nat.lt_succ_self _)
/-! X9_ifPassed -/
theorem kd_X9_ifPassed : Card yX9_ifPassed cX9_ifPassed 3 (some .int) 2 := ⟨uc_X9_ifPassed, un_X9, ⟨by decide, by decide, by decide⟩, by decide⟩
def p_X9_ifPassed_L21 (Y : RS) (x1 : Int32) (x2 : Int32) : Int32 × RS := ((p_X9_triedMinutes Y x1 x2).1, (p_X9_triedMinutes Y x1 x2).2)
theorem g_X9_ifPassed_L21 {l : Launch} {K : gK} {Γ : gT} {A : Nat → Nat → Nat} (C : Cx l K Γ RX9 cX9_ifPassed 3 (some .int) 7) (Y : RS) (x1 : Int32) (x2 : Int32) : G l K Γ (ro_W K A Y) 21 3 [(0, .ref (A 4 0)), (1, .int x1), (2, .int x2)] [] (fun (z : Int32 × RS) => (some (.int z.1), ro_W K A z.2)) (p_X9_ifPassed_L21 Y x1 x2) := by
  unfold p_X9_ifPassed_L21
  refine G_aload_n C 0 dX9_ifPassed_21 rfl ?_
  refine G_iload_n C 1 dX9_ifPassed_22 rfl ?_
  refine G_iload_n C 2 dX9_ifPassed_23 rfl ?_
  refine G_callVi C 0 9 kd_X9_triedMinutes ui_X9_triedMinutes us_X9_triedMinutes um_X9_276 rfl rfl (c_X9_triedMinutes l K A Y x1 x2) dX9_ifPassed_24 rfl rfl (Nat.le_of_ble_eq_true rfl) (Nat.le_of_ble_eq_true rfl) ?_
  exact G_iret C dX9_ifPassed_27 rfl
def p_X9_ifPassed (Y : RS) (x1 : Int32) (x2 : Int32) : Int32 × RS := if (v_X9_isForesight x1 x2) = 0 then (-1, Y) else p_X9_ifPassed_L21 (yU Y 1 (Y 0)) x1 x2
theorem c_X9_ifPassed (l : Launch) (K : gK) (A : Nat → Nat → Nat) (Y : RS) (x1 : Int32) (x2 : Int32) : Ct l K yX9_ifPassed cX9_ifPassed 3 (some .int) 7 [.ref (A 4 0), .int x1, .int x2] (ro_W K A Y) (some (.int (p_X9_ifPassed Y x1 x2).1), ro_W K A ((p_X9_ifPassed Y x1 x2).2)) := by
  refine Ct.of (own := RX9) (fun (z : Int32 × RS) => (some (.int z.1), ro_W K A z.2)) (x := p_X9_ifPassed Y x1 x2) (by decide) rfl (Nat.le_of_ble_eq_true rfl) (fun Γ C => ?_)
  unfold p_X9_ifPassed
  refine G_iload_n C 1 dX9_ifPassed_0 rfl ?_
  refine G_iload_n C 2 dX9_ifPassed_1 rfl ?_
  refine G_callSi C kd_X9_isForesight ut_X9_isForesight um_X9_273 (c_X9_isForesight l K (ro_W K A Y) x1 x2) dX9_ifPassed_2 rfl rfl (Nat.le_of_ble_eq_true rfl) (Nat.le_of_ble_eq_true rfl) ?_
  refine G_if_ne C 10 dX9_ifPassed_5 rfl (fun h1 => ?_) (fun h1 => ?_)
  · refine G_iconst C dX9_ifPassed_8 (v := -1) rfl ?_
    exact G_iret C dX9_ifPassed_9 rfl
  · refine G_aload_n C 0 dX9_ifPassed_10 rfl ?_
    refine G_get C 0 5 dX9_ifPassed_11 inlX9 uf_X9_53 rfl (by decide) rfl rfl rfl ?_
    refine G_aload_n C 0 dX9_ifPassed_14 rfl ?_
    refine G_get C 0 0 dX9_ifPassed_15 inlX9 uf_X9_10 rfl (by decide) rfl rfl rfl ?_
    refine G_callVv C 27 6 kd_X6_copyFrom ui_X6_copyFrom us_X6_copyFrom um_X9_81 rfl rfl (c_scratch l K A Y) dX9_ifPassed_18 rfl rfl (Nat.le_of_ble_eq_true rfl) (Nat.le_of_ble_eq_true rfl) ?_
    refine G_sub [0, 1, 2] rfl ?_
    exact g_X9_ifPassed_L21 C (yU Y 1 (Y 0)) x1 x2
/-! X9_ifRule -/
theorem kd_X9_ifRule : Card yX9_ifRule cX9_ifRule 5 (some .int) 4 := ⟨uc_X9_ifRule, un_X9, ⟨by decide, by decide, by decide⟩, by decide⟩
def p_X9_ifRule_L42 (Y : RS) (x1 : Int32) (x2 : Int32) (x3 : Int32) (x4 : Int32) : Int32 × RS := ((p_X9_triedMinutes Y x3 x4).1, (p_X9_triedMinutes Y x3 x4).2)
theorem g_X9_ifRule_L42 {l : Launch} {K : gK} {Γ : gT} {A : Nat → Nat → Nat} (C : Cx l K Γ RX9 cX9_ifRule 5 (some .int) 7) (Y : RS) (x1 : Int32) (x2 : Int32) (x3 : Int32) (x4 : Int32) : G l K Γ (ro_W K A Y) 42 5 [(0, .ref (A 4 0)), (1, .int x1), (2, .int x2), (3, .int x3), (4, .int x4)] [] (fun (z : Int32 × RS) => (some (.int z.1), ro_W K A z.2)) (p_X9_ifRule_L42 Y x1 x2 x3 x4) := by
  unfold p_X9_ifRule_L42
  refine G_aload_n C 0 dX9_ifRule_42 rfl ?_
  refine G_iload_n C 3 dX9_ifRule_43 rfl ?_
  refine G_iload C 4 dX9_ifRule_44 rfl ?_
  refine G_callVi C 0 9 kd_X9_triedMinutes ui_X9_triedMinutes us_X9_triedMinutes um_X9_276 rfl rfl (c_X9_triedMinutes l K A Y x3 x4) dX9_ifRule_46 rfl rfl (Nat.le_of_ble_eq_true rfl) (Nat.le_of_ble_eq_true rfl) ?_
  exact G_iret C dX9_ifRule_49 rfl
def p_X9_ifRule_L30 (Y : RS) (x1 : Int32) (x2 : Int32) (x3 : Int32) (x4 : Int32) : Int32 × RS := p_X9_ifRule_L42 (yU Y 1 (sU (Y 1) 0 (put_ 3 (Y 1 0) x1 x2))) x1 x2 x3 x4
theorem g_X9_ifRule_L30 {l : Launch} {K : gK} {Γ : gT} {A : Nat → Nat → Nat} (C : Cx l K Γ RX9 cX9_ifRule 5 (some .int) 7) (Y : RS) (x1 : Int32) (x2 : Int32) (x3 : Int32) (x4 : Int32) : G l K Γ (ro_W K A Y) 30 5 [(0, .ref (A 4 0)), (1, .int x1), (2, .int x2), (3, .int x3), (4, .int x4)] [] (fun (z : Int32 × RS) => (some (.int z.1), ro_W K A z.2)) (p_X9_ifRule_L30 Y x1 x2 x3 x4) := by
  unfold p_X9_ifRule_L30
  refine G_aload_n C 0 dX9_ifRule_30 rfl ?_
  refine G_get C 0 5 dX9_ifRule_31 inlX9 uf_X9_53 rfl (by decide) rfl rfl rfl ?_
  refine G_get C 27 0 dX9_ifRule_34 inlX6 uf_X9_203 rfl (by decide) rfl rfl rfl ?_
  refine G_iload_n C 1 dX9_ifRule_37 rfl ?_
  refine G_iload_n C 2 dX9_ifRule_38 rfl ?_
  refine G_callSv C kd_X9_put ut_X9_put um_X9_195 (Ct.to (r' := (none, ro_W K A (yU Y 1 (sU (Y 1) 0 (put_ 3 (Y 1 0) x1 x2))))) (c_put l K (ws := ro_W K A Y) (q0 := 28) (n := 3) (g := Y 1 0) (ad := (A 1 1)) (by decide) rfl x1 x2) rfl) dX9_ifRule_39 rfl rfl (Nat.le_of_ble_eq_true rfl) (Nat.le_of_ble_eq_true rfl) ?_
  refine G_sub [0, 1, 2, 3, 4] rfl ?_
  exact g_X9_ifRule_L42 C (yU Y 1 (sU (Y 1) 0 (put_ 3 (Y 1 0) x1 x2))) x1 x2 x3 x4
def p_X9_ifRule (Y : RS) (x1 : Int32) (x2 : Int32) (x3 : Int32) (x4 : Int32) : Int32 × RS := if (v_X9_isRule x1 x2) = 0 then (-1, Y) else if (v_X9_isForesight x3 x4) = 0 then (-1, Y) else p_X9_ifRule_L30 (yU Y 1 (Y 0)) x1 x2 x3 x4
theorem c_X9_ifRule (l : Launch) (K : gK) (A : Nat → Nat → Nat) (Y : RS) (x1 : Int32) (x2 : Int32) (x3 : Int32) (x4 : Int32) : Ct l K yX9_ifRule cX9_ifRule 5 (some .int) 7 [.ref (A 4 0), .int x1, .int x2, .int x3, .int x4] (ro_W K A Y) (some (.int (p_X9_ifRule Y x1 x2 x3 x4).1), ro_W K A ((p_X9_ifRule Y x1 x2 x3 x4).2)) := by
  refine Ct.of (own := RX9) (fun (z : Int32 × RS) => (some (.int z.1), ro_W K A z.2)) (x := p_X9_ifRule Y x1 x2 x3 x4) (by decide) rfl (Nat.le_of_ble_eq_true rfl) (fun Γ C => ?_)
  unfold p_X9_ifRule
  refine G_iload_n C 1 dX9_ifRule_0 rfl ?_
  refine G_iload_n C 2 dX9_ifRule_1 rfl ?_
  refine G_callSi C kd_X9_isRule ut_X9_isRule um_X9_199 (c_X9_isRule l K (ro_W K A Y) x1 x2) dX9_ifRule_2 rfl rfl (Nat.le_of_ble_eq_true rfl) (Nat.le_of_ble_eq_true rfl) ?_
  refine G_if_eq C 17 dX9_ifRule_5 rfl (fun h1 => ?_) (fun h1 => ?_)
  · refine G_iconst C dX9_ifRule_17 (v := -1) rfl ?_
    exact G_iret C dX9_ifRule_18 rfl
  · refine G_iload_n C 3 dX9_ifRule_8 rfl ?_
    refine G_iload C 4 dX9_ifRule_9 rfl ?_
    refine G_callSi C kd_X9_isForesight ut_X9_isForesight um_X9_273 (c_X9_isForesight l K (ro_W K A Y) x3 x4) dX9_ifRule_11 rfl rfl (Nat.le_of_ble_eq_true rfl) (Nat.le_of_ble_eq_true rfl) ?_
    refine G_if_ne C 19 dX9_ifRule_14 rfl (fun h2 => ?_) (fun h2 => ?_)
    · refine G_iconst C dX9_ifRule_17 (v := -1) rfl ?_
      exact G_iret C dX9_ifRule_18 rfl
    · refine G_aload_n C 0 dX9_ifRule_19 rfl ?_
      refine G_get C 0 5 dX9_ifRule_20 inlX9 uf_X9_53 rfl (by decide) rfl rfl rfl ?_
      refine G_aload_n C 0 dX9_ifRule_23 rfl ?_
      refine G_get C 0 0 dX9_ifRule_24 inlX9 uf_X9_10 rfl (by decide) rfl rfl rfl ?_
      refine G_callVv C 27 6 kd_X6_copyFrom ui_X6_copyFrom us_X6_copyFrom um_X9_81 rfl rfl (c_scratch l K A Y) dX9_ifRule_27 rfl rfl (Nat.le_of_ble_eq_true rfl) (Nat.le_of_ble_eq_true rfl) ?_
      refine G_sub [0, 1, 2, 3, 4] rfl ?_
      exact g_X9_ifRule_L30 C (yU Y 1 (Y 0)) x1 x2 x3 x4
/-! X9_ifShut -/
theorem kd_X9_ifShut : Card yX9_ifShut cX9_ifShut 4 (some .int) 3 := ⟨uc_X9_ifShut, un_X9, ⟨by decide, by decide, by decide⟩, by decide⟩
def p_X9_ifShut_L62 (Y : RS) (x1 : Int32) (x2 : Int32) (x3 : Int32) : Int32 × RS := ((p_X9_triedMinutes Y x2 x3).1, (p_X9_triedMinutes Y x2 x3).2)
theorem g_X9_ifShut_L62 {l : Launch} {K : gK} {Γ : gT} {A : Nat → Nat → Nat} (C : Cx l K Γ RX9 cX9_ifShut 4 (some .int) 7) (Y : RS) (x1 : Int32) (x2 : Int32) (x3 : Int32) : G l K Γ (ro_W K A Y) 62 4 [(0, .ref (A 4 0)), (1, .int x1), (2, .int x2), (3, .int x3)] [] (fun (z : Int32 × RS) => (some (.int z.1), ro_W K A z.2)) (p_X9_ifShut_L62 Y x1 x2 x3) := by
  unfold p_X9_ifShut_L62
  refine G_aload_n C 0 dX9_ifShut_62 rfl ?_
  refine G_iload_n C 2 dX9_ifShut_63 rfl ?_
  refine G_iload_n C 3 dX9_ifShut_64 rfl ?_
  refine G_callVi C 0 9 kd_X9_triedMinutes ui_X9_triedMinutes us_X9_triedMinutes um_X9_276 rfl rfl (c_X9_triedMinutes l K A Y x2 x3) dX9_ifShut_65 rfl rfl (Nat.le_of_ble_eq_true rfl) (Nat.le_of_ble_eq_true rfl) ?_
  exact G_iret C dX9_ifShut_68 rfl
def p_X9_ifShut_L59 (Y : RS) (x1 : Int32) (x2 : Int32) (x3 : Int32) (t0 : Int32) (t1 : Int32) : Int32 × RS := p_X9_ifShut_L62 (yU Y 1 (s_X6_shutOrOpen (Y 1) t1 t0)) x1 x2 x3
theorem g_X9_ifShut_L59 {l : Launch} {K : gK} {Γ : gT} {A : Nat → Nat → Nat} (C : Cx l K Γ RX9 cX9_ifShut 4 (some .int) 7) (Y : RS) (x1 : Int32) (x2 : Int32) (x3 : Int32) (t0 : Int32) (t1 : Int32) : G l K Γ (ro_W K A Y) 59 4 [(0, .ref (A 4 0)), (1, .int x1), (2, .int x2), (3, .int x3)] [.int t0, .int t1, .ref (A 1 0)] (fun (z : Int32 × RS) => (some (.int z.1), ro_W K A z.2)) (p_X9_ifShut_L59 Y x1 x2 x3 t0 t1) := by
  unfold p_X9_ifShut_L59
  refine G_callVv C 27 6 kd_X6_shutOrOpen ui_X6_shutOrOpen us_X6_shutOrOpen um_X9_158 rfl rfl (Ct.chunk1 (cs := ro_C K A Y) (cs' := ro_C K A (yU Y 1 (s_X6_shutOrOpen (Y 1) t1 t0))) 3 rfl rfl (c_X6_shutOrOpen l K (A 1) (Y 1) t1 t0)) dX9_ifShut_59 rfl rfl (Nat.le_of_ble_eq_true rfl) (Nat.le_of_ble_eq_true rfl) ?_
  refine G_sub [0, 1, 2, 3] rfl ?_
  exact g_X9_ifShut_L62 C (yU Y 1 (s_X6_shutOrOpen (Y 1) t1 t0)) x1 x2 x3
def p_X9_ifShut_L35 (Y : RS) (x1 : Int32) (x2 : Int32) (x3 : Int32) : Int32 × RS := if (v_X2_isOpen (Y 0) x1) = 0 then p_X9_ifShut_L59 Y x1 x2 x3 1 x1 else p_X9_ifShut_L59 Y x1 x2 x3 0 x1
theorem g_X9_ifShut_L35 {l : Launch} {K : gK} {Γ : gT} {A : Nat → Nat → Nat} (C : Cx l K Γ RX9 cX9_ifShut 4 (some .int) 7) (Y : RS) (x1 : Int32) (x2 : Int32) (x3 : Int32) : G l K Γ (ro_W K A Y) 35 4 [(0, .ref (A 4 0)), (1, .int x1), (2, .int x2), (3, .int x3)] [] (fun (z : Int32 × RS) => (some (.int z.1), ro_W K A z.2)) (p_X9_ifShut_L35 Y x1 x2 x3) := by
  unfold p_X9_ifShut_L35
  refine G_aload_n C 0 dX9_ifShut_35 rfl ?_
  refine G_get C 0 5 dX9_ifShut_36 inlX9 uf_X9_53 rfl (by decide) rfl rfl rfl ?_
  refine G_iload_n C 1 dX9_ifShut_39 rfl ?_
  refine G_aload_n C 0 dX9_ifShut_40 rfl ?_
  refine G_get C 0 0 dX9_ifShut_41 inlX9 uf_X9_10 rfl (by decide) rfl rfl rfl ?_
  refine G_get C 1 2 dX9_ifShut_44 inlX6 uf_X9_89 rfl (by decide) rfl rfl rfl ?_
  refine G_iload_n C 1 dX9_ifShut_47 rfl ?_
  refine G_callVi C 4 2 kd_X2_isOpen ui_X2_isOpen us_X2_isOpen um_X9_168 rfl rfl (Ct.chunk1 (cs := ro_C K A Y) (cs' := ro_C K A Y) 1 rfl rfl (c_X2_isOpen l K (A 0) (Y 0) x1)) dX9_ifShut_48 rfl rfl (Nat.le_of_ble_eq_true rfl) (Nat.le_of_ble_eq_true rfl) ?_
  refine G_if_eq C 58 dX9_ifShut_51 rfl (fun h3 => ?_) (fun h3 => ?_)
  · refine G_iconst C dX9_ifShut_58 (v := 1) rfl ?_
    refine G_sub [0, 1, 2, 3] rfl ?_
    exact g_X9_ifShut_L59 C Y x1 x2 x3 1 x1
  · refine G_iconst C dX9_ifShut_54 (v := 0) rfl ?_
    refine G_goto C 59 dX9_ifShut_55 rfl ?_
    refine G_sub [0, 1, 2, 3] rfl ?_
    exact g_X9_ifShut_L59 C Y x1 x2 x3 0 x1
def p_X9_ifShut (Y : RS) (x1 : Int32) (x2 : Int32) (x3 : Int32) : Int32 × RS := if (v_X2_has (Y 0) x1) = 0 then (-1, Y) else if (v_X9_isForesight x2 x3) = 0 then (-1, Y) else p_X9_ifShut_L35 (yU Y 1 (Y 0)) x1 x2 x3
theorem c_X9_ifShut (l : Launch) (K : gK) (A : Nat → Nat → Nat) (Y : RS) (x1 : Int32) (x2 : Int32) (x3 : Int32) : Ct l K yX9_ifShut cX9_ifShut 4 (some .int) 7 [.ref (A 4 0), .int x1, .int x2, .int x3] (ro_W K A Y) (some (.int (p_X9_ifShut Y x1 x2 x3).1), ro_W K A ((p_X9_ifShut Y x1 x2 x3).2)) := by
  refine Ct.of (own := RX9) (fun (z : Int32 × RS) => (some (.int z.1), ro_W K A z.2)) (x := p_X9_ifShut Y x1 x2 x3) (by decide) rfl (Nat.le_of_ble_eq_true rfl) (fun Γ C => ?_)
  unfold p_X9_ifShut
  refine G_aload_n C 0 dX9_ifShut_0 rfl ?_
  refine G_get C 0 0 dX9_ifShut_1 inlX9 uf_X9_10 rfl (by decide) rfl rfl rfl ?_
  refine G_get C 1 2 dX9_ifShut_4 inlX6 uf_X9_89 rfl (by decide) rfl rfl rfl ?_
  refine G_iload_n C 1 dX9_ifShut_7 rfl ?_
  refine G_callVi C 4 2 kd_X2_has ui_X2_has us_X2_has um_X9_98 rfl rfl (Ct.chunk1 (cs := ro_C K A Y) (cs' := ro_C K A Y) 1 rfl rfl (c_X2_has l K (A 0) (Y 0) x1)) dX9_ifShut_8 rfl rfl (Nat.le_of_ble_eq_true rfl) (Nat.le_of_ble_eq_true rfl) ?_
  refine G_if_eq C 22 dX9_ifShut_11 rfl (fun h1 => ?_) (fun h1 => ?_)
  · refine G_iconst C dX9_ifShut_22 (v := -1) rfl ?_
    exact G_iret C dX9_ifShut_23 rfl
  · refine G_iload_n C 2 dX9_ifShut_14 rfl ?_
    refine G_iload_n C 3 dX9_ifShut_15 rfl ?_
    refine G_callSi C kd_X9_isForesight ut_X9_isForesight um_X9_273 (c_X9_isForesight l K (ro_W K A Y) x2 x3) dX9_ifShut_16 rfl rfl (Nat.le_of_ble_eq_true rfl) (Nat.le_of_ble_eq_true rfl) ?_
    refine G_if_ne C 24 dX9_ifShut_19 rfl (fun h2 => ?_) (fun h2 => ?_)
    · refine G_iconst C dX9_ifShut_22 (v := -1) rfl ?_
      exact G_iret C dX9_ifShut_23 rfl
    · refine G_aload_n C 0 dX9_ifShut_24 rfl ?_
      refine G_get C 0 5 dX9_ifShut_25 inlX9 uf_X9_53 rfl (by decide) rfl rfl rfl ?_
      refine G_aload_n C 0 dX9_ifShut_28 rfl ?_
      refine G_get C 0 0 dX9_ifShut_29 inlX9 uf_X9_10 rfl (by decide) rfl rfl rfl ?_
      refine G_callVv C 27 6 kd_X6_copyFrom ui_X6_copyFrom us_X6_copyFrom um_X9_81 rfl rfl (c_scratch l K A Y) dX9_ifShut_32 rfl rfl (Nat.le_of_ble_eq_true rfl) (Nat.le_of_ble_eq_true rfl) ?_
      refine G_sub [0, 1, 2, 3] rfl ?_
      exact g_X9_ifShut_L35 C (yU Y 1 (Y 0)) x1 x2 x3
/-! X9_bestSpeak -/
theorem kd_X9_bestSpeak : Card yX9_bestSpeak cX9_bestSpeak 6 (some .int) 1 := ⟨uc_X9_bestSpeak, un_X9, ⟨by decide, by decide, by decide⟩, by decide⟩
def p_X9_bestSpeak_L54 (rc : RS → Int32 → Int32 → Int32 → Int32 → Int32 × RS) (Y : RS) (x1 : Int32) (x2 : Int32) (x3 : Int32) (x4 : Int32) (t0 : Int32) : Int32 × RS := if x3 < t0 then rc Y x1 x4 t0 (x4 + 1) else rc Y x1 x2 x3 (x4 + 1)
theorem g_X9_bestSpeak_L54 {l : Launch} {K : gK} {Γ : gT} {A : Nat → Nat → Nat} (C : Cx l K Γ RX9 cX9_bestSpeak 6 (some .int) 7) (rc : RS → Int32 → Int32 → Int32 → Int32 → Int32 × RS) (n : Nat) (hrc : ∀ (Y : RS) (x1 : Int32) (x2 : Int32) (x3 : Int32) (x4 : Int32), mu x4 < n → G l K Γ (ro_W K A Y) 17 6 [(0, .ref (A 4 0)), (1, .int x1), (2, .int x2), (3, .int x3), (4, .int x4)] [] (fun (z : Int32 × RS) => (some (.int z.1), ro_W K A z.2)) (rc Y x1 x2 x3 x4)) (Y : RS) (x1 : Int32) (x2 : Int32) (x3 : Int32) (x4 : Int32) (t0 : Int32) (hb : mu (x4 + 1) < n) : G l K Γ (ro_W K A Y) 54 6 [(0, .ref (A 4 0)), (1, .int x1), (2, .int x2), (3, .int x3), (4, .int x4)] [.int t0] (fun (z : Int32 × RS) => (some (.int z.1), ro_W K A z.2)) (p_X9_bestSpeak_L54 rc Y x1 x2 x3 x4 t0) := by
  unfold p_X9_bestSpeak_L54
  refine G_istore (lv' := [(5, .int t0), (0, .ref (A 4 0)), (1, .int x1), (2, .int x2), (3, .int x3), (4, .int x4)]) C dX9_bestSpeak_54 (by decide) rfl ?_
  refine G_iload C 0 dX9_bestSpeak_56 rfl ?_
  refine G_iload_n C 4 dX9_bestSpeak_58 rfl ?_
  refine G_icmp_le C 68 dX9_bestSpeak_59 rfl (fun h3 => ?_) (fun h3 => ?_)
  · refine G_iload C 5 dX9_bestSpeak_62 rfl ?_
    refine G_istore_n (lv' := [(2, .int x4), (5, .int t0), (0, .ref (A 4 0)), (1, .int x1), (3, .int x3), (4, .int x4)]) C dX9_bestSpeak_64 (by decide) rfl ?_
    refine G_iload C 1 dX9_bestSpeak_65 rfl ?_
    refine G_istore_n (lv' := [(3, .int t0), (2, .int x4), (5, .int t0), (0, .ref (A 4 0)), (1, .int x1), (4, .int x4)]) C dX9_bestSpeak_67 (by decide) rfl ?_
    refine G_iinc (lv' := [(4, .int (x4 + 1)), (3, .int t0), (2, .int x4), (5, .int t0), (0, .ref (A 4 0)), (1, .int x1)]) C 5 dX9_bestSpeak_68 rfl rfl (by decide) rfl ?_
    refine G_goto C 17 dX9_bestSpeak_71 rfl ?_
    refine G_sub [4, 5, 2, 1, 0] rfl ?_
    exact hrc Y x1 x4 t0 (x4 + 1) hb
  · refine G_iinc (lv' := [(4, .int (x4 + 1)), (5, .int t0), (0, .ref (A 4 0)), (1, .int x1), (2, .int x2), (3, .int x3)]) C 5 dX9_bestSpeak_68 rfl rfl (by decide) rfl ?_
    refine G_goto C 17 dX9_bestSpeak_71 rfl ?_
    refine G_sub [2, 3, 4, 5, 0] rfl ?_
    exact hrc Y x1 x2 x3 (x4 + 1) hb
def p_X9_bestSpeak_L48 (rc : RS → Int32 → Int32 → Int32 → Int32 → Int32 × RS) (Y : RS) (x1 : Int32) (x2 : Int32) (x3 : Int32) (x4 : Int32) : Int32 × RS := p_X9_bestSpeak_L54 rc ((p_X9_triedMinutes Y x1 0).2) x1 x2 x3 x4 ((p_X9_triedMinutes Y x1 0).1)
theorem g_X9_bestSpeak_L48 {l : Launch} {K : gK} {Γ : gT} {A : Nat → Nat → Nat} (C : Cx l K Γ RX9 cX9_bestSpeak 6 (some .int) 7) (rc : RS → Int32 → Int32 → Int32 → Int32 → Int32 × RS) (n : Nat) (hrc : ∀ (Y : RS) (x1 : Int32) (x2 : Int32) (x3 : Int32) (x4 : Int32), mu x4 < n → G l K Γ (ro_W K A Y) 17 6 [(0, .ref (A 4 0)), (1, .int x1), (2, .int x2), (3, .int x3), (4, .int x4)] [] (fun (z : Int32 × RS) => (some (.int z.1), ro_W K A z.2)) (rc Y x1 x2 x3 x4)) (Y : RS) (x1 : Int32) (x2 : Int32) (x3 : Int32) (x4 : Int32) (hb : mu (x4 + 1) < n) : G l K Γ (ro_W K A Y) 48 6 [(0, .ref (A 4 0)), (1, .int x1), (2, .int x2), (3, .int x3), (4, .int x4)] [] (fun (z : Int32 × RS) => (some (.int z.1), ro_W K A z.2)) (p_X9_bestSpeak_L48 rc Y x1 x2 x3 x4) := by
  unfold p_X9_bestSpeak_L48
  refine G_aload_n C 0 dX9_bestSpeak_48 rfl ?_
  refine G_iload_n C 1 dX9_bestSpeak_49 rfl ?_
  refine G_iconst C dX9_bestSpeak_50 (v := 0) rfl ?_
  refine G_callVi C 0 9 kd_X9_triedMinutes ui_X9_triedMinutes us_X9_triedMinutes um_X9_276 rfl rfl (c_X9_triedMinutes l K A Y x1 0) dX9_bestSpeak_51 rfl rfl (Nat.le_of_ble_eq_true rfl) (Nat.le_of_ble_eq_true rfl) ?_
  refine G_sub [0, 1, 2, 3, 4] rfl ?_
  exact g_X9_bestSpeak_L54 C _ n hrc ((p_X9_triedMinutes Y x1 0).2) x1 x2 x3 x4 ((p_X9_triedMinutes Y x1 0).1) hb
def p_X9_bestSpeak_L35 (rc : RS → Int32 → Int32 → Int32 → Int32 → Int32 × RS) (Y : RS) (x1 : Int32) (x2 : Int32) (x3 : Int32) (x4 : Int32) : Int32 × RS := p_X9_bestSpeak_L48 rc (yU Y 1 (sU (Y 1) 0 (put_ 3 (Y 1 0) 0 x4))) x1 x2 x3 x4
theorem g_X9_bestSpeak_L35 {l : Launch} {K : gK} {Γ : gT} {A : Nat → Nat → Nat} (C : Cx l K Γ RX9 cX9_bestSpeak 6 (some .int) 7) (rc : RS → Int32 → Int32 → Int32 → Int32 → Int32 × RS) (n : Nat) (hrc : ∀ (Y : RS) (x1 : Int32) (x2 : Int32) (x3 : Int32) (x4 : Int32), mu x4 < n → G l K Γ (ro_W K A Y) 17 6 [(0, .ref (A 4 0)), (1, .int x1), (2, .int x2), (3, .int x3), (4, .int x4)] [] (fun (z : Int32 × RS) => (some (.int z.1), ro_W K A z.2)) (rc Y x1 x2 x3 x4)) (Y : RS) (x1 : Int32) (x2 : Int32) (x3 : Int32) (x4 : Int32) (hb : mu (x4 + 1) < n) : G l K Γ (ro_W K A Y) 35 6 [(0, .ref (A 4 0)), (1, .int x1), (2, .int x2), (3, .int x3), (4, .int x4)] [] (fun (z : Int32 × RS) => (some (.int z.1), ro_W K A z.2)) (p_X9_bestSpeak_L35 rc Y x1 x2 x3 x4) := by
  unfold p_X9_bestSpeak_L35
  refine G_aload_n C 0 dX9_bestSpeak_35 rfl ?_
  refine G_get C 0 5 dX9_bestSpeak_36 inlX9 uf_X9_53 rfl (by decide) rfl rfl rfl ?_
  refine G_get C 27 0 dX9_bestSpeak_39 inlX6 uf_X9_203 rfl (by decide) rfl rfl rfl ?_
  refine G_iconst C dX9_bestSpeak_42 (v := 0) rfl ?_
  refine G_iload C 4 dX9_bestSpeak_43 rfl ?_
  refine G_callSv C kd_X9_put ut_X9_put um_X9_195 (Ct.to (r' := (none, ro_W K A (yU Y 1 (sU (Y 1) 0 (put_ 3 (Y 1 0) 0 x4))))) (c_put l K (ws := ro_W K A Y) (q0 := 28) (n := 3) (g := Y 1 0) (ad := (A 1 1)) (by decide) rfl 0 x4) rfl) dX9_bestSpeak_45 rfl rfl (Nat.le_of_ble_eq_true rfl) (Nat.le_of_ble_eq_true rfl) ?_
  refine G_sub [0, 1, 2, 3, 4] rfl ?_
  exact g_X9_bestSpeak_L48 C _ n hrc (yU Y 1 (sU (Y 1) 0 (put_ 3 (Y 1 0) 0 x4))) x1 x2 x3 x4 hb
def p_X9_bestSpeak_L17 : Nat → RS → Int32 → Int32 → Int32 → Int32 → Int32 × RS
  | 0, Y, _, _, _, _ => (0, Y)
  | fuel + 1, Y, x1, x2, x3, x4 => if 20 < x4 then (x2, Y) else p_X9_bestSpeak_L35 (p_X9_bestSpeak_L17 fuel) (yU Y 1 (Y 0)) x1 x2 x3 x4
theorem g_X9_bestSpeak_L17 {l : Launch} {K : gK} {Γ : gT} {A : Nat → Nat → Nat} (C : Cx l K Γ RX9 cX9_bestSpeak 6 (some .int) 7) : ∀ (n : Nat) (Y : RS) (x1 : Int32) (x2 : Int32) (x3 : Int32) (x4 : Int32), mu x4 < n → G l K Γ (ro_W K A Y) 17 6 [(0, .ref (A 4 0)), (1, .int x1), (2, .int x2), (3, .int x3), (4, .int x4)] [] (fun (z : Int32 × RS) => (some (.int z.1), ro_W K A z.2)) (p_X9_bestSpeak_L17 n Y x1 x2 x3 x4) := by
  intro n
  induction n with
  | zero =>
    intro Y x1 x2 x3 x4 hm
    exact absurd hm (Nat.not_lt_zero _)
  | succ n ih =>
    intro Y x1 x2 x3 x4 hm
    rw [p_X9_bestSpeak_L17]
    refine G_iload C 4 dX9_bestSpeak_17 rfl ?_
    refine G_bipush C dX9_bestSpeak_19 (v := 20) rfl ?_
    refine G_icmp_gt C 74 dX9_bestSpeak_21 rfl (fun h2 => ?_) (fun h2 => ?_)
    · refine G_iload_n C 2 dX9_bestSpeak_74 rfl ?_
      exact G_iret C dX9_bestSpeak_75 rfl
    · refine G_aload_n C 0 dX9_bestSpeak_24 rfl ?_
      refine G_get C 0 5 dX9_bestSpeak_25 inlX9 uf_X9_53 rfl (by decide) rfl rfl rfl ?_
      refine G_aload_n C 0 dX9_bestSpeak_28 rfl ?_
      refine G_get C 0 0 dX9_bestSpeak_29 inlX9 uf_X9_10 rfl (by decide) rfl rfl rfl ?_
      refine G_callVv C 27 6 kd_X6_copyFrom ui_X6_copyFrom us_X6_copyFrom um_X9_81 rfl rfl (c_scratch l K A Y) dX9_bestSpeak_32 rfl rfl (Nat.le_of_ble_eq_true rfl) (Nat.le_of_ble_eq_true rfl) ?_
      refine G_sub [0, 1, 2, 3, 4] rfl ?_
      exact g_X9_bestSpeak_L35 C _ n ih (yU Y 1 (Y 0)) x1 x2 x3 x4 (by have := mu_upc h2 (by decide); omega)
def p_X9_bestSpeak (Y : RS) (x1 : Int32) : Int32 × RS := if (v_X9_isForesight x1 0) = 0 then (-1, Y) else p_X9_bestSpeak_L17 (mu 1 + 1) Y x1 1 (-1) 1
theorem c_X9_bestSpeak (l : Launch) (K : gK) (A : Nat → Nat → Nat) (Y : RS) (x1 : Int32) : Ct l K yX9_bestSpeak cX9_bestSpeak 6 (some .int) 7 [.ref (A 4 0), .int x1] (ro_W K A Y) (some (.int (p_X9_bestSpeak Y x1).1), ro_W K A ((p_X9_bestSpeak Y x1).2)) := by
  refine Ct.of (own := RX9) (fun (z : Int32 × RS) => (some (.int z.1), ro_W K A z.2)) (x := p_X9_bestSpeak Y x1) (by decide) rfl (Nat.le_of_ble_eq_true rfl) (fun Γ C => ?_)
  unfold p_X9_bestSpeak
  refine G_iload_n C 1 dX9_bestSpeak_0 rfl ?_
  refine G_iconst C dX9_bestSpeak_1 (v := 0) rfl ?_
  refine G_callSi C kd_X9_isForesight ut_X9_isForesight um_X9_273 (c_X9_isForesight l K (ro_W K A Y) x1 0) dX9_bestSpeak_2 rfl rfl (Nat.le_of_ble_eq_true rfl) (Nat.le_of_ble_eq_true rfl) ?_
  refine G_if_ne C 10 dX9_bestSpeak_5 rfl (fun h1 => ?_) (fun h1 => ?_)
  · refine G_iconst C dX9_bestSpeak_8 (v := -1) rfl ?_
    exact G_iret C dX9_bestSpeak_9 rfl
  · refine G_iconst C dX9_bestSpeak_10 (v := 1) rfl ?_
    refine G_istore_n (lv' := [(2, .int 1), (0, .ref (A 4 0)), (1, .int x1)]) C dX9_bestSpeak_11 (by decide) rfl ?_
    refine G_iconst C dX9_bestSpeak_12 (v := -1) rfl ?_
    refine G_istore_n (lv' := [(3, .int (-1)), (2, .int 1), (0, .ref (A 4 0)), (1, .int x1)]) C dX9_bestSpeak_13 (by decide) rfl ?_
    refine G_iconst C dX9_bestSpeak_14 (v := 1) rfl ?_
    refine G_istore (lv' := [(4, .int 1), (3, .int (-1)), (2, .int 1), (0, .ref (A 4 0)), (1, .int x1)]) C dX9_bestSpeak_15 (by decide) rfl ?_
    refine G_sub [3, 4, 2, 1, 0] rfl ?_
    exact g_X9_bestSpeak_L17 C _ Y x1 1 (-1) 1 (Nat.lt_succ_self _)
/-! X9_leastQuota -/
theorem kd_X9_leastQuota : Card yX9_leastQuota cX9_leastQuota 3 (some .int) 0 := ⟨uc_X9_leastQuota, un_X9, ⟨by decide, by decide, by decide⟩, by decide⟩
def p_X9_leastQuota_L64 (rc : RS → Int32 → Int32 → Int32 × RS) (Y : RS) (x1 : Int32) (x2 : Int32) (t0 : Int32) : Int32 × RS := if t0 = (-2) then rc Y x1 (x2 + 1) else (x2, Y)
theorem g_X9_leastQuota_L64 {l : Launch} {K : gK} {Γ : gT} {A : Nat → Nat → Nat} (C : Cx l K Γ RX9 cX9_leastQuota 3 (some .int) 7) (rc : RS → Int32 → Int32 → Int32 × RS) (n : Nat) (hrc : ∀ (Y : RS) (x1 : Int32) (x2 : Int32), mu x2 < n → G l K Γ (ro_W K A Y) 30 3 [(0, .ref (A 4 0)), (1, .int x1), (2, .int x2)] [] (fun (z : Int32 × RS) => (some (.int z.1), ro_W K A z.2)) (rc Y x1 x2)) (Y : RS) (x1 : Int32) (x2 : Int32) (t0 : Int32) (hb : mu (x2 + 1) < n) : G l K Γ (ro_W K A Y) 64 3 [(0, .ref (A 4 0)), (1, .int x1), (2, .int x2)] [.int t0] (fun (z : Int32 × RS) => (some (.int z.1), ro_W K A z.2)) (p_X9_leastQuota_L64 rc Y x1 x2 t0) := by
  unfold p_X9_leastQuota_L64
  refine G_bipush C dX9_leastQuota_64 (v := -2) rfl ?_
  refine G_icmp_eq C 71 dX9_leastQuota_66 rfl (fun h3 => ?_) (fun h3 => ?_)
  · refine G_iinc (lv' := [(2, .int (x2 + 1)), (0, .ref (A 4 0)), (1, .int x1)]) C 2 dX9_leastQuota_71 rfl rfl (by decide) rfl ?_
    refine G_goto C 30 dX9_leastQuota_74 rfl ?_
    refine G_sub [1, 2, 0] rfl ?_
    exact hrc Y x1 (x2 + 1) hb
  · refine G_iload_n C 2 dX9_leastQuota_69 rfl ?_
    exact G_iret C dX9_leastQuota_70 rfl
def p_X9_leastQuota_L59 (rc : RS → Int32 → Int32 → Int32 × RS) (Y : RS) (x1 : Int32) (x2 : Int32) : Int32 × RS := p_X9_leastQuota_L64 rc ((p_X9_triedUntilDone Y x1).2) x1 x2 ((p_X9_triedUntilDone Y x1).1)
theorem g_X9_leastQuota_L59 {l : Launch} {K : gK} {Γ : gT} {A : Nat → Nat → Nat} (C : Cx l K Γ RX9 cX9_leastQuota 3 (some .int) 7) (rc : RS → Int32 → Int32 → Int32 × RS) (n : Nat) (hrc : ∀ (Y : RS) (x1 : Int32) (x2 : Int32), mu x2 < n → G l K Γ (ro_W K A Y) 30 3 [(0, .ref (A 4 0)), (1, .int x1), (2, .int x2)] [] (fun (z : Int32 × RS) => (some (.int z.1), ro_W K A z.2)) (rc Y x1 x2)) (Y : RS) (x1 : Int32) (x2 : Int32) (hb : mu (x2 + 1) < n) : G l K Γ (ro_W K A Y) 59 3 [(0, .ref (A 4 0)), (1, .int x1), (2, .int x2)] [] (fun (z : Int32 × RS) => (some (.int z.1), ro_W K A z.2)) (p_X9_leastQuota_L59 rc Y x1 x2) := by
  unfold p_X9_leastQuota_L59
  refine G_aload_n C 0 dX9_leastQuota_59 rfl ?_
  refine G_iload_n C 1 dX9_leastQuota_60 rfl ?_
  refine G_callVi C 0 9 kd_X9_triedUntilDone ui_X9_triedUntilDone us_X9_triedUntilDone um_X9_270 rfl rfl (c_X9_triedUntilDone l K A Y x1) dX9_leastQuota_61 rfl rfl (Nat.le_of_ble_eq_true rfl) (Nat.le_of_ble_eq_true rfl) ?_
  refine G_sub [0, 1, 2] rfl ?_
  exact g_X9_leastQuota_L64 C _ n hrc ((p_X9_triedUntilDone Y x1).2) x1 x2 ((p_X9_triedUntilDone Y x1).1) hb
def p_X9_leastQuota_L47 (rc : RS → Int32 → Int32 → Int32 × RS) (Y : RS) (x1 : Int32) (x2 : Int32) : Int32 × RS := p_X9_leastQuota_L59 rc (yU Y 1 (sU (Y 1) 0 (put_ 3 (Y 1 0) 2 x2))) x1 x2
theorem g_X9_leastQuota_L47 {l : Launch} {K : gK} {Γ : gT} {A : Nat → Nat → Nat} (C : Cx l K Γ RX9 cX9_leastQuota 3 (some .int) 7) (rc : RS → Int32 → Int32 → Int32 × RS) (n : Nat) (hrc : ∀ (Y : RS) (x1 : Int32) (x2 : Int32), mu x2 < n → G l K Γ (ro_W K A Y) 30 3 [(0, .ref (A 4 0)), (1, .int x1), (2, .int x2)] [] (fun (z : Int32 × RS) => (some (.int z.1), ro_W K A z.2)) (rc Y x1 x2)) (Y : RS) (x1 : Int32) (x2 : Int32) (hb : mu (x2 + 1) < n) : G l K Γ (ro_W K A Y) 47 3 [(0, .ref (A 4 0)), (1, .int x1), (2, .int x2)] [] (fun (z : Int32 × RS) => (some (.int z.1), ro_W K A z.2)) (p_X9_leastQuota_L47 rc Y x1 x2) := by
  unfold p_X9_leastQuota_L47
  refine G_aload_n C 0 dX9_leastQuota_47 rfl ?_
  refine G_get C 0 5 dX9_leastQuota_48 inlX9 uf_X9_53 rfl (by decide) rfl rfl rfl ?_
  refine G_get C 27 0 dX9_leastQuota_51 inlX6 uf_X9_203 rfl (by decide) rfl rfl rfl ?_
  refine G_iconst C dX9_leastQuota_54 (v := 2) rfl ?_
  refine G_iload_n C 2 dX9_leastQuota_55 rfl ?_
  refine G_callSv C kd_X9_put ut_X9_put um_X9_195 (Ct.to (r' := (none, ro_W K A (yU Y 1 (sU (Y 1) 0 (put_ 3 (Y 1 0) 2 x2))))) (c_put l K (ws := ro_W K A Y) (q0 := 28) (n := 3) (g := Y 1 0) (ad := (A 1 1)) (by decide) rfl 2 x2) rfl) dX9_leastQuota_56 rfl rfl (Nat.le_of_ble_eq_true rfl) (Nat.le_of_ble_eq_true rfl) ?_
  refine G_sub [0, 1, 2] rfl ?_
  exact g_X9_leastQuota_L59 C _ n hrc (yU Y 1 (sU (Y 1) 0 (put_ 3 (Y 1 0) 2 x2))) x1 x2 hb
def p_X9_leastQuota_L30 : Nat → RS → Int32 → Int32 → Int32 × RS
  | 0, Y, _, _ => (0, Y)
  | fuel + 1, Y, x1, x2 => if 60 < x2 then (-2, Y) else p_X9_leastQuota_L47 (p_X9_leastQuota_L30 fuel) (yU Y 1 (Y 0)) x1 x2
theorem g_X9_leastQuota_L30 {l : Launch} {K : gK} {Γ : gT} {A : Nat → Nat → Nat} (C : Cx l K Γ RX9 cX9_leastQuota 3 (some .int) 7) : ∀ (n : Nat) (Y : RS) (x1 : Int32) (x2 : Int32), mu x2 < n → G l K Γ (ro_W K A Y) 30 3 [(0, .ref (A 4 0)), (1, .int x1), (2, .int x2)] [] (fun (z : Int32 × RS) => (some (.int z.1), ro_W K A z.2)) (p_X9_leastQuota_L30 n Y x1 x2) := by
  intro n
  induction n with
  | zero =>
    intro Y x1 x2 hm
    exact absurd hm (Nat.not_lt_zero _)
  | succ n ih =>
    intro Y x1 x2 hm
    rw [p_X9_leastQuota_L30]
    refine G_iload_n C 2 dX9_leastQuota_30 rfl ?_
    refine G_bipush C dX9_leastQuota_31 (v := 60) rfl ?_
    refine G_icmp_gt C 77 dX9_leastQuota_33 rfl (fun h2 => ?_) (fun h2 => ?_)
    · refine G_bipush C dX9_leastQuota_77 (v := -2) rfl ?_
      exact G_iret C dX9_leastQuota_79 rfl
    · refine G_aload_n C 0 dX9_leastQuota_36 rfl ?_
      refine G_get C 0 5 dX9_leastQuota_37 inlX9 uf_X9_53 rfl (by decide) rfl rfl rfl ?_
      refine G_aload_n C 0 dX9_leastQuota_40 rfl ?_
      refine G_get C 0 0 dX9_leastQuota_41 inlX9 uf_X9_10 rfl (by decide) rfl rfl rfl ?_
      refine G_callVv C 27 6 kd_X6_copyFrom ui_X6_copyFrom us_X6_copyFrom um_X9_81 rfl rfl (c_scratch l K A Y) dX9_leastQuota_44 rfl rfl (Nat.le_of_ble_eq_true rfl) (Nat.le_of_ble_eq_true rfl) ?_
      refine G_sub [0, 1, 2] rfl ?_
      exact g_X9_leastQuota_L47 C _ n ih (yU Y 1 (Y 0)) x1 x2 (by have := mu_upc h2 (by decide); omega)
def p_X9_leastQuota_L18 (Y : RS) (t0 : Int32) : Int32 × RS := if t0 = (-2) then (-2, Y) else p_X9_leastQuota_L30 (mu 1 + 1) Y t0 1
theorem g_X9_leastQuota_L18 {l : Launch} {K : gK} {Γ : gT} {A : Nat → Nat → Nat} (C : Cx l K Γ RX9 cX9_leastQuota 3 (some .int) 7) (Y : RS) (t0 : Int32) : G l K Γ (ro_W K A Y) 18 3 [(0, .ref (A 4 0))] [.int t0] (fun (z : Int32 × RS) => (some (.int z.1), ro_W K A z.2)) (p_X9_leastQuota_L18 Y t0) := by
  unfold p_X9_leastQuota_L18
  refine G_istore_n (lv' := [(1, .int t0), (0, .ref (A 4 0))]) C dX9_leastQuota_18 (by decide) rfl ?_
  refine G_iload_n C 0 dX9_leastQuota_19 rfl ?_
  refine G_bipush C dX9_leastQuota_20 (v := -2) rfl ?_
  refine G_icmp_ne C 28 dX9_leastQuota_22 rfl (fun h1 => ?_) (fun h1 => ?_)
  · refine G_bipush C dX9_leastQuota_25 (v := -2) rfl ?_
    exact G_iret C dX9_leastQuota_27 rfl
  · refine G_iconst C dX9_leastQuota_28 (v := 1) rfl ?_
    refine G_istore_n (lv' := [(2, .int 1), (1, .int t0), (0, .ref (A 4 0))]) C dX9_leastQuota_29 (by decide) rfl ?_
    refine G_sub [2, 1, 0] rfl ?_
    exact g_X9_leastQuota_L30 C _ Y t0 1 (Nat.lt_succ_self _)
def p_X9_leastQuota_L11 (Y : RS) : Int32 × RS := p_X9_leastQuota_L18 ((p_X9_triedUntilDone Y 500).2) ((p_X9_triedUntilDone Y 500).1)
theorem g_X9_leastQuota_L11 {l : Launch} {K : gK} {Γ : gT} {A : Nat → Nat → Nat} (C : Cx l K Γ RX9 cX9_leastQuota 3 (some .int) 7) (Y : RS) : G l K Γ (ro_W K A Y) 11 3 [(0, .ref (A 4 0))] [] (fun (z : Int32 × RS) => (some (.int z.1), ro_W K A z.2)) (p_X9_leastQuota_L11 Y) := by
  unfold p_X9_leastQuota_L11
  refine G_aload_n C 0 dX9_leastQuota_11 rfl ?_
  refine G_sipush C dX9_leastQuota_12 (v := 500) rfl ?_
  refine G_callVi C 0 9 kd_X9_triedUntilDone ui_X9_triedUntilDone us_X9_triedUntilDone um_X9_270 rfl rfl (c_X9_triedUntilDone l K A Y 500) dX9_leastQuota_15 rfl rfl (Nat.le_of_ble_eq_true rfl) (Nat.le_of_ble_eq_true rfl) ?_
  refine G_sub [0] rfl ?_
  exact g_X9_leastQuota_L18 C ((p_X9_triedUntilDone Y 500).2) ((p_X9_triedUntilDone Y 500).1)
def p_X9_leastQuota (Y : RS) : Int32 × RS := p_X9_leastQuota_L11 (yU Y 1 (Y 0))
theorem c_X9_leastQuota (l : Launch) (K : gK) (A : Nat → Nat → Nat) (Y : RS) : Ct l K yX9_leastQuota cX9_leastQuota 3 (some .int) 7 [.ref (A 4 0)] (ro_W K A Y) (some (.int (p_X9_leastQuota Y).1), ro_W K A ((p_X9_leastQuota Y).2)) := by
  refine Ct.of (own := RX9) (fun (z : Int32 × RS) => (some (.int z.1), ro_W K A z.2)) (x := p_X9_leastQuota Y) (by decide) rfl (Nat.le_of_ble_eq_true rfl) (fun Γ C => ?_)
  unfold p_X9_leastQuota
  refine G_aload_n C 0 dX9_leastQuota_0 rfl ?_
  refine G_get C 0 5 dX9_leastQuota_1 inlX9 uf_X9_53 rfl (by decide) rfl rfl rfl ?_
  refine G_aload_n C 0 dX9_leastQuota_4 rfl ?_
  refine G_get C 0 0 dX9_leastQuota_5 inlX9 uf_X9_10 rfl (by decide) rfl rfl rfl ?_
  refine G_callVv C 27 6 kd_X6_copyFrom ui_X6_copyFrom us_X6_copyFrom um_X9_81 rfl rfl (c_scratch l K A Y) dX9_leastQuota_8 rfl rfl (Nat.le_of_ble_eq_true rfl) (Nat.le_of_ble_eq_true rfl) ?_
  refine G_sub [0] rfl ?_
  exact g_X9_leastQuota_L11 C (yU Y 1 (Y 0))
/-! X9_log -/
theorem kd_X9_log : Card yX9_log cX9_log 3 (some .int) 2 := ⟨uc_X9_log, un_X9, ⟨by decide, by decide, by decide⟩, by decide⟩
def v_X9_log (Y : RS) (x1 : Int32) (x2 : Int32) : Int32 := if x1 < 0 then -1 else if (v_X9_isWithin x2 0 2) = 0 then -1 else if x1 < (Y 0 18 6) then v_X1_part (Y 0) x1 x2 else -2
theorem c_X9_log (l : Launch) (K : gK) (A : Nat → Nat → Nat) (Y : RS) (x1 : Int32) (x2 : Int32) : Ct l K yX9_log cX9_log 3 (some .int) 2 [.ref (A 4 0), .int x1, .int x2] (ro_W K A Y) (some (.int (v_X9_log Y x1 x2)), ro_W K A Y) := by
  refine Ct.of (own := RX9) (fun z => (some (.int z), ro_W K A Y)) (x := v_X9_log Y x1 x2) (by decide) rfl (Nat.le_of_ble_eq_true rfl) (fun Γ C => ?_)
  unfold v_X9_log
  refine G_iload_n C 1 dX9_log_0 rfl ?_
  refine G_if_lt C 13 dX9_log_1 rfl (fun h1 => ?_) (fun h1 => ?_)
  · refine G_iconst C dX9_log_13 (v := -1) rfl ?_
    exact G_iret C dX9_log_14 rfl
  · refine G_iload_n C 2 dX9_log_4 rfl ?_
    refine G_iconst C dX9_log_5 (v := 0) rfl ?_
    refine G_iconst C dX9_log_6 (v := 2) rfl ?_
    refine G_callSi C kd_X9_isWithin ut_X9_isWithin um_X9_102 (c_X9_isWithin l K (ro_W K A Y) x2 0 2) dX9_log_7 rfl rfl (Nat.le_of_ble_eq_true rfl) (Nat.le_of_ble_eq_true rfl) ?_
    refine G_if_ne C 15 dX9_log_10 rfl (fun h2 => ?_) (fun h2 => ?_)
    · refine G_iconst C dX9_log_13 (v := -1) rfl ?_
      exact G_iret C dX9_log_14 rfl
    · refine G_iload_n C 1 dX9_log_15 rfl ?_
      refine G_aload_n C 0 dX9_log_16 rfl ?_
      refine G_get C 0 0 dX9_log_17 inlX9 uf_X9_10 rfl (by decide) rfl rfl rfl ?_
      refine G_get C 1 4 dX9_log_20 inlX6 uf_X9_128 rfl (by decide) rfl rfl rfl ?_
      refine G_get C 19 4 dX9_log_23 inlX1 uf_X9_230 rfl (by decide) rfl rfl rfl ?_
      refine G_icmp_lt C 32 dX9_log_26 rfl (fun h3 => ?_) (fun h3 => ?_)
      · refine G_aload_n C 0 dX9_log_32 rfl ?_
        refine G_get C 0 0 dX9_log_33 inlX9 uf_X9_10 rfl (by decide) rfl rfl rfl ?_
        refine G_get C 1 4 dX9_log_36 inlX6 uf_X9_128 rfl (by decide) rfl rfl rfl ?_
        refine G_iload_n C 1 dX9_log_39 rfl ?_
        refine G_iload_n C 2 dX9_log_40 rfl ?_
        refine G_callVi C 19 1 kd_X1_part ui_X1_part us_X1_part um_X9_279 rfl rfl (Ct.chunk1 (cs := ro_C K A Y) (cs' := ro_C K A Y) 1 rfl rfl (c_X1_part l K (A 0) (Y 0) x1 x2)) dX9_log_41 rfl rfl (Nat.le_of_ble_eq_true rfl) (Nat.le_of_ble_eq_true rfl) ?_
        exact G_iret C dX9_log_44 rfl
      · refine G_bipush C dX9_log_29 (v := -2) rfl ?_
        exact G_iret C dX9_log_31 rfl
/-! X9_writeListLine -/
theorem kd_X9_writeListLine : Card yX9_writeListLine cX9_writeListLine 4 none 1 := ⟨uc_X9_writeListLine, un_X9, ⟨by decide, by decide, by decide⟩, by decide⟩
def s_X9_writeListLine_L169 (Y : RS) (x1 : Int32) (x3 : Int32) : RS := yU Y 3 (s_X7_add_p (Y 3) 10)
theorem g_X9_writeListLine_L169 {l : Launch} {K : gK} {Γ : gT} {A : Nat → Nat → Nat} (C : Cx l K Γ RX9 cX9_writeListLine 4 none 3) (Y : RS) (x1 : Int32) (x3 : Int32) : G l K Γ (ro_W K A Y) 169 4 [(0, .ref (A 4 0)), (1, .int x1), (2, .ref (A 0 3)), (3, .int x3)] [] (fun z => (none, ro_W K A z)) (s_X9_writeListLine_L169 Y x1 x3) := by
  unfold s_X9_writeListLine_L169
  refine G_aload_n C 0 dX9_writeListLine_169 rfl ?_
  refine G_get C 0 6 dX9_writeListLine_170 inlX9 uf_X9_61 rfl (by decide) rfl rfl rfl ?_
  refine G_bipush C dX9_writeListLine_173 (v := 10) rfl ?_
  refine G_callVv C 49 7 kd_X7_add ui_X7_add us_X7_add um_X9_314 rfl rfl (Ct.chunk1 (cs := ro_C K A Y) (cs' := ro_C K A (yU Y 3 (s_X7_add_p (Y 3) 10))) 4 rfl rfl (c_X7_add_p l K (A 3) (Y 3) 10)) dX9_writeListLine_175 rfl rfl (Nat.le_of_ble_eq_true rfl) (Nat.le_of_ble_eq_true rfl) ?_
  exact G_vret C dX9_writeListLine_178 rfl
def s_X9_writeListLine_L148 (Y : RS) (x1 : Int32) (x3 : Int32) : RS := s_X9_writeListLine_L169 (yU Y 3 (s_X7_addNumber_p (Y 3) (at_ 3 (Y 0 10) x3))) x1 x3
theorem g_X9_writeListLine_L148 {l : Launch} {K : gK} {Γ : gT} {A : Nat → Nat → Nat} (C : Cx l K Γ RX9 cX9_writeListLine 4 none 3) (Y : RS) (x1 : Int32) (x3 : Int32) : G l K Γ (ro_W K A Y) 148 4 [(0, .ref (A 4 0)), (1, .int x1), (2, .ref (A 0 3)), (3, .int x3)] [] (fun z => (none, ro_W K A z)) (s_X9_writeListLine_L148 Y x1 x3) := by
  unfold s_X9_writeListLine_L148
  refine G_aload_n C 0 dX9_writeListLine_148 rfl ?_
  refine G_get C 0 6 dX9_writeListLine_149 inlX9 uf_X9_61 rfl (by decide) rfl rfl rfl ?_
  refine G_aload_n C 0 dX9_writeListLine_152 rfl ?_
  refine G_get C 0 0 dX9_writeListLine_153 inlX9 uf_X9_10 rfl (by decide) rfl rfl rfl ?_
  refine G_get C 1 3 dX9_writeListLine_156 inlX6 uf_X9_137 rfl (by decide) rfl rfl rfl ?_
  refine G_get C 13 0 dX9_writeListLine_159 inlX8 uf_X9_162 rfl (by decide) rfl rfl rfl ?_
  refine G_iload_n C 3 dX9_writeListLine_162 rfl ?_
  refine G_callSi C kd_X9_at ut_X9_at um_X9_110 (c_at l K (ws := ro_W K A Y) (q0 := 14) (n := 3) (g := Y 0 10) (ad := (A 0 13)) (by decide) rfl x3) dX9_writeListLine_163 rfl rfl (Nat.le_of_ble_eq_true rfl) (Nat.le_of_ble_eq_true rfl) ?_
  refine G_callVv C 49 7 kd_X7_addNumber ui_X7_addNumber us_X7_addNumber um_X9_311 rfl rfl (Ct.chunk1 (cs := ro_C K A Y) (cs' := ro_C K A (yU Y 3 (s_X7_addNumber_p (Y 3) (at_ 3 (Y 0 10) x3)))) 4 rfl rfl (c_X7_addNumber_p l K (A 3) (Y 3) (at_ 3 (Y 0 10) x3))) dX9_writeListLine_166 rfl rfl (Nat.le_of_ble_eq_true rfl) (Nat.le_of_ble_eq_true rfl) ?_
  refine G_sub [0, 1, 2, 3] rfl ?_
  exact g_X9_writeListLine_L169 C (yU Y 3 (s_X7_addNumber_p (Y 3) (at_ 3 (Y 0 10) x3))) x1 x3
def s_X9_writeListLine_L59 : Nat → RS → Int32 → Int32 → RS
  | 0, Y, _, _ => Y
  | fuel + 1, Y, x1, x3 => if x3 < (at_ 10 (Y 0 7) x1) then s_X9_writeListLine_L59 fuel (yU (yU (yU (yU Y 3 (s_X7_add_p (Y 3) 47)) 3 (s_X7_addNumber_p ((yU Y 3 (s_X7_add_p (Y 3) 47)) 3) (v_X2_lengthOf ((yU Y 3 (s_X7_add_p (Y 3) 47)) 0) x1 x3))) 3 (s_X7_add_p ((yU (yU Y 3 (s_X7_add_p (Y 3) 47)) 3 (s_X7_addNumber_p ((yU Y 3 (s_X7_add_p (Y 3) 47)) 3) (v_X2_lengthOf ((yU Y 3 (s_X7_add_p (Y 3) 47)) 0) x1 x3))) 3) 62)) 3 (s_X7_addNumber_p ((yU (yU (yU Y 3 (s_X7_add_p (Y 3) 47)) 3 (s_X7_addNumber_p ((yU Y 3 (s_X7_add_p (Y 3) 47)) 3) (v_X2_lengthOf ((yU Y 3 (s_X7_add_p (Y 3) 47)) 0) x1 x3))) 3 (s_X7_add_p ((yU (yU Y 3 (s_X7_add_p (Y 3) 47)) 3 (s_X7_addNumber_p ((yU Y 3 (s_X7_add_p (Y 3) 47)) 3) (v_X2_lengthOf ((yU Y 3 (s_X7_add_p (Y 3) 47)) 0) x1 x3))) 3) 62)) 3) (v_X2_toOf ((yU (yU (yU Y 3 (s_X7_add_p (Y 3) 47)) 3 (s_X7_addNumber_p ((yU Y 3 (s_X7_add_p (Y 3) 47)) 3) (v_X2_lengthOf ((yU Y 3 (s_X7_add_p (Y 3) 47)) 0) x1 x3))) 3 (s_X7_add_p ((yU (yU Y 3 (s_X7_add_p (Y 3) 47)) 3 (s_X7_addNumber_p ((yU Y 3 (s_X7_add_p (Y 3) 47)) 3) (v_X2_lengthOf ((yU Y 3 (s_X7_add_p (Y 3) 47)) 0) x1 x3))) 3) 62)) 0) x1 x3))) x1 (x3 + 1) else if (v_X8_standingAt (Y 0) x1) = (-2) then s_X9_writeListLine_L169 Y x1 (v_X8_standingAt (Y 0) x1) else s_X9_writeListLine_L148 (yU Y 3 (s_X7_add_p (Y 3) 64)) x1 (v_X8_standingAt (Y 0) x1)
theorem g_X9_writeListLine_L59 {l : Launch} {K : gK} {Γ : gT} {A : Nat → Nat → Nat} (C : Cx l K Γ RX9 cX9_writeListLine 4 none 3) : ∀ (n : Nat) (Y : RS) (x1 : Int32) (x3 : Int32), mu x3 < n → G l K Γ (ro_W K A Y) 59 4 [(0, .ref (A 4 0)), (1, .int x1), (2, .ref (A 0 3)), (3, .int x3)] [] (fun z => (none, ro_W K A z)) (s_X9_writeListLine_L59 n Y x1 x3) := by
  intro n
  induction n with
  | zero =>
    intro Y x1 x3 hm
    exact absurd hm (Nat.not_lt_zero _)
  | succ n ih =>
    intro Y x1 x3 hm
    rw [s_X9_writeListLine_L59]
    refine G_iload_n C 3 dX9_writeListLine_59 rfl ?_
    refine G_aload_n C 2 dX9_writeListLine_60 rfl ?_
    refine G_get C 4 5 dX9_writeListLine_61 inlX2 uf_X9_106 rfl (by decide) rfl rfl rfl ?_
    refine G_iload_n C 1 dX9_writeListLine_64 rfl ?_
    refine G_callSi C kd_X9_at ut_X9_at um_X9_110 (c_at l K (ws := ro_W K A Y) (q0 := 10) (n := 10) (g := Y 0 7) (ad := (A 0 9)) (by decide) rfl x1) dX9_writeListLine_65 rfl rfl (Nat.le_of_ble_eq_true rfl) (Nat.le_of_ble_eq_true rfl) ?_
    refine G_icmp_ge C 121 dX9_writeListLine_68 rfl (fun h2 => ?_) (fun h2 => ?_)
    · refine G_aload_n C 0 dX9_writeListLine_71 rfl ?_
      refine G_get C 0 6 dX9_writeListLine_72 inlX9 uf_X9_61 rfl (by decide) rfl rfl rfl ?_
      refine G_bipush C dX9_writeListLine_75 (v := 47) rfl ?_
      refine G_callVv C 49 7 kd_X7_add ui_X7_add us_X7_add um_X9_314 rfl rfl (Ct.chunk1 (cs := ro_C K A Y) (cs' := ro_C K A (yU Y 3 (s_X7_add_p (Y 3) 47))) 4 rfl rfl (c_X7_add_p l K (A 3) (Y 3) 47)) dX9_writeListLine_77 rfl rfl (Nat.le_of_ble_eq_true rfl) (Nat.le_of_ble_eq_true rfl) ?_
      refine G_aload_n C 0 dX9_writeListLine_80 rfl ?_
      refine G_get C 0 6 dX9_writeListLine_81 inlX9 uf_X9_61 rfl (by decide) rfl rfl rfl ?_
      refine G_aload_n C 2 dX9_writeListLine_84 rfl ?_
      refine G_iload_n C 1 dX9_writeListLine_85 rfl ?_
      refine G_iload_n C 3 dX9_writeListLine_86 rfl ?_
      refine G_callVi C 4 2 kd_X2_lengthOf ui_X2_lengthOf us_X2_lengthOf um_X9_147 rfl rfl (Ct.chunk1 (cs := ro_C K A (yU Y 3 (s_X7_add_p (Y 3) 47))) (cs' := ro_C K A (yU Y 3 (s_X7_add_p (Y 3) 47))) 1 rfl rfl (c_X2_lengthOf l K (A 0) ((yU Y 3 (s_X7_add_p (Y 3) 47)) 0) x1 x3)) dX9_writeListLine_87 rfl rfl (Nat.le_of_ble_eq_true rfl) (Nat.le_of_ble_eq_true rfl) ?_
      refine G_callVv C 49 7 kd_X7_addNumber ui_X7_addNumber us_X7_addNumber um_X9_311 rfl rfl (Ct.chunk1 (cs := ro_C K A (yU Y 3 (s_X7_add_p (Y 3) 47))) (cs' := ro_C K A (yU (yU Y 3 (s_X7_add_p (Y 3) 47)) 3 (s_X7_addNumber_p ((yU Y 3 (s_X7_add_p (Y 3) 47)) 3) (v_X2_lengthOf ((yU Y 3 (s_X7_add_p (Y 3) 47)) 0) x1 x3)))) 4 rfl rfl (c_X7_addNumber_p l K (A 3) ((yU Y 3 (s_X7_add_p (Y 3) 47)) 3) (v_X2_lengthOf ((yU Y 3 (s_X7_add_p (Y 3) 47)) 0) x1 x3))) dX9_writeListLine_90 rfl rfl (Nat.le_of_ble_eq_true rfl) (Nat.le_of_ble_eq_true rfl) ?_
      refine G_aload_n C 0 dX9_writeListLine_93 rfl ?_
      refine G_get C 0 6 dX9_writeListLine_94 inlX9 uf_X9_61 rfl (by decide) rfl rfl rfl ?_
      refine G_bipush C dX9_writeListLine_97 (v := 62) rfl ?_
      refine G_callVv C 49 7 kd_X7_add ui_X7_add us_X7_add um_X9_314 rfl rfl (Ct.chunk1 (cs := ro_C K A (yU (yU Y 3 (s_X7_add_p (Y 3) 47)) 3 (s_X7_addNumber_p ((yU Y 3 (s_X7_add_p (Y 3) 47)) 3) (v_X2_lengthOf ((yU Y 3 (s_X7_add_p (Y 3) 47)) 0) x1 x3)))) (cs' := ro_C K A (yU (yU (yU Y 3 (s_X7_add_p (Y 3) 47)) 3 (s_X7_addNumber_p ((yU Y 3 (s_X7_add_p (Y 3) 47)) 3) (v_X2_lengthOf ((yU Y 3 (s_X7_add_p (Y 3) 47)) 0) x1 x3))) 3 (s_X7_add_p ((yU (yU Y 3 (s_X7_add_p (Y 3) 47)) 3 (s_X7_addNumber_p ((yU Y 3 (s_X7_add_p (Y 3) 47)) 3) (v_X2_lengthOf ((yU Y 3 (s_X7_add_p (Y 3) 47)) 0) x1 x3))) 3) 62))) 4 rfl rfl (c_X7_add_p l K (A 3) ((yU (yU Y 3 (s_X7_add_p (Y 3) 47)) 3 (s_X7_addNumber_p ((yU Y 3 (s_X7_add_p (Y 3) 47)) 3) (v_X2_lengthOf ((yU Y 3 (s_X7_add_p (Y 3) 47)) 0) x1 x3))) 3) 62)) dX9_writeListLine_99 rfl rfl (Nat.le_of_ble_eq_true rfl) (Nat.le_of_ble_eq_true rfl) ?_
      refine G_aload_n C 0 dX9_writeListLine_102 rfl ?_
      refine G_get C 0 6 dX9_writeListLine_103 inlX9 uf_X9_61 rfl (by decide) rfl rfl rfl ?_
      refine G_aload_n C 2 dX9_writeListLine_106 rfl ?_
      refine G_iload_n C 1 dX9_writeListLine_107 rfl ?_
      refine G_iload_n C 3 dX9_writeListLine_108 rfl ?_
      refine G_callVi C 4 2 kd_X2_toOf ui_X2_toOf us_X2_toOf um_X9_246 rfl rfl (Ct.chunk1 (cs := ro_C K A (yU (yU (yU Y 3 (s_X7_add_p (Y 3) 47)) 3 (s_X7_addNumber_p ((yU Y 3 (s_X7_add_p (Y 3) 47)) 3) (v_X2_lengthOf ((yU Y 3 (s_X7_add_p (Y 3) 47)) 0) x1 x3))) 3 (s_X7_add_p ((yU (yU Y 3 (s_X7_add_p (Y 3) 47)) 3 (s_X7_addNumber_p ((yU Y 3 (s_X7_add_p (Y 3) 47)) 3) (v_X2_lengthOf ((yU Y 3 (s_X7_add_p (Y 3) 47)) 0) x1 x3))) 3) 62))) (cs' := ro_C K A (yU (yU (yU Y 3 (s_X7_add_p (Y 3) 47)) 3 (s_X7_addNumber_p ((yU Y 3 (s_X7_add_p (Y 3) 47)) 3) (v_X2_lengthOf ((yU Y 3 (s_X7_add_p (Y 3) 47)) 0) x1 x3))) 3 (s_X7_add_p ((yU (yU Y 3 (s_X7_add_p (Y 3) 47)) 3 (s_X7_addNumber_p ((yU Y 3 (s_X7_add_p (Y 3) 47)) 3) (v_X2_lengthOf ((yU Y 3 (s_X7_add_p (Y 3) 47)) 0) x1 x3))) 3) 62))) 1 rfl rfl (c_X2_toOf l K (A 0) ((yU (yU (yU Y 3 (s_X7_add_p (Y 3) 47)) 3 (s_X7_addNumber_p ((yU Y 3 (s_X7_add_p (Y 3) 47)) 3) (v_X2_lengthOf ((yU Y 3 (s_X7_add_p (Y 3) 47)) 0) x1 x3))) 3 (s_X7_add_p ((yU (yU Y 3 (s_X7_add_p (Y 3) 47)) 3 (s_X7_addNumber_p ((yU Y 3 (s_X7_add_p (Y 3) 47)) 3) (v_X2_lengthOf ((yU Y 3 (s_X7_add_p (Y 3) 47)) 0) x1 x3))) 3) 62)) 0) x1 x3)) dX9_writeListLine_109 rfl rfl (Nat.le_of_ble_eq_true rfl) (Nat.le_of_ble_eq_true rfl) ?_
      refine G_callVv C 49 7 kd_X7_addNumber ui_X7_addNumber us_X7_addNumber um_X9_311 rfl rfl (Ct.chunk1 (cs := ro_C K A (yU (yU (yU Y 3 (s_X7_add_p (Y 3) 47)) 3 (s_X7_addNumber_p ((yU Y 3 (s_X7_add_p (Y 3) 47)) 3) (v_X2_lengthOf ((yU Y 3 (s_X7_add_p (Y 3) 47)) 0) x1 x3))) 3 (s_X7_add_p ((yU (yU Y 3 (s_X7_add_p (Y 3) 47)) 3 (s_X7_addNumber_p ((yU Y 3 (s_X7_add_p (Y 3) 47)) 3) (v_X2_lengthOf ((yU Y 3 (s_X7_add_p (Y 3) 47)) 0) x1 x3))) 3) 62))) (cs' := ro_C K A (yU (yU (yU (yU Y 3 (s_X7_add_p (Y 3) 47)) 3 (s_X7_addNumber_p ((yU Y 3 (s_X7_add_p (Y 3) 47)) 3) (v_X2_lengthOf ((yU Y 3 (s_X7_add_p (Y 3) 47)) 0) x1 x3))) 3 (s_X7_add_p ((yU (yU Y 3 (s_X7_add_p (Y 3) 47)) 3 (s_X7_addNumber_p ((yU Y 3 (s_X7_add_p (Y 3) 47)) 3) (v_X2_lengthOf ((yU Y 3 (s_X7_add_p (Y 3) 47)) 0) x1 x3))) 3) 62)) 3 (s_X7_addNumber_p ((yU (yU (yU Y 3 (s_X7_add_p (Y 3) 47)) 3 (s_X7_addNumber_p ((yU Y 3 (s_X7_add_p (Y 3) 47)) 3) (v_X2_lengthOf ((yU Y 3 (s_X7_add_p (Y 3) 47)) 0) x1 x3))) 3 (s_X7_add_p ((yU (yU Y 3 (s_X7_add_p (Y 3) 47)) 3 (s_X7_addNumber_p ((yU Y 3 (s_X7_add_p (Y 3) 47)) 3) (v_X2_lengthOf ((yU Y 3 (s_X7_add_p (Y 3) 47)) 0) x1 x3))) 3) 62)) 3) (v_X2_toOf ((yU (yU (yU Y 3 (s_X7_add_p (Y 3) 47)) 3 (s_X7_addNumber_p ((yU Y 3 (s_X7_add_p (Y 3) 47)) 3) (v_X2_lengthOf ((yU Y 3 (s_X7_add_p (Y 3) 47)) 0) x1 x3))) 3 (s_X7_add_p ((yU (yU Y 3 (s_X7_add_p (Y 3) 47)) 3 (s_X7_addNumber_p ((yU Y 3 (s_X7_add_p (Y 3) 47)) 3) (v_X2_lengthOf ((yU Y 3 (s_X7_add_p (Y 3) 47)) 0) x1 x3))) 3) 62)) 0) x1 x3)))) 4 rfl rfl (c_X7_addNumber_p l K (A 3) ((yU (yU (yU Y 3 (s_X7_add_p (Y 3) 47)) 3 (s_X7_addNumber_p ((yU Y 3 (s_X7_add_p (Y 3) 47)) 3) (v_X2_lengthOf ((yU Y 3 (s_X7_add_p (Y 3) 47)) 0) x1 x3))) 3 (s_X7_add_p ((yU (yU Y 3 (s_X7_add_p (Y 3) 47)) 3 (s_X7_addNumber_p ((yU Y 3 (s_X7_add_p (Y 3) 47)) 3) (v_X2_lengthOf ((yU Y 3 (s_X7_add_p (Y 3) 47)) 0) x1 x3))) 3) 62)) 3) (v_X2_toOf ((yU (yU (yU Y 3 (s_X7_add_p (Y 3) 47)) 3 (s_X7_addNumber_p ((yU Y 3 (s_X7_add_p (Y 3) 47)) 3) (v_X2_lengthOf ((yU Y 3 (s_X7_add_p (Y 3) 47)) 0) x1 x3))) 3 (s_X7_add_p ((yU (yU Y 3 (s_X7_add_p (Y 3) 47)) 3 (s_X7_addNumber_p ((yU Y 3 (s_X7_add_p (Y 3) 47)) 3) (v_X2_lengthOf ((yU Y 3 (s_X7_add_p (Y 3) 47)) 0) x1 x3))) 3) 62)) 0) x1 x3))) dX9_writeListLine_112 rfl rfl (Nat.le_of_ble_eq_true rfl) (Nat.le_of_ble_eq_true rfl) ?_
      refine G_iinc (lv' := [(3, .int (x3 + 1)), (0, .ref (A 4 0)), (1, .int x1), (2, .ref (A 0 3))]) C 3 dX9_writeListLine_115 rfl rfl (by decide) rfl ?_
      refine G_goto C 59 dX9_writeListLine_118 rfl ?_
      refine G_sub [1, 2, 3, 0] rfl ?_
      exact ih (yU (yU (yU (yU Y 3 (s_X7_add_p (Y 3) 47)) 3 (s_X7_addNumber_p ((yU Y 3 (s_X7_add_p (Y 3) 47)) 3) (v_X2_lengthOf ((yU Y 3 (s_X7_add_p (Y 3) 47)) 0) x1 x3))) 3 (s_X7_add_p ((yU (yU Y 3 (s_X7_add_p (Y 3) 47)) 3 (s_X7_addNumber_p ((yU Y 3 (s_X7_add_p (Y 3) 47)) 3) (v_X2_lengthOf ((yU Y 3 (s_X7_add_p (Y 3) 47)) 0) x1 x3))) 3) 62)) 3 (s_X7_addNumber_p ((yU (yU (yU Y 3 (s_X7_add_p (Y 3) 47)) 3 (s_X7_addNumber_p ((yU Y 3 (s_X7_add_p (Y 3) 47)) 3) (v_X2_lengthOf ((yU Y 3 (s_X7_add_p (Y 3) 47)) 0) x1 x3))) 3 (s_X7_add_p ((yU (yU Y 3 (s_X7_add_p (Y 3) 47)) 3 (s_X7_addNumber_p ((yU Y 3 (s_X7_add_p (Y 3) 47)) 3) (v_X2_lengthOf ((yU Y 3 (s_X7_add_p (Y 3) 47)) 0) x1 x3))) 3) 62)) 3) (v_X2_toOf ((yU (yU (yU Y 3 (s_X7_add_p (Y 3) 47)) 3 (s_X7_addNumber_p ((yU Y 3 (s_X7_add_p (Y 3) 47)) 3) (v_X2_lengthOf ((yU Y 3 (s_X7_add_p (Y 3) 47)) 0) x1 x3))) 3 (s_X7_add_p ((yU (yU Y 3 (s_X7_add_p (Y 3) 47)) 3 (s_X7_addNumber_p ((yU Y 3 (s_X7_add_p (Y 3) 47)) 3) (v_X2_lengthOf ((yU Y 3 (s_X7_add_p (Y 3) 47)) 0) x1 x3))) 3) 62)) 0) x1 x3))) x1 (x3 + 1) (by have := mu_up h2; omega)
    · refine G_aload_n C 0 dX9_writeListLine_121 rfl ?_
      refine G_get C 0 0 dX9_writeListLine_122 inlX9 uf_X9_10 rfl (by decide) rfl rfl rfl ?_
      refine G_get C 1 3 dX9_writeListLine_125 inlX6 uf_X9_137 rfl (by decide) rfl rfl rfl ?_
      refine G_iload_n C 1 dX9_writeListLine_128 rfl ?_
      refine G_callVi C 13 8 kd_X8_standingAt ui_X8_standingAt us_X8_standingAt um_X9_237 rfl rfl (Ct.chunk1 (cs := ro_C K A Y) (cs' := ro_C K A Y) 1 rfl rfl (c_X8_standingAt l K (A 0) (Y 0) x1)) dX9_writeListLine_129 rfl rfl (Nat.le_of_ble_eq_true rfl) (Nat.le_of_ble_eq_true rfl) ?_
      refine G_istore_n (lv' := [(3, .int (v_X8_standingAt (Y 0) x1)), (0, .ref (A 4 0)), (1, .int x1), (2, .ref (A 0 3))]) C dX9_writeListLine_132 (by decide) rfl ?_
      refine G_iload_n C 0 dX9_writeListLine_133 rfl ?_
      refine G_bipush C dX9_writeListLine_134 (v := -2) rfl ?_
      refine G_icmp_eq C 169 dX9_writeListLine_136 rfl (fun h3 => ?_) (fun h3 => ?_)
      · refine G_sub [1, 2, 3, 0] rfl ?_
        exact g_X9_writeListLine_L169 C Y x1 (v_X8_standingAt (Y 0) x1)
      · refine G_aload_n C 1 dX9_writeListLine_139 rfl ?_
        refine G_get C 0 6 dX9_writeListLine_140 inlX9 uf_X9_61 rfl (by decide) rfl rfl rfl ?_
        refine G_bipush C dX9_writeListLine_143 (v := 64) rfl ?_
        refine G_callVv C 49 7 kd_X7_add ui_X7_add us_X7_add um_X9_314 rfl rfl (Ct.chunk1 (cs := ro_C K A Y) (cs' := ro_C K A (yU Y 3 (s_X7_add_p (Y 3) 64))) 4 rfl rfl (c_X7_add_p l K (A 3) (Y 3) 64)) dX9_writeListLine_145 rfl rfl (Nat.le_of_ble_eq_true rfl) (Nat.le_of_ble_eq_true rfl) ?_
        refine G_sub [1, 2, 3, 0] rfl ?_
        exact g_X9_writeListLine_L148 C (yU Y 3 (s_X7_add_p (Y 3) 64)) x1 (v_X8_standingAt (Y 0) x1)
def s_X9_writeListLine_L57 (Y : RS) (x1 : Int32) : RS := s_X9_writeListLine_L59 (mu 0 + 1) Y x1 0
theorem g_X9_writeListLine_L57 {l : Launch} {K : gK} {Γ : gT} {A : Nat → Nat → Nat} (C : Cx l K Γ RX9 cX9_writeListLine 4 none 3) (Y : RS) (x1 : Int32) : G l K Γ (ro_W K A Y) 57 4 [(0, .ref (A 4 0)), (1, .int x1), (2, .ref (A 0 3))] [] (fun z => (none, ro_W K A z)) (s_X9_writeListLine_L57 Y x1) := by
  unfold s_X9_writeListLine_L57
  refine G_iconst C dX9_writeListLine_57 (v := 0) rfl ?_
  refine G_istore_n (lv' := [(3, .int 0), (0, .ref (A 4 0)), (1, .int x1), (2, .ref (A 0 3))]) C dX9_writeListLine_58 (by decide) rfl ?_
  refine G_sub [1, 2, 3, 0] rfl ?_
  exact g_X9_writeListLine_L59 C _ Y x1 0 (Nat.lt_succ_self _)
def s_X9_writeListLine_L40 (Y : RS) (x1 : Int32) : RS := if (v_X2_isOpen (Y 0) x1) = 0 then s_X9_writeListLine_L57 (yU Y 3 (s_X7_add_p (Y 3) 120)) x1 else s_X9_writeListLine_L57 Y x1
theorem g_X9_writeListLine_L40 {l : Launch} {K : gK} {Γ : gT} {A : Nat → Nat → Nat} (C : Cx l K Γ RX9 cX9_writeListLine 4 none 3) (Y : RS) (x1 : Int32) : G l K Γ (ro_W K A Y) 40 4 [(0, .ref (A 4 0)), (1, .int x1), (2, .ref (A 0 3))] [] (fun z => (none, ro_W K A z)) (s_X9_writeListLine_L40 Y x1) := by
  unfold s_X9_writeListLine_L40
  refine G_aload_n C 2 dX9_writeListLine_40 rfl ?_
  refine G_iload_n C 1 dX9_writeListLine_41 rfl ?_
  refine G_callVi C 4 2 kd_X2_isOpen ui_X2_isOpen us_X2_isOpen um_X9_168 rfl rfl (Ct.chunk1 (cs := ro_C K A Y) (cs' := ro_C K A Y) 1 rfl rfl (c_X2_isOpen l K (A 0) (Y 0) x1)) dX9_writeListLine_42 rfl rfl (Nat.le_of_ble_eq_true rfl) (Nat.le_of_ble_eq_true rfl) ?_
  refine G_if_ne C 57 dX9_writeListLine_45 rfl (fun h1 => ?_) (fun h1 => ?_)
  · refine G_aload_n C 0 dX9_writeListLine_48 rfl ?_
    refine G_get C 0 6 dX9_writeListLine_49 inlX9 uf_X9_61 rfl (by decide) rfl rfl rfl ?_
    refine G_bipush C dX9_writeListLine_52 (v := 120) rfl ?_
    refine G_callVv C 49 7 kd_X7_add ui_X7_add us_X7_add um_X9_314 rfl rfl (Ct.chunk1 (cs := ro_C K A Y) (cs' := ro_C K A (yU Y 3 (s_X7_add_p (Y 3) 120))) 4 rfl rfl (c_X7_add_p l K (A 3) (Y 3) 120)) dX9_writeListLine_54 rfl rfl (Nat.le_of_ble_eq_true rfl) (Nat.le_of_ble_eq_true rfl) ?_
    refine G_sub [0, 1, 2] rfl ?_
    exact g_X9_writeListLine_L57 C (yU Y 3 (s_X7_add_p (Y 3) 120)) x1
  · refine G_sub [0, 1, 2] rfl ?_
    exact g_X9_writeListLine_L57 C Y x1
def s_X9_writeListLine_L25 (Y : RS) (x1 : Int32) : RS := s_X9_writeListLine_L40 (yU Y 3 (s_X7_addNumber_p (Y 3) (at_ 10 (Y 0 3) x1))) x1
theorem g_X9_writeListLine_L25 {l : Launch} {K : gK} {Γ : gT} {A : Nat → Nat → Nat} (C : Cx l K Γ RX9 cX9_writeListLine 4 none 3) (Y : RS) (x1 : Int32) : G l K Γ (ro_W K A Y) 25 4 [(0, .ref (A 4 0)), (1, .int x1), (2, .ref (A 0 3))] [] (fun z => (none, ro_W K A z)) (s_X9_writeListLine_L25 Y x1) := by
  unfold s_X9_writeListLine_L25
  refine G_aload_n C 0 dX9_writeListLine_25 rfl ?_
  refine G_get C 0 6 dX9_writeListLine_26 inlX9 uf_X9_61 rfl (by decide) rfl rfl rfl ?_
  refine G_aload_n C 2 dX9_writeListLine_29 rfl ?_
  refine G_get C 4 1 dX9_writeListLine_30 inlX2 uf_X9_189 rfl (by decide) rfl rfl rfl ?_
  refine G_iload_n C 1 dX9_writeListLine_33 rfl ?_
  refine G_callSi C kd_X9_at ut_X9_at um_X9_110 (c_at l K (ws := ro_W K A Y) (q0 := 6) (n := 10) (g := Y 0 3) (ad := (A 0 5)) (by decide) rfl x1) dX9_writeListLine_34 rfl rfl (Nat.le_of_ble_eq_true rfl) (Nat.le_of_ble_eq_true rfl) ?_
  refine G_callVv C 49 7 kd_X7_addNumber ui_X7_addNumber us_X7_addNumber um_X9_311 rfl rfl (Ct.chunk1 (cs := ro_C K A Y) (cs' := ro_C K A (yU Y 3 (s_X7_addNumber_p (Y 3) (at_ 10 (Y 0 3) x1)))) 4 rfl rfl (c_X7_addNumber_p l K (A 3) (Y 3) (at_ 10 (Y 0 3) x1))) dX9_writeListLine_37 rfl rfl (Nat.le_of_ble_eq_true rfl) (Nat.le_of_ble_eq_true rfl) ?_
  refine G_sub [0, 1, 2] rfl ?_
  exact g_X9_writeListLine_L40 C (yU Y 3 (s_X7_addNumber_p (Y 3) (at_ 10 (Y 0 3) x1))) x1
def s_X9_writeListLine_L16 (Y : RS) (x1 : Int32) : RS := s_X9_writeListLine_L25 (yU Y 3 (s_X7_add_p (Y 3) 58)) x1
theorem g_X9_writeListLine_L16 {l : Launch} {K : gK} {Γ : gT} {A : Nat → Nat → Nat} (C : Cx l K Γ RX9 cX9_writeListLine 4 none 3) (Y : RS) (x1 : Int32) : G l K Γ (ro_W K A Y) 16 4 [(0, .ref (A 4 0)), (1, .int x1), (2, .ref (A 0 3))] [] (fun z => (none, ro_W K A z)) (s_X9_writeListLine_L16 Y x1) := by
  unfold s_X9_writeListLine_L16
  refine G_aload_n C 0 dX9_writeListLine_16 rfl ?_
  refine G_get C 0 6 dX9_writeListLine_17 inlX9 uf_X9_61 rfl (by decide) rfl rfl rfl ?_
  refine G_bipush C dX9_writeListLine_20 (v := 58) rfl ?_
  refine G_callVv C 49 7 kd_X7_add ui_X7_add us_X7_add um_X9_314 rfl rfl (Ct.chunk1 (cs := ro_C K A Y) (cs' := ro_C K A (yU Y 3 (s_X7_add_p (Y 3) 58))) 4 rfl rfl (c_X7_add_p l K (A 3) (Y 3) 58)) dX9_writeListLine_22 rfl rfl (Nat.le_of_ble_eq_true rfl) (Nat.le_of_ble_eq_true rfl) ?_
  refine G_sub [0, 1, 2] rfl ?_
  exact g_X9_writeListLine_L25 C (yU Y 3 (s_X7_add_p (Y 3) 58)) x1
def s_X9_writeListLine (Y : RS) (x1 : Int32) : RS := s_X9_writeListLine_L16 (yU Y 3 (s_X7_addNumber_p (Y 3) x1)) x1
theorem c_X9_writeListLine (l : Launch) (K : gK) (A : Nat → Nat → Nat) (Y : RS) (x1 : Int32) : Ct l K yX9_writeListLine cX9_writeListLine 4 none 3 [.ref (A 4 0), .int x1] (ro_W K A Y) (none, ro_W K A (s_X9_writeListLine Y x1)) := by
  refine Ct.of (own := RX9) (fun z => (none, ro_W K A z)) (x := s_X9_writeListLine Y x1) (by decide) rfl (Nat.le_of_ble_eq_true rfl) (fun Γ C => ?_)
  unfold s_X9_writeListLine
  refine G_aload_n C 0 dX9_writeListLine_0 rfl ?_
  refine G_get C 0 0 dX9_writeListLine_1 inlX9 uf_X9_10 rfl (by decide) rfl rfl rfl ?_
  refine G_get C 1 2 dX9_writeListLine_4 inlX6 uf_X9_89 rfl (by decide) rfl rfl rfl ?_
  refine G_astore_n (lv' := [(2, .ref (A 0 3)), (0, .ref (A 4 0)), (1, .int x1)]) C dX9_writeListLine_7 (by decide) rfl ?_
  refine G_aload_n C 1 dX9_writeListLine_8 rfl ?_
  refine G_get C 0 6 dX9_writeListLine_9 inlX9 uf_X9_61 rfl (by decide) rfl rfl rfl ?_
  refine G_iload_n C 2 dX9_writeListLine_12 rfl ?_
  refine G_callVv C 49 7 kd_X7_addNumber ui_X7_addNumber us_X7_addNumber um_X9_311 rfl rfl (Ct.chunk1 (cs := ro_C K A Y) (cs' := ro_C K A (yU Y 3 (s_X7_addNumber_p (Y 3) x1))) 4 rfl rfl (c_X7_addNumber_p l K (A 3) (Y 3) x1)) dX9_writeListLine_13 rfl rfl (Nat.le_of_ble_eq_true rfl) (Nat.le_of_ble_eq_true rfl) ?_
  refine G_sub [1, 2, 0] rfl ?_
  exact g_X9_writeListLine_L16 C (yU Y 3 (s_X7_addNumber_p (Y 3) x1)) x1
/-! X9_writeList -/
theorem kd_X9_writeList : Card yX9_writeList cX9_writeList 2 none 0 := ⟨uc_X9_writeList, un_X9, ⟨by decide, by decide, by decide⟩, by decide⟩
def s_X9_writeList_L10 : Nat → RS → Int32 → RS
  | 0, Y, _ => Y
  | fuel + 1, Y, x1 => if x1 < (Y 0 18 2) then s_X9_writeList_L10 fuel (s_X9_writeListLine Y x1) (x1 + 1) else Y
theorem g_X9_writeList_L10 {l : Launch} {K : gK} {Γ : gT} {A : Nat → Nat → Nat} (C : Cx l K Γ RX9 cX9_writeList 2 none 4) : ∀ (n : Nat) (Y : RS) (x1 : Int32), mu x1 < n → G l K Γ (ro_W K A Y) 10 2 [(0, .ref (A 4 0)), (1, .int x1)] [] (fun z => (none, ro_W K A z)) (s_X9_writeList_L10 n Y x1) := by
  intro n
  induction n with
  | zero =>
    intro Y x1 hm
    exact absurd hm (Nat.not_lt_zero _)
  | succ n ih =>
    intro Y x1 hm
    rw [s_X9_writeList_L10]
    refine G_iload_n C 1 dX9_writeList_10 rfl ?_
    refine G_aload_n C 0 dX9_writeList_11 rfl ?_
    refine G_get C 0 0 dX9_writeList_12 inlX9 uf_X9_10 rfl (by decide) rfl rfl rfl ?_
    refine G_get C 1 2 dX9_writeList_15 inlX6 uf_X9_89 rfl (by decide) rfl rfl rfl ?_
    refine G_get C 4 8 dX9_writeList_18 inlX2 uf_X9_93 rfl (by decide) rfl rfl rfl ?_
    refine G_icmp_ge C 35 dX9_writeList_21 rfl (fun h1 => ?_) (fun h1 => ?_)
    · refine G_aload_n C 0 dX9_writeList_24 rfl ?_
      refine G_iload_n C 1 dX9_writeList_25 rfl ?_
      refine G_callVv C 0 9 kd_X9_writeListLine ui_X9_writeListLine us_X9_writeListLine um_X9_308 rfl rfl (c_X9_writeListLine l K A Y x1) dX9_writeList_26 rfl rfl (Nat.le_of_ble_eq_true rfl) (Nat.le_of_ble_eq_true rfl) ?_
      refine G_iinc (lv' := [(1, .int (x1 + 1)), (0, .ref (A 4 0))]) C 1 dX9_writeList_29 rfl rfl (by decide) rfl ?_
      refine G_goto C 10 dX9_writeList_32 rfl ?_
      refine G_sub [1, 0] rfl ?_
      exact ih (s_X9_writeListLine Y x1) (x1 + 1) (by have := mu_up h1; omega)
    · exact G_vret C dX9_writeList_35 rfl
def s_X9_writeList_L8 (Y : RS) : RS := s_X9_writeList_L10 (mu 0 + 1) Y 0
theorem g_X9_writeList_L8 {l : Launch} {K : gK} {Γ : gT} {A : Nat → Nat → Nat} (C : Cx l K Γ RX9 cX9_writeList 2 none 4) (Y : RS) : G l K Γ (ro_W K A Y) 8 2 [(0, .ref (A 4 0))] [] (fun z => (none, ro_W K A z)) (s_X9_writeList_L8 Y) := by
  unfold s_X9_writeList_L8
  refine G_iconst C dX9_writeList_8 (v := 0) rfl ?_
  refine G_istore_n (lv' := [(1, .int 0), (0, .ref (A 4 0))]) C dX9_writeList_9 (by decide) rfl ?_
  refine G_sub [1, 0] rfl ?_
  exact g_X9_writeList_L10 C _ Y 0 (Nat.lt_succ_self _)
def s_X9_writeList (Y : RS) : RS := s_X9_writeList_L8 (yL Y 3 0)
theorem c_X9_writeList (l : Launch) (K : gK) (A : Nat → Nat → Nat) (Y : RS) : Ct l K yX9_writeList cX9_writeList 2 none 4 [.ref (A 4 0)] (ro_W K A Y) (none, ro_W K A (s_X9_writeList Y)) := by
  refine Ct.of (own := RX9) (fun z => (none, ro_W K A z)) (x := s_X9_writeList Y) (by decide) rfl (Nat.le_of_ble_eq_true rfl) (fun Γ C => ?_)
  unfold s_X9_writeList
  refine G_aload_n C 0 dX9_writeList_0 rfl ?_
  refine G_get C 0 6 dX9_writeList_1 inlX9 uf_X9_61 rfl (by decide) rfl rfl rfl ?_
  refine G_iconst C dX9_writeList_4 (v := 0) rfl ?_
  refine G_put (ws' := ro_W K A (yL Y 3 0)) C 49 1 tyX7 .int dX9_writeList_5 inlX7 uf_X9_71 tyX7_ok nmX7 rfl (by decide) rfl rfl rfl rfl rfl rfl (Nat.le_of_ble_eq_true rfl) rfl ?_
  refine G_sub [0] rfl ?_
  exact g_X9_writeList_L8 C (yL Y 3 0)
/-! X9_listLength -/
theorem kd_X9_listLength : Card yX9_listLength cX9_listLength 1 (some .int) 0 := ⟨uc_X9_listLength, un_X9, ⟨by decide, by decide, by decide⟩, by decide⟩
def p_X9_listLength_L4 (Y : RS) : Int32 × RS := (Y 3 1 0, Y)
theorem g_X9_listLength_L4 {l : Launch} {K : gK} {Γ : gT} {A : Nat → Nat → Nat} (C : Cx l K Γ RX9 cX9_listLength 1 (some .int) 5) (Y : RS) : G l K Γ (ro_W K A Y) 4 1 [(0, .ref (A 4 0))] [] (fun (z : Int32 × RS) => (some (.int z.1), ro_W K A z.2)) (p_X9_listLength_L4 Y) := by
  unfold p_X9_listLength_L4
  refine G_aload_n C 0 dX9_listLength_4 rfl ?_
  refine G_get C 0 6 dX9_listLength_5 inlX9 uf_X9_61 rfl (by decide) rfl rfl rfl ?_
  refine G_get C 49 1 dX9_listLength_8 inlX7 uf_X9_71 rfl (by decide) rfl rfl rfl ?_
  exact G_iret C dX9_listLength_11 rfl
def p_X9_listLength (Y : RS) : Int32 × RS := p_X9_listLength_L4 (s_X9_writeList Y)
theorem c_X9_listLength (l : Launch) (K : gK) (A : Nat → Nat → Nat) (Y : RS) : Ct l K yX9_listLength cX9_listLength 1 (some .int) 5 [.ref (A 4 0)] (ro_W K A Y) (some (.int (p_X9_listLength Y).1), ro_W K A ((p_X9_listLength Y).2)) := by
  refine Ct.of (own := RX9) (fun (z : Int32 × RS) => (some (.int z.1), ro_W K A z.2)) (x := p_X9_listLength Y) (by decide) rfl (Nat.le_of_ble_eq_true rfl) (fun Γ C => ?_)
  unfold p_X9_listLength
  refine G_aload_n C 0 dX9_listLength_0 rfl ?_
  refine G_callVv C 0 9 kd_X9_writeList ui_X9_writeList us_X9_writeList um_X9_282 rfl rfl (c_X9_writeList l K A Y) dX9_listLength_1 rfl rfl (Nat.le_of_ble_eq_true rfl) (Nat.le_of_ble_eq_true rfl) ?_
  refine G_sub [0] rfl ?_
  exact g_X9_listLength_L4 C (s_X9_writeList Y)
/-! X9_listByte -/
theorem kd_X9_listByte : Card yX9_listByte cX9_listByte 2 (some .int) 1 := ⟨uc_X9_listByte, un_X9, ⟨by decide, by decide, by decide⟩, by decide⟩
def p_X9_listByte_L10 (Y : RS) (x1 : Int32) : Int32 × RS := (v_X7_byteAt_p (Y 3) x1, Y)
theorem g_X9_listByte_L10 {l : Launch} {K : gK} {Γ : gT} {A : Nat → Nat → Nat} (C : Cx l K Γ RX9 cX9_listByte 2 (some .int) 5) (Y : RS) (x1 : Int32) : G l K Γ (ro_W K A Y) 10 2 [(0, .ref (A 4 0)), (1, .int x1)] [] (fun (z : Int32 × RS) => (some (.int z.1), ro_W K A z.2)) (p_X9_listByte_L10 Y x1) := by
  unfold p_X9_listByte_L10
  refine G_aload_n C 0 dX9_listByte_10 rfl ?_
  refine G_get C 0 6 dX9_listByte_11 inlX9 uf_X9_61 rfl (by decide) rfl rfl rfl ?_
  refine G_iload_n C 1 dX9_listByte_14 rfl ?_
  refine G_callVi C 49 7 kd_X7_byteAt ui_X7_byteAt us_X7_byteAt um_X9_285 rfl rfl (Ct.chunk1 (cs := ro_C K A Y) (cs' := ro_C K A Y) 4 rfl rfl (c_X7_byteAt_p l K (A 3) (Y 3) x1)) dX9_listByte_15 rfl rfl (Nat.le_of_ble_eq_true rfl) (Nat.le_of_ble_eq_true rfl) ?_
  exact G_iret C dX9_listByte_18 rfl
def p_X9_listByte (Y : RS) (x1 : Int32) : Int32 × RS := if x1 < 0 then (-1, Y) else p_X9_listByte_L10 (s_X9_writeList Y) x1
theorem c_X9_listByte (l : Launch) (K : gK) (A : Nat → Nat → Nat) (Y : RS) (x1 : Int32) : Ct l K yX9_listByte cX9_listByte 2 (some .int) 5 [.ref (A 4 0), .int x1] (ro_W K A Y) (some (.int (p_X9_listByte Y x1).1), ro_W K A ((p_X9_listByte Y x1).2)) := by
  refine Ct.of (own := RX9) (fun (z : Int32 × RS) => (some (.int z.1), ro_W K A z.2)) (x := p_X9_listByte Y x1) (by decide) rfl (Nat.le_of_ble_eq_true rfl) (fun Γ C => ?_)
  unfold p_X9_listByte
  refine G_iload_n C 1 dX9_listByte_0 rfl ?_
  refine G_if_ge C 6 dX9_listByte_1 rfl (fun h1 => ?_) (fun h1 => ?_)
  · refine G_iconst C dX9_listByte_4 (v := -1) rfl ?_
    exact G_iret C dX9_listByte_5 rfl
  · refine G_aload_n C 0 dX9_listByte_6 rfl ?_
    refine G_callVv C 0 9 kd_X9_writeList ui_X9_writeList us_X9_writeList um_X9_282 rfl rfl (c_X9_writeList l K A Y) dX9_listByte_7 rfl rfl (Nat.le_of_ble_eq_true rfl) (Nat.le_of_ble_eq_true rfl) ?_
    refine G_sub [0, 1] rfl ?_
    exact g_X9_listByte_L10 C (s_X9_writeList Y) x1
/-! X9_writeSetupOffice -/
theorem kd_X9_writeSetupOffice : Card yX9_writeSetupOffice cX9_writeSetupOffice 2 none 1 := ⟨uc_X9_writeSetupOffice, un_X9, ⟨by decide, by decide, by decide⟩, by decide⟩
def s_X9_writeSetupOffice_L85 (Y : RS) (x1 : Int32) : RS := yU Y 3 (s_X7_add_p (Y 3) 59)
theorem g_X9_writeSetupOffice_L85 {l : Launch} {K : gK} {Γ : gT} {A : Nat → Nat → Nat} (C : Cx l K Γ RX9 cX9_writeSetupOffice 2 none 7) (Y : RS) (x1 : Int32) : G l K Γ (ro_W K A Y) 85 2 [(0, .ref (A 4 0)), (1, .int x1)] [] (fun z => (none, ro_W K A z)) (s_X9_writeSetupOffice_L85 Y x1) := by
  unfold s_X9_writeSetupOffice_L85
  refine G_aload_n C 0 dX9_writeSetupOffice_85 rfl ?_
  refine G_get C 0 6 dX9_writeSetupOffice_86 inlX9 uf_X9_61 rfl (by decide) rfl rfl rfl ?_
  refine G_bipush C dX9_writeSetupOffice_89 (v := 59) rfl ?_
  refine G_callVv C 49 7 kd_X7_add ui_X7_add us_X7_add um_X9_314 rfl rfl (Ct.chunk1 (cs := ro_C K A Y) (cs' := ro_C K A (yU Y 3 (s_X7_add_p (Y 3) 59))) 4 rfl rfl (c_X7_add_p l K (A 3) (Y 3) 59)) dX9_writeSetupOffice_91 rfl rfl (Nat.le_of_ble_eq_true rfl) (Nat.le_of_ble_eq_true rfl) ?_
  exact G_vret C dX9_writeSetupOffice_94 rfl
def s_X9_writeSetupOffice_L61 (Y : RS) (x1 : Int32) : RS := if (v_X2_isOpen (Y 0) x1) = 0 then s_X9_writeSetupOffice_L85 (yU Y 3 (s_X7_addWord_p (Y 3) 11)) x1 else s_X9_writeSetupOffice_L85 Y x1
theorem g_X9_writeSetupOffice_L61 {l : Launch} {K : gK} {Γ : gT} {A : Nat → Nat → Nat} (C : Cx l K Γ RX9 cX9_writeSetupOffice 2 none 7) (Y : RS) (x1 : Int32) : G l K Γ (ro_W K A Y) 61 2 [(0, .ref (A 4 0)), (1, .int x1)] [] (fun z => (none, ro_W K A z)) (s_X9_writeSetupOffice_L61 Y x1) := by
  unfold s_X9_writeSetupOffice_L61
  refine G_aload_n C 0 dX9_writeSetupOffice_61 rfl ?_
  refine G_get C 0 0 dX9_writeSetupOffice_62 inlX9 uf_X9_10 rfl (by decide) rfl rfl rfl ?_
  refine G_get C 1 2 dX9_writeSetupOffice_65 inlX6 uf_X9_89 rfl (by decide) rfl rfl rfl ?_
  refine G_iload_n C 1 dX9_writeSetupOffice_68 rfl ?_
  refine G_callVi C 4 2 kd_X2_isOpen ui_X2_isOpen us_X2_isOpen um_X9_168 rfl rfl (Ct.chunk1 (cs := ro_C K A Y) (cs' := ro_C K A Y) 1 rfl rfl (c_X2_isOpen l K (A 0) (Y 0) x1)) dX9_writeSetupOffice_69 rfl rfl (Nat.le_of_ble_eq_true rfl) (Nat.le_of_ble_eq_true rfl) ?_
  refine G_if_ne C 85 dX9_writeSetupOffice_72 rfl (fun h1 => ?_) (fun h1 => ?_)
  · refine G_aload_n C 0 dX9_writeSetupOffice_75 rfl ?_
    refine G_get C 0 6 dX9_writeSetupOffice_76 inlX9 uf_X9_61 rfl (by decide) rfl rfl rfl ?_
    refine G_ldcwS C 11 dX9_writeSetupOffice_79 rfl ?_
    refine G_callVv C 49 7 kd_X7_addWord ui_X7_addWord us_X7_addWord um_X9_317 rfl rfl (Ct.chunk1 (cs := ro_C K A Y) (cs' := ro_C K A (yU Y 3 (s_X7_addWord_p (Y 3) 11))) 4 rfl rfl (c_X7_addWord_p l K (A 3) (Y 3) (j := 11) (by decide))) dX9_writeSetupOffice_82 rfl rfl (Nat.le_of_ble_eq_true rfl) (Nat.le_of_ble_eq_true rfl) ?_
    refine G_sub [0, 1] rfl ?_
    exact g_X9_writeSetupOffice_L85 C (yU Y 3 (s_X7_addWord_p (Y 3) 11)) x1
  · refine G_sub [0, 1] rfl ?_
    exact g_X9_writeSetupOffice_L85 C Y x1
def s_X9_writeSetupOffice_L40 (Y : RS) (x1 : Int32) : RS := s_X9_writeSetupOffice_L61 (yU Y 3 (s_X7_addNumber_p (Y 3) (at_ 10 (Y 0 3) x1))) x1
theorem g_X9_writeSetupOffice_L40 {l : Launch} {K : gK} {Γ : gT} {A : Nat → Nat → Nat} (C : Cx l K Γ RX9 cX9_writeSetupOffice 2 none 7) (Y : RS) (x1 : Int32) : G l K Γ (ro_W K A Y) 40 2 [(0, .ref (A 4 0)), (1, .int x1)] [] (fun z => (none, ro_W K A z)) (s_X9_writeSetupOffice_L40 Y x1) := by
  unfold s_X9_writeSetupOffice_L40
  refine G_aload_n C 0 dX9_writeSetupOffice_40 rfl ?_
  refine G_get C 0 6 dX9_writeSetupOffice_41 inlX9 uf_X9_61 rfl (by decide) rfl rfl rfl ?_
  refine G_aload_n C 0 dX9_writeSetupOffice_44 rfl ?_
  refine G_get C 0 0 dX9_writeSetupOffice_45 inlX9 uf_X9_10 rfl (by decide) rfl rfl rfl ?_
  refine G_get C 1 2 dX9_writeSetupOffice_48 inlX6 uf_X9_89 rfl (by decide) rfl rfl rfl ?_
  refine G_get C 4 1 dX9_writeSetupOffice_51 inlX2 uf_X9_189 rfl (by decide) rfl rfl rfl ?_
  refine G_iload_n C 1 dX9_writeSetupOffice_54 rfl ?_
  refine G_callSi C kd_X9_at ut_X9_at um_X9_110 (c_at l K (ws := ro_W K A Y) (q0 := 6) (n := 10) (g := Y 0 3) (ad := (A 0 5)) (by decide) rfl x1) dX9_writeSetupOffice_55 rfl rfl (Nat.le_of_ble_eq_true rfl) (Nat.le_of_ble_eq_true rfl) ?_
  refine G_callVv C 49 7 kd_X7_addNumber ui_X7_addNumber us_X7_addNumber um_X9_311 rfl rfl (Ct.chunk1 (cs := ro_C K A Y) (cs' := ro_C K A (yU Y 3 (s_X7_addNumber_p (Y 3) (at_ 10 (Y 0 3) x1)))) 4 rfl rfl (c_X7_addNumber_p l K (A 3) (Y 3) (at_ 10 (Y 0 3) x1))) dX9_writeSetupOffice_58 rfl rfl (Nat.le_of_ble_eq_true rfl) (Nat.le_of_ble_eq_true rfl) ?_
  refine G_sub [0, 1] rfl ?_
  exact g_X9_writeSetupOffice_L61 C (yU Y 3 (s_X7_addNumber_p (Y 3) (at_ 10 (Y 0 3) x1))) x1
def s_X9_writeSetupOffice_L31 (Y : RS) (x1 : Int32) : RS := s_X9_writeSetupOffice_L40 (yU Y 3 (s_X7_add_p (Y 3) 32)) x1
theorem g_X9_writeSetupOffice_L31 {l : Launch} {K : gK} {Γ : gT} {A : Nat → Nat → Nat} (C : Cx l K Γ RX9 cX9_writeSetupOffice 2 none 7) (Y : RS) (x1 : Int32) : G l K Γ (ro_W K A Y) 31 2 [(0, .ref (A 4 0)), (1, .int x1)] [] (fun z => (none, ro_W K A z)) (s_X9_writeSetupOffice_L31 Y x1) := by
  unfold s_X9_writeSetupOffice_L31
  refine G_aload_n C 0 dX9_writeSetupOffice_31 rfl ?_
  refine G_get C 0 6 dX9_writeSetupOffice_32 inlX9 uf_X9_61 rfl (by decide) rfl rfl rfl ?_
  refine G_bipush C dX9_writeSetupOffice_35 (v := 32) rfl ?_
  refine G_callVv C 49 7 kd_X7_add ui_X7_add us_X7_add um_X9_314 rfl rfl (Ct.chunk1 (cs := ro_C K A Y) (cs' := ro_C K A (yU Y 3 (s_X7_add_p (Y 3) 32))) 4 rfl rfl (c_X7_add_p l K (A 3) (Y 3) 32)) dX9_writeSetupOffice_37 rfl rfl (Nat.le_of_ble_eq_true rfl) (Nat.le_of_ble_eq_true rfl) ?_
  refine G_sub [0, 1] rfl ?_
  exact g_X9_writeSetupOffice_L40 C (yU Y 3 (s_X7_add_p (Y 3) 32)) x1
def s_X9_writeSetupOffice_L10 (Y : RS) (x1 : Int32) : RS := s_X9_writeSetupOffice_L31 (yU Y 3 (s_X7_addNumber_p (Y 3) (at_ 10 (Y 0 2) x1))) x1
theorem g_X9_writeSetupOffice_L10 {l : Launch} {K : gK} {Γ : gT} {A : Nat → Nat → Nat} (C : Cx l K Γ RX9 cX9_writeSetupOffice 2 none 7) (Y : RS) (x1 : Int32) : G l K Γ (ro_W K A Y) 10 2 [(0, .ref (A 4 0)), (1, .int x1)] [] (fun z => (none, ro_W K A z)) (s_X9_writeSetupOffice_L10 Y x1) := by
  unfold s_X9_writeSetupOffice_L10
  refine G_aload_n C 0 dX9_writeSetupOffice_10 rfl ?_
  refine G_get C 0 6 dX9_writeSetupOffice_11 inlX9 uf_X9_61 rfl (by decide) rfl rfl rfl ?_
  refine G_aload_n C 0 dX9_writeSetupOffice_14 rfl ?_
  refine G_get C 0 0 dX9_writeSetupOffice_15 inlX9 uf_X9_10 rfl (by decide) rfl rfl rfl ?_
  refine G_get C 1 2 dX9_writeSetupOffice_18 inlX6 uf_X9_89 rfl (by decide) rfl rfl rfl ?_
  refine G_get C 4 0 dX9_writeSetupOffice_21 inlX2 uf_X9_186 rfl (by decide) rfl rfl rfl ?_
  refine G_iload_n C 1 dX9_writeSetupOffice_24 rfl ?_
  refine G_callSi C kd_X9_at ut_X9_at um_X9_110 (c_at l K (ws := ro_W K A Y) (q0 := 5) (n := 10) (g := Y 0 2) (ad := (A 0 4)) (by decide) rfl x1) dX9_writeSetupOffice_25 rfl rfl (Nat.le_of_ble_eq_true rfl) (Nat.le_of_ble_eq_true rfl) ?_
  refine G_callVv C 49 7 kd_X7_addNumber ui_X7_addNumber us_X7_addNumber um_X9_311 rfl rfl (Ct.chunk1 (cs := ro_C K A Y) (cs' := ro_C K A (yU Y 3 (s_X7_addNumber_p (Y 3) (at_ 10 (Y 0 2) x1)))) 4 rfl rfl (c_X7_addNumber_p l K (A 3) (Y 3) (at_ 10 (Y 0 2) x1))) dX9_writeSetupOffice_28 rfl rfl (Nat.le_of_ble_eq_true rfl) (Nat.le_of_ble_eq_true rfl) ?_
  refine G_sub [0, 1] rfl ?_
  exact g_X9_writeSetupOffice_L31 C (yU Y 3 (s_X7_addNumber_p (Y 3) (at_ 10 (Y 0 2) x1))) x1
def s_X9_writeSetupOffice (Y : RS) (x1 : Int32) : RS := s_X9_writeSetupOffice_L10 (yU Y 3 (s_X7_addWord_p (Y 3) 10)) x1
theorem c_X9_writeSetupOffice (l : Launch) (K : gK) (A : Nat → Nat → Nat) (Y : RS) (x1 : Int32) : Ct l K yX9_writeSetupOffice cX9_writeSetupOffice 2 none 7 [.ref (A 4 0), .int x1] (ro_W K A Y) (none, ro_W K A (s_X9_writeSetupOffice Y x1)) := by
  refine Ct.of (own := RX9) (fun z => (none, ro_W K A z)) (x := s_X9_writeSetupOffice Y x1) (by decide) rfl (Nat.le_of_ble_eq_true rfl) (fun Γ C => ?_)
  unfold s_X9_writeSetupOffice
  refine G_aload_n C 0 dX9_writeSetupOffice_0 rfl ?_
  refine G_get C 0 6 dX9_writeSetupOffice_1 inlX9 uf_X9_61 rfl (by decide) rfl rfl rfl ?_
  refine G_ldcwS C 10 dX9_writeSetupOffice_4 rfl ?_
  refine G_callVv C 49 7 kd_X7_addWord ui_X7_addWord us_X7_addWord um_X9_317 rfl rfl (Ct.chunk1 (cs := ro_C K A Y) (cs' := ro_C K A (yU Y 3 (s_X7_addWord_p (Y 3) 10))) 4 rfl rfl (c_X7_addWord_p l K (A 3) (Y 3) (j := 10) (by decide))) dX9_writeSetupOffice_7 rfl rfl (Nat.le_of_ble_eq_true rfl) (Nat.le_of_ble_eq_true rfl) ?_
  refine G_sub [0, 1] rfl ?_
  exact g_X9_writeSetupOffice_L10 C (yU Y 3 (s_X7_addWord_p (Y 3) 10)) x1
/-! X9_writeSetupLetters -/
theorem kd_X9_writeSetupLetters : Card yX9_writeSetupLetters cX9_writeSetupLetters 3 none 1 := ⟨uc_X9_writeSetupLetters, un_X9, ⟨by decide, by decide, by decide⟩, by decide⟩
def s_X9_writeSetupLetters_L2 : Nat → RS → Int32 → Int32 → RS
  | 0, Y, _, _ => Y
  | fuel + 1, Y, x1, x2 => if x2 < (at_ 10 (Y 0 7) x1) then s_X9_writeSetupLetters_L2 fuel (yU (yU (yU (yU (yU (yU (yU Y 3 (s_X7_addWord_p (Y 3) 12)) 3 (s_X7_addNumber_p ((yU Y 3 (s_X7_addWord_p (Y 3) 12)) 3) x1)) 3 (s_X7_add_p ((yU (yU Y 3 (s_X7_addWord_p (Y 3) 12)) 3 (s_X7_addNumber_p ((yU Y 3 (s_X7_addWord_p (Y 3) 12)) 3) x1)) 3) 32)) 3 (s_X7_addNumber_p ((yU (yU (yU Y 3 (s_X7_addWord_p (Y 3) 12)) 3 (s_X7_addNumber_p ((yU Y 3 (s_X7_addWord_p (Y 3) 12)) 3) x1)) 3 (s_X7_add_p ((yU (yU Y 3 (s_X7_addWord_p (Y 3) 12)) 3 (s_X7_addNumber_p ((yU Y 3 (s_X7_addWord_p (Y 3) 12)) 3) x1)) 3) 32)) 3) (v_X2_toOf ((yU (yU (yU Y 3 (s_X7_addWord_p (Y 3) 12)) 3 (s_X7_addNumber_p ((yU Y 3 (s_X7_addWord_p (Y 3) 12)) 3) x1)) 3 (s_X7_add_p ((yU (yU Y 3 (s_X7_addWord_p (Y 3) 12)) 3 (s_X7_addNumber_p ((yU Y 3 (s_X7_addWord_p (Y 3) 12)) 3) x1)) 3) 32)) 0) x1 x2))) 3 (s_X7_add_p ((yU (yU (yU (yU Y 3 (s_X7_addWord_p (Y 3) 12)) 3 (s_X7_addNumber_p ((yU Y 3 (s_X7_addWord_p (Y 3) 12)) 3) x1)) 3 (s_X7_add_p ((yU (yU Y 3 (s_X7_addWord_p (Y 3) 12)) 3 (s_X7_addNumber_p ((yU Y 3 (s_X7_addWord_p (Y 3) 12)) 3) x1)) 3) 32)) 3 (s_X7_addNumber_p ((yU (yU (yU Y 3 (s_X7_addWord_p (Y 3) 12)) 3 (s_X7_addNumber_p ((yU Y 3 (s_X7_addWord_p (Y 3) 12)) 3) x1)) 3 (s_X7_add_p ((yU (yU Y 3 (s_X7_addWord_p (Y 3) 12)) 3 (s_X7_addNumber_p ((yU Y 3 (s_X7_addWord_p (Y 3) 12)) 3) x1)) 3) 32)) 3) (v_X2_toOf ((yU (yU (yU Y 3 (s_X7_addWord_p (Y 3) 12)) 3 (s_X7_addNumber_p ((yU Y 3 (s_X7_addWord_p (Y 3) 12)) 3) x1)) 3 (s_X7_add_p ((yU (yU Y 3 (s_X7_addWord_p (Y 3) 12)) 3 (s_X7_addNumber_p ((yU Y 3 (s_X7_addWord_p (Y 3) 12)) 3) x1)) 3) 32)) 0) x1 x2))) 3) 32)) 3 (s_X7_addNumber_p ((yU (yU (yU (yU (yU Y 3 (s_X7_addWord_p (Y 3) 12)) 3 (s_X7_addNumber_p ((yU Y 3 (s_X7_addWord_p (Y 3) 12)) 3) x1)) 3 (s_X7_add_p ((yU (yU Y 3 (s_X7_addWord_p (Y 3) 12)) 3 (s_X7_addNumber_p ((yU Y 3 (s_X7_addWord_p (Y 3) 12)) 3) x1)) 3) 32)) 3 (s_X7_addNumber_p ((yU (yU (yU Y 3 (s_X7_addWord_p (Y 3) 12)) 3 (s_X7_addNumber_p ((yU Y 3 (s_X7_addWord_p (Y 3) 12)) 3) x1)) 3 (s_X7_add_p ((yU (yU Y 3 (s_X7_addWord_p (Y 3) 12)) 3 (s_X7_addNumber_p ((yU Y 3 (s_X7_addWord_p (Y 3) 12)) 3) x1)) 3) 32)) 3) (v_X2_toOf ((yU (yU (yU Y 3 (s_X7_addWord_p (Y 3) 12)) 3 (s_X7_addNumber_p ((yU Y 3 (s_X7_addWord_p (Y 3) 12)) 3) x1)) 3 (s_X7_add_p ((yU (yU Y 3 (s_X7_addWord_p (Y 3) 12)) 3 (s_X7_addNumber_p ((yU Y 3 (s_X7_addWord_p (Y 3) 12)) 3) x1)) 3) 32)) 0) x1 x2))) 3 (s_X7_add_p ((yU (yU (yU (yU Y 3 (s_X7_addWord_p (Y 3) 12)) 3 (s_X7_addNumber_p ((yU Y 3 (s_X7_addWord_p (Y 3) 12)) 3) x1)) 3 (s_X7_add_p ((yU (yU Y 3 (s_X7_addWord_p (Y 3) 12)) 3 (s_X7_addNumber_p ((yU Y 3 (s_X7_addWord_p (Y 3) 12)) 3) x1)) 3) 32)) 3 (s_X7_addNumber_p ((yU (yU (yU Y 3 (s_X7_addWord_p (Y 3) 12)) 3 (s_X7_addNumber_p ((yU Y 3 (s_X7_addWord_p (Y 3) 12)) 3) x1)) 3 (s_X7_add_p ((yU (yU Y 3 (s_X7_addWord_p (Y 3) 12)) 3 (s_X7_addNumber_p ((yU Y 3 (s_X7_addWord_p (Y 3) 12)) 3) x1)) 3) 32)) 3) (v_X2_toOf ((yU (yU (yU Y 3 (s_X7_addWord_p (Y 3) 12)) 3 (s_X7_addNumber_p ((yU Y 3 (s_X7_addWord_p (Y 3) 12)) 3) x1)) 3 (s_X7_add_p ((yU (yU Y 3 (s_X7_addWord_p (Y 3) 12)) 3 (s_X7_addNumber_p ((yU Y 3 (s_X7_addWord_p (Y 3) 12)) 3) x1)) 3) 32)) 0) x1 x2))) 3) 32)) 3) (v_X2_lengthOf ((yU (yU (yU (yU (yU Y 3 (s_X7_addWord_p (Y 3) 12)) 3 (s_X7_addNumber_p ((yU Y 3 (s_X7_addWord_p (Y 3) 12)) 3) x1)) 3 (s_X7_add_p ((yU (yU Y 3 (s_X7_addWord_p (Y 3) 12)) 3 (s_X7_addNumber_p ((yU Y 3 (s_X7_addWord_p (Y 3) 12)) 3) x1)) 3) 32)) 3 (s_X7_addNumber_p ((yU (yU (yU Y 3 (s_X7_addWord_p (Y 3) 12)) 3 (s_X7_addNumber_p ((yU Y 3 (s_X7_addWord_p (Y 3) 12)) 3) x1)) 3 (s_X7_add_p ((yU (yU Y 3 (s_X7_addWord_p (Y 3) 12)) 3 (s_X7_addNumber_p ((yU Y 3 (s_X7_addWord_p (Y 3) 12)) 3) x1)) 3) 32)) 3) (v_X2_toOf ((yU (yU (yU Y 3 (s_X7_addWord_p (Y 3) 12)) 3 (s_X7_addNumber_p ((yU Y 3 (s_X7_addWord_p (Y 3) 12)) 3) x1)) 3 (s_X7_add_p ((yU (yU Y 3 (s_X7_addWord_p (Y 3) 12)) 3 (s_X7_addNumber_p ((yU Y 3 (s_X7_addWord_p (Y 3) 12)) 3) x1)) 3) 32)) 0) x1 x2))) 3 (s_X7_add_p ((yU (yU (yU (yU Y 3 (s_X7_addWord_p (Y 3) 12)) 3 (s_X7_addNumber_p ((yU Y 3 (s_X7_addWord_p (Y 3) 12)) 3) x1)) 3 (s_X7_add_p ((yU (yU Y 3 (s_X7_addWord_p (Y 3) 12)) 3 (s_X7_addNumber_p ((yU Y 3 (s_X7_addWord_p (Y 3) 12)) 3) x1)) 3) 32)) 3 (s_X7_addNumber_p ((yU (yU (yU Y 3 (s_X7_addWord_p (Y 3) 12)) 3 (s_X7_addNumber_p ((yU Y 3 (s_X7_addWord_p (Y 3) 12)) 3) x1)) 3 (s_X7_add_p ((yU (yU Y 3 (s_X7_addWord_p (Y 3) 12)) 3 (s_X7_addNumber_p ((yU Y 3 (s_X7_addWord_p (Y 3) 12)) 3) x1)) 3) 32)) 3) (v_X2_toOf ((yU (yU (yU Y 3 (s_X7_addWord_p (Y 3) 12)) 3 (s_X7_addNumber_p ((yU Y 3 (s_X7_addWord_p (Y 3) 12)) 3) x1)) 3 (s_X7_add_p ((yU (yU Y 3 (s_X7_addWord_p (Y 3) 12)) 3 (s_X7_addNumber_p ((yU Y 3 (s_X7_addWord_p (Y 3) 12)) 3) x1)) 3) 32)) 0) x1 x2))) 3) 32)) 0) x1 x2))) 3 (s_X7_add_p ((yU (yU (yU (yU (yU (yU Y 3 (s_X7_addWord_p (Y 3) 12)) 3 (s_X7_addNumber_p ((yU Y 3 (s_X7_addWord_p (Y 3) 12)) 3) x1)) 3 (s_X7_add_p ((yU (yU Y 3 (s_X7_addWord_p (Y 3) 12)) 3 (s_X7_addNumber_p ((yU Y 3 (s_X7_addWord_p (Y 3) 12)) 3) x1)) 3) 32)) 3 (s_X7_addNumber_p ((yU (yU (yU Y 3 (s_X7_addWord_p (Y 3) 12)) 3 (s_X7_addNumber_p ((yU Y 3 (s_X7_addWord_p (Y 3) 12)) 3) x1)) 3 (s_X7_add_p ((yU (yU Y 3 (s_X7_addWord_p (Y 3) 12)) 3 (s_X7_addNumber_p ((yU Y 3 (s_X7_addWord_p (Y 3) 12)) 3) x1)) 3) 32)) 3) (v_X2_toOf ((yU (yU (yU Y 3 (s_X7_addWord_p (Y 3) 12)) 3 (s_X7_addNumber_p ((yU Y 3 (s_X7_addWord_p (Y 3) 12)) 3) x1)) 3 (s_X7_add_p ((yU (yU Y 3 (s_X7_addWord_p (Y 3) 12)) 3 (s_X7_addNumber_p ((yU Y 3 (s_X7_addWord_p (Y 3) 12)) 3) x1)) 3) 32)) 0) x1 x2))) 3 (s_X7_add_p ((yU (yU (yU (yU Y 3 (s_X7_addWord_p (Y 3) 12)) 3 (s_X7_addNumber_p ((yU Y 3 (s_X7_addWord_p (Y 3) 12)) 3) x1)) 3 (s_X7_add_p ((yU (yU Y 3 (s_X7_addWord_p (Y 3) 12)) 3 (s_X7_addNumber_p ((yU Y 3 (s_X7_addWord_p (Y 3) 12)) 3) x1)) 3) 32)) 3 (s_X7_addNumber_p ((yU (yU (yU Y 3 (s_X7_addWord_p (Y 3) 12)) 3 (s_X7_addNumber_p ((yU Y 3 (s_X7_addWord_p (Y 3) 12)) 3) x1)) 3 (s_X7_add_p ((yU (yU Y 3 (s_X7_addWord_p (Y 3) 12)) 3 (s_X7_addNumber_p ((yU Y 3 (s_X7_addWord_p (Y 3) 12)) 3) x1)) 3) 32)) 3) (v_X2_toOf ((yU (yU (yU Y 3 (s_X7_addWord_p (Y 3) 12)) 3 (s_X7_addNumber_p ((yU Y 3 (s_X7_addWord_p (Y 3) 12)) 3) x1)) 3 (s_X7_add_p ((yU (yU Y 3 (s_X7_addWord_p (Y 3) 12)) 3 (s_X7_addNumber_p ((yU Y 3 (s_X7_addWord_p (Y 3) 12)) 3) x1)) 3) 32)) 0) x1 x2))) 3) 32)) 3 (s_X7_addNumber_p ((yU (yU (yU (yU (yU Y 3 (s_X7_addWord_p (Y 3) 12)) 3 (s_X7_addNumber_p ((yU Y 3 (s_X7_addWord_p (Y 3) 12)) 3) x1)) 3 (s_X7_add_p ((yU (yU Y 3 (s_X7_addWord_p (Y 3) 12)) 3 (s_X7_addNumber_p ((yU Y 3 (s_X7_addWord_p (Y 3) 12)) 3) x1)) 3) 32)) 3 (s_X7_addNumber_p ((yU (yU (yU Y 3 (s_X7_addWord_p (Y 3) 12)) 3 (s_X7_addNumber_p ((yU Y 3 (s_X7_addWord_p (Y 3) 12)) 3) x1)) 3 (s_X7_add_p ((yU (yU Y 3 (s_X7_addWord_p (Y 3) 12)) 3 (s_X7_addNumber_p ((yU Y 3 (s_X7_addWord_p (Y 3) 12)) 3) x1)) 3) 32)) 3) (v_X2_toOf ((yU (yU (yU Y 3 (s_X7_addWord_p (Y 3) 12)) 3 (s_X7_addNumber_p ((yU Y 3 (s_X7_addWord_p (Y 3) 12)) 3) x1)) 3 (s_X7_add_p ((yU (yU Y 3 (s_X7_addWord_p (Y 3) 12)) 3 (s_X7_addNumber_p ((yU Y 3 (s_X7_addWord_p (Y 3) 12)) 3) x1)) 3) 32)) 0) x1 x2))) 3 (s_X7_add_p ((yU (yU (yU (yU Y 3 (s_X7_addWord_p (Y 3) 12)) 3 (s_X7_addNumber_p ((yU Y 3 (s_X7_addWord_p (Y 3) 12)) 3) x1)) 3 (s_X7_add_p ((yU (yU Y 3 (s_X7_addWord_p (Y 3) 12)) 3 (s_X7_addNumber_p ((yU Y 3 (s_X7_addWord_p (Y 3) 12)) 3) x1)) 3) 32)) 3 (s_X7_addNumber_p ((yU (yU (yU Y 3 (s_X7_addWord_p (Y 3) 12)) 3 (s_X7_addNumber_p ((yU Y 3 (s_X7_addWord_p (Y 3) 12)) 3) x1)) 3 (s_X7_add_p ((yU (yU Y 3 (s_X7_addWord_p (Y 3) 12)) 3 (s_X7_addNumber_p ((yU Y 3 (s_X7_addWord_p (Y 3) 12)) 3) x1)) 3) 32)) 3) (v_X2_toOf ((yU (yU (yU Y 3 (s_X7_addWord_p (Y 3) 12)) 3 (s_X7_addNumber_p ((yU Y 3 (s_X7_addWord_p (Y 3) 12)) 3) x1)) 3 (s_X7_add_p ((yU (yU Y 3 (s_X7_addWord_p (Y 3) 12)) 3 (s_X7_addNumber_p ((yU Y 3 (s_X7_addWord_p (Y 3) 12)) 3) x1)) 3) 32)) 0) x1 x2))) 3) 32)) 3) (v_X2_lengthOf ((yU (yU (yU (yU (yU Y 3 (s_X7_addWord_p (Y 3) 12)) 3 (s_X7_addNumber_p ((yU Y 3 (s_X7_addWord_p (Y 3) 12)) 3) x1)) 3 (s_X7_add_p ((yU (yU Y 3 (s_X7_addWord_p (Y 3) 12)) 3 (s_X7_addNumber_p ((yU Y 3 (s_X7_addWord_p (Y 3) 12)) 3) x1)) 3) 32)) 3 (s_X7_addNumber_p ((yU (yU (yU Y 3 (s_X7_addWord_p (Y 3) 12)) 3 (s_X7_addNumber_p ((yU Y 3 (s_X7_addWord_p (Y 3) 12)) 3) x1)) 3 (s_X7_add_p ((yU (yU Y 3 (s_X7_addWord_p (Y 3) 12)) 3 (s_X7_addNumber_p ((yU Y 3 (s_X7_addWord_p (Y 3) 12)) 3) x1)) 3) 32)) 3) (v_X2_toOf ((yU (yU (yU Y 3 (s_X7_addWord_p (Y 3) 12)) 3 (s_X7_addNumber_p ((yU Y 3 (s_X7_addWord_p (Y 3) 12)) 3) x1)) 3 (s_X7_add_p ((yU (yU Y 3 (s_X7_addWord_p (Y 3) 12)) 3 (s_X7_addNumber_p ((yU Y 3 (s_X7_addWord_p (Y 3) 12)) 3) x1)) 3) 32)) 0) x1 x2))) 3 (s_X7_add_p ((yU (yU (yU (yU Y 3 (s_X7_addWord_p (Y 3) 12)) 3 (s_X7_addNumber_p ((yU Y 3 (s_X7_addWord_p (Y 3) 12)) 3) x1)) 3 (s_X7_add_p ((yU (yU Y 3 (s_X7_addWord_p (Y 3) 12)) 3 (s_X7_addNumber_p ((yU Y 3 (s_X7_addWord_p (Y 3) 12)) 3) x1)) 3) 32)) 3 (s_X7_addNumber_p ((yU (yU (yU Y 3 (s_X7_addWord_p (Y 3) 12)) 3 (s_X7_addNumber_p ((yU Y 3 (s_X7_addWord_p (Y 3) 12)) 3) x1)) 3 (s_X7_add_p ((yU (yU Y 3 (s_X7_addWord_p (Y 3) 12)) 3 (s_X7_addNumber_p ((yU Y 3 (s_X7_addWord_p (Y 3) 12)) 3) x1)) 3) 32)) 3) (v_X2_toOf ((yU (yU (yU Y 3 (s_X7_addWord_p (Y 3) 12)) 3 (s_X7_addNumber_p ((yU Y 3 (s_X7_addWord_p (Y 3) 12)) 3) x1)) 3 (s_X7_add_p ((yU (yU Y 3 (s_X7_addWord_p (Y 3) 12)) 3 (s_X7_addNumber_p ((yU Y 3 (s_X7_addWord_p (Y 3) 12)) 3) x1)) 3) 32)) 0) x1 x2))) 3) 32)) 0) x1 x2))) 3) 59)) x1 (x2 + 1) else Y
theorem g_X9_writeSetupLetters_L2 {l : Launch} {K : gK} {Γ : gT} {A : Nat → Nat → Nat} (C : Cx l K Γ RX9 cX9_writeSetupLetters 3 none 7) : ∀ (n : Nat) (Y : RS) (x1 : Int32) (x2 : Int32), mu x2 < n → G l K Γ (ro_W K A Y) 2 3 [(0, .ref (A 4 0)), (1, .int x1), (2, .int x2)] [] (fun z => (none, ro_W K A z)) (s_X9_writeSetupLetters_L2 n Y x1 x2) := by
  intro n
  induction n with
  | zero =>
    intro Y x1 x2 hm
    exact absurd hm (Nat.not_lt_zero _)
  | succ n ih =>
    intro Y x1 x2 hm
    rw [s_X9_writeSetupLetters_L2]
    refine G_iload_n C 2 dX9_writeSetupLetters_2 rfl ?_
    refine G_aload_n C 0 dX9_writeSetupLetters_3 rfl ?_
    refine G_get C 0 0 dX9_writeSetupLetters_4 inlX9 uf_X9_10 rfl (by decide) rfl rfl rfl ?_
    refine G_get C 1 2 dX9_writeSetupLetters_7 inlX6 uf_X9_89 rfl (by decide) rfl rfl rfl ?_
    refine G_get C 4 5 dX9_writeSetupLetters_10 inlX2 uf_X9_106 rfl (by decide) rfl rfl rfl ?_
    refine G_iload_n C 1 dX9_writeSetupLetters_13 rfl ?_
    refine G_callSi C kd_X9_at ut_X9_at um_X9_110 (c_at l K (ws := ro_W K A Y) (q0 := 10) (n := 10) (g := Y 0 7) (ad := (A 0 9)) (by decide) rfl x1) dX9_writeSetupLetters_14 rfl rfl (Nat.le_of_ble_eq_true rfl) (Nat.le_of_ble_eq_true rfl) ?_
    refine G_icmp_ge C 109 dX9_writeSetupLetters_17 rfl (fun h1 => ?_) (fun h1 => ?_)
    · refine G_aload_n C 0 dX9_writeSetupLetters_20 rfl ?_
      refine G_get C 0 6 dX9_writeSetupLetters_21 inlX9 uf_X9_61 rfl (by decide) rfl rfl rfl ?_
      refine G_ldcwS C 12 dX9_writeSetupLetters_24 rfl ?_
      refine G_callVv C 49 7 kd_X7_addWord ui_X7_addWord us_X7_addWord um_X9_317 rfl rfl (Ct.chunk1 (cs := ro_C K A Y) (cs' := ro_C K A (yU Y 3 (s_X7_addWord_p (Y 3) 12))) 4 rfl rfl (c_X7_addWord_p l K (A 3) (Y 3) (j := 12) (by decide))) dX9_writeSetupLetters_27 rfl rfl (Nat.le_of_ble_eq_true rfl) (Nat.le_of_ble_eq_true rfl) ?_
      refine G_aload_n C 0 dX9_writeSetupLetters_30 rfl ?_
      refine G_get C 0 6 dX9_writeSetupLetters_31 inlX9 uf_X9_61 rfl (by decide) rfl rfl rfl ?_
      refine G_iload_n C 1 dX9_writeSetupLetters_34 rfl ?_
      refine G_callVv C 49 7 kd_X7_addNumber ui_X7_addNumber us_X7_addNumber um_X9_311 rfl rfl (Ct.chunk1 (cs := ro_C K A (yU Y 3 (s_X7_addWord_p (Y 3) 12))) (cs' := ro_C K A (yU (yU Y 3 (s_X7_addWord_p (Y 3) 12)) 3 (s_X7_addNumber_p ((yU Y 3 (s_X7_addWord_p (Y 3) 12)) 3) x1))) 4 rfl rfl (c_X7_addNumber_p l K (A 3) ((yU Y 3 (s_X7_addWord_p (Y 3) 12)) 3) x1)) dX9_writeSetupLetters_35 rfl rfl (Nat.le_of_ble_eq_true rfl) (Nat.le_of_ble_eq_true rfl) ?_
      refine G_aload_n C 0 dX9_writeSetupLetters_38 rfl ?_
      refine G_get C 0 6 dX9_writeSetupLetters_39 inlX9 uf_X9_61 rfl (by decide) rfl rfl rfl ?_
      refine G_bipush C dX9_writeSetupLetters_42 (v := 32) rfl ?_
      refine G_callVv C 49 7 kd_X7_add ui_X7_add us_X7_add um_X9_314 rfl rfl (Ct.chunk1 (cs := ro_C K A (yU (yU Y 3 (s_X7_addWord_p (Y 3) 12)) 3 (s_X7_addNumber_p ((yU Y 3 (s_X7_addWord_p (Y 3) 12)) 3) x1))) (cs' := ro_C K A (yU (yU (yU Y 3 (s_X7_addWord_p (Y 3) 12)) 3 (s_X7_addNumber_p ((yU Y 3 (s_X7_addWord_p (Y 3) 12)) 3) x1)) 3 (s_X7_add_p ((yU (yU Y 3 (s_X7_addWord_p (Y 3) 12)) 3 (s_X7_addNumber_p ((yU Y 3 (s_X7_addWord_p (Y 3) 12)) 3) x1)) 3) 32))) 4 rfl rfl (c_X7_add_p l K (A 3) ((yU (yU Y 3 (s_X7_addWord_p (Y 3) 12)) 3 (s_X7_addNumber_p ((yU Y 3 (s_X7_addWord_p (Y 3) 12)) 3) x1)) 3) 32)) dX9_writeSetupLetters_44 rfl rfl (Nat.le_of_ble_eq_true rfl) (Nat.le_of_ble_eq_true rfl) ?_
      refine G_aload_n C 0 dX9_writeSetupLetters_47 rfl ?_
      refine G_get C 0 6 dX9_writeSetupLetters_48 inlX9 uf_X9_61 rfl (by decide) rfl rfl rfl ?_
      refine G_aload_n C 0 dX9_writeSetupLetters_51 rfl ?_
      refine G_get C 0 0 dX9_writeSetupLetters_52 inlX9 uf_X9_10 rfl (by decide) rfl rfl rfl ?_
      refine G_get C 1 2 dX9_writeSetupLetters_55 inlX6 uf_X9_89 rfl (by decide) rfl rfl rfl ?_
      refine G_iload_n C 1 dX9_writeSetupLetters_58 rfl ?_
      refine G_iload_n C 2 dX9_writeSetupLetters_59 rfl ?_
      refine G_callVi C 4 2 kd_X2_toOf ui_X2_toOf us_X2_toOf um_X9_246 rfl rfl (Ct.chunk1 (cs := ro_C K A (yU (yU (yU Y 3 (s_X7_addWord_p (Y 3) 12)) 3 (s_X7_addNumber_p ((yU Y 3 (s_X7_addWord_p (Y 3) 12)) 3) x1)) 3 (s_X7_add_p ((yU (yU Y 3 (s_X7_addWord_p (Y 3) 12)) 3 (s_X7_addNumber_p ((yU Y 3 (s_X7_addWord_p (Y 3) 12)) 3) x1)) 3) 32))) (cs' := ro_C K A (yU (yU (yU Y 3 (s_X7_addWord_p (Y 3) 12)) 3 (s_X7_addNumber_p ((yU Y 3 (s_X7_addWord_p (Y 3) 12)) 3) x1)) 3 (s_X7_add_p ((yU (yU Y 3 (s_X7_addWord_p (Y 3) 12)) 3 (s_X7_addNumber_p ((yU Y 3 (s_X7_addWord_p (Y 3) 12)) 3) x1)) 3) 32))) 1 rfl rfl (c_X2_toOf l K (A 0) ((yU (yU (yU Y 3 (s_X7_addWord_p (Y 3) 12)) 3 (s_X7_addNumber_p ((yU Y 3 (s_X7_addWord_p (Y 3) 12)) 3) x1)) 3 (s_X7_add_p ((yU (yU Y 3 (s_X7_addWord_p (Y 3) 12)) 3 (s_X7_addNumber_p ((yU Y 3 (s_X7_addWord_p (Y 3) 12)) 3) x1)) 3) 32)) 0) x1 x2)) dX9_writeSetupLetters_60 rfl rfl (Nat.le_of_ble_eq_true rfl) (Nat.le_of_ble_eq_true rfl) ?_
      refine G_callVv C 49 7 kd_X7_addNumber ui_X7_addNumber us_X7_addNumber um_X9_311 rfl rfl (Ct.chunk1 (cs := ro_C K A (yU (yU (yU Y 3 (s_X7_addWord_p (Y 3) 12)) 3 (s_X7_addNumber_p ((yU Y 3 (s_X7_addWord_p (Y 3) 12)) 3) x1)) 3 (s_X7_add_p ((yU (yU Y 3 (s_X7_addWord_p (Y 3) 12)) 3 (s_X7_addNumber_p ((yU Y 3 (s_X7_addWord_p (Y 3) 12)) 3) x1)) 3) 32))) (cs' := ro_C K A (yU (yU (yU (yU Y 3 (s_X7_addWord_p (Y 3) 12)) 3 (s_X7_addNumber_p ((yU Y 3 (s_X7_addWord_p (Y 3) 12)) 3) x1)) 3 (s_X7_add_p ((yU (yU Y 3 (s_X7_addWord_p (Y 3) 12)) 3 (s_X7_addNumber_p ((yU Y 3 (s_X7_addWord_p (Y 3) 12)) 3) x1)) 3) 32)) 3 (s_X7_addNumber_p ((yU (yU (yU Y 3 (s_X7_addWord_p (Y 3) 12)) 3 (s_X7_addNumber_p ((yU Y 3 (s_X7_addWord_p (Y 3) 12)) 3) x1)) 3 (s_X7_add_p ((yU (yU Y 3 (s_X7_addWord_p (Y 3) 12)) 3 (s_X7_addNumber_p ((yU Y 3 (s_X7_addWord_p (Y 3) 12)) 3) x1)) 3) 32)) 3) (v_X2_toOf ((yU (yU (yU Y 3 (s_X7_addWord_p (Y 3) 12)) 3 (s_X7_addNumber_p ((yU Y 3 (s_X7_addWord_p (Y 3) 12)) 3) x1)) 3 (s_X7_add_p ((yU (yU Y 3 (s_X7_addWord_p (Y 3) 12)) 3 (s_X7_addNumber_p ((yU Y 3 (s_X7_addWord_p (Y 3) 12)) 3) x1)) 3) 32)) 0) x1 x2)))) 4 rfl rfl (c_X7_addNumber_p l K (A 3) ((yU (yU (yU Y 3 (s_X7_addWord_p (Y 3) 12)) 3 (s_X7_addNumber_p ((yU Y 3 (s_X7_addWord_p (Y 3) 12)) 3) x1)) 3 (s_X7_add_p ((yU (yU Y 3 (s_X7_addWord_p (Y 3) 12)) 3 (s_X7_addNumber_p ((yU Y 3 (s_X7_addWord_p (Y 3) 12)) 3) x1)) 3) 32)) 3) (v_X2_toOf ((yU (yU (yU Y 3 (s_X7_addWord_p (Y 3) 12)) 3 (s_X7_addNumber_p ((yU Y 3 (s_X7_addWord_p (Y 3) 12)) 3) x1)) 3 (s_X7_add_p ((yU (yU Y 3 (s_X7_addWord_p (Y 3) 12)) 3 (s_X7_addNumber_p ((yU Y 3 (s_X7_addWord_p (Y 3) 12)) 3) x1)) 3) 32)) 0) x1 x2))) dX9_writeSetupLetters_63 rfl rfl (Nat.le_of_ble_eq_true rfl) (Nat.le_of_ble_eq_true rfl) ?_
      refine G_aload_n C 0 dX9_writeSetupLetters_66 rfl ?_
      refine G_get C 0 6 dX9_writeSetupLetters_67 inlX9 uf_X9_61 rfl (by decide) rfl rfl rfl ?_
      refine G_bipush C dX9_writeSetupLetters_70 (v := 32) rfl ?_
      refine G_callVv C 49 7 kd_X7_add ui_X7_add us_X7_add um_X9_314 rfl rfl (Ct.chunk1 (cs := ro_C K A (yU (yU (yU (yU Y 3 (s_X7_addWord_p (Y 3) 12)) 3 (s_X7_addNumber_p ((yU Y 3 (s_X7_addWord_p (Y 3) 12)) 3) x1)) 3 (s_X7_add_p ((yU (yU Y 3 (s_X7_addWord_p (Y 3) 12)) 3 (s_X7_addNumber_p ((yU Y 3 (s_X7_addWord_p (Y 3) 12)) 3) x1)) 3) 32)) 3 (s_X7_addNumber_p ((yU (yU (yU Y 3 (s_X7_addWord_p (Y 3) 12)) 3 (s_X7_addNumber_p ((yU Y 3 (s_X7_addWord_p (Y 3) 12)) 3) x1)) 3 (s_X7_add_p ((yU (yU Y 3 (s_X7_addWord_p (Y 3) 12)) 3 (s_X7_addNumber_p ((yU Y 3 (s_X7_addWord_p (Y 3) 12)) 3) x1)) 3) 32)) 3) (v_X2_toOf ((yU (yU (yU Y 3 (s_X7_addWord_p (Y 3) 12)) 3 (s_X7_addNumber_p ((yU Y 3 (s_X7_addWord_p (Y 3) 12)) 3) x1)) 3 (s_X7_add_p ((yU (yU Y 3 (s_X7_addWord_p (Y 3) 12)) 3 (s_X7_addNumber_p ((yU Y 3 (s_X7_addWord_p (Y 3) 12)) 3) x1)) 3) 32)) 0) x1 x2)))) (cs' := ro_C K A (yU (yU (yU (yU (yU Y 3 (s_X7_addWord_p (Y 3) 12)) 3 (s_X7_addNumber_p ((yU Y 3 (s_X7_addWord_p (Y 3) 12)) 3) x1)) 3 (s_X7_add_p ((yU (yU Y 3 (s_X7_addWord_p (Y 3) 12)) 3 (s_X7_addNumber_p ((yU Y 3 (s_X7_addWord_p (Y 3) 12)) 3) x1)) 3) 32)) 3 (s_X7_addNumber_p ((yU (yU (yU Y 3 (s_X7_addWord_p (Y 3) 12)) 3 (s_X7_addNumber_p ((yU Y 3 (s_X7_addWord_p (Y 3) 12)) 3) x1)) 3 (s_X7_add_p ((yU (yU Y 3 (s_X7_addWord_p (Y 3) 12)) 3 (s_X7_addNumber_p ((yU Y 3 (s_X7_addWord_p (Y 3) 12)) 3) x1)) 3) 32)) 3) (v_X2_toOf ((yU (yU (yU Y 3 (s_X7_addWord_p (Y 3) 12)) 3 (s_X7_addNumber_p ((yU Y 3 (s_X7_addWord_p (Y 3) 12)) 3) x1)) 3 (s_X7_add_p ((yU (yU Y 3 (s_X7_addWord_p (Y 3) 12)) 3 (s_X7_addNumber_p ((yU Y 3 (s_X7_addWord_p (Y 3) 12)) 3) x1)) 3) 32)) 0) x1 x2))) 3 (s_X7_add_p ((yU (yU (yU (yU Y 3 (s_X7_addWord_p (Y 3) 12)) 3 (s_X7_addNumber_p ((yU Y 3 (s_X7_addWord_p (Y 3) 12)) 3) x1)) 3 (s_X7_add_p ((yU (yU Y 3 (s_X7_addWord_p (Y 3) 12)) 3 (s_X7_addNumber_p ((yU Y 3 (s_X7_addWord_p (Y 3) 12)) 3) x1)) 3) 32)) 3 (s_X7_addNumber_p ((yU (yU (yU Y 3 (s_X7_addWord_p (Y 3) 12)) 3 (s_X7_addNumber_p ((yU Y 3 (s_X7_addWord_p (Y 3) 12)) 3) x1)) 3 (s_X7_add_p ((yU (yU Y 3 (s_X7_addWord_p (Y 3) 12)) 3 (s_X7_addNumber_p ((yU Y 3 (s_X7_addWord_p (Y 3) 12)) 3) x1)) 3) 32)) 3) (v_X2_toOf ((yU (yU (yU Y 3 (s_X7_addWord_p (Y 3) 12)) 3 (s_X7_addNumber_p ((yU Y 3 (s_X7_addWord_p (Y 3) 12)) 3) x1)) 3 (s_X7_add_p ((yU (yU Y 3 (s_X7_addWord_p (Y 3) 12)) 3 (s_X7_addNumber_p ((yU Y 3 (s_X7_addWord_p (Y 3) 12)) 3) x1)) 3) 32)) 0) x1 x2))) 3) 32))) 4 rfl rfl (c_X7_add_p l K (A 3) ((yU (yU (yU (yU Y 3 (s_X7_addWord_p (Y 3) 12)) 3 (s_X7_addNumber_p ((yU Y 3 (s_X7_addWord_p (Y 3) 12)) 3) x1)) 3 (s_X7_add_p ((yU (yU Y 3 (s_X7_addWord_p (Y 3) 12)) 3 (s_X7_addNumber_p ((yU Y 3 (s_X7_addWord_p (Y 3) 12)) 3) x1)) 3) 32)) 3 (s_X7_addNumber_p ((yU (yU (yU Y 3 (s_X7_addWord_p (Y 3) 12)) 3 (s_X7_addNumber_p ((yU Y 3 (s_X7_addWord_p (Y 3) 12)) 3) x1)) 3 (s_X7_add_p ((yU (yU Y 3 (s_X7_addWord_p (Y 3) 12)) 3 (s_X7_addNumber_p ((yU Y 3 (s_X7_addWord_p (Y 3) 12)) 3) x1)) 3) 32)) 3) (v_X2_toOf ((yU (yU (yU Y 3 (s_X7_addWord_p (Y 3) 12)) 3 (s_X7_addNumber_p ((yU Y 3 (s_X7_addWord_p (Y 3) 12)) 3) x1)) 3 (s_X7_add_p ((yU (yU Y 3 (s_X7_addWord_p (Y 3) 12)) 3 (s_X7_addNumber_p ((yU Y 3 (s_X7_addWord_p (Y 3) 12)) 3) x1)) 3) 32)) 0) x1 x2))) 3) 32)) dX9_writeSetupLetters_72 rfl rfl (Nat.le_of_ble_eq_true rfl) (Nat.le_of_ble_eq_true rfl) ?_
      refine G_aload_n C 0 dX9_writeSetupLetters_75 rfl ?_
      refine G_get C 0 6 dX9_writeSetupLetters_76 inlX9 uf_X9_61 rfl (by decide) rfl rfl rfl ?_
      refine G_aload_n C 0 dX9_writeSetupLetters_79 rfl ?_
      refine G_get C 0 0 dX9_writeSetupLetters_80 inlX9 uf_X9_10 rfl (by decide) rfl rfl rfl ?_
      refine G_get C 1 2 dX9_writeSetupLetters_83 inlX6 uf_X9_89 rfl (by decide) rfl rfl rfl ?_
      refine G_iload_n C 1 dX9_writeSetupLetters_86 rfl ?_
      refine G_iload_n C 2 dX9_writeSetupLetters_87 rfl ?_
      refine G_callVi C 4 2 kd_X2_lengthOf ui_X2_lengthOf us_X2_lengthOf um_X9_147 rfl rfl (Ct.chunk1 (cs := ro_C K A (yU (yU (yU (yU (yU Y 3 (s_X7_addWord_p (Y 3) 12)) 3 (s_X7_addNumber_p ((yU Y 3 (s_X7_addWord_p (Y 3) 12)) 3) x1)) 3 (s_X7_add_p ((yU (yU Y 3 (s_X7_addWord_p (Y 3) 12)) 3 (s_X7_addNumber_p ((yU Y 3 (s_X7_addWord_p (Y 3) 12)) 3) x1)) 3) 32)) 3 (s_X7_addNumber_p ((yU (yU (yU Y 3 (s_X7_addWord_p (Y 3) 12)) 3 (s_X7_addNumber_p ((yU Y 3 (s_X7_addWord_p (Y 3) 12)) 3) x1)) 3 (s_X7_add_p ((yU (yU Y 3 (s_X7_addWord_p (Y 3) 12)) 3 (s_X7_addNumber_p ((yU Y 3 (s_X7_addWord_p (Y 3) 12)) 3) x1)) 3) 32)) 3) (v_X2_toOf ((yU (yU (yU Y 3 (s_X7_addWord_p (Y 3) 12)) 3 (s_X7_addNumber_p ((yU Y 3 (s_X7_addWord_p (Y 3) 12)) 3) x1)) 3 (s_X7_add_p ((yU (yU Y 3 (s_X7_addWord_p (Y 3) 12)) 3 (s_X7_addNumber_p ((yU Y 3 (s_X7_addWord_p (Y 3) 12)) 3) x1)) 3) 32)) 0) x1 x2))) 3 (s_X7_add_p ((yU (yU (yU (yU Y 3 (s_X7_addWord_p (Y 3) 12)) 3 (s_X7_addNumber_p ((yU Y 3 (s_X7_addWord_p (Y 3) 12)) 3) x1)) 3 (s_X7_add_p ((yU (yU Y 3 (s_X7_addWord_p (Y 3) 12)) 3 (s_X7_addNumber_p ((yU Y 3 (s_X7_addWord_p (Y 3) 12)) 3) x1)) 3) 32)) 3 (s_X7_addNumber_p ((yU (yU (yU Y 3 (s_X7_addWord_p (Y 3) 12)) 3 (s_X7_addNumber_p ((yU Y 3 (s_X7_addWord_p (Y 3) 12)) 3) x1)) 3 (s_X7_add_p ((yU (yU Y 3 (s_X7_addWord_p (Y 3) 12)) 3 (s_X7_addNumber_p ((yU Y 3 (s_X7_addWord_p (Y 3) 12)) 3) x1)) 3) 32)) 3) (v_X2_toOf ((yU (yU (yU Y 3 (s_X7_addWord_p (Y 3) 12)) 3 (s_X7_addNumber_p ((yU Y 3 (s_X7_addWord_p (Y 3) 12)) 3) x1)) 3 (s_X7_add_p ((yU (yU Y 3 (s_X7_addWord_p (Y 3) 12)) 3 (s_X7_addNumber_p ((yU Y 3 (s_X7_addWord_p (Y 3) 12)) 3) x1)) 3) 32)) 0) x1 x2))) 3) 32))) (cs' := ro_C K A (yU (yU (yU (yU (yU Y 3 (s_X7_addWord_p (Y 3) 12)) 3 (s_X7_addNumber_p ((yU Y 3 (s_X7_addWord_p (Y 3) 12)) 3) x1)) 3 (s_X7_add_p ((yU (yU Y 3 (s_X7_addWord_p (Y 3) 12)) 3 (s_X7_addNumber_p ((yU Y 3 (s_X7_addWord_p (Y 3) 12)) 3) x1)) 3) 32)) 3 (s_X7_addNumber_p ((yU (yU (yU Y 3 (s_X7_addWord_p (Y 3) 12)) 3 (s_X7_addNumber_p ((yU Y 3 (s_X7_addWord_p (Y 3) 12)) 3) x1)) 3 (s_X7_add_p ((yU (yU Y 3 (s_X7_addWord_p (Y 3) 12)) 3 (s_X7_addNumber_p ((yU Y 3 (s_X7_addWord_p (Y 3) 12)) 3) x1)) 3) 32)) 3) (v_X2_toOf ((yU (yU (yU Y 3 (s_X7_addWord_p (Y 3) 12)) 3 (s_X7_addNumber_p ((yU Y 3 (s_X7_addWord_p (Y 3) 12)) 3) x1)) 3 (s_X7_add_p ((yU (yU Y 3 (s_X7_addWord_p (Y 3) 12)) 3 (s_X7_addNumber_p ((yU Y 3 (s_X7_addWord_p (Y 3) 12)) 3) x1)) 3) 32)) 0) x1 x2))) 3 (s_X7_add_p ((yU (yU (yU (yU Y 3 (s_X7_addWord_p (Y 3) 12)) 3 (s_X7_addNumber_p ((yU Y 3 (s_X7_addWord_p (Y 3) 12)) 3) x1)) 3 (s_X7_add_p ((yU (yU Y 3 (s_X7_addWord_p (Y 3) 12)) 3 (s_X7_addNumber_p ((yU Y 3 (s_X7_addWord_p (Y 3) 12)) 3) x1)) 3) 32)) 3 (s_X7_addNumber_p ((yU (yU (yU Y 3 (s_X7_addWord_p (Y 3) 12)) 3 (s_X7_addNumber_p ((yU Y 3 (s_X7_addWord_p (Y 3) 12)) 3) x1)) 3 (s_X7_add_p ((yU (yU Y 3 (s_X7_addWord_p (Y 3) 12)) 3 (s_X7_addNumber_p ((yU Y 3 (s_X7_addWord_p (Y 3) 12)) 3) x1)) 3) 32)) 3) (v_X2_toOf ((yU (yU (yU Y 3 (s_X7_addWord_p (Y 3) 12)) 3 (s_X7_addNumber_p ((yU Y 3 (s_X7_addWord_p (Y 3) 12)) 3) x1)) 3 (s_X7_add_p ((yU (yU Y 3 (s_X7_addWord_p (Y 3) 12)) 3 (s_X7_addNumber_p ((yU Y 3 (s_X7_addWord_p (Y 3) 12)) 3) x1)) 3) 32)) 0) x1 x2))) 3) 32))) 1 rfl rfl (c_X2_lengthOf l K (A 0) ((yU (yU (yU (yU (yU Y 3 (s_X7_addWord_p (Y 3) 12)) 3 (s_X7_addNumber_p ((yU Y 3 (s_X7_addWord_p (Y 3) 12)) 3) x1)) 3 (s_X7_add_p ((yU (yU Y 3 (s_X7_addWord_p (Y 3) 12)) 3 (s_X7_addNumber_p ((yU Y 3 (s_X7_addWord_p (Y 3) 12)) 3) x1)) 3) 32)) 3 (s_X7_addNumber_p ((yU (yU (yU Y 3 (s_X7_addWord_p (Y 3) 12)) 3 (s_X7_addNumber_p ((yU Y 3 (s_X7_addWord_p (Y 3) 12)) 3) x1)) 3 (s_X7_add_p ((yU (yU Y 3 (s_X7_addWord_p (Y 3) 12)) 3 (s_X7_addNumber_p ((yU Y 3 (s_X7_addWord_p (Y 3) 12)) 3) x1)) 3) 32)) 3) (v_X2_toOf ((yU (yU (yU Y 3 (s_X7_addWord_p (Y 3) 12)) 3 (s_X7_addNumber_p ((yU Y 3 (s_X7_addWord_p (Y 3) 12)) 3) x1)) 3 (s_X7_add_p ((yU (yU Y 3 (s_X7_addWord_p (Y 3) 12)) 3 (s_X7_addNumber_p ((yU Y 3 (s_X7_addWord_p (Y 3) 12)) 3) x1)) 3) 32)) 0) x1 x2))) 3 (s_X7_add_p ((yU (yU (yU (yU Y 3 (s_X7_addWord_p (Y 3) 12)) 3 (s_X7_addNumber_p ((yU Y 3 (s_X7_addWord_p (Y 3) 12)) 3) x1)) 3 (s_X7_add_p ((yU (yU Y 3 (s_X7_addWord_p (Y 3) 12)) 3 (s_X7_addNumber_p ((yU Y 3 (s_X7_addWord_p (Y 3) 12)) 3) x1)) 3) 32)) 3 (s_X7_addNumber_p ((yU (yU (yU Y 3 (s_X7_addWord_p (Y 3) 12)) 3 (s_X7_addNumber_p ((yU Y 3 (s_X7_addWord_p (Y 3) 12)) 3) x1)) 3 (s_X7_add_p ((yU (yU Y 3 (s_X7_addWord_p (Y 3) 12)) 3 (s_X7_addNumber_p ((yU Y 3 (s_X7_addWord_p (Y 3) 12)) 3) x1)) 3) 32)) 3) (v_X2_toOf ((yU (yU (yU Y 3 (s_X7_addWord_p (Y 3) 12)) 3 (s_X7_addNumber_p ((yU Y 3 (s_X7_addWord_p (Y 3) 12)) 3) x1)) 3 (s_X7_add_p ((yU (yU Y 3 (s_X7_addWord_p (Y 3) 12)) 3 (s_X7_addNumber_p ((yU Y 3 (s_X7_addWord_p (Y 3) 12)) 3) x1)) 3) 32)) 0) x1 x2))) 3) 32)) 0) x1 x2)) dX9_writeSetupLetters_88 rfl rfl (Nat.le_of_ble_eq_true rfl) (Nat.le_of_ble_eq_true rfl) ?_
      refine G_callVv C 49 7 kd_X7_addNumber ui_X7_addNumber us_X7_addNumber um_X9_311 rfl rfl (Ct.chunk1 (cs := ro_C K A (yU (yU (yU (yU (yU Y 3 (s_X7_addWord_p (Y 3) 12)) 3 (s_X7_addNumber_p ((yU Y 3 (s_X7_addWord_p (Y 3) 12)) 3) x1)) 3 (s_X7_add_p ((yU (yU Y 3 (s_X7_addWord_p (Y 3) 12)) 3 (s_X7_addNumber_p ((yU Y 3 (s_X7_addWord_p (Y 3) 12)) 3) x1)) 3) 32)) 3 (s_X7_addNumber_p ((yU (yU (yU Y 3 (s_X7_addWord_p (Y 3) 12)) 3 (s_X7_addNumber_p ((yU Y 3 (s_X7_addWord_p (Y 3) 12)) 3) x1)) 3 (s_X7_add_p ((yU (yU Y 3 (s_X7_addWord_p (Y 3) 12)) 3 (s_X7_addNumber_p ((yU Y 3 (s_X7_addWord_p (Y 3) 12)) 3) x1)) 3) 32)) 3) (v_X2_toOf ((yU (yU (yU Y 3 (s_X7_addWord_p (Y 3) 12)) 3 (s_X7_addNumber_p ((yU Y 3 (s_X7_addWord_p (Y 3) 12)) 3) x1)) 3 (s_X7_add_p ((yU (yU Y 3 (s_X7_addWord_p (Y 3) 12)) 3 (s_X7_addNumber_p ((yU Y 3 (s_X7_addWord_p (Y 3) 12)) 3) x1)) 3) 32)) 0) x1 x2))) 3 (s_X7_add_p ((yU (yU (yU (yU Y 3 (s_X7_addWord_p (Y 3) 12)) 3 (s_X7_addNumber_p ((yU Y 3 (s_X7_addWord_p (Y 3) 12)) 3) x1)) 3 (s_X7_add_p ((yU (yU Y 3 (s_X7_addWord_p (Y 3) 12)) 3 (s_X7_addNumber_p ((yU Y 3 (s_X7_addWord_p (Y 3) 12)) 3) x1)) 3) 32)) 3 (s_X7_addNumber_p ((yU (yU (yU Y 3 (s_X7_addWord_p (Y 3) 12)) 3 (s_X7_addNumber_p ((yU Y 3 (s_X7_addWord_p (Y 3) 12)) 3) x1)) 3 (s_X7_add_p ((yU (yU Y 3 (s_X7_addWord_p (Y 3) 12)) 3 (s_X7_addNumber_p ((yU Y 3 (s_X7_addWord_p (Y 3) 12)) 3) x1)) 3) 32)) 3) (v_X2_toOf ((yU (yU (yU Y 3 (s_X7_addWord_p (Y 3) 12)) 3 (s_X7_addNumber_p ((yU Y 3 (s_X7_addWord_p (Y 3) 12)) 3) x1)) 3 (s_X7_add_p ((yU (yU Y 3 (s_X7_addWord_p (Y 3) 12)) 3 (s_X7_addNumber_p ((yU Y 3 (s_X7_addWord_p (Y 3) 12)) 3) x1)) 3) 32)) 0) x1 x2))) 3) 32))) (cs' := ro_C K A (yU (yU (yU (yU (yU (yU Y 3 (s_X7_addWord_p (Y 3) 12)) 3 (s_X7_addNumber_p ((yU Y 3 (s_X7_addWord_p (Y 3) 12)) 3) x1)) 3 (s_X7_add_p ((yU (yU Y 3 (s_X7_addWord_p (Y 3) 12)) 3 (s_X7_addNumber_p ((yU Y 3 (s_X7_addWord_p (Y 3) 12)) 3) x1)) 3) 32)) 3 (s_X7_addNumber_p ((yU (yU (yU Y 3 (s_X7_addWord_p (Y 3) 12)) 3 (s_X7_addNumber_p ((yU Y 3 (s_X7_addWord_p (Y 3) 12)) 3) x1)) 3 (s_X7_add_p ((yU (yU Y 3 (s_X7_addWord_p (Y 3) 12)) 3 (s_X7_addNumber_p ((yU Y 3 (s_X7_addWord_p (Y 3) 12)) 3) x1)) 3) 32)) 3) (v_X2_toOf ((yU (yU (yU Y 3 (s_X7_addWord_p (Y 3) 12)) 3 (s_X7_addNumber_p ((yU Y 3 (s_X7_addWord_p (Y 3) 12)) 3) x1)) 3 (s_X7_add_p ((yU (yU Y 3 (s_X7_addWord_p (Y 3) 12)) 3 (s_X7_addNumber_p ((yU Y 3 (s_X7_addWord_p (Y 3) 12)) 3) x1)) 3) 32)) 0) x1 x2))) 3 (s_X7_add_p ((yU (yU (yU (yU Y 3 (s_X7_addWord_p (Y 3) 12)) 3 (s_X7_addNumber_p ((yU Y 3 (s_X7_addWord_p (Y 3) 12)) 3) x1)) 3 (s_X7_add_p ((yU (yU Y 3 (s_X7_addWord_p (Y 3) 12)) 3 (s_X7_addNumber_p ((yU Y 3 (s_X7_addWord_p (Y 3) 12)) 3) x1)) 3) 32)) 3 (s_X7_addNumber_p ((yU (yU (yU Y 3 (s_X7_addWord_p (Y 3) 12)) 3 (s_X7_addNumber_p ((yU Y 3 (s_X7_addWord_p (Y 3) 12)) 3) x1)) 3 (s_X7_add_p ((yU (yU Y 3 (s_X7_addWord_p (Y 3) 12)) 3 (s_X7_addNumber_p ((yU Y 3 (s_X7_addWord_p (Y 3) 12)) 3) x1)) 3) 32)) 3) (v_X2_toOf ((yU (yU (yU Y 3 (s_X7_addWord_p (Y 3) 12)) 3 (s_X7_addNumber_p ((yU Y 3 (s_X7_addWord_p (Y 3) 12)) 3) x1)) 3 (s_X7_add_p ((yU (yU Y 3 (s_X7_addWord_p (Y 3) 12)) 3 (s_X7_addNumber_p ((yU Y 3 (s_X7_addWord_p (Y 3) 12)) 3) x1)) 3) 32)) 0) x1 x2))) 3) 32)) 3 (s_X7_addNumber_p ((yU (yU (yU (yU (yU Y 3 (s_X7_addWord_p (Y 3) 12)) 3 (s_X7_addNumber_p ((yU Y 3 (s_X7_addWord_p (Y 3) 12)) 3) x1)) 3 (s_X7_add_p ((yU (yU Y 3 (s_X7_addWord_p (Y 3) 12)) 3 (s_X7_addNumber_p ((yU Y 3 (s_X7_addWord_p (Y 3) 12)) 3) x1)) 3) 32)) 3 (s_X7_addNumber_p ((yU (yU (yU Y 3 (s_X7_addWord_p (Y 3) 12)) 3 (s_X7_addNumber_p ((yU Y 3 (s_X7_addWord_p (Y 3) 12)) 3) x1)) 3 (s_X7_add_p ((yU (yU Y 3 (s_X7_addWord_p (Y 3) 12)) 3 (s_X7_addNumber_p ((yU Y 3 (s_X7_addWord_p (Y 3) 12)) 3) x1)) 3) 32)) 3) (v_X2_toOf ((yU (yU (yU Y 3 (s_X7_addWord_p (Y 3) 12)) 3 (s_X7_addNumber_p ((yU Y 3 (s_X7_addWord_p (Y 3) 12)) 3) x1)) 3 (s_X7_add_p ((yU (yU Y 3 (s_X7_addWord_p (Y 3) 12)) 3 (s_X7_addNumber_p ((yU Y 3 (s_X7_addWord_p (Y 3) 12)) 3) x1)) 3) 32)) 0) x1 x2))) 3 (s_X7_add_p ((yU (yU (yU (yU Y 3 (s_X7_addWord_p (Y 3) 12)) 3 (s_X7_addNumber_p ((yU Y 3 (s_X7_addWord_p (Y 3) 12)) 3) x1)) 3 (s_X7_add_p ((yU (yU Y 3 (s_X7_addWord_p (Y 3) 12)) 3 (s_X7_addNumber_p ((yU Y 3 (s_X7_addWord_p (Y 3) 12)) 3) x1)) 3) 32)) 3 (s_X7_addNumber_p ((yU (yU (yU Y 3 (s_X7_addWord_p (Y 3) 12)) 3 (s_X7_addNumber_p ((yU Y 3 (s_X7_addWord_p (Y 3) 12)) 3) x1)) 3 (s_X7_add_p ((yU (yU Y 3 (s_X7_addWord_p (Y 3) 12)) 3 (s_X7_addNumber_p ((yU Y 3 (s_X7_addWord_p (Y 3) 12)) 3) x1)) 3) 32)) 3) (v_X2_toOf ((yU (yU (yU Y 3 (s_X7_addWord_p (Y 3) 12)) 3 (s_X7_addNumber_p ((yU Y 3 (s_X7_addWord_p (Y 3) 12)) 3) x1)) 3 (s_X7_add_p ((yU (yU Y 3 (s_X7_addWord_p (Y 3) 12)) 3 (s_X7_addNumber_p ((yU Y 3 (s_X7_addWord_p (Y 3) 12)) 3) x1)) 3) 32)) 0) x1 x2))) 3) 32)) 3) (v_X2_lengthOf ((yU (yU (yU (yU (yU Y 3 (s_X7_addWord_p (Y 3) 12)) 3 (s_X7_addNumber_p ((yU Y 3 (s_X7_addWord_p (Y 3) 12)) 3) x1)) 3 (s_X7_add_p ((yU (yU Y 3 (s_X7_addWord_p (Y 3) 12)) 3 (s_X7_addNumber_p ((yU Y 3 (s_X7_addWord_p (Y 3) 12)) 3) x1)) 3) 32)) 3 (s_X7_addNumber_p ((yU (yU (yU Y 3 (s_X7_addWord_p (Y 3) 12)) 3 (s_X7_addNumber_p ((yU Y 3 (s_X7_addWord_p (Y 3) 12)) 3) x1)) 3 (s_X7_add_p ((yU (yU Y 3 (s_X7_addWord_p (Y 3) 12)) 3 (s_X7_addNumber_p ((yU Y 3 (s_X7_addWord_p (Y 3) 12)) 3) x1)) 3) 32)) 3) (v_X2_toOf ((yU (yU (yU Y 3 (s_X7_addWord_p (Y 3) 12)) 3 (s_X7_addNumber_p ((yU Y 3 (s_X7_addWord_p (Y 3) 12)) 3) x1)) 3 (s_X7_add_p ((yU (yU Y 3 (s_X7_addWord_p (Y 3) 12)) 3 (s_X7_addNumber_p ((yU Y 3 (s_X7_addWord_p (Y 3) 12)) 3) x1)) 3) 32)) 0) x1 x2))) 3 (s_X7_add_p ((yU (yU (yU (yU Y 3 (s_X7_addWord_p (Y 3) 12)) 3 (s_X7_addNumber_p ((yU Y 3 (s_X7_addWord_p (Y 3) 12)) 3) x1)) 3 (s_X7_add_p ((yU (yU Y 3 (s_X7_addWord_p (Y 3) 12)) 3 (s_X7_addNumber_p ((yU Y 3 (s_X7_addWord_p (Y 3) 12)) 3) x1)) 3) 32)) 3 (s_X7_addNumber_p ((yU (yU (yU Y 3 (s_X7_addWord_p (Y 3) 12)) 3 (s_X7_addNumber_p ((yU Y 3 (s_X7_addWord_p (Y 3) 12)) 3) x1)) 3 (s_X7_add_p ((yU (yU Y 3 (s_X7_addWord_p (Y 3) 12)) 3 (s_X7_addNumber_p ((yU Y 3 (s_X7_addWord_p (Y 3) 12)) 3) x1)) 3) 32)) 3) (v_X2_toOf ((yU (yU (yU Y 3 (s_X7_addWord_p (Y 3) 12)) 3 (s_X7_addNumber_p ((yU Y 3 (s_X7_addWord_p (Y 3) 12)) 3) x1)) 3 (s_X7_add_p ((yU (yU Y 3 (s_X7_addWord_p (Y 3) 12)) 3 (s_X7_addNumber_p ((yU Y 3 (s_X7_addWord_p (Y 3) 12)) 3) x1)) 3) 32)) 0) x1 x2))) 3) 32)) 0) x1 x2)))) 4 rfl rfl (c_X7_addNumber_p l K (A 3) ((yU (yU (yU (yU (yU Y 3 (s_X7_addWord_p (Y 3) 12)) 3 (s_X7_addNumber_p ((yU Y 3 (s_X7_addWord_p (Y 3) 12)) 3) x1)) 3 (s_X7_add_p ((yU (yU Y 3 (s_X7_addWord_p (Y 3) 12)) 3 (s_X7_addNumber_p ((yU Y 3 (s_X7_addWord_p (Y 3) 12)) 3) x1)) 3) 32)) 3 (s_X7_addNumber_p ((yU (yU (yU Y 3 (s_X7_addWord_p (Y 3) 12)) 3 (s_X7_addNumber_p ((yU Y 3 (s_X7_addWord_p (Y 3) 12)) 3) x1)) 3 (s_X7_add_p ((yU (yU Y 3 (s_X7_addWord_p (Y 3) 12)) 3 (s_X7_addNumber_p ((yU Y 3 (s_X7_addWord_p (Y 3) 12)) 3) x1)) 3) 32)) 3) (v_X2_toOf ((yU (yU (yU Y 3 (s_X7_addWord_p (Y 3) 12)) 3 (s_X7_addNumber_p ((yU Y 3 (s_X7_addWord_p (Y 3) 12)) 3) x1)) 3 (s_X7_add_p ((yU (yU Y 3 (s_X7_addWord_p (Y 3) 12)) 3 (s_X7_addNumber_p ((yU Y 3 (s_X7_addWord_p (Y 3) 12)) 3) x1)) 3) 32)) 0) x1 x2))) 3 (s_X7_add_p ((yU (yU (yU (yU Y 3 (s_X7_addWord_p (Y 3) 12)) 3 (s_X7_addNumber_p ((yU Y 3 (s_X7_addWord_p (Y 3) 12)) 3) x1)) 3 (s_X7_add_p ((yU (yU Y 3 (s_X7_addWord_p (Y 3) 12)) 3 (s_X7_addNumber_p ((yU Y 3 (s_X7_addWord_p (Y 3) 12)) 3) x1)) 3) 32)) 3 (s_X7_addNumber_p ((yU (yU (yU Y 3 (s_X7_addWord_p (Y 3) 12)) 3 (s_X7_addNumber_p ((yU Y 3 (s_X7_addWord_p (Y 3) 12)) 3) x1)) 3 (s_X7_add_p ((yU (yU Y 3 (s_X7_addWord_p (Y 3) 12)) 3 (s_X7_addNumber_p ((yU Y 3 (s_X7_addWord_p (Y 3) 12)) 3) x1)) 3) 32)) 3) (v_X2_toOf ((yU (yU (yU Y 3 (s_X7_addWord_p (Y 3) 12)) 3 (s_X7_addNumber_p ((yU Y 3 (s_X7_addWord_p (Y 3) 12)) 3) x1)) 3 (s_X7_add_p ((yU (yU Y 3 (s_X7_addWord_p (Y 3) 12)) 3 (s_X7_addNumber_p ((yU Y 3 (s_X7_addWord_p (Y 3) 12)) 3) x1)) 3) 32)) 0) x1 x2))) 3) 32)) 3) (v_X2_lengthOf ((yU (yU (yU (yU (yU Y 3 (s_X7_addWord_p (Y 3) 12)) 3 (s_X7_addNumber_p ((yU Y 3 (s_X7_addWord_p (Y 3) 12)) 3) x1)) 3 (s_X7_add_p ((yU (yU Y 3 (s_X7_addWord_p (Y 3) 12)) 3 (s_X7_addNumber_p ((yU Y 3 (s_X7_addWord_p (Y 3) 12)) 3) x1)) 3) 32)) 3 (s_X7_addNumber_p ((yU (yU (yU Y 3 (s_X7_addWord_p (Y 3) 12)) 3 (s_X7_addNumber_p ((yU Y 3 (s_X7_addWord_p (Y 3) 12)) 3) x1)) 3 (s_X7_add_p ((yU (yU Y 3 (s_X7_addWord_p (Y 3) 12)) 3 (s_X7_addNumber_p ((yU Y 3 (s_X7_addWord_p (Y 3) 12)) 3) x1)) 3) 32)) 3) (v_X2_toOf ((yU (yU (yU Y 3 (s_X7_addWord_p (Y 3) 12)) 3 (s_X7_addNumber_p ((yU Y 3 (s_X7_addWord_p (Y 3) 12)) 3) x1)) 3 (s_X7_add_p ((yU (yU Y 3 (s_X7_addWord_p (Y 3) 12)) 3 (s_X7_addNumber_p ((yU Y 3 (s_X7_addWord_p (Y 3) 12)) 3) x1)) 3) 32)) 0) x1 x2))) 3 (s_X7_add_p ((yU (yU (yU (yU Y 3 (s_X7_addWord_p (Y 3) 12)) 3 (s_X7_addNumber_p ((yU Y 3 (s_X7_addWord_p (Y 3) 12)) 3) x1)) 3 (s_X7_add_p ((yU (yU Y 3 (s_X7_addWord_p (Y 3) 12)) 3 (s_X7_addNumber_p ((yU Y 3 (s_X7_addWord_p (Y 3) 12)) 3) x1)) 3) 32)) 3 (s_X7_addNumber_p ((yU (yU (yU Y 3 (s_X7_addWord_p (Y 3) 12)) 3 (s_X7_addNumber_p ((yU Y 3 (s_X7_addWord_p (Y 3) 12)) 3) x1)) 3 (s_X7_add_p ((yU (yU Y 3 (s_X7_addWord_p (Y 3) 12)) 3 (s_X7_addNumber_p ((yU Y 3 (s_X7_addWord_p (Y 3) 12)) 3) x1)) 3) 32)) 3) (v_X2_toOf ((yU (yU (yU Y 3 (s_X7_addWord_p (Y 3) 12)) 3 (s_X7_addNumber_p ((yU Y 3 (s_X7_addWord_p (Y 3) 12)) 3) x1)) 3 (s_X7_add_p ((yU (yU Y 3 (s_X7_addWord_p (Y 3) 12)) 3 (s_X7_addNumber_p ((yU Y 3 (s_X7_addWord_p (Y 3) 12)) 3) x1)) 3) 32)) 0) x1 x2))) 3) 32)) 0) x1 x2))) dX9_writeSetupLetters_91 rfl rfl (Nat.le_of_ble_eq_true rfl) (Nat.le_of_ble_eq_true rfl) ?_
      refine G_aload_n C 0 dX9_writeSetupLetters_94 rfl ?_
      refine G_get C 0 6 dX9_writeSetupLetters_95 inlX9 uf_X9_61 rfl (by decide) rfl rfl rfl ?_
      refine G_bipush C dX9_writeSetupLetters_98 (v := 59) rfl ?_
      refine G_callVv C 49 7 kd_X7_add ui_X7_add us_X7_add um_X9_314 rfl rfl (Ct.chunk1 (cs := ro_C K A (yU (yU (yU (yU (yU (yU Y 3 (s_X7_addWord_p (Y 3) 12)) 3 (s_X7_addNumber_p ((yU Y 3 (s_X7_addWord_p (Y 3) 12)) 3) x1)) 3 (s_X7_add_p ((yU (yU Y 3 (s_X7_addWord_p (Y 3) 12)) 3 (s_X7_addNumber_p ((yU Y 3 (s_X7_addWord_p (Y 3) 12)) 3) x1)) 3) 32)) 3 (s_X7_addNumber_p ((yU (yU (yU Y 3 (s_X7_addWord_p (Y 3) 12)) 3 (s_X7_addNumber_p ((yU Y 3 (s_X7_addWord_p (Y 3) 12)) 3) x1)) 3 (s_X7_add_p ((yU (yU Y 3 (s_X7_addWord_p (Y 3) 12)) 3 (s_X7_addNumber_p ((yU Y 3 (s_X7_addWord_p (Y 3) 12)) 3) x1)) 3) 32)) 3) (v_X2_toOf ((yU (yU (yU Y 3 (s_X7_addWord_p (Y 3) 12)) 3 (s_X7_addNumber_p ((yU Y 3 (s_X7_addWord_p (Y 3) 12)) 3) x1)) 3 (s_X7_add_p ((yU (yU Y 3 (s_X7_addWord_p (Y 3) 12)) 3 (s_X7_addNumber_p ((yU Y 3 (s_X7_addWord_p (Y 3) 12)) 3) x1)) 3) 32)) 0) x1 x2))) 3 (s_X7_add_p ((yU (yU (yU (yU Y 3 (s_X7_addWord_p (Y 3) 12)) 3 (s_X7_addNumber_p ((yU Y 3 (s_X7_addWord_p (Y 3) 12)) 3) x1)) 3 (s_X7_add_p ((yU (yU Y 3 (s_X7_addWord_p (Y 3) 12)) 3 (s_X7_addNumber_p ((yU Y 3 (s_X7_addWord_p (Y 3) 12)) 3) x1)) 3) 32)) 3 (s_X7_addNumber_p ((yU (yU (yU Y 3 (s_X7_addWord_p (Y 3) 12)) 3 (s_X7_addNumber_p ((yU Y 3 (s_X7_addWord_p (Y 3) 12)) 3) x1)) 3 (s_X7_add_p ((yU (yU Y 3 (s_X7_addWord_p (Y 3) 12)) 3 (s_X7_addNumber_p ((yU Y 3 (s_X7_addWord_p (Y 3) 12)) 3) x1)) 3) 32)) 3) (v_X2_toOf ((yU (yU (yU Y 3 (s_X7_addWord_p (Y 3) 12)) 3 (s_X7_addNumber_p ((yU Y 3 (s_X7_addWord_p (Y 3) 12)) 3) x1)) 3 (s_X7_add_p ((yU (yU Y 3 (s_X7_addWord_p (Y 3) 12)) 3 (s_X7_addNumber_p ((yU Y 3 (s_X7_addWord_p (Y 3) 12)) 3) x1)) 3) 32)) 0) x1 x2))) 3) 32)) 3 (s_X7_addNumber_p ((yU (yU (yU (yU (yU Y 3 (s_X7_addWord_p (Y 3) 12)) 3 (s_X7_addNumber_p ((yU Y 3 (s_X7_addWord_p (Y 3) 12)) 3) x1)) 3 (s_X7_add_p ((yU (yU Y 3 (s_X7_addWord_p (Y 3) 12)) 3 (s_X7_addNumber_p ((yU Y 3 (s_X7_addWord_p (Y 3) 12)) 3) x1)) 3) 32)) 3 (s_X7_addNumber_p ((yU (yU (yU Y 3 (s_X7_addWord_p (Y 3) 12)) 3 (s_X7_addNumber_p ((yU Y 3 (s_X7_addWord_p (Y 3) 12)) 3) x1)) 3 (s_X7_add_p ((yU (yU Y 3 (s_X7_addWord_p (Y 3) 12)) 3 (s_X7_addNumber_p ((yU Y 3 (s_X7_addWord_p (Y 3) 12)) 3) x1)) 3) 32)) 3) (v_X2_toOf ((yU (yU (yU Y 3 (s_X7_addWord_p (Y 3) 12)) 3 (s_X7_addNumber_p ((yU Y 3 (s_X7_addWord_p (Y 3) 12)) 3) x1)) 3 (s_X7_add_p ((yU (yU Y 3 (s_X7_addWord_p (Y 3) 12)) 3 (s_X7_addNumber_p ((yU Y 3 (s_X7_addWord_p (Y 3) 12)) 3) x1)) 3) 32)) 0) x1 x2))) 3 (s_X7_add_p ((yU (yU (yU (yU Y 3 (s_X7_addWord_p (Y 3) 12)) 3 (s_X7_addNumber_p ((yU Y 3 (s_X7_addWord_p (Y 3) 12)) 3) x1)) 3 (s_X7_add_p ((yU (yU Y 3 (s_X7_addWord_p (Y 3) 12)) 3 (s_X7_addNumber_p ((yU Y 3 (s_X7_addWord_p (Y 3) 12)) 3) x1)) 3) 32)) 3 (s_X7_addNumber_p ((yU (yU (yU Y 3 (s_X7_addWord_p (Y 3) 12)) 3 (s_X7_addNumber_p ((yU Y 3 (s_X7_addWord_p (Y 3) 12)) 3) x1)) 3 (s_X7_add_p ((yU (yU Y 3 (s_X7_addWord_p (Y 3) 12)) 3 (s_X7_addNumber_p ((yU Y 3 (s_X7_addWord_p (Y 3) 12)) 3) x1)) 3) 32)) 3) (v_X2_toOf ((yU (yU (yU Y 3 (s_X7_addWord_p (Y 3) 12)) 3 (s_X7_addNumber_p ((yU Y 3 (s_X7_addWord_p (Y 3) 12)) 3) x1)) 3 (s_X7_add_p ((yU (yU Y 3 (s_X7_addWord_p (Y 3) 12)) 3 (s_X7_addNumber_p ((yU Y 3 (s_X7_addWord_p (Y 3) 12)) 3) x1)) 3) 32)) 0) x1 x2))) 3) 32)) 3) (v_X2_lengthOf ((yU (yU (yU (yU (yU Y 3 (s_X7_addWord_p (Y 3) 12)) 3 (s_X7_addNumber_p ((yU Y 3 (s_X7_addWord_p (Y 3) 12)) 3) x1)) 3 (s_X7_add_p ((yU (yU Y 3 (s_X7_addWord_p (Y 3) 12)) 3 (s_X7_addNumber_p ((yU Y 3 (s_X7_addWord_p (Y 3) 12)) 3) x1)) 3) 32)) 3 (s_X7_addNumber_p ((yU (yU (yU Y 3 (s_X7_addWord_p (Y 3) 12)) 3 (s_X7_addNumber_p ((yU Y 3 (s_X7_addWord_p (Y 3) 12)) 3) x1)) 3 (s_X7_add_p ((yU (yU Y 3 (s_X7_addWord_p (Y 3) 12)) 3 (s_X7_addNumber_p ((yU Y 3 (s_X7_addWord_p (Y 3) 12)) 3) x1)) 3) 32)) 3) (v_X2_toOf ((yU (yU (yU Y 3 (s_X7_addWord_p (Y 3) 12)) 3 (s_X7_addNumber_p ((yU Y 3 (s_X7_addWord_p (Y 3) 12)) 3) x1)) 3 (s_X7_add_p ((yU (yU Y 3 (s_X7_addWord_p (Y 3) 12)) 3 (s_X7_addNumber_p ((yU Y 3 (s_X7_addWord_p (Y 3) 12)) 3) x1)) 3) 32)) 0) x1 x2))) 3 (s_X7_add_p ((yU (yU (yU (yU Y 3 (s_X7_addWord_p (Y 3) 12)) 3 (s_X7_addNumber_p ((yU Y 3 (s_X7_addWord_p (Y 3) 12)) 3) x1)) 3 (s_X7_add_p ((yU (yU Y 3 (s_X7_addWord_p (Y 3) 12)) 3 (s_X7_addNumber_p ((yU Y 3 (s_X7_addWord_p (Y 3) 12)) 3) x1)) 3) 32)) 3 (s_X7_addNumber_p ((yU (yU (yU Y 3 (s_X7_addWord_p (Y 3) 12)) 3 (s_X7_addNumber_p ((yU Y 3 (s_X7_addWord_p (Y 3) 12)) 3) x1)) 3 (s_X7_add_p ((yU (yU Y 3 (s_X7_addWord_p (Y 3) 12)) 3 (s_X7_addNumber_p ((yU Y 3 (s_X7_addWord_p (Y 3) 12)) 3) x1)) 3) 32)) 3) (v_X2_toOf ((yU (yU (yU Y 3 (s_X7_addWord_p (Y 3) 12)) 3 (s_X7_addNumber_p ((yU Y 3 (s_X7_addWord_p (Y 3) 12)) 3) x1)) 3 (s_X7_add_p ((yU (yU Y 3 (s_X7_addWord_p (Y 3) 12)) 3 (s_X7_addNumber_p ((yU Y 3 (s_X7_addWord_p (Y 3) 12)) 3) x1)) 3) 32)) 0) x1 x2))) 3) 32)) 0) x1 x2)))) (cs' := ro_C K A (yU (yU (yU (yU (yU (yU (yU Y 3 (s_X7_addWord_p (Y 3) 12)) 3 (s_X7_addNumber_p ((yU Y 3 (s_X7_addWord_p (Y 3) 12)) 3) x1)) 3 (s_X7_add_p ((yU (yU Y 3 (s_X7_addWord_p (Y 3) 12)) 3 (s_X7_addNumber_p ((yU Y 3 (s_X7_addWord_p (Y 3) 12)) 3) x1)) 3) 32)) 3 (s_X7_addNumber_p ((yU (yU (yU Y 3 (s_X7_addWord_p (Y 3) 12)) 3 (s_X7_addNumber_p ((yU Y 3 (s_X7_addWord_p (Y 3) 12)) 3) x1)) 3 (s_X7_add_p ((yU (yU Y 3 (s_X7_addWord_p (Y 3) 12)) 3 (s_X7_addNumber_p ((yU Y 3 (s_X7_addWord_p (Y 3) 12)) 3) x1)) 3) 32)) 3) (v_X2_toOf ((yU (yU (yU Y 3 (s_X7_addWord_p (Y 3) 12)) 3 (s_X7_addNumber_p ((yU Y 3 (s_X7_addWord_p (Y 3) 12)) 3) x1)) 3 (s_X7_add_p ((yU (yU Y 3 (s_X7_addWord_p (Y 3) 12)) 3 (s_X7_addNumber_p ((yU Y 3 (s_X7_addWord_p (Y 3) 12)) 3) x1)) 3) 32)) 0) x1 x2))) 3 (s_X7_add_p ((yU (yU (yU (yU Y 3 (s_X7_addWord_p (Y 3) 12)) 3 (s_X7_addNumber_p ((yU Y 3 (s_X7_addWord_p (Y 3) 12)) 3) x1)) 3 (s_X7_add_p ((yU (yU Y 3 (s_X7_addWord_p (Y 3) 12)) 3 (s_X7_addNumber_p ((yU Y 3 (s_X7_addWord_p (Y 3) 12)) 3) x1)) 3) 32)) 3 (s_X7_addNumber_p ((yU (yU (yU Y 3 (s_X7_addWord_p (Y 3) 12)) 3 (s_X7_addNumber_p ((yU Y 3 (s_X7_addWord_p (Y 3) 12)) 3) x1)) 3 (s_X7_add_p ((yU (yU Y 3 (s_X7_addWord_p (Y 3) 12)) 3 (s_X7_addNumber_p ((yU Y 3 (s_X7_addWord_p (Y 3) 12)) 3) x1)) 3) 32)) 3) (v_X2_toOf ((yU (yU (yU Y 3 (s_X7_addWord_p (Y 3) 12)) 3 (s_X7_addNumber_p ((yU Y 3 (s_X7_addWord_p (Y 3) 12)) 3) x1)) 3 (s_X7_add_p ((yU (yU Y 3 (s_X7_addWord_p (Y 3) 12)) 3 (s_X7_addNumber_p ((yU Y 3 (s_X7_addWord_p (Y 3) 12)) 3) x1)) 3) 32)) 0) x1 x2))) 3) 32)) 3 (s_X7_addNumber_p ((yU (yU (yU (yU (yU Y 3 (s_X7_addWord_p (Y 3) 12)) 3 (s_X7_addNumber_p ((yU Y 3 (s_X7_addWord_p (Y 3) 12)) 3) x1)) 3 (s_X7_add_p ((yU (yU Y 3 (s_X7_addWord_p (Y 3) 12)) 3 (s_X7_addNumber_p ((yU Y 3 (s_X7_addWord_p (Y 3) 12)) 3) x1)) 3) 32)) 3 (s_X7_addNumber_p ((yU (yU (yU Y 3 (s_X7_addWord_p (Y 3) 12)) 3 (s_X7_addNumber_p ((yU Y 3 (s_X7_addWord_p (Y 3) 12)) 3) x1)) 3 (s_X7_add_p ((yU (yU Y 3 (s_X7_addWord_p (Y 3) 12)) 3 (s_X7_addNumber_p ((yU Y 3 (s_X7_addWord_p (Y 3) 12)) 3) x1)) 3) 32)) 3) (v_X2_toOf ((yU (yU (yU Y 3 (s_X7_addWord_p (Y 3) 12)) 3 (s_X7_addNumber_p ((yU Y 3 (s_X7_addWord_p (Y 3) 12)) 3) x1)) 3 (s_X7_add_p ((yU (yU Y 3 (s_X7_addWord_p (Y 3) 12)) 3 (s_X7_addNumber_p ((yU Y 3 (s_X7_addWord_p (Y 3) 12)) 3) x1)) 3) 32)) 0) x1 x2))) 3 (s_X7_add_p ((yU (yU (yU (yU Y 3 (s_X7_addWord_p (Y 3) 12)) 3 (s_X7_addNumber_p ((yU Y 3 (s_X7_addWord_p (Y 3) 12)) 3) x1)) 3 (s_X7_add_p ((yU (yU Y 3 (s_X7_addWord_p (Y 3) 12)) 3 (s_X7_addNumber_p ((yU Y 3 (s_X7_addWord_p (Y 3) 12)) 3) x1)) 3) 32)) 3 (s_X7_addNumber_p ((yU (yU (yU Y 3 (s_X7_addWord_p (Y 3) 12)) 3 (s_X7_addNumber_p ((yU Y 3 (s_X7_addWord_p (Y 3) 12)) 3) x1)) 3 (s_X7_add_p ((yU (yU Y 3 (s_X7_addWord_p (Y 3) 12)) 3 (s_X7_addNumber_p ((yU Y 3 (s_X7_addWord_p (Y 3) 12)) 3) x1)) 3) 32)) 3) (v_X2_toOf ((yU (yU (yU Y 3 (s_X7_addWord_p (Y 3) 12)) 3 (s_X7_addNumber_p ((yU Y 3 (s_X7_addWord_p (Y 3) 12)) 3) x1)) 3 (s_X7_add_p ((yU (yU Y 3 (s_X7_addWord_p (Y 3) 12)) 3 (s_X7_addNumber_p ((yU Y 3 (s_X7_addWord_p (Y 3) 12)) 3) x1)) 3) 32)) 0) x1 x2))) 3) 32)) 3) (v_X2_lengthOf ((yU (yU (yU (yU (yU Y 3 (s_X7_addWord_p (Y 3) 12)) 3 (s_X7_addNumber_p ((yU Y 3 (s_X7_addWord_p (Y 3) 12)) 3) x1)) 3 (s_X7_add_p ((yU (yU Y 3 (s_X7_addWord_p (Y 3) 12)) 3 (s_X7_addNumber_p ((yU Y 3 (s_X7_addWord_p (Y 3) 12)) 3) x1)) 3) 32)) 3 (s_X7_addNumber_p ((yU (yU (yU Y 3 (s_X7_addWord_p (Y 3) 12)) 3 (s_X7_addNumber_p ((yU Y 3 (s_X7_addWord_p (Y 3) 12)) 3) x1)) 3 (s_X7_add_p ((yU (yU Y 3 (s_X7_addWord_p (Y 3) 12)) 3 (s_X7_addNumber_p ((yU Y 3 (s_X7_addWord_p (Y 3) 12)) 3) x1)) 3) 32)) 3) (v_X2_toOf ((yU (yU (yU Y 3 (s_X7_addWord_p (Y 3) 12)) 3 (s_X7_addNumber_p ((yU Y 3 (s_X7_addWord_p (Y 3) 12)) 3) x1)) 3 (s_X7_add_p ((yU (yU Y 3 (s_X7_addWord_p (Y 3) 12)) 3 (s_X7_addNumber_p ((yU Y 3 (s_X7_addWord_p (Y 3) 12)) 3) x1)) 3) 32)) 0) x1 x2))) 3 (s_X7_add_p ((yU (yU (yU (yU Y 3 (s_X7_addWord_p (Y 3) 12)) 3 (s_X7_addNumber_p ((yU Y 3 (s_X7_addWord_p (Y 3) 12)) 3) x1)) 3 (s_X7_add_p ((yU (yU Y 3 (s_X7_addWord_p (Y 3) 12)) 3 (s_X7_addNumber_p ((yU Y 3 (s_X7_addWord_p (Y 3) 12)) 3) x1)) 3) 32)) 3 (s_X7_addNumber_p ((yU (yU (yU Y 3 (s_X7_addWord_p (Y 3) 12)) 3 (s_X7_addNumber_p ((yU Y 3 (s_X7_addWord_p (Y 3) 12)) 3) x1)) 3 (s_X7_add_p ((yU (yU Y 3 (s_X7_addWord_p (Y 3) 12)) 3 (s_X7_addNumber_p ((yU Y 3 (s_X7_addWord_p (Y 3) 12)) 3) x1)) 3) 32)) 3) (v_X2_toOf ((yU (yU (yU Y 3 (s_X7_addWord_p (Y 3) 12)) 3 (s_X7_addNumber_p ((yU Y 3 (s_X7_addWord_p (Y 3) 12)) 3) x1)) 3 (s_X7_add_p ((yU (yU Y 3 (s_X7_addWord_p (Y 3) 12)) 3 (s_X7_addNumber_p ((yU Y 3 (s_X7_addWord_p (Y 3) 12)) 3) x1)) 3) 32)) 0) x1 x2))) 3) 32)) 0) x1 x2))) 3 (s_X7_add_p ((yU (yU (yU (yU (yU (yU Y 3 (s_X7_addWord_p (Y 3) 12)) 3 (s_X7_addNumber_p ((yU Y 3 (s_X7_addWord_p (Y 3) 12)) 3) x1)) 3 (s_X7_add_p ((yU (yU Y 3 (s_X7_addWord_p (Y 3) 12)) 3 (s_X7_addNumber_p ((yU Y 3 (s_X7_addWord_p (Y 3) 12)) 3) x1)) 3) 32)) 3 (s_X7_addNumber_p ((yU (yU (yU Y 3 (s_X7_addWord_p (Y 3) 12)) 3 (s_X7_addNumber_p ((yU Y 3 (s_X7_addWord_p (Y 3) 12)) 3) x1)) 3 (s_X7_add_p ((yU (yU Y 3 (s_X7_addWord_p (Y 3) 12)) 3 (s_X7_addNumber_p ((yU Y 3 (s_X7_addWord_p (Y 3) 12)) 3) x1)) 3) 32)) 3) (v_X2_toOf ((yU (yU (yU Y 3 (s_X7_addWord_p (Y 3) 12)) 3 (s_X7_addNumber_p ((yU Y 3 (s_X7_addWord_p (Y 3) 12)) 3) x1)) 3 (s_X7_add_p ((yU (yU Y 3 (s_X7_addWord_p (Y 3) 12)) 3 (s_X7_addNumber_p ((yU Y 3 (s_X7_addWord_p (Y 3) 12)) 3) x1)) 3) 32)) 0) x1 x2))) 3 (s_X7_add_p ((yU (yU (yU (yU Y 3 (s_X7_addWord_p (Y 3) 12)) 3 (s_X7_addNumber_p ((yU Y 3 (s_X7_addWord_p (Y 3) 12)) 3) x1)) 3 (s_X7_add_p ((yU (yU Y 3 (s_X7_addWord_p (Y 3) 12)) 3 (s_X7_addNumber_p ((yU Y 3 (s_X7_addWord_p (Y 3) 12)) 3) x1)) 3) 32)) 3 (s_X7_addNumber_p ((yU (yU (yU Y 3 (s_X7_addWord_p (Y 3) 12)) 3 (s_X7_addNumber_p ((yU Y 3 (s_X7_addWord_p (Y 3) 12)) 3) x1)) 3 (s_X7_add_p ((yU (yU Y 3 (s_X7_addWord_p (Y 3) 12)) 3 (s_X7_addNumber_p ((yU Y 3 (s_X7_addWord_p (Y 3) 12)) 3) x1)) 3) 32)) 3) (v_X2_toOf ((yU (yU (yU Y 3 (s_X7_addWord_p (Y 3) 12)) 3 (s_X7_addNumber_p ((yU Y 3 (s_X7_addWord_p (Y 3) 12)) 3) x1)) 3 (s_X7_add_p ((yU (yU Y 3 (s_X7_addWord_p (Y 3) 12)) 3 (s_X7_addNumber_p ((yU Y 3 (s_X7_addWord_p (Y 3) 12)) 3) x1)) 3) 32)) 0) x1 x2))) 3) 32)) 3 (s_X7_addNumber_p ((yU (yU (yU (yU (yU Y 3 (s_X7_addWord_p (Y 3) 12)) 3 (s_X7_addNumber_p ((yU Y 3 (s_X7_addWord_p (Y 3) 12)) 3) x1)) 3 (s_X7_add_p ((yU (yU Y 3 (s_X7_addWord_p (Y 3) 12)) 3 (s_X7_addNumber_p ((yU Y 3 (s_X7_addWord_p (Y 3) 12)) 3) x1)) 3) 32)) 3 (s_X7_addNumber_p ((yU (yU (yU Y 3 (s_X7_addWord_p (Y 3) 12)) 3 (s_X7_addNumber_p ((yU Y 3 (s_X7_addWord_p (Y 3) 12)) 3) x1)) 3 (s_X7_add_p ((yU (yU Y 3 (s_X7_addWord_p (Y 3) 12)) 3 (s_X7_addNumber_p ((yU Y 3 (s_X7_addWord_p (Y 3) 12)) 3) x1)) 3) 32)) 3) (v_X2_toOf ((yU (yU (yU Y 3 (s_X7_addWord_p (Y 3) 12)) 3 (s_X7_addNumber_p ((yU Y 3 (s_X7_addWord_p (Y 3) 12)) 3) x1)) 3 (s_X7_add_p ((yU (yU Y 3 (s_X7_addWord_p (Y 3) 12)) 3 (s_X7_addNumber_p ((yU Y 3 (s_X7_addWord_p (Y 3) 12)) 3) x1)) 3) 32)) 0) x1 x2))) 3 (s_X7_add_p ((yU (yU (yU (yU Y 3 (s_X7_addWord_p (Y 3) 12)) 3 (s_X7_addNumber_p ((yU Y 3 (s_X7_addWord_p (Y 3) 12)) 3) x1)) 3 (s_X7_add_p ((yU (yU Y 3 (s_X7_addWord_p (Y 3) 12)) 3 (s_X7_addNumber_p ((yU Y 3 (s_X7_addWord_p (Y 3) 12)) 3) x1)) 3) 32)) 3 (s_X7_addNumber_p ((yU (yU (yU Y 3 (s_X7_addWord_p (Y 3) 12)) 3 (s_X7_addNumber_p ((yU Y 3 (s_X7_addWord_p (Y 3) 12)) 3) x1)) 3 (s_X7_add_p ((yU (yU Y 3 (s_X7_addWord_p (Y 3) 12)) 3 (s_X7_addNumber_p ((yU Y 3 (s_X7_addWord_p (Y 3) 12)) 3) x1)) 3) 32)) 3) (v_X2_toOf ((yU (yU (yU Y 3 (s_X7_addWord_p (Y 3) 12)) 3 (s_X7_addNumber_p ((yU Y 3 (s_X7_addWord_p (Y 3) 12)) 3) x1)) 3 (s_X7_add_p ((yU (yU Y 3 (s_X7_addWord_p (Y 3) 12)) 3 (s_X7_addNumber_p ((yU Y 3 (s_X7_addWord_p (Y 3) 12)) 3) x1)) 3) 32)) 0) x1 x2))) 3) 32)) 3) (v_X2_lengthOf ((yU (yU (yU (yU (yU Y 3 (s_X7_addWord_p (Y 3) 12)) 3 (s_X7_addNumber_p ((yU Y 3 (s_X7_addWord_p (Y 3) 12)) 3) x1)) 3 (s_X7_add_p ((yU (yU Y 3 (s_X7_addWord_p (Y 3) 12)) 3 (s_X7_addNumber_p ((yU Y 3 (s_X7_addWord_p (Y 3) 12)) 3) x1)) 3) 32)) 3 (s_X7_addNumber_p ((yU (yU (yU Y 3 (s_X7_addWord_p (Y 3) 12)) 3 (s_X7_addNumber_p ((yU Y 3 (s_X7_addWord_p (Y 3) 12)) 3) x1)) 3 (s_X7_add_p ((yU (yU Y 3 (s_X7_addWord_p (Y 3) 12)) 3 (s_X7_addNumber_p ((yU Y 3 (s_X7_addWord_p (Y 3) 12)) 3) x1)) 3) 32)) 3) (v_X2_toOf ((yU (yU (yU Y 3 (s_X7_addWord_p (Y 3) 12)) 3 (s_X7_addNumber_p ((yU Y 3 (s_X7_addWord_p (Y 3) 12)) 3) x1)) 3 (s_X7_add_p ((yU (yU Y 3 (s_X7_addWord_p (Y 3) 12)) 3 (s_X7_addNumber_p ((yU Y 3 (s_X7_addWord_p (Y 3) 12)) 3) x1)) 3) 32)) 0) x1 x2))) 3 (s_X7_add_p ((yU (yU (yU (yU Y 3 (s_X7_addWord_p (Y 3) 12)) 3 (s_X7_addNumber_p ((yU Y 3 (s_X7_addWord_p (Y 3) 12)) 3) x1)) 3 (s_X7_add_p ((yU (yU Y 3 (s_X7_addWord_p (Y 3) 12)) 3 (s_X7_addNumber_p ((yU Y 3 (s_X7_addWord_p (Y 3) 12)) 3) x1)) 3) 32)) 3 (s_X7_addNumber_p ((yU (yU (yU Y 3 (s_X7_addWord_p (Y 3) 12)) 3 (s_X7_addNumber_p ((yU Y 3 (s_X7_addWord_p (Y 3) 12)) 3) x1)) 3 (s_X7_add_p ((yU (yU Y 3 (s_X7_addWord_p (Y 3) 12)) 3 (s_X7_addNumber_p ((yU Y 3 (s_X7_addWord_p (Y 3) 12)) 3) x1)) 3) 32)) 3) (v_X2_toOf ((yU (yU (yU Y 3 (s_X7_addWord_p (Y 3) 12)) 3 (s_X7_addNumber_p ((yU Y 3 (s_X7_addWord_p (Y 3) 12)) 3) x1)) 3 (s_X7_add_p ((yU (yU Y 3 (s_X7_addWord_p (Y 3) 12)) 3 (s_X7_addNumber_p ((yU Y 3 (s_X7_addWord_p (Y 3) 12)) 3) x1)) 3) 32)) 0) x1 x2))) 3) 32)) 0) x1 x2))) 3) 59))) 4 rfl rfl (c_X7_add_p l K (A 3) ((yU (yU (yU (yU (yU (yU Y 3 (s_X7_addWord_p (Y 3) 12)) 3 (s_X7_addNumber_p ((yU Y 3 (s_X7_addWord_p (Y 3) 12)) 3) x1)) 3 (s_X7_add_p ((yU (yU Y 3 (s_X7_addWord_p (Y 3) 12)) 3 (s_X7_addNumber_p ((yU Y 3 (s_X7_addWord_p (Y 3) 12)) 3) x1)) 3) 32)) 3 (s_X7_addNumber_p ((yU (yU (yU Y 3 (s_X7_addWord_p (Y 3) 12)) 3 (s_X7_addNumber_p ((yU Y 3 (s_X7_addWord_p (Y 3) 12)) 3) x1)) 3 (s_X7_add_p ((yU (yU Y 3 (s_X7_addWord_p (Y 3) 12)) 3 (s_X7_addNumber_p ((yU Y 3 (s_X7_addWord_p (Y 3) 12)) 3) x1)) 3) 32)) 3) (v_X2_toOf ((yU (yU (yU Y 3 (s_X7_addWord_p (Y 3) 12)) 3 (s_X7_addNumber_p ((yU Y 3 (s_X7_addWord_p (Y 3) 12)) 3) x1)) 3 (s_X7_add_p ((yU (yU Y 3 (s_X7_addWord_p (Y 3) 12)) 3 (s_X7_addNumber_p ((yU Y 3 (s_X7_addWord_p (Y 3) 12)) 3) x1)) 3) 32)) 0) x1 x2))) 3 (s_X7_add_p ((yU (yU (yU (yU Y 3 (s_X7_addWord_p (Y 3) 12)) 3 (s_X7_addNumber_p ((yU Y 3 (s_X7_addWord_p (Y 3) 12)) 3) x1)) 3 (s_X7_add_p ((yU (yU Y 3 (s_X7_addWord_p (Y 3) 12)) 3 (s_X7_addNumber_p ((yU Y 3 (s_X7_addWord_p (Y 3) 12)) 3) x1)) 3) 32)) 3 (s_X7_addNumber_p ((yU (yU (yU Y 3 (s_X7_addWord_p (Y 3) 12)) 3 (s_X7_addNumber_p ((yU Y 3 (s_X7_addWord_p (Y 3) 12)) 3) x1)) 3 (s_X7_add_p ((yU (yU Y 3 (s_X7_addWord_p (Y 3) 12)) 3 (s_X7_addNumber_p ((yU Y 3 (s_X7_addWord_p (Y 3) 12)) 3) x1)) 3) 32)) 3) (v_X2_toOf ((yU (yU (yU Y 3 (s_X7_addWord_p (Y 3) 12)) 3 (s_X7_addNumber_p ((yU Y 3 (s_X7_addWord_p (Y 3) 12)) 3) x1)) 3 (s_X7_add_p ((yU (yU Y 3 (s_X7_addWord_p (Y 3) 12)) 3 (s_X7_addNumber_p ((yU Y 3 (s_X7_addWord_p (Y 3) 12)) 3) x1)) 3) 32)) 0) x1 x2))) 3) 32)) 3 (s_X7_addNumber_p ((yU (yU (yU (yU (yU Y 3 (s_X7_addWord_p (Y 3) 12)) 3 (s_X7_addNumber_p ((yU Y 3 (s_X7_addWord_p (Y 3) 12)) 3) x1)) 3 (s_X7_add_p ((yU (yU Y 3 (s_X7_addWord_p (Y 3) 12)) 3 (s_X7_addNumber_p ((yU Y 3 (s_X7_addWord_p (Y 3) 12)) 3) x1)) 3) 32)) 3 (s_X7_addNumber_p ((yU (yU (yU Y 3 (s_X7_addWord_p (Y 3) 12)) 3 (s_X7_addNumber_p ((yU Y 3 (s_X7_addWord_p (Y 3) 12)) 3) x1)) 3 (s_X7_add_p ((yU (yU Y 3 (s_X7_addWord_p (Y 3) 12)) 3 (s_X7_addNumber_p ((yU Y 3 (s_X7_addWord_p (Y 3) 12)) 3) x1)) 3) 32)) 3) (v_X2_toOf ((yU (yU (yU Y 3 (s_X7_addWord_p (Y 3) 12)) 3 (s_X7_addNumber_p ((yU Y 3 (s_X7_addWord_p (Y 3) 12)) 3) x1)) 3 (s_X7_add_p ((yU (yU Y 3 (s_X7_addWord_p (Y 3) 12)) 3 (s_X7_addNumber_p ((yU Y 3 (s_X7_addWord_p (Y 3) 12)) 3) x1)) 3) 32)) 0) x1 x2))) 3 (s_X7_add_p ((yU (yU (yU (yU Y 3 (s_X7_addWord_p (Y 3) 12)) 3 (s_X7_addNumber_p ((yU Y 3 (s_X7_addWord_p (Y 3) 12)) 3) x1)) 3 (s_X7_add_p ((yU (yU Y 3 (s_X7_addWord_p (Y 3) 12)) 3 (s_X7_addNumber_p ((yU Y 3 (s_X7_addWord_p (Y 3) 12)) 3) x1)) 3) 32)) 3 (s_X7_addNumber_p ((yU (yU (yU Y 3 (s_X7_addWord_p (Y 3) 12)) 3 (s_X7_addNumber_p ((yU Y 3 (s_X7_addWord_p (Y 3) 12)) 3) x1)) 3 (s_X7_add_p ((yU (yU Y 3 (s_X7_addWord_p (Y 3) 12)) 3 (s_X7_addNumber_p ((yU Y 3 (s_X7_addWord_p (Y 3) 12)) 3) x1)) 3) 32)) 3) (v_X2_toOf ((yU (yU (yU Y 3 (s_X7_addWord_p (Y 3) 12)) 3 (s_X7_addNumber_p ((yU Y 3 (s_X7_addWord_p (Y 3) 12)) 3) x1)) 3 (s_X7_add_p ((yU (yU Y 3 (s_X7_addWord_p (Y 3) 12)) 3 (s_X7_addNumber_p ((yU Y 3 (s_X7_addWord_p (Y 3) 12)) 3) x1)) 3) 32)) 0) x1 x2))) 3) 32)) 3) (v_X2_lengthOf ((yU (yU (yU (yU (yU Y 3 (s_X7_addWord_p (Y 3) 12)) 3 (s_X7_addNumber_p ((yU Y 3 (s_X7_addWord_p (Y 3) 12)) 3) x1)) 3 (s_X7_add_p ((yU (yU Y 3 (s_X7_addWord_p (Y 3) 12)) 3 (s_X7_addNumber_p ((yU Y 3 (s_X7_addWord_p (Y 3) 12)) 3) x1)) 3) 32)) 3 (s_X7_addNumber_p ((yU (yU (yU Y 3 (s_X7_addWord_p (Y 3) 12)) 3 (s_X7_addNumber_p ((yU Y 3 (s_X7_addWord_p (Y 3) 12)) 3) x1)) 3 (s_X7_add_p ((yU (yU Y 3 (s_X7_addWord_p (Y 3) 12)) 3 (s_X7_addNumber_p ((yU Y 3 (s_X7_addWord_p (Y 3) 12)) 3) x1)) 3) 32)) 3) (v_X2_toOf ((yU (yU (yU Y 3 (s_X7_addWord_p (Y 3) 12)) 3 (s_X7_addNumber_p ((yU Y 3 (s_X7_addWord_p (Y 3) 12)) 3) x1)) 3 (s_X7_add_p ((yU (yU Y 3 (s_X7_addWord_p (Y 3) 12)) 3 (s_X7_addNumber_p ((yU Y 3 (s_X7_addWord_p (Y 3) 12)) 3) x1)) 3) 32)) 0) x1 x2))) 3 (s_X7_add_p ((yU (yU (yU (yU Y 3 (s_X7_addWord_p (Y 3) 12)) 3 (s_X7_addNumber_p ((yU Y 3 (s_X7_addWord_p (Y 3) 12)) 3) x1)) 3 (s_X7_add_p ((yU (yU Y 3 (s_X7_addWord_p (Y 3) 12)) 3 (s_X7_addNumber_p ((yU Y 3 (s_X7_addWord_p (Y 3) 12)) 3) x1)) 3) 32)) 3 (s_X7_addNumber_p ((yU (yU (yU Y 3 (s_X7_addWord_p (Y 3) 12)) 3 (s_X7_addNumber_p ((yU Y 3 (s_X7_addWord_p (Y 3) 12)) 3) x1)) 3 (s_X7_add_p ((yU (yU Y 3 (s_X7_addWord_p (Y 3) 12)) 3 (s_X7_addNumber_p ((yU Y 3 (s_X7_addWord_p (Y 3) 12)) 3) x1)) 3) 32)) 3) (v_X2_toOf ((yU (yU (yU Y 3 (s_X7_addWord_p (Y 3) 12)) 3 (s_X7_addNumber_p ((yU Y 3 (s_X7_addWord_p (Y 3) 12)) 3) x1)) 3 (s_X7_add_p ((yU (yU Y 3 (s_X7_addWord_p (Y 3) 12)) 3 (s_X7_addNumber_p ((yU Y 3 (s_X7_addWord_p (Y 3) 12)) 3) x1)) 3) 32)) 0) x1 x2))) 3) 32)) 0) x1 x2))) 3) 59)) dX9_writeSetupLetters_100 rfl rfl (Nat.le_of_ble_eq_true rfl) (Nat.le_of_ble_eq_true rfl) ?_
      refine G_iinc (lv' := [(2, .int (x2 + 1)), (0, .ref (A 4 0)), (1, .int x1)]) C 2 dX9_writeSetupLetters_103 rfl rfl (by decide) rfl ?_
      refine G_goto C 2 dX9_writeSetupLetters_106 rfl ?_
      refine G_sub [1, 2, 0] rfl ?_
      exact ih (yU (yU (yU (yU (yU (yU (yU Y 3 (s_X7_addWord_p (Y 3) 12)) 3 (s_X7_addNumber_p ((yU Y 3 (s_X7_addWord_p (Y 3) 12)) 3) x1)) 3 (s_X7_add_p ((yU (yU Y 3 (s_X7_addWord_p (Y 3) 12)) 3 (s_X7_addNumber_p ((yU Y 3 (s_X7_addWord_p (Y 3) 12)) 3) x1)) 3) 32)) 3 (s_X7_addNumber_p ((yU (yU (yU Y 3 (s_X7_addWord_p (Y 3) 12)) 3 (s_X7_addNumber_p ((yU Y 3 (s_X7_addWord_p (Y 3) 12)) 3) x1)) 3 (s_X7_add_p ((yU (yU Y 3 (s_X7_addWord_p (Y 3) 12)) 3 (s_X7_addNumber_p ((yU Y 3 (s_X7_addWord_p (Y 3) 12)) 3) x1)) 3) 32)) 3) (v_X2_toOf ((yU (yU (yU Y 3 (s_X7_addWord_p (Y 3) 12)) 3 (s_X7_addNumber_p ((yU Y 3 (s_X7_addWord_p (Y 3) 12)) 3) x1)) 3 (s_X7_add_p ((yU (yU Y 3 (s_X7_addWord_p (Y 3) 12)) 3 (s_X7_addNumber_p ((yU Y 3 (s_X7_addWord_p (Y 3) 12)) 3) x1)) 3) 32)) 0) x1 x2))) 3 (s_X7_add_p ((yU (yU (yU (yU Y 3 (s_X7_addWord_p (Y 3) 12)) 3 (s_X7_addNumber_p ((yU Y 3 (s_X7_addWord_p (Y 3) 12)) 3) x1)) 3 (s_X7_add_p ((yU (yU Y 3 (s_X7_addWord_p (Y 3) 12)) 3 (s_X7_addNumber_p ((yU Y 3 (s_X7_addWord_p (Y 3) 12)) 3) x1)) 3) 32)) 3 (s_X7_addNumber_p ((yU (yU (yU Y 3 (s_X7_addWord_p (Y 3) 12)) 3 (s_X7_addNumber_p ((yU Y 3 (s_X7_addWord_p (Y 3) 12)) 3) x1)) 3 (s_X7_add_p ((yU (yU Y 3 (s_X7_addWord_p (Y 3) 12)) 3 (s_X7_addNumber_p ((yU Y 3 (s_X7_addWord_p (Y 3) 12)) 3) x1)) 3) 32)) 3) (v_X2_toOf ((yU (yU (yU Y 3 (s_X7_addWord_p (Y 3) 12)) 3 (s_X7_addNumber_p ((yU Y 3 (s_X7_addWord_p (Y 3) 12)) 3) x1)) 3 (s_X7_add_p ((yU (yU Y 3 (s_X7_addWord_p (Y 3) 12)) 3 (s_X7_addNumber_p ((yU Y 3 (s_X7_addWord_p (Y 3) 12)) 3) x1)) 3) 32)) 0) x1 x2))) 3) 32)) 3 (s_X7_addNumber_p ((yU (yU (yU (yU (yU Y 3 (s_X7_addWord_p (Y 3) 12)) 3 (s_X7_addNumber_p ((yU Y 3 (s_X7_addWord_p (Y 3) 12)) 3) x1)) 3 (s_X7_add_p ((yU (yU Y 3 (s_X7_addWord_p (Y 3) 12)) 3 (s_X7_addNumber_p ((yU Y 3 (s_X7_addWord_p (Y 3) 12)) 3) x1)) 3) 32)) 3 (s_X7_addNumber_p ((yU (yU (yU Y 3 (s_X7_addWord_p (Y 3) 12)) 3 (s_X7_addNumber_p ((yU Y 3 (s_X7_addWord_p (Y 3) 12)) 3) x1)) 3 (s_X7_add_p ((yU (yU Y 3 (s_X7_addWord_p (Y 3) 12)) 3 (s_X7_addNumber_p ((yU Y 3 (s_X7_addWord_p (Y 3) 12)) 3) x1)) 3) 32)) 3) (v_X2_toOf ((yU (yU (yU Y 3 (s_X7_addWord_p (Y 3) 12)) 3 (s_X7_addNumber_p ((yU Y 3 (s_X7_addWord_p (Y 3) 12)) 3) x1)) 3 (s_X7_add_p ((yU (yU Y 3 (s_X7_addWord_p (Y 3) 12)) 3 (s_X7_addNumber_p ((yU Y 3 (s_X7_addWord_p (Y 3) 12)) 3) x1)) 3) 32)) 0) x1 x2))) 3 (s_X7_add_p ((yU (yU (yU (yU Y 3 (s_X7_addWord_p (Y 3) 12)) 3 (s_X7_addNumber_p ((yU Y 3 (s_X7_addWord_p (Y 3) 12)) 3) x1)) 3 (s_X7_add_p ((yU (yU Y 3 (s_X7_addWord_p (Y 3) 12)) 3 (s_X7_addNumber_p ((yU Y 3 (s_X7_addWord_p (Y 3) 12)) 3) x1)) 3) 32)) 3 (s_X7_addNumber_p ((yU (yU (yU Y 3 (s_X7_addWord_p (Y 3) 12)) 3 (s_X7_addNumber_p ((yU Y 3 (s_X7_addWord_p (Y 3) 12)) 3) x1)) 3 (s_X7_add_p ((yU (yU Y 3 (s_X7_addWord_p (Y 3) 12)) 3 (s_X7_addNumber_p ((yU Y 3 (s_X7_addWord_p (Y 3) 12)) 3) x1)) 3) 32)) 3) (v_X2_toOf ((yU (yU (yU Y 3 (s_X7_addWord_p (Y 3) 12)) 3 (s_X7_addNumber_p ((yU Y 3 (s_X7_addWord_p (Y 3) 12)) 3) x1)) 3 (s_X7_add_p ((yU (yU Y 3 (s_X7_addWord_p (Y 3) 12)) 3 (s_X7_addNumber_p ((yU Y 3 (s_X7_addWord_p (Y 3) 12)) 3) x1)) 3) 32)) 0) x1 x2))) 3) 32)) 3) (v_X2_lengthOf ((yU (yU (yU (yU (yU Y 3 (s_X7_addWord_p (Y 3) 12)) 3 (s_X7_addNumber_p ((yU Y 3 (s_X7_addWord_p (Y 3) 12)) 3) x1)) 3 (s_X7_add_p ((yU (yU Y 3 (s_X7_addWord_p (Y 3) 12)) 3 (s_X7_addNumber_p ((yU Y 3 (s_X7_addWord_p (Y 3) 12)) 3) x1)) 3) 32)) 3 (s_X7_addNumber_p ((yU (yU (yU Y 3 (s_X7_addWord_p (Y 3) 12)) 3 (s_X7_addNumber_p ((yU Y 3 (s_X7_addWord_p (Y 3) 12)) 3) x1)) 3 (s_X7_add_p ((yU (yU Y 3 (s_X7_addWord_p (Y 3) 12)) 3 (s_X7_addNumber_p ((yU Y 3 (s_X7_addWord_p (Y 3) 12)) 3) x1)) 3) 32)) 3) (v_X2_toOf ((yU (yU (yU Y 3 (s_X7_addWord_p (Y 3) 12)) 3 (s_X7_addNumber_p ((yU Y 3 (s_X7_addWord_p (Y 3) 12)) 3) x1)) 3 (s_X7_add_p ((yU (yU Y 3 (s_X7_addWord_p (Y 3) 12)) 3 (s_X7_addNumber_p ((yU Y 3 (s_X7_addWord_p (Y 3) 12)) 3) x1)) 3) 32)) 0) x1 x2))) 3 (s_X7_add_p ((yU (yU (yU (yU Y 3 (s_X7_addWord_p (Y 3) 12)) 3 (s_X7_addNumber_p ((yU Y 3 (s_X7_addWord_p (Y 3) 12)) 3) x1)) 3 (s_X7_add_p ((yU (yU Y 3 (s_X7_addWord_p (Y 3) 12)) 3 (s_X7_addNumber_p ((yU Y 3 (s_X7_addWord_p (Y 3) 12)) 3) x1)) 3) 32)) 3 (s_X7_addNumber_p ((yU (yU (yU Y 3 (s_X7_addWord_p (Y 3) 12)) 3 (s_X7_addNumber_p ((yU Y 3 (s_X7_addWord_p (Y 3) 12)) 3) x1)) 3 (s_X7_add_p ((yU (yU Y 3 (s_X7_addWord_p (Y 3) 12)) 3 (s_X7_addNumber_p ((yU Y 3 (s_X7_addWord_p (Y 3) 12)) 3) x1)) 3) 32)) 3) (v_X2_toOf ((yU (yU (yU Y 3 (s_X7_addWord_p (Y 3) 12)) 3 (s_X7_addNumber_p ((yU Y 3 (s_X7_addWord_p (Y 3) 12)) 3) x1)) 3 (s_X7_add_p ((yU (yU Y 3 (s_X7_addWord_p (Y 3) 12)) 3 (s_X7_addNumber_p ((yU Y 3 (s_X7_addWord_p (Y 3) 12)) 3) x1)) 3) 32)) 0) x1 x2))) 3) 32)) 0) x1 x2))) 3 (s_X7_add_p ((yU (yU (yU (yU (yU (yU Y 3 (s_X7_addWord_p (Y 3) 12)) 3 (s_X7_addNumber_p ((yU Y 3 (s_X7_addWord_p (Y 3) 12)) 3) x1)) 3 (s_X7_add_p ((yU (yU Y 3 (s_X7_addWord_p (Y 3) 12)) 3 (s_X7_addNumber_p ((yU Y 3 (s_X7_addWord_p (Y 3) 12)) 3) x1)) 3) 32)) 3 (s_X7_addNumber_p ((yU (yU (yU Y 3 (s_X7_addWord_p (Y 3) 12)) 3 (s_X7_addNumber_p ((yU Y 3 (s_X7_addWord_p (Y 3) 12)) 3) x1)) 3 (s_X7_add_p ((yU (yU Y 3 (s_X7_addWord_p (Y 3) 12)) 3 (s_X7_addNumber_p ((yU Y 3 (s_X7_addWord_p (Y 3) 12)) 3) x1)) 3) 32)) 3) (v_X2_toOf ((yU (yU (yU Y 3 (s_X7_addWord_p (Y 3) 12)) 3 (s_X7_addNumber_p ((yU Y 3 (s_X7_addWord_p (Y 3) 12)) 3) x1)) 3 (s_X7_add_p ((yU (yU Y 3 (s_X7_addWord_p (Y 3) 12)) 3 (s_X7_addNumber_p ((yU Y 3 (s_X7_addWord_p (Y 3) 12)) 3) x1)) 3) 32)) 0) x1 x2))) 3 (s_X7_add_p ((yU (yU (yU (yU Y 3 (s_X7_addWord_p (Y 3) 12)) 3 (s_X7_addNumber_p ((yU Y 3 (s_X7_addWord_p (Y 3) 12)) 3) x1)) 3 (s_X7_add_p ((yU (yU Y 3 (s_X7_addWord_p (Y 3) 12)) 3 (s_X7_addNumber_p ((yU Y 3 (s_X7_addWord_p (Y 3) 12)) 3) x1)) 3) 32)) 3 (s_X7_addNumber_p ((yU (yU (yU Y 3 (s_X7_addWord_p (Y 3) 12)) 3 (s_X7_addNumber_p ((yU Y 3 (s_X7_addWord_p (Y 3) 12)) 3) x1)) 3 (s_X7_add_p ((yU (yU Y 3 (s_X7_addWord_p (Y 3) 12)) 3 (s_X7_addNumber_p ((yU Y 3 (s_X7_addWord_p (Y 3) 12)) 3) x1)) 3) 32)) 3) (v_X2_toOf ((yU (yU (yU Y 3 (s_X7_addWord_p (Y 3) 12)) 3 (s_X7_addNumber_p ((yU Y 3 (s_X7_addWord_p (Y 3) 12)) 3) x1)) 3 (s_X7_add_p ((yU (yU Y 3 (s_X7_addWord_p (Y 3) 12)) 3 (s_X7_addNumber_p ((yU Y 3 (s_X7_addWord_p (Y 3) 12)) 3) x1)) 3) 32)) 0) x1 x2))) 3) 32)) 3 (s_X7_addNumber_p ((yU (yU (yU (yU (yU Y 3 (s_X7_addWord_p (Y 3) 12)) 3 (s_X7_addNumber_p ((yU Y 3 (s_X7_addWord_p (Y 3) 12)) 3) x1)) 3 (s_X7_add_p ((yU (yU Y 3 (s_X7_addWord_p (Y 3) 12)) 3 (s_X7_addNumber_p ((yU Y 3 (s_X7_addWord_p (Y 3) 12)) 3) x1)) 3) 32)) 3 (s_X7_addNumber_p ((yU (yU (yU Y 3 (s_X7_addWord_p (Y 3) 12)) 3 (s_X7_addNumber_p ((yU Y 3 (s_X7_addWord_p (Y 3) 12)) 3) x1)) 3 (s_X7_add_p ((yU (yU Y 3 (s_X7_addWord_p (Y 3) 12)) 3 (s_X7_addNumber_p ((yU Y 3 (s_X7_addWord_p (Y 3) 12)) 3) x1)) 3) 32)) 3) (v_X2_toOf ((yU (yU (yU Y 3 (s_X7_addWord_p (Y 3) 12)) 3 (s_X7_addNumber_p ((yU Y 3 (s_X7_addWord_p (Y 3) 12)) 3) x1)) 3 (s_X7_add_p ((yU (yU Y 3 (s_X7_addWord_p (Y 3) 12)) 3 (s_X7_addNumber_p ((yU Y 3 (s_X7_addWord_p (Y 3) 12)) 3) x1)) 3) 32)) 0) x1 x2))) 3 (s_X7_add_p ((yU (yU (yU (yU Y 3 (s_X7_addWord_p (Y 3) 12)) 3 (s_X7_addNumber_p ((yU Y 3 (s_X7_addWord_p (Y 3) 12)) 3) x1)) 3 (s_X7_add_p ((yU (yU Y 3 (s_X7_addWord_p (Y 3) 12)) 3 (s_X7_addNumber_p ((yU Y 3 (s_X7_addWord_p (Y 3) 12)) 3) x1)) 3) 32)) 3 (s_X7_addNumber_p ((yU (yU (yU Y 3 (s_X7_addWord_p (Y 3) 12)) 3 (s_X7_addNumber_p ((yU Y 3 (s_X7_addWord_p (Y 3) 12)) 3) x1)) 3 (s_X7_add_p ((yU (yU Y 3 (s_X7_addWord_p (Y 3) 12)) 3 (s_X7_addNumber_p ((yU Y 3 (s_X7_addWord_p (Y 3) 12)) 3) x1)) 3) 32)) 3) (v_X2_toOf ((yU (yU (yU Y 3 (s_X7_addWord_p (Y 3) 12)) 3 (s_X7_addNumber_p ((yU Y 3 (s_X7_addWord_p (Y 3) 12)) 3) x1)) 3 (s_X7_add_p ((yU (yU Y 3 (s_X7_addWord_p (Y 3) 12)) 3 (s_X7_addNumber_p ((yU Y 3 (s_X7_addWord_p (Y 3) 12)) 3) x1)) 3) 32)) 0) x1 x2))) 3) 32)) 3) (v_X2_lengthOf ((yU (yU (yU (yU (yU Y 3 (s_X7_addWord_p (Y 3) 12)) 3 (s_X7_addNumber_p ((yU Y 3 (s_X7_addWord_p (Y 3) 12)) 3) x1)) 3 (s_X7_add_p ((yU (yU Y 3 (s_X7_addWord_p (Y 3) 12)) 3 (s_X7_addNumber_p ((yU Y 3 (s_X7_addWord_p (Y 3) 12)) 3) x1)) 3) 32)) 3 (s_X7_addNumber_p ((yU (yU (yU Y 3 (s_X7_addWord_p (Y 3) 12)) 3 (s_X7_addNumber_p ((yU Y 3 (s_X7_addWord_p (Y 3) 12)) 3) x1)) 3 (s_X7_add_p ((yU (yU Y 3 (s_X7_addWord_p (Y 3) 12)) 3 (s_X7_addNumber_p ((yU Y 3 (s_X7_addWord_p (Y 3) 12)) 3) x1)) 3) 32)) 3) (v_X2_toOf ((yU (yU (yU Y 3 (s_X7_addWord_p (Y 3) 12)) 3 (s_X7_addNumber_p ((yU Y 3 (s_X7_addWord_p (Y 3) 12)) 3) x1)) 3 (s_X7_add_p ((yU (yU Y 3 (s_X7_addWord_p (Y 3) 12)) 3 (s_X7_addNumber_p ((yU Y 3 (s_X7_addWord_p (Y 3) 12)) 3) x1)) 3) 32)) 0) x1 x2))) 3 (s_X7_add_p ((yU (yU (yU (yU Y 3 (s_X7_addWord_p (Y 3) 12)) 3 (s_X7_addNumber_p ((yU Y 3 (s_X7_addWord_p (Y 3) 12)) 3) x1)) 3 (s_X7_add_p ((yU (yU Y 3 (s_X7_addWord_p (Y 3) 12)) 3 (s_X7_addNumber_p ((yU Y 3 (s_X7_addWord_p (Y 3) 12)) 3) x1)) 3) 32)) 3 (s_X7_addNumber_p ((yU (yU (yU Y 3 (s_X7_addWord_p (Y 3) 12)) 3 (s_X7_addNumber_p ((yU Y 3 (s_X7_addWord_p (Y 3) 12)) 3) x1)) 3 (s_X7_add_p ((yU (yU Y 3 (s_X7_addWord_p (Y 3) 12)) 3 (s_X7_addNumber_p ((yU Y 3 (s_X7_addWord_p (Y 3) 12)) 3) x1)) 3) 32)) 3) (v_X2_toOf ((yU (yU (yU Y 3 (s_X7_addWord_p (Y 3) 12)) 3 (s_X7_addNumber_p ((yU Y 3 (s_X7_addWord_p (Y 3) 12)) 3) x1)) 3 (s_X7_add_p ((yU (yU Y 3 (s_X7_addWord_p (Y 3) 12)) 3 (s_X7_addNumber_p ((yU Y 3 (s_X7_addWord_p (Y 3) 12)) 3) x1)) 3) 32)) 0) x1 x2))) 3) 32)) 0) x1 x2))) 3) 59)) x1 (x2 + 1) (by have := mu_up h1; omega)
    · exact G_vret C dX9_writeSetupLetters_109 rfl
def s_X9_writeSetupLetters (Y : RS) (x1 : Int32) : RS := s_X9_writeSetupLetters_L2 (mu 0 + 1) Y x1 0
theorem c_X9_writeSetupLetters (l : Launch) (K : gK) (A : Nat → Nat → Nat) (Y : RS) (x1 : Int32) : Ct l K yX9_writeSetupLetters cX9_writeSetupLetters 3 none 7 [.ref (A 4 0), .int x1] (ro_W K A Y) (none, ro_W K A (s_X9_writeSetupLetters Y x1)) := by
  refine Ct.of (own := RX9) (fun z => (none, ro_W K A z)) (x := s_X9_writeSetupLetters Y x1) (by decide) rfl (Nat.le_of_ble_eq_true rfl) (fun Γ C => ?_)
  unfold s_X9_writeSetupLetters
  refine G_iconst C dX9_writeSetupLetters_0 (v := 0) rfl ?_
  refine G_istore_n (lv' := [(2, .int 0), (0, .ref (A 4 0)), (1, .int x1)]) C dX9_writeSetupLetters_1 (by decide) rfl ?_
  refine G_sub [1, 2, 0] rfl ?_
  exact g_X9_writeSetupLetters_L2 C _ Y x1 0 (Nat.lt_succ_self _)
/-! X9_writeSetup -/
theorem kd_X9_writeSetup : Card yX9_writeSetup cX9_writeSetup 2 none 0 := ⟨uc_X9_writeSetup, un_X9, ⟨by decide, by decide, by decide⟩, by decide⟩
def s_X9_writeSetup_L203 (Y : RS) (x1 : Int32) : RS := yU Y 3 (s_X7_add_p (Y 3) 59)
theorem g_X9_writeSetup_L203 {l : Launch} {K : gK} {Γ : gT} {A : Nat → Nat → Nat} (C : Cx l K Γ RX9 cX9_writeSetup 2 none 8) (Y : RS) (x1 : Int32) : G l K Γ (ro_W K A Y) 203 2 [(0, .ref (A 4 0)), (1, .int x1)] [] (fun z => (none, ro_W K A z)) (s_X9_writeSetup_L203 Y x1) := by
  unfold s_X9_writeSetup_L203
  refine G_aload_n C 0 dX9_writeSetup_203 rfl ?_
  refine G_get C 0 6 dX9_writeSetup_204 inlX9 uf_X9_61 rfl (by decide) rfl rfl rfl ?_
  refine G_bipush C dX9_writeSetup_207 (v := 59) rfl ?_
  refine G_callVv C 49 7 kd_X7_add ui_X7_add us_X7_add um_X9_314 rfl rfl (Ct.chunk1 (cs := ro_C K A Y) (cs' := ro_C K A (yU Y 3 (s_X7_add_p (Y 3) 59))) 4 rfl rfl (c_X7_add_p l K (A 3) (Y 3) 59)) dX9_writeSetup_209 rfl rfl (Nat.le_of_ble_eq_true rfl) (Nat.le_of_ble_eq_true rfl) ?_
  exact G_vret C dX9_writeSetup_212 rfl
def s_X9_writeSetup_L182 (Y : RS) (x1 : Int32) : RS := s_X9_writeSetup_L203 (yU Y 3 (s_X7_addNumber_p (Y 3) (at_ 3 (Y 0 11) x1))) x1
theorem g_X9_writeSetup_L182 {l : Launch} {K : gK} {Γ : gT} {A : Nat → Nat → Nat} (C : Cx l K Γ RX9 cX9_writeSetup 2 none 8) (Y : RS) (x1 : Int32) : G l K Γ (ro_W K A Y) 182 2 [(0, .ref (A 4 0)), (1, .int x1)] [] (fun z => (none, ro_W K A z)) (s_X9_writeSetup_L182 Y x1) := by
  unfold s_X9_writeSetup_L182
  refine G_aload_n C 0 dX9_writeSetup_182 rfl ?_
  refine G_get C 0 6 dX9_writeSetup_183 inlX9 uf_X9_61 rfl (by decide) rfl rfl rfl ?_
  refine G_aload_n C 0 dX9_writeSetup_186 rfl ?_
  refine G_get C 0 0 dX9_writeSetup_187 inlX9 uf_X9_10 rfl (by decide) rfl rfl rfl ?_
  refine G_get C 1 3 dX9_writeSetup_190 inlX6 uf_X9_137 rfl (by decide) rfl rfl rfl ?_
  refine G_get C 13 1 dX9_writeSetup_193 inlX8 uf_X9_249 rfl (by decide) rfl rfl rfl ?_
  refine G_iload_n C 1 dX9_writeSetup_196 rfl ?_
  refine G_callSi C kd_X9_at ut_X9_at um_X9_110 (c_at l K (ws := ro_W K A Y) (q0 := 15) (n := 3) (g := Y 0 11) (ad := (A 0 14)) (by decide) rfl x1) dX9_writeSetup_197 rfl rfl (Nat.le_of_ble_eq_true rfl) (Nat.le_of_ble_eq_true rfl) ?_
  refine G_callVv C 49 7 kd_X7_addNumber ui_X7_addNumber us_X7_addNumber um_X9_311 rfl rfl (Ct.chunk1 (cs := ro_C K A Y) (cs' := ro_C K A (yU Y 3 (s_X7_addNumber_p (Y 3) (at_ 3 (Y 0 11) x1)))) 4 rfl rfl (c_X7_addNumber_p l K (A 3) (Y 3) (at_ 3 (Y 0 11) x1))) dX9_writeSetup_200 rfl rfl (Nat.le_of_ble_eq_true rfl) (Nat.le_of_ble_eq_true rfl) ?_
  refine G_sub [0, 1] rfl ?_
  exact g_X9_writeSetup_L203 C (yU Y 3 (s_X7_addNumber_p (Y 3) (at_ 3 (Y 0 11) x1))) x1
def s_X9_writeSetup_L130 : Nat → RS → Int32 → RS
  | 0, Y, _ => Y
  | fuel + 1, Y, x1 => if x1 < (Y 0 18 2) then s_X9_writeSetup_L130 fuel (s_X9_writeSetupLetters Y x1) (x1 + 1) else if (v_X8_firstStanding (Y 0)) = (-2) then Y else s_X9_writeSetup_L182 (yU Y 3 (s_X7_addWord_p (Y 3) 13)) (v_X8_firstStanding (Y 0))
theorem g_X9_writeSetup_L130 {l : Launch} {K : gK} {Γ : gT} {A : Nat → Nat → Nat} (C : Cx l K Γ RX9 cX9_writeSetup 2 none 8) : ∀ (n : Nat) (Y : RS) (x1 : Int32), mu x1 < n → G l K Γ (ro_W K A Y) 130 2 [(0, .ref (A 4 0)), (1, .int x1)] [] (fun z => (none, ro_W K A z)) (s_X9_writeSetup_L130 n Y x1) := by
  intro n
  induction n with
  | zero =>
    intro Y x1 hm
    exact absurd hm (Nat.not_lt_zero _)
  | succ n ih =>
    intro Y x1 hm
    rw [s_X9_writeSetup_L130]
    refine G_iload_n C 1 dX9_writeSetup_130 rfl ?_
    refine G_aload_n C 0 dX9_writeSetup_131 rfl ?_
    refine G_get C 0 0 dX9_writeSetup_132 inlX9 uf_X9_10 rfl (by decide) rfl rfl rfl ?_
    refine G_get C 1 2 dX9_writeSetup_135 inlX6 uf_X9_89 rfl (by decide) rfl rfl rfl ?_
    refine G_get C 4 8 dX9_writeSetup_138 inlX2 uf_X9_93 rfl (by decide) rfl rfl rfl ?_
    refine G_icmp_ge C 155 dX9_writeSetup_141 rfl (fun h2 => ?_) (fun h2 => ?_)
    · refine G_aload_n C 0 dX9_writeSetup_144 rfl ?_
      refine G_iload_n C 1 dX9_writeSetup_145 rfl ?_
      refine G_callVv C 0 9 kd_X9_writeSetupLetters ui_X9_writeSetupLetters us_X9_writeSetupLetters um_X9_328 rfl rfl (c_X9_writeSetupLetters l K A Y x1) dX9_writeSetup_146 rfl rfl (Nat.le_of_ble_eq_true rfl) (Nat.le_of_ble_eq_true rfl) ?_
      refine G_iinc (lv' := [(1, .int (x1 + 1)), (0, .ref (A 4 0))]) C 1 dX9_writeSetup_149 rfl rfl (by decide) rfl ?_
      refine G_goto C 130 dX9_writeSetup_152 rfl ?_
      refine G_sub [1, 0] rfl ?_
      exact ih (s_X9_writeSetupLetters Y x1) (x1 + 1) (by have := mu_up h2; omega)
    · refine G_aload_n C 0 dX9_writeSetup_155 rfl ?_
      refine G_get C 0 0 dX9_writeSetup_156 inlX9 uf_X9_10 rfl (by decide) rfl rfl rfl ?_
      refine G_get C 1 3 dX9_writeSetup_159 inlX6 uf_X9_137 rfl (by decide) rfl rfl rfl ?_
      refine G_callVi C 13 8 kd_X8_firstStanding ui_X8_firstStanding us_X8_firstStanding um_X9_331 rfl rfl (Ct.chunk1 (cs := ro_C K A Y) (cs' := ro_C K A Y) 1 rfl rfl (c_X8_firstStanding l K (A 0) (Y 0))) dX9_writeSetup_162 rfl rfl (Nat.le_of_ble_eq_true rfl) (Nat.le_of_ble_eq_true rfl) ?_
      refine G_istore_n (lv' := [(1, .int (v_X8_firstStanding (Y 0))), (0, .ref (A 4 0))]) C dX9_writeSetup_165 (by decide) rfl ?_
      refine G_iload_n C 0 dX9_writeSetup_166 rfl ?_
      refine G_bipush C dX9_writeSetup_167 (v := -2) rfl ?_
      refine G_icmp_eq C 212 dX9_writeSetup_169 rfl (fun h3 => ?_) (fun h3 => ?_)
      · exact G_vret C dX9_writeSetup_212 rfl
      · refine G_aload_n C 1 dX9_writeSetup_172 rfl ?_
        refine G_get C 0 6 dX9_writeSetup_173 inlX9 uf_X9_61 rfl (by decide) rfl rfl rfl ?_
        refine G_ldcwS C 13 dX9_writeSetup_176 rfl ?_
        refine G_callVv C 49 7 kd_X7_addWord ui_X7_addWord us_X7_addWord um_X9_317 rfl rfl (Ct.chunk1 (cs := ro_C K A Y) (cs' := ro_C K A (yU Y 3 (s_X7_addWord_p (Y 3) 13))) 4 rfl rfl (c_X7_addWord_p l K (A 3) (Y 3) (j := 13) (by decide))) dX9_writeSetup_179 rfl rfl (Nat.le_of_ble_eq_true rfl) (Nat.le_of_ble_eq_true rfl) ?_
        refine G_sub [1, 0] rfl ?_
        exact g_X9_writeSetup_L182 C (yU Y 3 (s_X7_addWord_p (Y 3) 13)) (v_X8_firstStanding (Y 0))
def s_X9_writeSetup_L103 : Nat → RS → Int32 → RS
  | 0, Y, _ => Y
  | fuel + 1, Y, x1 => if x1 < (Y 0 18 2) then s_X9_writeSetup_L103 fuel (s_X9_writeSetupOffice Y x1) (x1 + 1) else s_X9_writeSetup_L130 (mu 0 + 1) Y 0
theorem g_X9_writeSetup_L103 {l : Launch} {K : gK} {Γ : gT} {A : Nat → Nat → Nat} (C : Cx l K Γ RX9 cX9_writeSetup 2 none 8) : ∀ (n : Nat) (Y : RS) (x1 : Int32), mu x1 < n → G l K Γ (ro_W K A Y) 103 2 [(0, .ref (A 4 0)), (1, .int x1)] [] (fun z => (none, ro_W K A z)) (s_X9_writeSetup_L103 n Y x1) := by
  intro n
  induction n with
  | zero =>
    intro Y x1 hm
    exact absurd hm (Nat.not_lt_zero _)
  | succ n ih =>
    intro Y x1 hm
    rw [s_X9_writeSetup_L103]
    refine G_iload_n C 1 dX9_writeSetup_103 rfl ?_
    refine G_aload_n C 0 dX9_writeSetup_104 rfl ?_
    refine G_get C 0 0 dX9_writeSetup_105 inlX9 uf_X9_10 rfl (by decide) rfl rfl rfl ?_
    refine G_get C 1 2 dX9_writeSetup_108 inlX6 uf_X9_89 rfl (by decide) rfl rfl rfl ?_
    refine G_get C 4 8 dX9_writeSetup_111 inlX2 uf_X9_93 rfl (by decide) rfl rfl rfl ?_
    refine G_icmp_ge C 128 dX9_writeSetup_114 rfl (fun h1 => ?_) (fun h1 => ?_)
    · refine G_aload_n C 0 dX9_writeSetup_117 rfl ?_
      refine G_iload_n C 1 dX9_writeSetup_118 rfl ?_
      refine G_callVv C 0 9 kd_X9_writeSetupOffice ui_X9_writeSetupOffice us_X9_writeSetupOffice um_X9_325 rfl rfl (c_X9_writeSetupOffice l K A Y x1) dX9_writeSetup_119 rfl rfl (Nat.le_of_ble_eq_true rfl) (Nat.le_of_ble_eq_true rfl) ?_
      refine G_iinc (lv' := [(1, .int (x1 + 1)), (0, .ref (A 4 0))]) C 1 dX9_writeSetup_122 rfl rfl (by decide) rfl ?_
      refine G_goto C 103 dX9_writeSetup_125 rfl ?_
      refine G_sub [1, 0] rfl ?_
      exact ih (s_X9_writeSetupOffice Y x1) (x1 + 1) (by have := mu_up h1; omega)
    · refine G_iconst C dX9_writeSetup_128 (v := 0) rfl ?_
      refine G_istore_n (lv' := [(1, .int 0), (0, .ref (A 4 0))]) C dX9_writeSetup_129 (by decide) rfl ?_
      refine G_sub [1, 0] rfl ?_
      exact g_X9_writeSetup_L130 C _ Y 0 (Nat.lt_succ_self _)
def s_X9_writeSetup_L101 (Y : RS) : RS := s_X9_writeSetup_L103 (mu 0 + 1) Y 0
theorem g_X9_writeSetup_L101 {l : Launch} {K : gK} {Γ : gT} {A : Nat → Nat → Nat} (C : Cx l K Γ RX9 cX9_writeSetup 2 none 8) (Y : RS) : G l K Γ (ro_W K A Y) 101 2 [(0, .ref (A 4 0))] [] (fun z => (none, ro_W K A z)) (s_X9_writeSetup_L101 Y) := by
  unfold s_X9_writeSetup_L101
  refine G_iconst C dX9_writeSetup_101 (v := 0) rfl ?_
  refine G_istore_n (lv' := [(1, .int 0), (0, .ref (A 4 0))]) C dX9_writeSetup_102 (by decide) rfl ?_
  refine G_sub [1, 0] rfl ?_
  exact g_X9_writeSetup_L103 C _ Y 0 (Nat.lt_succ_self _)
def s_X9_writeSetup_L92 (Y : RS) : RS := s_X9_writeSetup_L101 (yU Y 3 (s_X7_add_p (Y 3) 59))
theorem g_X9_writeSetup_L92 {l : Launch} {K : gK} {Γ : gT} {A : Nat → Nat → Nat} (C : Cx l K Γ RX9 cX9_writeSetup 2 none 8) (Y : RS) : G l K Γ (ro_W K A Y) 92 2 [(0, .ref (A 4 0))] [] (fun z => (none, ro_W K A z)) (s_X9_writeSetup_L92 Y) := by
  unfold s_X9_writeSetup_L92
  refine G_aload_n C 0 dX9_writeSetup_92 rfl ?_
  refine G_get C 0 6 dX9_writeSetup_93 inlX9 uf_X9_61 rfl (by decide) rfl rfl rfl ?_
  refine G_bipush C dX9_writeSetup_96 (v := 59) rfl ?_
  refine G_callVv C 49 7 kd_X7_add ui_X7_add us_X7_add um_X9_314 rfl rfl (Ct.chunk1 (cs := ro_C K A Y) (cs' := ro_C K A (yU Y 3 (s_X7_add_p (Y 3) 59))) 4 rfl rfl (c_X7_add_p l K (A 3) (Y 3) 59)) dX9_writeSetup_98 rfl rfl (Nat.le_of_ble_eq_true rfl) (Nat.le_of_ble_eq_true rfl) ?_
  refine G_sub [0] rfl ?_
  exact g_X9_writeSetup_L101 C (yU Y 3 (s_X7_add_p (Y 3) 59))
def s_X9_writeSetup_L74 (Y : RS) : RS := s_X9_writeSetup_L92 (yU Y 3 (s_X7_addNumber_p (Y 3) (at_ 3 (Y 0 0) 2)))
theorem g_X9_writeSetup_L74 {l : Launch} {K : gK} {Γ : gT} {A : Nat → Nat → Nat} (C : Cx l K Γ RX9 cX9_writeSetup 2 none 8) (Y : RS) : G l K Γ (ro_W K A Y) 74 2 [(0, .ref (A 4 0))] [] (fun z => (none, ro_W K A z)) (s_X9_writeSetup_L74 Y) := by
  unfold s_X9_writeSetup_L74
  refine G_aload_n C 0 dX9_writeSetup_74 rfl ?_
  refine G_get C 0 6 dX9_writeSetup_75 inlX9 uf_X9_61 rfl (by decide) rfl rfl rfl ?_
  refine G_aload_n C 0 dX9_writeSetup_78 rfl ?_
  refine G_get C 0 0 dX9_writeSetup_79 inlX9 uf_X9_10 rfl (by decide) rfl rfl rfl ?_
  refine G_get C 1 0 dX9_writeSetup_82 inlX6 uf_X9_203 rfl (by decide) rfl rfl rfl ?_
  refine G_iconst C dX9_writeSetup_85 (v := 2) rfl ?_
  refine G_callSi C kd_X9_at ut_X9_at um_X9_110 (c_at l K (ws := ro_W K A Y) (q0 := 2) (n := 3) (g := Y 0 0) (ad := (A 0 1)) (by decide) rfl 2) dX9_writeSetup_86 rfl rfl (Nat.le_of_ble_eq_true rfl) (Nat.le_of_ble_eq_true rfl) ?_
  refine G_callVv C 49 7 kd_X7_addNumber ui_X7_addNumber us_X7_addNumber um_X9_311 rfl rfl (Ct.chunk1 (cs := ro_C K A Y) (cs' := ro_C K A (yU Y 3 (s_X7_addNumber_p (Y 3) (at_ 3 (Y 0 0) 2)))) 4 rfl rfl (c_X7_addNumber_p l K (A 3) (Y 3) (at_ 3 (Y 0 0) 2))) dX9_writeSetup_89 rfl rfl (Nat.le_of_ble_eq_true rfl) (Nat.le_of_ble_eq_true rfl) ?_
  refine G_sub [0] rfl ?_
  exact g_X9_writeSetup_L92 C (yU Y 3 (s_X7_addNumber_p (Y 3) (at_ 3 (Y 0 0) 2)))
def s_X9_writeSetup_L64 (Y : RS) : RS := s_X9_writeSetup_L74 (yU Y 3 (s_X7_addWord_p (Y 3) 9))
theorem g_X9_writeSetup_L64 {l : Launch} {K : gK} {Γ : gT} {A : Nat → Nat → Nat} (C : Cx l K Γ RX9 cX9_writeSetup 2 none 8) (Y : RS) : G l K Γ (ro_W K A Y) 64 2 [(0, .ref (A 4 0))] [] (fun z => (none, ro_W K A z)) (s_X9_writeSetup_L64 Y) := by
  unfold s_X9_writeSetup_L64
  refine G_aload_n C 0 dX9_writeSetup_64 rfl ?_
  refine G_get C 0 6 dX9_writeSetup_65 inlX9 uf_X9_61 rfl (by decide) rfl rfl rfl ?_
  refine G_ldcwS C 9 dX9_writeSetup_68 rfl ?_
  refine G_callVv C 49 7 kd_X7_addWord ui_X7_addWord us_X7_addWord um_X9_317 rfl rfl (Ct.chunk1 (cs := ro_C K A Y) (cs' := ro_C K A (yU Y 3 (s_X7_addWord_p (Y 3) 9))) 4 rfl rfl (c_X7_addWord_p l K (A 3) (Y 3) (j := 9) (by decide))) dX9_writeSetup_71 rfl rfl (Nat.le_of_ble_eq_true rfl) (Nat.le_of_ble_eq_true rfl) ?_
  refine G_sub [0] rfl ?_
  exact g_X9_writeSetup_L74 C (yU Y 3 (s_X7_addWord_p (Y 3) 9))
def s_X9_writeSetup_L46 (Y : RS) : RS := s_X9_writeSetup_L64 (yU Y 3 (s_X7_addNumber_p (Y 3) (at_ 3 (Y 0 0) 1)))
theorem g_X9_writeSetup_L46 {l : Launch} {K : gK} {Γ : gT} {A : Nat → Nat → Nat} (C : Cx l K Γ RX9 cX9_writeSetup 2 none 8) (Y : RS) : G l K Γ (ro_W K A Y) 46 2 [(0, .ref (A 4 0))] [] (fun z => (none, ro_W K A z)) (s_X9_writeSetup_L46 Y) := by
  unfold s_X9_writeSetup_L46
  refine G_aload_n C 0 dX9_writeSetup_46 rfl ?_
  refine G_get C 0 6 dX9_writeSetup_47 inlX9 uf_X9_61 rfl (by decide) rfl rfl rfl ?_
  refine G_aload_n C 0 dX9_writeSetup_50 rfl ?_
  refine G_get C 0 0 dX9_writeSetup_51 inlX9 uf_X9_10 rfl (by decide) rfl rfl rfl ?_
  refine G_get C 1 0 dX9_writeSetup_54 inlX6 uf_X9_203 rfl (by decide) rfl rfl rfl ?_
  refine G_iconst C dX9_writeSetup_57 (v := 1) rfl ?_
  refine G_callSi C kd_X9_at ut_X9_at um_X9_110 (c_at l K (ws := ro_W K A Y) (q0 := 2) (n := 3) (g := Y 0 0) (ad := (A 0 1)) (by decide) rfl 1) dX9_writeSetup_58 rfl rfl (Nat.le_of_ble_eq_true rfl) (Nat.le_of_ble_eq_true rfl) ?_
  refine G_callVv C 49 7 kd_X7_addNumber ui_X7_addNumber us_X7_addNumber um_X9_311 rfl rfl (Ct.chunk1 (cs := ro_C K A Y) (cs' := ro_C K A (yU Y 3 (s_X7_addNumber_p (Y 3) (at_ 3 (Y 0 0) 1)))) 4 rfl rfl (c_X7_addNumber_p l K (A 3) (Y 3) (at_ 3 (Y 0 0) 1))) dX9_writeSetup_61 rfl rfl (Nat.le_of_ble_eq_true rfl) (Nat.le_of_ble_eq_true rfl) ?_
  refine G_sub [0] rfl ?_
  exact g_X9_writeSetup_L64 C (yU Y 3 (s_X7_addNumber_p (Y 3) (at_ 3 (Y 0 0) 1)))
def s_X9_writeSetup_L36 (Y : RS) : RS := s_X9_writeSetup_L46 (yU Y 3 (s_X7_addWord_p (Y 3) 8))
theorem g_X9_writeSetup_L36 {l : Launch} {K : gK} {Γ : gT} {A : Nat → Nat → Nat} (C : Cx l K Γ RX9 cX9_writeSetup 2 none 8) (Y : RS) : G l K Γ (ro_W K A Y) 36 2 [(0, .ref (A 4 0))] [] (fun z => (none, ro_W K A z)) (s_X9_writeSetup_L36 Y) := by
  unfold s_X9_writeSetup_L36
  refine G_aload_n C 0 dX9_writeSetup_36 rfl ?_
  refine G_get C 0 6 dX9_writeSetup_37 inlX9 uf_X9_61 rfl (by decide) rfl rfl rfl ?_
  refine G_ldcwS C 8 dX9_writeSetup_40 rfl ?_
  refine G_callVv C 49 7 kd_X7_addWord ui_X7_addWord us_X7_addWord um_X9_317 rfl rfl (Ct.chunk1 (cs := ro_C K A Y) (cs' := ro_C K A (yU Y 3 (s_X7_addWord_p (Y 3) 8))) 4 rfl rfl (c_X7_addWord_p l K (A 3) (Y 3) (j := 8) (by decide))) dX9_writeSetup_43 rfl rfl (Nat.le_of_ble_eq_true rfl) (Nat.le_of_ble_eq_true rfl) ?_
  refine G_sub [0] rfl ?_
  exact g_X9_writeSetup_L46 C (yU Y 3 (s_X7_addWord_p (Y 3) 8))
def s_X9_writeSetup_L18 (Y : RS) : RS := s_X9_writeSetup_L36 (yU Y 3 (s_X7_addNumber_p (Y 3) (at_ 3 (Y 0 0) 0)))
theorem g_X9_writeSetup_L18 {l : Launch} {K : gK} {Γ : gT} {A : Nat → Nat → Nat} (C : Cx l K Γ RX9 cX9_writeSetup 2 none 8) (Y : RS) : G l K Γ (ro_W K A Y) 18 2 [(0, .ref (A 4 0))] [] (fun z => (none, ro_W K A z)) (s_X9_writeSetup_L18 Y) := by
  unfold s_X9_writeSetup_L18
  refine G_aload_n C 0 dX9_writeSetup_18 rfl ?_
  refine G_get C 0 6 dX9_writeSetup_19 inlX9 uf_X9_61 rfl (by decide) rfl rfl rfl ?_
  refine G_aload_n C 0 dX9_writeSetup_22 rfl ?_
  refine G_get C 0 0 dX9_writeSetup_23 inlX9 uf_X9_10 rfl (by decide) rfl rfl rfl ?_
  refine G_get C 1 0 dX9_writeSetup_26 inlX6 uf_X9_203 rfl (by decide) rfl rfl rfl ?_
  refine G_iconst C dX9_writeSetup_29 (v := 0) rfl ?_
  refine G_callSi C kd_X9_at ut_X9_at um_X9_110 (c_at l K (ws := ro_W K A Y) (q0 := 2) (n := 3) (g := Y 0 0) (ad := (A 0 1)) (by decide) rfl 0) dX9_writeSetup_30 rfl rfl (Nat.le_of_ble_eq_true rfl) (Nat.le_of_ble_eq_true rfl) ?_
  refine G_callVv C 49 7 kd_X7_addNumber ui_X7_addNumber us_X7_addNumber um_X9_311 rfl rfl (Ct.chunk1 (cs := ro_C K A Y) (cs' := ro_C K A (yU Y 3 (s_X7_addNumber_p (Y 3) (at_ 3 (Y 0 0) 0)))) 4 rfl rfl (c_X7_addNumber_p l K (A 3) (Y 3) (at_ 3 (Y 0 0) 0))) dX9_writeSetup_33 rfl rfl (Nat.le_of_ble_eq_true rfl) (Nat.le_of_ble_eq_true rfl) ?_
  refine G_sub [0] rfl ?_
  exact g_X9_writeSetup_L36 C (yU Y 3 (s_X7_addNumber_p (Y 3) (at_ 3 (Y 0 0) 0)))
def s_X9_writeSetup_L8 (Y : RS) : RS := s_X9_writeSetup_L18 (yU Y 3 (s_X7_addWord_p (Y 3) 7))
theorem g_X9_writeSetup_L8 {l : Launch} {K : gK} {Γ : gT} {A : Nat → Nat → Nat} (C : Cx l K Γ RX9 cX9_writeSetup 2 none 8) (Y : RS) : G l K Γ (ro_W K A Y) 8 2 [(0, .ref (A 4 0))] [] (fun z => (none, ro_W K A z)) (s_X9_writeSetup_L8 Y) := by
  unfold s_X9_writeSetup_L8
  refine G_aload_n C 0 dX9_writeSetup_8 rfl ?_
  refine G_get C 0 6 dX9_writeSetup_9 inlX9 uf_X9_61 rfl (by decide) rfl rfl rfl ?_
  refine G_ldcwS C 7 dX9_writeSetup_12 rfl ?_
  refine G_callVv C 49 7 kd_X7_addWord ui_X7_addWord us_X7_addWord um_X9_317 rfl rfl (Ct.chunk1 (cs := ro_C K A Y) (cs' := ro_C K A (yU Y 3 (s_X7_addWord_p (Y 3) 7))) 4 rfl rfl (c_X7_addWord_p l K (A 3) (Y 3) (j := 7) (by decide))) dX9_writeSetup_15 rfl rfl (Nat.le_of_ble_eq_true rfl) (Nat.le_of_ble_eq_true rfl) ?_
  refine G_sub [0] rfl ?_
  exact g_X9_writeSetup_L18 C (yU Y 3 (s_X7_addWord_p (Y 3) 7))
def s_X9_writeSetup (Y : RS) : RS := s_X9_writeSetup_L8 (yL Y 3 0)
theorem c_X9_writeSetup (l : Launch) (K : gK) (A : Nat → Nat → Nat) (Y : RS) : Ct l K yX9_writeSetup cX9_writeSetup 2 none 8 [.ref (A 4 0)] (ro_W K A Y) (none, ro_W K A (s_X9_writeSetup Y)) := by
  refine Ct.of (own := RX9) (fun z => (none, ro_W K A z)) (x := s_X9_writeSetup Y) (by decide) rfl (Nat.le_of_ble_eq_true rfl) (fun Γ C => ?_)
  unfold s_X9_writeSetup
  refine G_aload_n C 0 dX9_writeSetup_0 rfl ?_
  refine G_get C 0 6 dX9_writeSetup_1 inlX9 uf_X9_61 rfl (by decide) rfl rfl rfl ?_
  refine G_iconst C dX9_writeSetup_4 (v := 0) rfl ?_
  refine G_put (ws' := ro_W K A (yL Y 3 0)) C 49 1 tyX7 .int dX9_writeSetup_5 inlX7 uf_X9_71 tyX7_ok nmX7 rfl (by decide) rfl rfl rfl rfl rfl rfl (Nat.le_of_ble_eq_true rfl) rfl ?_
  refine G_sub [0] rfl ?_
  exact g_X9_writeSetup_L8 C (yL Y 3 0)
/-! X9_setupLength -/
theorem kd_X9_setupLength : Card yX9_setupLength cX9_setupLength 1 (some .int) 0 := ⟨uc_X9_setupLength, un_X9, ⟨by decide, by decide, by decide⟩, by decide⟩
def p_X9_setupLength_L4 (Y : RS) : Int32 × RS := (Y 3 1 0, Y)
theorem g_X9_setupLength_L4 {l : Launch} {K : gK} {Γ : gT} {A : Nat → Nat → Nat} (C : Cx l K Γ RX9 cX9_setupLength 1 (some .int) 9) (Y : RS) : G l K Γ (ro_W K A Y) 4 1 [(0, .ref (A 4 0))] [] (fun (z : Int32 × RS) => (some (.int z.1), ro_W K A z.2)) (p_X9_setupLength_L4 Y) := by
  unfold p_X9_setupLength_L4
  refine G_aload_n C 0 dX9_setupLength_4 rfl ?_
  refine G_get C 0 6 dX9_setupLength_5 inlX9 uf_X9_61 rfl (by decide) rfl rfl rfl ?_
  refine G_get C 49 1 dX9_setupLength_8 inlX7 uf_X9_71 rfl (by decide) rfl rfl rfl ?_
  exact G_iret C dX9_setupLength_11 rfl
def p_X9_setupLength (Y : RS) : Int32 × RS := p_X9_setupLength_L4 (s_X9_writeSetup Y)
theorem c_X9_setupLength (l : Launch) (K : gK) (A : Nat → Nat → Nat) (Y : RS) : Ct l K yX9_setupLength cX9_setupLength 1 (some .int) 9 [.ref (A 4 0)] (ro_W K A Y) (some (.int (p_X9_setupLength Y).1), ro_W K A ((p_X9_setupLength Y).2)) := by
  refine Ct.of (own := RX9) (fun (z : Int32 × RS) => (some (.int z.1), ro_W K A z.2)) (x := p_X9_setupLength Y) (by decide) rfl (Nat.le_of_ble_eq_true rfl) (fun Γ C => ?_)
  unfold p_X9_setupLength
  refine G_aload_n C 0 dX9_setupLength_0 rfl ?_
  refine G_callVv C 0 9 kd_X9_writeSetup ui_X9_writeSetup us_X9_writeSetup um_X9_288 rfl rfl (c_X9_writeSetup l K A Y) dX9_setupLength_1 rfl rfl (Nat.le_of_ble_eq_true rfl) (Nat.le_of_ble_eq_true rfl) ?_
  refine G_sub [0] rfl ?_
  exact g_X9_setupLength_L4 C (s_X9_writeSetup Y)
/-! X9_setupByte -/
theorem kd_X9_setupByte : Card yX9_setupByte cX9_setupByte 2 (some .int) 1 := ⟨uc_X9_setupByte, un_X9, ⟨by decide, by decide, by decide⟩, by decide⟩
def p_X9_setupByte_L10 (Y : RS) (x1 : Int32) : Int32 × RS := (v_X7_byteAt_p (Y 3) x1, Y)
theorem g_X9_setupByte_L10 {l : Launch} {K : gK} {Γ : gT} {A : Nat → Nat → Nat} (C : Cx l K Γ RX9 cX9_setupByte 2 (some .int) 9) (Y : RS) (x1 : Int32) : G l K Γ (ro_W K A Y) 10 2 [(0, .ref (A 4 0)), (1, .int x1)] [] (fun (z : Int32 × RS) => (some (.int z.1), ro_W K A z.2)) (p_X9_setupByte_L10 Y x1) := by
  unfold p_X9_setupByte_L10
  refine G_aload_n C 0 dX9_setupByte_10 rfl ?_
  refine G_get C 0 6 dX9_setupByte_11 inlX9 uf_X9_61 rfl (by decide) rfl rfl rfl ?_
  refine G_iload_n C 1 dX9_setupByte_14 rfl ?_
  refine G_callVi C 49 7 kd_X7_byteAt ui_X7_byteAt us_X7_byteAt um_X9_285 rfl rfl (Ct.chunk1 (cs := ro_C K A Y) (cs' := ro_C K A Y) 4 rfl rfl (c_X7_byteAt_p l K (A 3) (Y 3) x1)) dX9_setupByte_15 rfl rfl (Nat.le_of_ble_eq_true rfl) (Nat.le_of_ble_eq_true rfl) ?_
  exact G_iret C dX9_setupByte_18 rfl
def p_X9_setupByte (Y : RS) (x1 : Int32) : Int32 × RS := if x1 < 0 then (-1, Y) else p_X9_setupByte_L10 (s_X9_writeSetup Y) x1
theorem c_X9_setupByte (l : Launch) (K : gK) (A : Nat → Nat → Nat) (Y : RS) (x1 : Int32) : Ct l K yX9_setupByte cX9_setupByte 2 (some .int) 9 [.ref (A 4 0), .int x1] (ro_W K A Y) (some (.int (p_X9_setupByte Y x1).1), ro_W K A ((p_X9_setupByte Y x1).2)) := by
  refine Ct.of (own := RX9) (fun (z : Int32 × RS) => (some (.int z.1), ro_W K A z.2)) (x := p_X9_setupByte Y x1) (by decide) rfl (Nat.le_of_ble_eq_true rfl) (fun Γ C => ?_)
  unfold p_X9_setupByte
  refine G_iload_n C 1 dX9_setupByte_0 rfl ?_
  refine G_if_ge C 6 dX9_setupByte_1 rfl (fun h1 => ?_) (fun h1 => ?_)
  · refine G_iconst C dX9_setupByte_4 (v := -1) rfl ?_
    exact G_iret C dX9_setupByte_5 rfl
  · refine G_aload_n C 0 dX9_setupByte_6 rfl ?_
    refine G_callVv C 0 9 kd_X9_writeSetup ui_X9_writeSetup us_X9_writeSetup um_X9_288 rfl rfl (c_X9_writeSetup l K A Y) dX9_setupByte_7 rfl rfl (Nat.le_of_ble_eq_true rfl) (Nat.le_of_ble_eq_true rfl) ?_
    refine G_sub [0, 1] rfl ?_
    exact g_X9_setupByte_L10 C (s_X9_writeSetup Y) x1
