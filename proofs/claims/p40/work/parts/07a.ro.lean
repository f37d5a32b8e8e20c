-- PART 07: History, Slots, RingOffices (by gen/mkro.py)
theorem ro_u0 (K : gK) (A : Nat → Nat → Nat) (Y : RS) (E : SM) : (ro_C K A Y).set 1 (st_W K (A 0) E) = ro_C K A (yU Y 0 E) := rfl
theorem ro_u1 (K : gK) (A : Nat → Nat → Nat) (Y : RS) (E : SM) : (ro_C K A Y).set 3 (st_W K (A 1) E) = ro_C K A (yU Y 1 E) := rfl
theorem ro_u3 (K : gK) (A : Nat → Nat → Nat) (Y : RS) (E : SM) : (ro_C K A Y).set 4 (tx_W K (A 3) 1024 E) = ro_C K A (yU Y 3 E) := rfl
def lt1 {α β : Type} (x : β) (f : β → α) : α := f x
section GR4
variable {α : Type} {l : Launch} {K : gK} {Γ : gT} {own : String} {cc : ByteArray} {nL : Nat} {ret : Option FieldType} {h : Nat} {ws : va_W} {pc : Nat} {lv : List (Nat × Value)} {st : List Value} {κ : α → gR} {x : α}
theorem g_ldcStringW {p : Program} {l : Launch} {e : Env} {R : Room} {s : State} {m : MethodId} {args : Array Value} {below : List Frame} {meth : Method} {c : Code} {T : State} {locs : List Loc} {cells slots : Nat}
    (X : Stand p l e R s m args below meth c T locs cells slots) (hexec : p.tables.exec = Jvm.exec) {own text : String} {index : Nat} {a : Addr} (hown : s.vm.findClass own = some m.cls)
    (hconst : (Cond.stringRef own index text).before args s = true) (hev : (Term.string own index).eval args s none [] s = some (.ref a)) {g : JFrame} (hg : g.method = m) (hdg : decode c.code g.pc = .ok (.ldc_w index, 3)) :
    ∀ target, Steps p.tables e below (T.setTop { g with pc := g.pc + 3, stack := .ref a :: g.stack }) target → Steps p.tables e below (T.setTop g) target := by
  obtain ⟨k, cf, i, a', hk, hcf, hcp, -, hr, hev'⟩ := Cond.stringRef_spec hown hconst
  cases hev.symm.trans hev'
  obtain ⟨k', hk', he⟩ := X.warmed.alike.2.2 _ _ hk
  have hr' : k'.resolved[index]? = some (some (.string a)) := by
    rcases X.warmed.entry hk hk' index with h | ⟨h, -⟩
    · rw [h]; exact hr
    · rw [hr] at h; cases h
  intro target hrest
  subst hg
  jvm_step X.here [hexec, hdg, ldc_w.wp_string (e := e) (s := T) (f := g) X.here.top hk' (by rw [he]; exact hcf) hcp hr']
  exact hrest
theorem G_ldcwS (C : Cx l K Γ own cc nL ret h) (j : Nat) {index : Nat} {tx : String} (hdg : decode cc pc = .ok (.ldc_w index, 3)) (hj : strT[j]? = some (own, index, tx)) (k : G l K Γ ws (pc + 3) nL lv (.ref (K.2 (100 + j)) :: st) κ x) : G l K Γ ws pc nL lv st κ x := by
  obtain ⟨p, e, R, s, m, args, below, meth, c, A⟩ := Γ
  obtain ⟨hx, hb, hml, hown, hts, hr, hlk, hK, hA, hf1, hf2⟩ := C
  intro H locs ls hP hD hS hl
  have hZ := hK.2.2.1 j _ hj
  intro T hT X
  obtain ⟨t, a1, b1⟩ := k H locs ls hP hD hS hl T hT X
  exact ⟨t, g_ldcStringW X hx hown (text := tx) (a := K.2 (100 + j)) hZ.1 hZ.2 (g := F0 m pc ls st) rfl (by rw [hb]; exact hdg) t a1, b1⟩
theorem G_aald (C : Cx l K Γ own cc nL ret h) (q0 t0 : Nat) {a n : Nat} {cA : ClassId} {C0 : String} {f : Nat → Option Nat} {i : Int32} {v : Value} (hdg : decode cc pc = .ok (.aaload, 1)) (ha : ws[q0]? = some (a, .inl (cA, n, .inr (.inr (.inr (.inr f)))))) (ht : (tys K)[t0]? = some (cA, .object C0)) (hin : vp_in i n) (hv : va_rf (f i.toNatClampNeg) = v) (k : G l K Γ ws (pc + 1) nL lv (v :: st) κ x) : G l K Γ ws pc nL lv (.int i :: .ref a :: st) κ x := by
  obtain ⟨p, e, R, s, m, args, below, meth, c, A⟩ := Γ
  obtain ⟨hx, hb, hml, hown, hts, hr, hlk, hK, hA, hf1, hf2⟩ := C
  subst hv
  intro H locs ls hP hD hS hl
  exact va_aldq hx hb hK.1.1 hP q0 t0 ha ht hin hdg (k H locs ls hP hD hS hl)
theorem G_ifnull (C : Cx l K Γ own cc nL ret h) {a : Nat} {off : Int} (hdg : decode cc pc = .ok (.ifnull off, 3)) (k : G l K Γ ws (pc + 3) nL lv st κ x) : G l K Γ ws pc nL lv (.ref a :: st) κ x := by
  obtain ⟨p, e, R, s, m, args, below, meth, c, A⟩ := Γ
  obtain ⟨hx, hb, hml, hown, hts, hr, hlk, hK, hA, hf1, hf2⟩ := C
  intro H locs ls hP hD hS hl
  exact lv_ifnull hx hb hdg (k H locs ls hP hD hS hl)
theorem G_ifnonnull (C : Cx l K Γ own cc nL ret h) {a : Nat} {off : Int} (tgt : Nat) (hdg : decode cc pc = .ok (.ifnonnull off, 3)) (ht : (pc : Int) + off = (tgt : Int)) (k : G l K Γ ws tgt nL lv st κ x) : G l K Γ ws pc nL lv (.ref a :: st) κ x := by
  obtain ⟨p, e, R, s, m, args, below, meth, c, A⟩ := Γ
  obtain ⟨hx, hb, hml, hown, hts, hr, hlk, hK, hA, hf1, hf2⟩ := C
  intro H locs ls hP hD hS hl
  exact lv_ifnonnull hx hb hdg ht (k H locs ls hP hD hS hl)
theorem G_ifnonnullN (C : Cx l K Γ own cc nL ret h) {off : Int} (hdg : decode cc pc = .ok (.ifnonnull off, 3)) (k : G l K Γ ws (pc + 3) nL lv st κ x) : G l K Γ ws pc nL lv (.null :: st) κ x := by
  obtain ⟨p, e, R, s, m, args, below, meth, c, A⟩ := Γ
  obtain ⟨hx, hb, hml, hown, hts, hr, hlk, hK, hA, hf1, hf2⟩ := C
  intro H locs ls hP hD hS hl
  exact lv_ifnonnullN hx hb hdg (k H locs ls hP hD hS hl)
theorem G_let {β : Type} {W : β → va_W} {f : β → α} {E : β} (k : ∀ Y1, G l K Γ (W Y1) pc nL lv st κ (f Y1)) : G l K Γ (W E) pc nL lv st κ (lt1 E f) := k E
end GR4
theorem g_lt_of {i : Int32} {n : Nat} (hn : n < 2147483648) (h0 : ¬ i < 0) (h1 : i < Int32.ofNat n) : i.toNatClampNeg < n := Nat.not_le.mp fun q => g_in_of hn h0 h1 (Or.inr q)
/-- what the parser leaves -/
def yP (Y : RS) (q : PS) : RS := yU (yU Y 1 q.2.2) 4 (sU (sU (Y 4) 1 q.1) 0 (upd (Y 4 0) 1 q.2.1))
theorem c_scratch (l : Launch) (K : gK) (A : Nat → Nat → Nat) (Y : RS) : Ct l K yX6_copyFrom cX6_copyFrom 2 none 3 [.ref (A 1 0), .ref (A 0 0)] (ro_W K A Y) (none, ro_W K A (yU Y 1 (Y 0))) :=
  Ct.chunk2 (cs := ro_C K A Y) (cs' := ro_C K A (yU Y 1 (Y 0))) 3 1 (by decide) rfl rfl rfl (c_copyState l K (A 1) (A 0) (Y 1) (Y 0))
theorem c_fromDraft (l : Launch) (K : gK) (A : Nat → Nat → Nat) (Y : RS) : Ct l K yX6_copyFrom cX6_copyFrom 2 none 3 [.ref (A 0 0), .ref (A 1 0)] (ro_W K A Y) (none, ro_W K A (yU Y 0 (Y 1))) :=
  Ct.chunk2 (cs := ro_C K A Y) (cs' := ro_C K A (yU Y 0 (Y 1))) 1 3 (by decide) rfl rfl rfl (c_copyState l K (A 0) (A 1) (Y 0) (Y 1))
theorem c_keepX (l : Launch) (K : gK) (A : Nat → Nat → Nat) (Y : RS) {n : Nat} (hn : n < 10) : Ct l K yX6_copyFrom cX6_copyFrom 2 none 3 [.ref (A (5 + n) 0), .ref (A 0 0)] (ro_W K A Y) (none, ro_W K A (yU Y (5 + n) (Y 0))) := by
  refine Ct.chunk2 (cs := ro_C K A Y) (cs' := ro_C K A (yU Y (5 + n) (Y 0))) (7 + n) 1 (by omega) (ro_state K A Y hn) rfl ?_ (c_copyState l K (A (5 + n)) (A 0) (Y (5 + n)) (Y 0))
  rw [ro_stateU K A Y hn]
  refine g_same ?_
  show some (st_W K (A 0) (yU Y (5 + n) (Y 0) 0)) = _
  unfold yU
  rw [if_neg (by omega)]
theorem c_backX (l : Launch) (K : gK) (A : Nat → Nat → Nat) (Y : RS) {n : Nat} (hn : n < 10) : Ct l K yX6_copyFrom cX6_copyFrom 2 none 3 [.ref (A 0 0), .ref (A (5 + n) 0)] (ro_W K A Y) (none, ro_W K A (yU Y 0 (Y (5 + n)))) := by
  refine Ct.chunk2 (cs := ro_C K A Y) (cs' := ro_C K A (yU Y 0 (Y (5 + n)))) 1 (7 + n) (by omega) rfl (ro_state K A Y hn) ?_ (c_copyState l K (A 0) (A (5 + n)) (Y 0) (Y (5 + n)))
  show List.set (ro_C K A (yU Y 0 (Y (5 + n)))) (7 + n) _ = _
  refine g_same ?_
  rw [ro_state K A _ hn]
  unfold yU
  rw [if_neg (by omega)]
theorem c_keepH (l : Launch) (K : gK) (A : Nat → Nat → Nat) (Y : RS) {n : Nat} (hn : n < 8) : Ct l K yX6_copyFrom cX6_copyFrom 2 none 3 [.ref (A (5 + n) 0), .ref (A 0 0)] (ro_W K A Y) (none, ro_W K A (yU Y (5 + n) (Y 0))) := c_keepX l K A Y (by omega)
theorem c_backH (l : Launch) (K : gK) (A : Nat → Nat → Nat) (Y : RS) {n : Nat} (hn : n < 8) : Ct l K yX6_copyFrom cX6_copyFrom 2 none 3 [.ref (A 0 0), .ref (A (5 + n) 0)] (ro_W K A Y) (none, ro_W K A (yU Y 0 (Y (5 + n)))) := c_backX l K A Y (by omega)
theorem c_keepS (l : Launch) (K : gK) (A : Nat → Nat → Nat) (Y : RS) {n : Nat} (hn : n < 2) : Ct l K yX6_copyFrom cX6_copyFrom 2 none 3 [.ref (A (13 + n) 0), .ref (A 0 0)] (ro_W K A Y) (none, ro_W K A (yU Y (13 + n) (Y 0))) := by
  have h := c_keepX l K A Y (n := 8 + n) (by omega)
  rw [show 5 + (8 + n) = 13 + n by omega] at h
  exact h
theorem c_backS (l : Launch) (K : gK) (A : Nat → Nat → Nat) (Y : RS) {n : Nat} (hn : n < 2) : Ct l K yX6_copyFrom cX6_copyFrom 2 none 3 [.ref (A 0 0), .ref (A (13 + n) 0)] (ro_W K A Y) (none, ro_W K A (yU Y 0 (Y (13 + n)))) := by
  have h := c_backX l K A Y (n := 8 + n) (by omega)
  rw [show 5 + (8 + n) = 13 + n by omega] at h
  exact h
theorem ro_recv (K : gK) (A : Nat → Nat → Nat) (Y : RS) {n : Nat} (hn : n < 10) : ∃ (q : Nat) (fs : List Value), (ro_W K A Y)[q]? = some (A (5 + n) 0, .inr (6, fs)) := by
  have h := ro_state K A Y hn
  obtain ⟨q, hq⟩ := List.getElem?_of_mem (show (A (5 + n) 0, _) ∈ ro_W K A Y from List.mem_flatten.mpr ⟨_, List.mem_of_getElem? h, List.mem_cons_self⟩)
  exact ⟨q, _, hq⟩


theorem kd_X0_forget : Card yX0_forget cX0_forget 1 none 0 := ⟨uc_X0_forget, un_X0, ⟨by decide, by decide, by decide⟩, by decide⟩
def s_X0_forget (Y : RS) : RS := yF Y 3 0
theorem c_X0_forget (l : Launch) (K : gK) (A : Nat → Nat → Nat) (Y : RS) : Ct l K yX0_forget cX0_forget 1 none 0 [.ref (A 4 1)] (ro_W K A Y) (none, ro_W K A (s_X0_forget Y)) := by
  refine Ct.of (own := RX0) (fun z => (none, ro_W K A z)) (x := s_X0_forget Y) (by decide) rfl (Nat.le_of_ble_eq_true rfl) (fun Γ C => ?_)
  unfold s_X0_forget
  refine G_aload_n C 0 dX0_forget_0 rfl ?_
  refine G_iconst C dX0_forget_1 (v := 0) rfl ?_
  refine G_put (ws' := ro_W K A (yF Y 3 0)) C 51 2 tyX0 .int dX0_forget_2 inlX0 uf_X0_18 tyX0_ok nmX0 rfl (by decide) rfl rfl rfl rfl rfl rfl (Nat.le_of_ble_eq_true rfl) rfl ?_
  exact G_vret C dX0_forget_5 rfl
theorem kd_X0_copyTo : Card yX0_copyTo cX0_copyTo 3 none 1 := ⟨uc_X0_copyTo, un_X0, ⟨by decide, by decide, by decide⟩, by decide⟩
def s_X0_copyTo (Y : RS) : RS := if (Y 4 0 2) < 0 then Y else if (Y 4 0 2) < 8 then yU Y (5 + Int32.toNatClampNeg (Y 4 0 2)) (Y 0) else Y
theorem c_X0_copyTo (l : Launch) (K : gK) (A : Nat → Nat → Nat) (Y : RS) : Ct l K yX0_copyTo cX0_copyTo 3 none 4 [.ref (A 4 1), .ref (A 0 0)] (ro_W K A Y) (none, ro_W K A (s_X0_copyTo Y)) := by
  refine Ct.of (own := RX0) (fun z => (none, ro_W K A z)) (x := s_X0_copyTo Y) (by decide) rfl (Nat.le_of_ble_eq_true rfl) (fun Γ C => ?_)
  unfold s_X0_copyTo
  refine G_aload_n C 0 dX0_copyTo_0 rfl ?_
  refine G_get C 51 1 dX0_copyTo_1 inlX0 uf_X0_26 rfl (by decide) rfl rfl rfl ?_
  refine G_if_lt C 16 dX0_copyTo_4 rfl (fun h1 => ?_) (fun h1 => ?_)
  · exact G_vret C dX0_copyTo_16 rfl
  · refine G_aload_n C 0 dX0_copyTo_7 rfl ?_
    refine G_get C 51 1 dX0_copyTo_8 inlX0 uf_X0_26 rfl (by decide) rfl rfl rfl ?_
    refine G_bipush C dX0_copyTo_11 (v := 8) rfl ?_
    refine G_icmp_lt C 17 dX0_copyTo_13 rfl (fun h2 => ?_) (fun h2 => ?_)
    · refine G_aload_n C 0 dX0_copyTo_17 rfl ?_
      refine G_get C 51 0 dX0_copyTo_18 inlX0 uf_X0_11 rfl (by decide) rfl rfl rfl ?_
      refine G_aload_n C 0 dX0_copyTo_21 rfl ?_
      refine G_get C 51 1 dX0_copyTo_22 inlX0 uf_X0_26 rfl (by decide) rfl rfl rfl ?_
      refine G_aald C 52 3 dX0_copyTo_25 rfl rfl (g_in_of (by decide) h1 h2) (v := .ref (A (5 + Int32.toNatClampNeg (Y 4 0 2)) 0)) rfl ?_
      refine G_astore_n (lv' := [(2, .ref (A (5 + Int32.toNatClampNeg (Y 4 0 2)) 0)), (0, .ref (A 4 1)), (1, .ref (A 0 0))]) C dX0_copyTo_26 (by decide) rfl ?_
      refine G_aload_n C 0 dX0_copyTo_27 rfl ?_
      refine G_ifnull C dX0_copyTo_28 ?_
      refine G_aload_n C 0 dX0_copyTo_31 rfl ?_
      refine G_aload_n C 2 dX0_copyTo_32 rfl ?_
      obtain ⟨q9, fs9, he9⟩ := ro_recv K A Y (n := Int32.toNatClampNeg (Y 4 0 2)) (by have := g_lt_of (n := 8) (by decide) h1 h2; omega)
      refine G_callVv C q9 6 kd_X6_copyFrom ui_X6_copyFrom us_X6_copyFrom um_X0_29 rfl (by first | exact he9 | (rw [← Nat.add_assoc] at he9; exact he9)) (c_keepH l K A Y (by have := g_lt_of (n := 8) (by decide) h1 h2; omega)) dX0_copyTo_33 rfl rfl (Nat.le_of_ble_eq_true rfl) (Nat.le_of_ble_eq_true rfl) ?_
      exact G_vret C dX0_copyTo_36 rfl
    · exact G_vret C dX0_copyTo_16 rfl
theorem kd_X0_remember : Card yX0_remember cX0_remember 2 none 1 := ⟨uc_X0_remember, un_X0, ⟨by decide, by decide, by decide⟩, by decide⟩
def s_X0_remember_L18 (Y : RS) : RS := if (Y 4 0 3) < 8 then yF Y 3 ((Y 4 0 3) + 1) else Y
theorem g_X0_remember_L18 {l : Launch} {K : gK} {Γ : gT} {A : Nat → Nat → Nat} (C : Cx l K Γ RX0 cX0_remember 2 none 5) (Y : RS) : G l K Γ (ro_W K A Y) 18 2 [(0, .ref (A 4 1)), (1, .ref (A 0 0))] [] (fun z => (none, ro_W K A z)) (s_X0_remember_L18 Y) := by
  unfold s_X0_remember_L18
  refine G_aload_n C 0 dX0_remember_18 rfl ?_
  refine G_get C 51 2 dX0_remember_19 inlX0 uf_X0_18 rfl (by decide) rfl rfl rfl ?_
  refine G_bipush C dX0_remember_22 (v := 8) rfl ?_
  refine G_icmp_ge C 37 dX0_remember_24 rfl (fun h1 => ?_) (fun h1 => ?_)
  · refine G_aload_n C 0 dX0_remember_27 rfl ?_
    refine G_dup C dX0_remember_28 rfl ?_
    refine G_get C 51 2 dX0_remember_29 inlX0 uf_X0_18 rfl (by decide) rfl rfl rfl ?_
    refine G_iconst C dX0_remember_32 (v := 1) rfl ?_
    refine G_iadd C dX0_remember_33 ?_
    refine G_put (ws' := ro_W K A (yF Y 3 ((Y 4 0 3) + 1))) C 51 2 tyX0 .int dX0_remember_34 inlX0 uf_X0_18 tyX0_ok nmX0 rfl (by decide) rfl rfl rfl rfl rfl rfl (Nat.le_of_ble_eq_true rfl) rfl ?_
    exact G_vret C dX0_remember_37 rfl
  · exact G_vret C dX0_remember_37 rfl
def s_X0_remember_L5 (Y : RS) : RS := s_X0_remember_L18 (yF Y 2 (jrem ((Y 4 0 2) + 1) 8))
theorem g_X0_remember_L5 {l : Launch} {K : gK} {Γ : gT} {A : Nat → Nat → Nat} (C : Cx l K Γ RX0 cX0_remember 2 none 5) (Y : RS) : G l K Γ (ro_W K A Y) 5 2 [(0, .ref (A 4 1)), (1, .ref (A 0 0))] [] (fun z => (none, ro_W K A z)) (s_X0_remember_L5 Y) := by
  unfold s_X0_remember_L5
  refine G_aload_n C 0 dX0_remember_5 rfl ?_
  refine G_aload_n C 0 dX0_remember_6 rfl ?_
  refine G_get C 51 1 dX0_remember_7 inlX0 uf_X0_26 rfl (by decide) rfl rfl rfl ?_
  refine G_iconst C dX0_remember_10 (v := 1) rfl ?_
  refine G_iadd C dX0_remember_11 ?_
  refine G_bipush C dX0_remember_12 (v := 8) rfl ?_
  refine G_irem C dX0_remember_14 (by decide) ?_
  refine G_put (ws' := ro_W K A (yF Y 2 (jrem ((Y 4 0 2) + 1) 8))) C 51 1 tyX0 .int dX0_remember_15 inlX0 uf_X0_26 tyX0_ok nmX0 rfl (by decide) rfl rfl rfl rfl rfl rfl (Nat.le_of_ble_eq_true rfl) rfl ?_
  refine G_sub [0, 1] rfl ?_
  exact g_X0_remember_L18 C (yF Y 2 (jrem ((Y 4 0 2) + 1) 8))
def s_X0_remember (Y : RS) : RS := s_X0_remember_L5 (s_X0_copyTo Y)
theorem c_X0_remember (l : Launch) (K : gK) (A : Nat → Nat → Nat) (Y : RS) : Ct l K yX0_remember cX0_remember 2 none 5 [.ref (A 4 1), .ref (A 0 0)] (ro_W K A Y) (none, ro_W K A (s_X0_remember Y)) := by
  refine Ct.of (own := RX0) (fun z => (none, ro_W K A z)) (x := s_X0_remember Y) (by decide) rfl (Nat.le_of_ble_eq_true rfl) (fun Γ C => ?_)
  unfold s_X0_remember
  refine G_aload_n C 0 dX0_remember_0 rfl ?_
  refine G_aload_n C 1 dX0_remember_1 rfl ?_
  refine G_callVv C 51 0 kd_X0_copyTo ui_X0_copyTo us_X0_copyTo um_X0_22 rfl rfl (c_X0_copyTo l K A Y) dX0_remember_2 rfl rfl (Nat.le_of_ble_eq_true rfl) (Nat.le_of_ble_eq_true rfl) ?_
  refine G_sub [0, 1] rfl ?_
  exact g_X0_remember_L5 C (s_X0_copyTo Y)
theorem kd_X0_takeBack : Card yX0_takeBack cX0_takeBack 3 none 1 := ⟨uc_X0_takeBack, un_X0, ⟨by decide, by decide, by decide⟩, by decide⟩
def s_X0_takeBack_L34 (Y : RS) : RS := if (Y 4 0 2) < 0 then Y else if (Y 4 0 2) < 8 then yU Y 0 (Y (5 + Int32.toNatClampNeg (Y 4 0 2))) else Y
theorem g_X0_takeBack_L34 {l : Launch} {K : gK} {Γ : gT} {A : Nat → Nat → Nat} (C : Cx l K Γ RX0 cX0_takeBack 3 none 4) (Y : RS) : G l K Γ (ro_W K A Y) 34 3 [(0, .ref (A 4 1)), (1, .ref (A 0 0))] [] (fun z => (none, ro_W K A z)) (s_X0_takeBack_L34 Y) := by
  unfold s_X0_takeBack_L34
  refine G_aload_n C 0 dX0_takeBack_34 rfl ?_
  refine G_get C 51 1 dX0_takeBack_35 inlX0 uf_X0_26 rfl (by decide) rfl rfl rfl ?_
  refine G_if_lt C 50 dX0_takeBack_38 rfl (fun h2 => ?_) (fun h2 => ?_)
  · exact G_vret C dX0_takeBack_50 rfl
  · refine G_aload_n C 0 dX0_takeBack_41 rfl ?_
    refine G_get C 51 1 dX0_takeBack_42 inlX0 uf_X0_26 rfl (by decide) rfl rfl rfl ?_
    refine G_bipush C dX0_takeBack_45 (v := 8) rfl ?_
    refine G_icmp_lt C 51 dX0_takeBack_47 rfl (fun h3 => ?_) (fun h3 => ?_)
    · refine G_aload_n C 0 dX0_takeBack_51 rfl ?_
      refine G_get C 51 0 dX0_takeBack_52 inlX0 uf_X0_11 rfl (by decide) rfl rfl rfl ?_
      refine G_aload_n C 0 dX0_takeBack_55 rfl ?_
      refine G_get C 51 1 dX0_takeBack_56 inlX0 uf_X0_26 rfl (by decide) rfl rfl rfl ?_
      refine G_aald C 52 3 dX0_takeBack_59 rfl rfl (g_in_of (by decide) h2 h3) (v := .ref (A (5 + Int32.toNatClampNeg (Y 4 0 2)) 0)) rfl ?_
      refine G_astore_n (lv' := [(2, .ref (A (5 + Int32.toNatClampNeg (Y 4 0 2)) 0)), (0, .ref (A 4 1)), (1, .ref (A 0 0))]) C dX0_takeBack_60 (by decide) rfl ?_
      refine G_aload_n C 0 dX0_takeBack_61 rfl ?_
      refine G_ifnull C dX0_takeBack_62 ?_
      refine G_aload_n C 2 dX0_takeBack_65 rfl ?_
      refine G_aload_n C 0 dX0_takeBack_66 rfl ?_
      refine G_callVv C 1 6 kd_X6_copyFrom ui_X6_copyFrom us_X6_copyFrom um_X0_29 rfl rfl (c_backH l K A Y (by have := g_lt_of (n := 8) (by decide) h2 h3; omega)) dX0_takeBack_67 rfl rfl (Nat.le_of_ble_eq_true rfl) (Nat.le_of_ble_eq_true rfl) ?_
      exact G_vret C dX0_takeBack_70 rfl
    · exact G_vret C dX0_takeBack_50 rfl
def s_X0_takeBack_L24 (Y : RS) : RS := s_X0_takeBack_L34 (yF Y 3 ((Y 4 0 3) - 1))
theorem g_X0_takeBack_L24 {l : Launch} {K : gK} {Γ : gT} {A : Nat → Nat → Nat} (C : Cx l K Γ RX0 cX0_takeBack 3 none 4) (Y : RS) : G l K Γ (ro_W K A Y) 24 3 [(0, .ref (A 4 1)), (1, .ref (A 0 0))] [] (fun z => (none, ro_W K A z)) (s_X0_takeBack_L24 Y) := by
  unfold s_X0_takeBack_L24
  refine G_aload_n C 0 dX0_takeBack_24 rfl ?_
  refine G_dup C dX0_takeBack_25 rfl ?_
  refine G_get C 51 2 dX0_takeBack_26 inlX0 uf_X0_18 rfl (by decide) rfl rfl rfl ?_
  refine G_iconst C dX0_takeBack_29 (v := 1) rfl ?_
  refine G_isub C dX0_takeBack_30 ?_
  refine G_put (ws' := ro_W K A (yF Y 3 ((Y 4 0 3) - 1))) C 51 2 tyX0 .int dX0_takeBack_31 inlX0 uf_X0_18 tyX0_ok nmX0 rfl (by decide) rfl rfl rfl rfl rfl rfl (Nat.le_of_ble_eq_true rfl) rfl ?_
  refine G_sub [0, 1] rfl ?_
  exact g_X0_takeBack_L34 C (yF Y 3 ((Y 4 0 3) - 1))
def s_X0_takeBack (Y : RS) : RS := if (Y 4 0 3) = 0 then Y else s_X0_takeBack_L24 (yF Y 2 (jrem (((Y 4 0 2) + 8) - 1) 8))
theorem c_X0_takeBack (l : Launch) (K : gK) (A : Nat → Nat → Nat) (Y : RS) : Ct l K yX0_takeBack cX0_takeBack 3 none 4 [.ref (A 4 1), .ref (A 0 0)] (ro_W K A Y) (none, ro_W K A (s_X0_takeBack Y)) := by
  refine Ct.of (own := RX0) (fun z => (none, ro_W K A z)) (x := s_X0_takeBack Y) (by decide) rfl (Nat.le_of_ble_eq_true rfl) (fun Γ C => ?_)
  unfold s_X0_takeBack
  refine G_aload_n C 0 dX0_takeBack_0 rfl ?_
  refine G_get C 51 2 dX0_takeBack_1 inlX0 uf_X0_18 rfl (by decide) rfl rfl rfl ?_
  refine G_if_ne C 8 dX0_takeBack_4 rfl (fun h1 => ?_) (fun h1 => ?_)
  · exact G_vret C dX0_takeBack_7 rfl
  · refine G_aload_n C 0 dX0_takeBack_8 rfl ?_
    refine G_aload_n C 0 dX0_takeBack_9 rfl ?_
    refine G_get C 51 1 dX0_takeBack_10 inlX0 uf_X0_26 rfl (by decide) rfl rfl rfl ?_
    refine G_bipush C dX0_takeBack_13 (v := 8) rfl ?_
    refine G_iadd C dX0_takeBack_15 ?_
    refine G_iconst C dX0_takeBack_16 (v := 1) rfl ?_
    refine G_isub C dX0_takeBack_17 ?_
    refine G_bipush C dX0_takeBack_18 (v := 8) rfl ?_
    refine G_irem C dX0_takeBack_20 (by decide) ?_
    refine G_put (ws' := ro_W K A (yF Y 2 (jrem (((Y 4 0 2) + 8) - 1) 8))) C 51 1 tyX0 .int dX0_takeBack_21 inlX0 uf_X0_26 tyX0_ok nmX0 rfl (by decide) rfl rfl rfl rfl rfl rfl (Nat.le_of_ble_eq_true rfl) rfl ?_
    refine G_sub [0, 1] rfl ?_
    exact g_X0_takeBack_L24 C (yF Y 2 (jrem (((Y 4 0 2) + 8) - 1) 8))
theorem kd_X5_forget : Card yX5_forget cX5_forget 2 none 0 := ⟨uc_X5_forget, un_X5, ⟨by decide, by decide, by decide⟩, by decide⟩
def s_X5_forget (Y : RS) : RS := yU (yU Y 4 (sU (Y 4) 2 (upd (Y 4 2) (0 : Int32).toNatClampNeg (vp_nar .boolean 0)))) 4 (sU ((yU Y 4 (sU (Y 4) 2 (upd (Y 4 2) (0 : Int32).toNatClampNeg (vp_nar .boolean 0)))) 4) 2 (upd ((yU Y 4 (sU (Y 4) 2 (upd (Y 4 2) (0 : Int32).toNatClampNeg (vp_nar .boolean 0)))) 4 2) (1 : Int32).toNatClampNeg (vp_nar .boolean 0)))
theorem c_X5_forget (l : Launch) (K : gK) (A : Nat → Nat → Nat) (Y : RS) : Ct l K yX5_forget cX5_forget 2 none 0 [.ref (A 4 3)] (ro_W K A Y) (none, ro_W K A (s_X5_forget Y)) := by
  refine Ct.of (own := RX5) (fun z => (none, ro_W K A z)) (x := s_X5_forget Y) (by decide) rfl (Nat.le_of_ble_eq_true rfl) (fun Γ C => ?_)
  unfold s_X5_forget
  refine G_iconst C dX5_forget_0 (v := 0) rfl ?_
  refine G_istore_n (lv' := [(1, .int 0), (0, .ref (A 4 3))]) C dX5_forget_1 (by decide) rfl ?_
  refine G_iload_n C 0 dX5_forget_2 rfl ?_
  refine G_iconst C dX5_forget_3 (v := 2) rfl ?_
  refine G_icmp_ge_y C 20 (by decide) dX5_forget_4 rfl ?_
  refine G_aload_n C 1 dX5_forget_7 rfl ?_
  refine G_get C 53 1 dX5_forget_8 inlX5 uf_X5_17 rfl (by decide) rfl rfl rfl ?_
  refine G_iload_n C 0 dX5_forget_11 rfl ?_
  refine G_iconst C dX5_forget_12 (v := 0) rfl ?_
  refine G_zast (ws' := ro_W K A (yU Y 4 (sU (Y 4) 2 (upd (Y 4 2) (0 : Int32).toNatClampNeg (vp_nar .boolean 0))))) C 55 dX5_forget_13 rfl (by unfold vp_in; decide) rfl ?_
  refine G_iinc (lv' := [(1, .int 1), (0, .ref (A 4 3))]) C 0 dX5_forget_14 rfl rfl (by decide) rfl ?_
  refine G_goto C 2 dX5_forget_17 rfl ?_
  refine G_iload_n C 0 dX5_forget_2 rfl ?_
  refine G_iconst C dX5_forget_3 (v := 2) rfl ?_
  refine G_icmp_ge_y C 20 (by decide) dX5_forget_4 rfl ?_
  refine G_aload_n C 1 dX5_forget_7 rfl ?_
  refine G_get C 53 1 dX5_forget_8 inlX5 uf_X5_17 rfl (by decide) rfl rfl rfl ?_
  refine G_iload_n C 0 dX5_forget_11 rfl ?_
  refine G_iconst C dX5_forget_12 (v := 0) rfl ?_
  refine G_zast (ws' := ro_W K A (yU (yU Y 4 (sU (Y 4) 2 (upd (Y 4 2) (0 : Int32).toNatClampNeg (vp_nar .boolean 0)))) 4 (sU ((yU Y 4 (sU (Y 4) 2 (upd (Y 4 2) (0 : Int32).toNatClampNeg (vp_nar .boolean 0)))) 4) 2 (upd ((yU Y 4 (sU (Y 4) 2 (upd (Y 4 2) (0 : Int32).toNatClampNeg (vp_nar .boolean 0)))) 4 2) (1 : Int32).toNatClampNeg (vp_nar .boolean 0))))) C 55 dX5_forget_13 rfl (by unfold vp_in; decide) rfl ?_
  refine G_iinc (lv' := [(1, .int 2), (0, .ref (A 4 3))]) C 0 dX5_forget_14 rfl rfl (by decide) rfl ?_
  refine G_goto C 2 dX5_forget_17 rfl ?_
  refine G_iload_n C 0 dX5_forget_2 rfl ?_
  refine G_iconst C dX5_forget_3 (v := 2) rfl ?_
  refine G_icmp_ge_n C 20 (by decide) dX5_forget_4 rfl ?_
  exact G_vret C dX5_forget_20 rfl
theorem kd_X5_fill : Card yX5_fill cX5_fill 4 none 2 := ⟨uc_X5_fill, un_X5, ⟨by decide, by decide, by decide⟩, by decide⟩
def s_X5_fill (Y : RS) (x1 : Int32) : RS := if x1 < 0 then Y else if x1 < 2 then yU (yU Y (13 + Int32.toNatClampNeg x1) (Y 0)) 4 (sU ((yU Y (13 + Int32.toNatClampNeg x1) (Y 0)) 4) 2 (upd ((yU Y (13 + Int32.toNatClampNeg x1) (Y 0)) 4 2) x1.toNatClampNeg (vp_nar .boolean 1))) else Y
theorem c_X5_fill (l : Launch) (K : gK) (A : Nat → Nat → Nat) (Y : RS) (x1 : Int32) : Ct l K yX5_fill cX5_fill 4 none 4 [.ref (A 4 3), .int x1, .ref (A 0 0)] (ro_W K A Y) (none, ro_W K A (s_X5_fill Y x1)) := by
  refine Ct.of (own := RX5) (fun z => (none, ro_W K A z)) (x := s_X5_fill Y x1) (by decide) rfl (Nat.le_of_ble_eq_true rfl) (fun Γ C => ?_)
  unfold s_X5_fill
  refine G_iload_n C 1 dX5_fill_0 rfl ?_
  refine G_if_lt C 9 dX5_fill_1 rfl (fun h1 => ?_) (fun h1 => ?_)
  · exact G_vret C dX5_fill_9 rfl
  · refine G_iload_n C 1 dX5_fill_4 rfl ?_
    refine G_iconst C dX5_fill_5 (v := 2) rfl ?_
    refine G_icmp_lt C 10 dX5_fill_6 rfl (fun h2 => ?_) (fun h2 => ?_)
    · refine G_aload_n C 0 dX5_fill_10 rfl ?_
      refine G_get C 53 0 dX5_fill_11 inlX5 uf_X5_11 rfl (by decide) rfl rfl rfl ?_
      refine G_iload_n C 1 dX5_fill_14 rfl ?_
      refine G_aald C 54 3 dX5_fill_15 rfl rfl (g_in_of (by decide) h1 h2) (v := .ref (A (13 + Int32.toNatClampNeg x1) 0)) rfl ?_
      refine G_astore_n (lv' := [(3, .ref (A (13 + Int32.toNatClampNeg x1) 0)), (0, .ref (A 4 3)), (1, .int x1), (2, .ref (A 0 0))]) C dX5_fill_16 (by decide) rfl ?_
      refine G_aload_n C 0 dX5_fill_17 rfl ?_
      refine G_ifnonnull C 22 dX5_fill_18 rfl ?_
      refine G_aload_n C 0 dX5_fill_22 rfl ?_
      refine G_aload_n C 3 dX5_fill_23 rfl ?_
      obtain ⟨q9, fs9, he9⟩ := ro_recv K A Y (n := 8 + Int32.toNatClampNeg x1) (by have := g_lt_of (n := 2) (by decide) h1 h2; omega)
      refine G_callVv C q9 6 kd_X6_copyFrom ui_X6_copyFrom us_X6_copyFrom um_X5_22 rfl (by first | exact he9 | (rw [← Nat.add_assoc] at he9; exact he9)) (c_keepS l K A Y (by have := g_lt_of (n := 2) (by decide) h1 h2; omega)) dX5_fill_24 rfl rfl (Nat.le_of_ble_eq_true rfl) (Nat.le_of_ble_eq_true rfl) ?_
      refine G_aload_n C 1 dX5_fill_27 rfl ?_
      refine G_get C 53 1 dX5_fill_28 inlX5 uf_X5_17 rfl (by decide) rfl rfl rfl ?_
      refine G_iload_n C 2 dX5_fill_31 rfl ?_
      refine G_iconst C dX5_fill_32 (v := 1) rfl ?_
      refine G_zast (ws' := ro_W K A (yU (yU Y (13 + Int32.toNatClampNeg x1) (Y 0)) 4 (sU ((yU Y (13 + Int32.toNatClampNeg x1) (Y 0)) 4) 2 (upd ((yU Y (13 + Int32.toNatClampNeg x1) (Y 0)) 4 2) x1.toNatClampNeg (vp_nar .boolean 1))))) C 55 dX5_fill_33 rfl (g_in_of (by decide) h1 h2) rfl ?_
      exact G_vret C dX5_fill_34 rfl
    · exact G_vret C dX5_fill_9 rfl
/-! X9_append -/
theorem kd_X9_append : Card yX9_append cX9_append 6 (some .int) 5 := ⟨uc_X9_append, un_X9, ⟨by decide, by decide, by decide⟩, by decide⟩
def p_X9_append_L57 (Y : RS) (x1 : Int32) (x2 : Int32) (x3 : Int32) (x4 : Int32) (x5 : Int32) : Int32 × RS := (Y 2 1 0, Y)
theorem g_X9_append_L57 {l : Launch} {K : gK} {Γ : gT} {A : Nat → Nat → Nat} (C : Cx l K Γ RX9 cX9_append 6 (some .int) 2) (Y : RS) (x1 : Int32) (x2 : Int32) (x3 : Int32) (x4 : Int32) (x5 : Int32) : G l K Γ (ro_W K A Y) 57 6 [(0, .ref (A 4 0)), (1, .int x1), (2, .int x2), (3, .int x3), (4, .int x4), (5, .int x5)] [] (fun (z : Int32 × RS) => (some (.int z.1), ro_W K A z.2)) (p_X9_append_L57 Y x1 x2 x3 x4 x5) := by
  unfold p_X9_append_L57
  refine G_aload_n C 0 dX9_append_57 rfl ?_
  refine G_get C 0 4 dX9_append_58 inlX9 uf_X9_47 rfl (by decide) rfl rfl rfl ?_
  refine G_get C 25 1 dX9_append_61 inlX7 uf_X9_71 rfl (by decide) rfl rfl rfl ?_
  exact G_iret C dX9_append_64 rfl
def p_X9_append_L48 (Y : RS) (x1 : Int32) (x2 : Int32) (x3 : Int32) (x4 : Int32) (x5 : Int32) : Int32 × RS := p_X9_append_L57 (yU Y 2 (s_X7_addFourBytes (Y 2) x5)) x1 x2 x3 x4 x5
theorem g_X9_append_L48 {l : Launch} {K : gK} {Γ : gT} {A : Nat → Nat → Nat} (C : Cx l K Γ RX9 cX9_append 6 (some .int) 2) (Y : RS) (x1 : Int32) (x2 : Int32) (x3 : Int32) (x4 : Int32) (x5 : Int32) : G l K Γ (ro_W K A Y) 48 6 [(0, .ref (A 4 0)), (1, .int x1), (2, .int x2), (3, .int x3), (4, .int x4), (5, .int x5)] [] (fun (z : Int32 × RS) => (some (.int z.1), ro_W K A z.2)) (p_X9_append_L48 Y x1 x2 x3 x4 x5) := by
  unfold p_X9_append_L48
  refine G_aload_n C 0 dX9_append_48 rfl ?_
  refine G_get C 0 4 dX9_append_49 inlX9 uf_X9_47 rfl (by decide) rfl rfl rfl ?_
  refine G_iload C 5 dX9_append_52 rfl ?_
  refine G_callVv C 25 7 kd_X7_addFourBytes ui_X7_addFourBytes us_X7_addFourBytes um_X9_74 rfl rfl (Ct.chunk1 (cs := ro_C K A Y) (cs' := ro_C K A (yU Y 2 (s_X7_addFourBytes (Y 2) x5))) 2 rfl rfl (Ct.right _ (Ct.right _ (c_X7_addFourBytes l K (A 2) (Y 2) x5)))) dX9_append_54 rfl rfl (Nat.le_of_ble_eq_true rfl) (Nat.le_of_ble_eq_true rfl) ?_
  refine G_sub [0, 1, 2, 3, 4, 5] rfl ?_
  exact g_X9_append_L57 C (yU Y 2 (s_X7_addFourBytes (Y 2) x5)) x1 x2 x3 x4 x5
def p_X9_append_L39 (Y : RS) (x1 : Int32) (x2 : Int32) (x3 : Int32) (x4 : Int32) (x5 : Int32) : Int32 × RS := p_X9_append_L48 (yU Y 2 (s_X7_addFourBytes (Y 2) x4)) x1 x2 x3 x4 x5
theorem g_X9_append_L39 {l : Launch} {K : gK} {Γ : gT} {A : Nat → Nat → Nat} (C : Cx l K Γ RX9 cX9_append 6 (some .int) 2) (Y : RS) (x1 : Int32) (x2 : Int32) (x3 : Int32) (x4 : Int32) (x5 : Int32) : G l K Γ (ro_W K A Y) 39 6 [(0, .ref (A 4 0)), (1, .int x1), (2, .int x2), (3, .int x3), (4, .int x4), (5, .int x5)] [] (fun (z : Int32 × RS) => (some (.int z.1), ro_W K A z.2)) (p_X9_append_L39 Y x1 x2 x3 x4 x5) := by
  unfold p_X9_append_L39
  refine G_aload_n C 0 dX9_append_39 rfl ?_
  refine G_get C 0 4 dX9_append_40 inlX9 uf_X9_47 rfl (by decide) rfl rfl rfl ?_
  refine G_iload C 4 dX9_append_43 rfl ?_
  refine G_callVv C 25 7 kd_X7_addFourBytes ui_X7_addFourBytes us_X7_addFourBytes um_X9_74 rfl rfl (Ct.chunk1 (cs := ro_C K A Y) (cs' := ro_C K A (yU Y 2 (s_X7_addFourBytes (Y 2) x4))) 2 rfl rfl (Ct.right _ (Ct.right _ (c_X7_addFourBytes l K (A 2) (Y 2) x4)))) dX9_append_45 rfl rfl (Nat.le_of_ble_eq_true rfl) (Nat.le_of_ble_eq_true rfl) ?_
  refine G_sub [0, 1, 2, 3, 4, 5] rfl ?_
  exact g_X9_append_L48 C (yU Y 2 (s_X7_addFourBytes (Y 2) x4)) x1 x2 x3 x4 x5
def p_X9_append_L31 (Y : RS) (x1 : Int32) (x2 : Int32) (x3 : Int32) (x4 : Int32) (x5 : Int32) : Int32 × RS := p_X9_append_L39 (yU Y 2 (s_X7_addFourBytes (Y 2) x3)) x1 x2 x3 x4 x5
theorem g_X9_append_L31 {l : Launch} {K : gK} {Γ : gT} {A : Nat → Nat → Nat} (C : Cx l K Γ RX9 cX9_append 6 (some .int) 2) (Y : RS) (x1 : Int32) (x2 : Int32) (x3 : Int32) (x4 : Int32) (x5 : Int32) : G l K Γ (ro_W K A Y) 31 6 [(0, .ref (A 4 0)), (1, .int x1), (2, .int x2), (3, .int x3), (4, .int x4), (5, .int x5)] [] (fun (z : Int32 × RS) => (some (.int z.1), ro_W K A z.2)) (p_X9_append_L31 Y x1 x2 x3 x4 x5) := by
  unfold p_X9_append_L31
  refine G_aload_n C 0 dX9_append_31 rfl ?_
  refine G_get C 0 4 dX9_append_32 inlX9 uf_X9_47 rfl (by decide) rfl rfl rfl ?_
  refine G_iload_n C 3 dX9_append_35 rfl ?_
  refine G_callVv C 25 7 kd_X7_addFourBytes ui_X7_addFourBytes us_X7_addFourBytes um_X9_74 rfl rfl (Ct.chunk1 (cs := ro_C K A Y) (cs' := ro_C K A (yU Y 2 (s_X7_addFourBytes (Y 2) x3))) 2 rfl rfl (Ct.right _ (Ct.right _ (c_X7_addFourBytes l K (A 2) (Y 2) x3)))) dX9_append_36 rfl rfl (Nat.le_of_ble_eq_true rfl) (Nat.le_of_ble_eq_true rfl) ?_
  refine G_sub [0, 1, 2, 3, 4, 5] rfl ?_
  exact g_X9_append_L39 C (yU Y 2 (s_X7_addFourBytes (Y 2) x3)) x1 x2 x3 x4 x5
def p_X9_append_L23 (Y : RS) (x1 : Int32) (x2 : Int32) (x3 : Int32) (x4 : Int32) (x5 : Int32) : Int32 × RS := p_X9_append_L31 (yU Y 2 (s_X7_addFourBytes (Y 2) x2)) x1 x2 x3 x4 x5
theorem g_X9_append_L23 {l : Launch} {K : gK} {Γ : gT} {A : Nat → Nat → Nat} (C : Cx l K Γ RX9 cX9_append 6 (some .int) 2) (Y : RS) (x1 : Int32) (x2 : Int32) (x3 : Int32) (x4 : Int32) (x5 : Int32) : G l K Γ (ro_W K A Y) 23 6 [(0, .ref (A 4 0)), (1, .int x1), (2, .int x2), (3, .int x3), (4, .int x4), (5, .int x5)] [] (fun (z : Int32 × RS) => (some (.int z.1), ro_W K A z.2)) (p_X9_append_L23 Y x1 x2 x3 x4 x5) := by
  unfold p_X9_append_L23
  refine G_aload_n C 0 dX9_append_23 rfl ?_
  refine G_get C 0 4 dX9_append_24 inlX9 uf_X9_47 rfl (by decide) rfl rfl rfl ?_
  refine G_iload_n C 2 dX9_append_27 rfl ?_
  refine G_callVv C 25 7 kd_X7_addFourBytes ui_X7_addFourBytes us_X7_addFourBytes um_X9_74 rfl rfl (Ct.chunk1 (cs := ro_C K A Y) (cs' := ro_C K A (yU Y 2 (s_X7_addFourBytes (Y 2) x2))) 2 rfl rfl (Ct.right _ (Ct.right _ (c_X7_addFourBytes l K (A 2) (Y 2) x2)))) dX9_append_28 rfl rfl (Nat.le_of_ble_eq_true rfl) (Nat.le_of_ble_eq_true rfl) ?_
  refine G_sub [0, 1, 2, 3, 4, 5] rfl ?_
  exact g_X9_append_L31 C (yU Y 2 (s_X7_addFourBytes (Y 2) x2)) x1 x2 x3 x4 x5
def p_X9_append (Y : RS) (x1 : Int32) (x2 : Int32) (x3 : Int32) (x4 : Int32) (x5 : Int32) : Int32 × RS := if 1180 < (Y 2 1 0) then (-1, Y) else p_X9_append_L23 (yU Y 2 (s_X7_addFourBytes (Y 2) x1)) x1 x2 x3 x4 x5
theorem c_X9_append (l : Launch) (K : gK) (A : Nat → Nat → Nat) (Y : RS) (x1 : Int32) (x2 : Int32) (x3 : Int32) (x4 : Int32) (x5 : Int32) : Ct l K yX9_append cX9_append 6 (some .int) 2 [.ref (A 4 0), .int x1, .int x2, .int x3, .int x4, .int x5] (ro_W K A Y) (some (.int (p_X9_append Y x1 x2 x3 x4 x5).1), ro_W K A ((p_X9_append Y x1 x2 x3 x4 x5).2)) := by
  refine Ct.of (own := RX9) (fun (z : Int32 × RS) => (some (.int z.1), ro_W K A z.2)) (x := p_X9_append Y x1 x2 x3 x4 x5) (by decide) rfl (Nat.le_of_ble_eq_true rfl) (fun Γ C => ?_)
  unfold p_X9_append
  refine G_aload_n C 0 dX9_append_0 rfl ?_
  refine G_get C 0 4 dX9_append_1 inlX9 uf_X9_47 rfl (by decide) rfl rfl rfl ?_
  refine G_get C 25 1 dX9_append_4 inlX7 uf_X9_71 rfl (by decide) rfl rfl rfl ?_
  refine G_sipush C dX9_append_7 (v := 1180) rfl ?_
  refine G_icmp_le C 15 dX9_append_10 rfl (fun h1 => ?_) (fun h1 => ?_)
  · refine G_iconst C dX9_append_13 (v := -1) rfl ?_
    exact G_iret C dX9_append_14 rfl
  · refine G_aload_n C 0 dX9_append_15 rfl ?_
    refine G_get C 0 4 dX9_append_16 inlX9 uf_X9_47 rfl (by decide) rfl rfl rfl ?_
    refine G_iload_n C 1 dX9_append_19 rfl ?_
    refine G_callVv C 25 7 kd_X7_addFourBytes ui_X7_addFourBytes us_X7_addFourBytes um_X9_74 rfl rfl (Ct.chunk1 (cs := ro_C K A Y) (cs' := ro_C K A (yU Y 2 (s_X7_addFourBytes (Y 2) x1))) 2 rfl rfl (Ct.right _ (Ct.right _ (c_X7_addFourBytes l K (A 2) (Y 2) x1)))) dX9_append_20 rfl rfl (Nat.le_of_ble_eq_true rfl) (Nat.le_of_ble_eq_true rfl) ?_
    refine G_sub [0, 1, 2, 3, 4, 5] rfl ?_
    exact g_X9_append_L23 C (yU Y 2 (s_X7_addFourBytes (Y 2) x1)) x1 x2 x3 x4 x5
/-! X9_truncate -/
theorem kd_X9_truncate : Card yX9_truncate cX9_truncate 2 (some .int) 1 := ⟨uc_X9_truncate, un_X9, ⟨by decide, by decide, by decide⟩, by decide⟩
def p_X9_truncate_L30 (Y : RS) (x1 : Int32) : Int32 × RS := (Y 2 1 0, Y)
theorem g_X9_truncate_L30 {l : Launch} {K : gK} {Γ : gT} {A : Nat → Nat → Nat} (C : Cx l K Γ RX9 cX9_truncate 2 (some .int) 0) (Y : RS) (x1 : Int32) : G l K Γ (ro_W K A Y) 30 2 [(0, .ref (A 4 0)), (1, .int x1)] [] (fun (z : Int32 × RS) => (some (.int z.1), ro_W K A z.2)) (p_X9_truncate_L30 Y x1) := by
  unfold p_X9_truncate_L30
  refine G_aload_n C 0 dX9_truncate_30 rfl ?_
  refine G_get C 0 4 dX9_truncate_31 inlX9 uf_X9_47 rfl (by decide) rfl rfl rfl ?_
  refine G_get C 25 1 dX9_truncate_34 inlX7 uf_X9_71 rfl (by decide) rfl rfl rfl ?_
  exact G_iret C dX9_truncate_37 rfl
def p_X9_truncate (Y : RS) (x1 : Int32) : Int32 × RS := if x1 < 0 then (-1, Y) else if (Y 2 1 0) < x1 then (-1, Y) else p_X9_truncate_L30 (yL Y 2 ((Y 2 1 0) - x1)) x1
theorem c_X9_truncate (l : Launch) (K : gK) (A : Nat → Nat → Nat) (Y : RS) (x1 : Int32) : Ct l K yX9_truncate cX9_truncate 2 (some .int) 0 [.ref (A 4 0), .int x1] (ro_W K A Y) (some (.int (p_X9_truncate Y x1).1), ro_W K A ((p_X9_truncate Y x1).2)) := by
  refine Ct.of (own := RX9) (fun (z : Int32 × RS) => (some (.int z.1), ro_W K A z.2)) (x := p_X9_truncate Y x1) (by decide) rfl (Nat.le_of_ble_eq_true rfl) (fun Γ C => ?_)
  unfold p_X9_truncate
  refine G_iload_n C 1 dX9_truncate_0 rfl ?_
  refine G_if_lt C 15 dX9_truncate_1 rfl (fun h1 => ?_) (fun h1 => ?_)
  · refine G_iconst C dX9_truncate_15 (v := -1) rfl ?_
    exact G_iret C dX9_truncate_16 rfl
  · refine G_iload_n C 1 dX9_truncate_4 rfl ?_
    refine G_aload_n C 0 dX9_truncate_5 rfl ?_
    refine G_get C 0 4 dX9_truncate_6 inlX9 uf_X9_47 rfl (by decide) rfl rfl rfl ?_
    refine G_get C 25 1 dX9_truncate_9 inlX7 uf_X9_71 rfl (by decide) rfl rfl rfl ?_
    refine G_icmp_le C 17 dX9_truncate_12 rfl (fun h2 => ?_) (fun h2 => ?_)
    · refine G_iconst C dX9_truncate_15 (v := -1) rfl ?_
      exact G_iret C dX9_truncate_16 rfl
    · refine G_aload_n C 0 dX9_truncate_17 rfl ?_
      refine G_get C 0 4 dX9_truncate_18 inlX9 uf_X9_47 rfl (by decide) rfl rfl rfl ?_
      refine G_dup C dX9_truncate_21 rfl ?_
      refine G_get C 25 1 dX9_truncate_22 inlX7 uf_X9_71 rfl (by decide) rfl rfl rfl ?_
      refine G_iload_n C 1 dX9_truncate_25 rfl ?_
      refine G_isub C dX9_truncate_26 ?_
      refine G_put (ws' := ro_W K A (yL Y 2 ((Y 2 1 0) - x1))) C 25 1 tyX7 .int dX9_truncate_27 inlX7 uf_X9_71 tyX7_ok nmX7 rfl (by decide) rfl rfl rfl rfl rfl rfl (Nat.le_of_ble_eq_true rfl) rfl ?_
      refine G_sub [0, 1] rfl ?_
      exact g_X9_truncate_L30 C (yL Y 2 ((Y 2 1 0) - x1)) x1
/-! X9_load -/
theorem kd_X9_load : Card yX9_load cX9_load 1 (some .int) 0 := ⟨uc_X9_load, un_X9, ⟨by decide, by decide, by decide⟩, by decide⟩
def p_X9_load_L58 (Y : RS) : Int32 × RS := (Y 0 18 2, Y)
theorem g_X9_load_L58 {l : Launch} {K : gK} {Γ : gT} {A : Nat → Nat → Nat} (C : Cx l K Γ RX9 cX9_load 1 (some .int) 12) (Y : RS) : G l K Γ (ro_W K A Y) 58 1 [(0, .ref (A 4 0))] [] (fun (z : Int32 × RS) => (some (.int z.1), ro_W K A z.2)) (p_X9_load_L58 Y) := by
  unfold p_X9_load_L58
  refine G_aload_n C 0 dX9_load_58 rfl ?_
  refine G_get C 0 0 dX9_load_59 inlX9 uf_X9_10 rfl (by decide) rfl rfl rfl ?_
  refine G_get C 1 2 dX9_load_62 inlX6 uf_X9_89 rfl (by decide) rfl rfl rfl ?_
  refine G_get C 4 8 dX9_load_65 inlX2 uf_X9_93 rfl (by decide) rfl rfl rfl ?_
  exact G_iret C dX9_load_68 rfl
def p_X9_load_L51 (Y : RS) : Int32 × RS := p_X9_load_L58 (s_X0_forget Y)
theorem g_X9_load_L51 {l : Launch} {K : gK} {Γ : gT} {A : Nat → Nat → Nat} (C : Cx l K Γ RX9 cX9_load 1 (some .int) 12) (Y : RS) : G l K Γ (ro_W K A Y) 51 1 [(0, .ref (A 4 0))] [] (fun (z : Int32 × RS) => (some (.int z.1), ro_W K A z.2)) (p_X9_load_L51 Y) := by
  unfold p_X9_load_L51
  refine G_aload_n C 0 dX9_load_51 rfl ?_
  refine G_get C 0 1 dX9_load_52 inlX9 uf_X9_19 rfl (by decide) rfl rfl rfl ?_
  refine G_callVv C 51 0 kd_X0_forget ui_X0_forget us_X0_forget um_X9_88 rfl rfl (c_X0_forget l K A Y) dX9_load_55 rfl rfl (Nat.le_of_ble_eq_true rfl) (Nat.le_of_ble_eq_true rfl) ?_
  refine G_sub [0] rfl ?_
  exact g_X9_load_L58 C (s_X0_forget Y)
def p_X9_load_L44 (Y : RS) : Int32 × RS := p_X9_load_L51 (s_X5_forget Y)
theorem g_X9_load_L44 {l : Launch} {K : gK} {Γ : gT} {A : Nat → Nat → Nat} (C : Cx l K Γ RX9 cX9_load 1 (some .int) 12) (Y : RS) : G l K Γ (ro_W K A Y) 44 1 [(0, .ref (A 4 0))] [] (fun (z : Int32 × RS) => (some (.int z.1), ro_W K A z.2)) (p_X9_load_L44 Y) := by
  unfold p_X9_load_L44
  refine G_aload_n C 0 dX9_load_44 rfl ?_
  refine G_get C 0 2 dX9_load_45 inlX9 uf_X9_26 rfl (by decide) rfl rfl rfl ?_
  refine G_callVv C 53 5 kd_X5_forget ui_X5_forget us_X5_forget um_X9_85 rfl rfl (c_X5_forget l K A Y) dX9_load_48 rfl rfl (Nat.le_of_ble_eq_true rfl) (Nat.le_of_ble_eq_true rfl) ?_
  refine G_sub [0] rfl ?_
  exact g_X9_load_L51 C (s_X5_forget Y)
def p_X9_load_L19 (Y : RS) : Int32 × RS := if (Y 4 0 0) = (-2) then p_X9_load_L44 (yU Y 0 (Y 1)) else (-1, Y)
theorem g_X9_load_L19 {l : Launch} {K : gK} {Γ : gT} {A : Nat → Nat → Nat} (C : Cx l K Γ RX9 cX9_load 1 (some .int) 12) (Y : RS) : G l K Γ (ro_W K A Y) 19 1 [(0, .ref (A 4 0))] [] (fun (z : Int32 × RS) => (some (.int z.1), ro_W K A z.2)) (p_X9_load_L19 Y) := by
  unfold p_X9_load_L19
  refine G_aload_n C 0 dX9_load_19 rfl ?_
  refine G_get C 0 7 dX9_load_20 inlX9 uf_X9_64 rfl (by decide) rfl rfl rfl ?_
  refine G_bipush C dX9_load_23 (v := -2) rfl ?_
  refine G_icmp_eq C 30 dX9_load_25 rfl (fun h1 => ?_) (fun h1 => ?_)
  · refine G_aload_n C 0 dX9_load_30 rfl ?_
    refine G_get C 0 0 dX9_load_31 inlX9 uf_X9_10 rfl (by decide) rfl rfl rfl ?_
    refine G_aload_n C 0 dX9_load_34 rfl ?_
    refine G_get C 0 3 dX9_load_35 inlX9 uf_X9_33 rfl (by decide) rfl rfl rfl ?_
    refine G_get C 23 1 dX9_load_38 inlX4 uf_X9_50 rfl (by decide) rfl rfl rfl ?_
    refine G_callVv C 1 6 kd_X6_copyFrom ui_X6_copyFrom us_X6_copyFrom um_X9_81 rfl rfl (c_fromDraft l K A Y) dX9_load_41 rfl rfl (Nat.le_of_ble_eq_true rfl) (Nat.le_of_ble_eq_true rfl) ?_
    refine G_sub [0] rfl ?_
    exact g_X9_load_L44 C (yU Y 0 (Y 1))
  · refine G_iconst C dX9_load_28 (v := -1) rfl ?_
    exact G_iret C dX9_load_29 rfl
def p_X9_load_L11 (Y : RS) : Int32 × RS := p_X9_load_L19 (yL Y 2 0)
theorem g_X9_load_L11 {l : Launch} {K : gK} {Γ : gT} {A : Nat → Nat → Nat} (C : Cx l K Γ RX9 cX9_load 1 (some .int) 12) (Y : RS) : G l K Γ (ro_W K A Y) 11 1 [(0, .ref (A 4 0))] [] (fun (z : Int32 × RS) => (some (.int z.1), ro_W K A z.2)) (p_X9_load_L11 Y) := by
  unfold p_X9_load_L11
  refine G_aload_n C 0 dX9_load_11 rfl ?_
  refine G_get C 0 4 dX9_load_12 inlX9 uf_X9_47 rfl (by decide) rfl rfl rfl ?_
  refine G_iconst C dX9_load_15 (v := 0) rfl ?_
  refine G_put (ws' := ro_W K A (yL Y 2 0)) C 25 1 tyX7 .int dX9_load_16 inlX7 uf_X9_71 tyX7_ok nmX7 rfl (by decide) rfl rfl rfl rfl rfl rfl (Nat.le_of_ble_eq_true rfl) rfl ?_
  refine G_sub [0] rfl ?_
  exact g_X9_load_L19 C (yL Y 2 0)
def p_X9_load_L8 (Y : RS) (t0 : Int32) : Int32 × RS := p_X9_load_L11 (yF Y 0 t0)
theorem g_X9_load_L8 {l : Launch} {K : gK} {Γ : gT} {A : Nat → Nat → Nat} (C : Cx l K Γ RX9 cX9_load 1 (some .int) 12) (Y : RS) (t0 : Int32) : G l K Γ (ro_W K A Y) 8 1 [(0, .ref (A 4 0))] [.int t0, .ref (A 4 0)] (fun (z : Int32 × RS) => (some (.int z.1), ro_W K A z.2)) (p_X9_load_L8 Y t0) := by
  unfold p_X9_load_L8
  refine G_put (ws' := ro_W K A (yF Y 0 t0)) C 0 7 tyX9 .int dX9_load_8 inlX9 uf_X9_64 tyX9_ok nmX9 rfl (by decide) rfl rfl rfl rfl rfl rfl (Nat.le_of_ble_eq_true rfl) rfl ?_
  refine G_sub [0] rfl ?_
  exact g_X9_load_L11 C (yF Y 0 t0)
def p_X9_load (Y : RS) : Int32 × RS := p_X9_load_L8 (yP Y (p_X4_parse (Y 4 1, Y 4 0 1, Y 1) (Y 2)).2) ((p_X4_parse (Y 4 1, Y 4 0 1, Y 1) (Y 2)).1)
theorem c_X9_load (l : Launch) (K : gK) (A : Nat → Nat → Nat) (Y : RS) : Ct l K yX9_load cX9_load 1 (some .int) 12 [.ref (A 4 0)] (ro_W K A Y) (some (.int (p_X9_load Y).1), ro_W K A ((p_X9_load Y).2)) := by
  refine Ct.of (own := RX9) (fun (z : Int32 × RS) => (some (.int z.1), ro_W K A z.2)) (x := p_X9_load Y) (by decide) rfl (Nat.le_of_ble_eq_true rfl) (fun Γ C => ?_)
  unfold p_X9_load
  refine G_aload_n C 0 dX9_load_0 rfl ?_
  refine G_aload_n C 0 dX9_load_1 rfl ?_
  refine G_get C 0 3 dX9_load_2 inlX9 uf_X9_33 rfl (by decide) rfl rfl rfl ?_
  refine G_callVi C 23 4 kd_X4_parse ui_X4_parse us_X4_parse um_X9_77 rfl rfl (Ct.chunk2 (cs := ro_C K A Y) (cs' := ro_C K A (yP Y (p_X4_parse (Y 4 1, Y 4 0 1, Y 1) (Y 2)).2)) 2 3 (by decide) rfl rfl rfl (c_X4_parse l K (A 2) (A 1) (Y 4 1, Y 4 0 1, Y 1) (Y 2))) dX9_load_5 rfl rfl (Nat.le_of_ble_eq_true rfl) (Nat.le_of_ble_eq_true rfl) ?_
  refine G_sub [0] rfl ?_
  exact g_X9_load_L8 C (yP Y (p_X4_parse (Y 4 1, Y 4 0 1, Y 1) (Y 2)).2) ((p_X4_parse (Y 4 1, Y 4 0 1, Y 1) (Y 2)).1)
/-! X9_errorPosition -/
theorem kd_X9_errorPosition : Card yX9_errorPosition cX9_errorPosition 1 (some .int) 0 := ⟨uc_X9_errorPosition, un_X9, ⟨by decide, by decide, by decide⟩, by decide⟩
def v_X9_errorPosition (Y : RS) : Int32 := Y 4 0 0
theorem c_X9_errorPosition (l : Launch) (K : gK) (A : Nat → Nat → Nat) (Y : RS) : Ct l K yX9_errorPosition cX9_errorPosition 1 (some .int) 0 [.ref (A 4 0)] (ro_W K A Y) (some (.int (v_X9_errorPosition Y)), ro_W K A Y) := by
  refine Ct.of (own := RX9) (fun z => (some (.int z), ro_W K A Y)) (x := v_X9_errorPosition Y) (by decide) rfl (Nat.le_of_ble_eq_true rfl) (fun Γ C => ?_)
  unfold v_X9_errorPosition
  refine G_aload_n C 0 dX9_errorPosition_0 rfl ?_
  refine G_get C 0 7 dX9_errorPosition_1 inlX9 uf_X9_64 rfl (by decide) rfl rfl rfl ?_
  exact G_iret C dX9_errorPosition_4 rfl
/-! X9_letter -/
theorem kd_X9_letter : Card yX9_letter cX9_letter 5 (some .int) 3 := ⟨uc_X9_letter, un_X9, ⟨by decide, by decide, by decide⟩, by decide⟩
def p_X9_letter_L106 (Y : RS) (x1 : Int32) (x2 : Int32) (x3 : Int32) : Int32 × RS := (at_ 10 (Y 0 7) x1, Y)
theorem g_X9_letter_L106 {l : Launch} {K : gK} {Γ : gT} {A : Nat → Nat → Nat} (C : Cx l K Γ RX9 cX9_letter 5 (some .int) 6) (Y : RS) (x1 : Int32) (x2 : Int32) (x3 : Int32) : G l K Γ (ro_W K A Y) 106 5 [(0, .ref (A 4 0)), (1, .int x1), (2, .int x2), (3, .int x3), (4, .ref (A 0 3))] [] (fun (z : Int32 × RS) => (some (.int z.1), ro_W K A z.2)) (p_X9_letter_L106 Y x1 x2 x3) := by
  unfold p_X9_letter_L106
  refine G_aload C 4 dX9_letter_106 rfl ?_
  refine G_get C 4 5 dX9_letter_108 inlX2 uf_X9_106 rfl (by decide) rfl rfl rfl ?_
  refine G_iload_n C 1 dX9_letter_111 rfl ?_
  refine G_callSi C kd_X9_at ut_X9_at um_X9_110 (c_at l K (ws := ro_W K A Y) (q0 := 10) (n := 10) (g := Y 0 7) (ad := (A 0 9)) (by decide) rfl x1) dX9_letter_112 rfl rfl (Nat.le_of_ble_eq_true rfl) (Nat.le_of_ble_eq_true rfl) ?_
  exact G_iret C dX9_letter_115 rfl
def p_X9_letter_L93 (Y : RS) (x1 : Int32) (x2 : Int32) (x3 : Int32) : Int32 × RS := p_X9_letter_L106 (yU Y 0 (s_X1_add (Y 0) 0 x1 x3)) x1 x2 x3
theorem g_X9_letter_L93 {l : Launch} {K : gK} {Γ : gT} {A : Nat → Nat → Nat} (C : Cx l K Γ RX9 cX9_letter 5 (some .int) 6) (Y : RS) (x1 : Int32) (x2 : Int32) (x3 : Int32) : G l K Γ (ro_W K A Y) 93 5 [(0, .ref (A 4 0)), (1, .int x1), (2, .int x2), (3, .int x3), (4, .ref (A 0 3))] [] (fun (z : Int32 × RS) => (some (.int z.1), ro_W K A z.2)) (p_X9_letter_L93 Y x1 x2 x3) := by
  unfold p_X9_letter_L93
  refine G_aload_n C 0 dX9_letter_93 rfl ?_
  refine G_get C 0 0 dX9_letter_94 inlX9 uf_X9_10 rfl (by decide) rfl rfl rfl ?_
  refine G_get C 1 4 dX9_letter_97 inlX6 uf_X9_128 rfl (by decide) rfl rfl rfl ?_
  refine G_iconst C dX9_letter_100 (v := 0) rfl ?_
  refine G_iload_n C 1 dX9_letter_101 rfl ?_
  refine G_iload_n C 3 dX9_letter_102 rfl ?_
  refine G_callVv C 19 1 kd_X1_add ui_X1_add us_X1_add um_X9_132 rfl rfl (Ct.chunk1 (cs := ro_C K A Y) (cs' := ro_C K A (yU Y 0 (s_X1_add (Y 0) 0 x1 x3))) 1 rfl (ro_u0 K A Y _) (c_X1_add l K (A 0) (Y 0) 0 x1 x3)) dX9_letter_103 rfl rfl (Nat.le_of_ble_eq_true rfl) (Nat.le_of_ble_eq_true rfl) ?_
  refine G_sub [0, 1, 2, 3, 4] rfl ?_
  exact g_X9_letter_L106 C (yU Y 0 (s_X1_add (Y 0) 0 x1 x3)) x1 x2 x3
def p_X9_letter_L82 (Y : RS) (x1 : Int32) (x2 : Int32) (x3 : Int32) : Int32 × RS := p_X9_letter_L93 (yU Y 0 (sU (Y 0) 1 (raise_ 9 (Y 0 1) 0))) x1 x2 x3
theorem g_X9_letter_L82 {l : Launch} {K : gK} {Γ : gT} {A : Nat → Nat → Nat} (C : Cx l K Γ RX9 cX9_letter 5 (some .int) 6) (Y : RS) (x1 : Int32) (x2 : Int32) (x3 : Int32) : G l K Γ (ro_W K A Y) 82 5 [(0, .ref (A 4 0)), (1, .int x1), (2, .int x2), (3, .int x3), (4, .ref (A 0 3))] [] (fun (z : Int32 × RS) => (some (.int z.1), ro_W K A z.2)) (p_X9_letter_L82 Y x1 x2 x3) := by
  unfold p_X9_letter_L82
  refine G_aload_n C 0 dX9_letter_82 rfl ?_
  refine G_get C 0 0 dX9_letter_83 inlX9 uf_X9_10 rfl (by decide) rfl rfl rfl ?_
  refine G_get C 1 1 dX9_letter_86 inlX6 uf_X9_121 rfl (by decide) rfl rfl rfl ?_
  refine G_iconst C dX9_letter_89 (v := 0) rfl ?_
  refine G_callSv C kd_X9_raise ut_X9_raise um_X9_124 (Ct.to (r' := (none, ro_W K A (yU Y 0 (sU (Y 0) 1 (raise_ 9 (Y 0 1) 0))))) (c_raise l K (ws := ro_W K A Y) (q0 := 3) (n := 9) (g := Y 0 1) (ad := (A 0 2)) (by decide) rfl 0) rfl) dX9_letter_90 rfl rfl (Nat.le_of_ble_eq_true rfl) (Nat.le_of_ble_eq_true rfl) ?_
  refine G_sub [0, 1, 2, 3, 4] rfl ?_
  exact g_X9_letter_L93 C (yU Y 0 (sU (Y 0) 1 (raise_ 9 (Y 0 1) 0))) x1 x2 x3
def p_X9_letter_L74 (Y : RS) (x1 : Int32) (x2 : Int32) (x3 : Int32) : Int32 × RS := p_X9_letter_L82 (yU Y 0 (s_X2_addLetter (Y 0) x1 x2 x3)) x1 x2 x3
theorem g_X9_letter_L74 {l : Launch} {K : gK} {Γ : gT} {A : Nat → Nat → Nat} (C : Cx l K Γ RX9 cX9_letter 5 (some .int) 6) (Y : RS) (x1 : Int32) (x2 : Int32) (x3 : Int32) : G l K Γ (ro_W K A Y) 74 5 [(0, .ref (A 4 0)), (1, .int x1), (2, .int x2), (3, .int x3), (4, .ref (A 0 3))] [] (fun (z : Int32 × RS) => (some (.int z.1), ro_W K A z.2)) (p_X9_letter_L74 Y x1 x2 x3) := by
  unfold p_X9_letter_L74
  refine G_aload C 4 dX9_letter_74 rfl ?_
  refine G_iload_n C 1 dX9_letter_76 rfl ?_
  refine G_iload_n C 2 dX9_letter_77 rfl ?_
  refine G_iload_n C 3 dX9_letter_78 rfl ?_
  refine G_callVv C 4 2 kd_X2_addLetter ui_X2_addLetter us_X2_addLetter um_X9_117 rfl rfl (Ct.chunk1 (cs := ro_C K A Y) (cs' := ro_C K A (yU Y 0 (s_X2_addLetter (Y 0) x1 x2 x3))) 1 rfl (ro_u0 K A Y _) (c_X2_addLetter l K (A 0) (Y 0) x1 x2 x3)) dX9_letter_79 rfl rfl (Nat.le_of_ble_eq_true rfl) (Nat.le_of_ble_eq_true rfl) ?_
  refine G_sub [0, 1, 2, 3, 4] rfl ?_
  exact g_X9_letter_L82 C (yU Y 0 (s_X2_addLetter (Y 0) x1 x2 x3)) x1 x2 x3
def p_X9_letter (Y : RS) (x1 : Int32) (x2 : Int32) (x3 : Int32) : Int32 × RS := if (v_X2_has (Y 0) x1) = 0 then (-1, Y) else if (v_X2_has (Y 0) x2) = 0 then (-1, Y) else if x1 = x2 then (-1, Y) else if (v_X9_isWithin x3 1 9) = 0 then (-1, Y) else if (at_ 10 (Y 0 7) x1) < 6 then p_X9_letter_L74 (s_X0_remember Y) x1 x2 x3 else (-3, Y)
theorem c_X9_letter (l : Launch) (K : gK) (A : Nat → Nat → Nat) (Y : RS) (x1 : Int32) (x2 : Int32) (x3 : Int32) : Ct l K yX9_letter cX9_letter 5 (some .int) 6 [.ref (A 4 0), .int x1, .int x2, .int x3] (ro_W K A Y) (some (.int (p_X9_letter Y x1 x2 x3).1), ro_W K A ((p_X9_letter Y x1 x2 x3).2)) := by
  refine Ct.of (own := RX9) (fun (z : Int32 × RS) => (some (.int z.1), ro_W K A z.2)) (x := p_X9_letter Y x1 x2 x3) (by decide) rfl (Nat.le_of_ble_eq_true rfl) (fun Γ C => ?_)
  unfold p_X9_letter
  refine G_aload_n C 0 dX9_letter_0 rfl ?_
  refine G_get C 0 0 dX9_letter_1 inlX9 uf_X9_10 rfl (by decide) rfl rfl rfl ?_
  refine G_get C 1 2 dX9_letter_4 inlX6 uf_X9_89 rfl (by decide) rfl rfl rfl ?_
  refine G_astore (lv' := [(4, .ref (A 0 3)), (0, .ref (A 4 0)), (1, .int x1), (2, .int x2), (3, .int x3)]) C dX9_letter_7 (by decide) rfl ?_
  refine G_aload C 0 dX9_letter_9 rfl ?_
  refine G_iload_n C 2 dX9_letter_11 rfl ?_
  refine G_callVi C 4 2 kd_X2_has ui_X2_has us_X2_has um_X9_98 rfl rfl (Ct.chunk1 (cs := ro_C K A Y) (cs' := ro_C K A Y) 1 rfl rfl (c_X2_has l K (A 0) (Y 0) x1)) dX9_letter_12 rfl rfl (Nat.le_of_ble_eq_true rfl) (Nat.le_of_ble_eq_true rfl) ?_
  refine G_if_eq C 32 dX9_letter_15 rfl (fun h1 => ?_) (fun h1 => ?_)
  · refine G_iconst C dX9_letter_32 (v := -1) rfl ?_
    exact G_iret C dX9_letter_33 rfl
  · refine G_aload C 0 dX9_letter_18 rfl ?_
    refine G_iload_n C 3 dX9_letter_20 rfl ?_
    refine G_callVi C 4 2 kd_X2_has ui_X2_has us_X2_has um_X9_98 rfl rfl (Ct.chunk1 (cs := ro_C K A Y) (cs' := ro_C K A Y) 1 rfl rfl (c_X2_has l K (A 0) (Y 0) x2)) dX9_letter_21 rfl rfl (Nat.le_of_ble_eq_true rfl) (Nat.le_of_ble_eq_true rfl) ?_
    refine G_if_eq C 32 dX9_letter_24 rfl (fun h2 => ?_) (fun h2 => ?_)
    · refine G_iconst C dX9_letter_32 (v := -1) rfl ?_
      exact G_iret C dX9_letter_33 rfl
    · refine G_iload_n C 2 dX9_letter_27 rfl ?_
      refine G_iload_n C 3 dX9_letter_28 rfl ?_
      refine G_icmp_ne C 34 dX9_letter_29 rfl (fun h3 => ?_) (fun h3 => ?_)
      · refine G_iconst C dX9_letter_32 (v := -1) rfl ?_
        exact G_iret C dX9_letter_33 rfl
      · refine G_iload_n C 4 dX9_letter_34 rfl ?_
        refine G_iconst C dX9_letter_35 (v := 1) rfl ?_
        refine G_bipush C dX9_letter_36 (v := 9) rfl ?_
        refine G_callSi C kd_X9_isWithin ut_X9_isWithin um_X9_102 (c_X9_isWithin l K (ro_W K A Y) x3 1 9) dX9_letter_38 rfl rfl (Nat.le_of_ble_eq_true rfl) (Nat.le_of_ble_eq_true rfl) ?_
        refine G_if_ne C 46 dX9_letter_41 rfl (fun h4 => ?_) (fun h4 => ?_)
        · refine G_iconst C dX9_letter_44 (v := -1) rfl ?_
          exact G_iret C dX9_letter_45 rfl
        · refine G_aload C 0 dX9_letter_46 rfl ?_
          refine G_get C 4 5 dX9_letter_48 inlX2 uf_X9_106 rfl (by decide) rfl rfl rfl ?_
          refine G_iload_n C 2 dX9_letter_51 rfl ?_
          refine G_callSi C kd_X9_at ut_X9_at um_X9_110 (c_at l K (ws := ro_W K A Y) (q0 := 10) (n := 10) (g := Y 0 7) (ad := (A 0 9)) (by decide) rfl x1) dX9_letter_52 rfl rfl (Nat.le_of_ble_eq_true rfl) (Nat.le_of_ble_eq_true rfl) ?_
          refine G_bipush C dX9_letter_55 (v := 6) rfl ?_
          refine G_icmp_lt C 63 dX9_letter_57 rfl (fun h5 => ?_) (fun h5 => ?_)
          · refine G_aload_n C 1 dX9_letter_63 rfl ?_
            refine G_get C 0 1 dX9_letter_64 inlX9 uf_X9_19 rfl (by decide) rfl rfl rfl ?_
            refine G_aload_n C 1 dX9_letter_67 rfl ?_
            refine G_get C 0 0 dX9_letter_68 inlX9 uf_X9_10 rfl (by decide) rfl rfl rfl ?_
            refine G_callVv C 51 0 kd_X0_remember ui_X0_remember us_X0_remember um_X9_114 rfl rfl (c_X0_remember l K A Y) dX9_letter_71 rfl rfl (Nat.le_of_ble_eq_true rfl) (Nat.le_of_ble_eq_true rfl) ?_
            refine G_sub [1, 2, 3, 4, 0] rfl ?_
            exact g_X9_letter_L74 C (s_X0_remember Y) x1 x2 x3
          · refine G_bipush C dX9_letter_60 (v := -3) rfl ?_
            exact G_iret C dX9_letter_62 rfl
