-- PART 08: the reference (by gen/mkmodel.py)
def gin (i : Int32) (n : Nat) : Bool := decide (¬ i < 0) && decide (i.toNatClampNeg < n)
theorem gin_in {i : Int32} {n : Nat} (h : gin i n = true) : vp_in i n := by
  unfold gin at h
  rw [Bool.and_eq_true, decide_eq_true_eq, decide_eq_true_eq] at h
  rintro (q | q)
  · exact h.1 q
  · omega
def mW (K : gK) (ws : va_W) (q ad n : Nat) (g : Nat → Int32) : va_W := ws.set q (ad, .inl (K.2 0, n, .inl g))
theorem mW_at {K : gK} {ws : va_W} {q ad n : Nat} {g : Nat → Int32} (hq : q < ws.length) : (mW K ws q ad n g)[q]? = some (ad, .inl (K.2 0, n, .inl g)) := List.getElem?_set_self hq
theorem mW_at0 {K : gK} {ws : va_W} {q ad n q0 ad0 n0 : Nat} {f g : Nat → Int32} (_ : q < ws.length) (h0 : ws[q0]? = some (ad0, .inl (K.2 0, n0, .inl f))) (hne : q ≠ q0) : (mW K ws q ad n g)[q0]? = some (ad0, .inl (K.2 0, n0, .inl f)) := (List.getElem?_set_ne hne).trans h0
theorem mW_set {K : gK} {ws : va_W} {q ad n : Nat} {g g1 e : Nat → Int32} (h : e = g1) : (mW K ws q ad n g).set q (ad, .inl (K.2 0, n, .inl e)) = mW K ws q ad n g1 := by
  subst h
  exact List.set_set ..
/-- the reference's world: X 0 now, 1 draft, 2 spare, 3 earlier, 4 slots, 5 isKept, 6 tape, 7 out, 8 undos, length, error, thrown, at, begin, kind, value, fails, written -/
def mo_W (K : gK) (b : Nat → Nat) (X : SM) : va_W := [(b 0, .inr (10, [.ref (b 1), .ref (b 2), .ref (b 3), .ref (b 4), .ref (b 5), .ref (b 6), .int (X 8 0), .ref (b 7), .int (X 8 1), .int (X 8 2), .int (X 8 3), .int (X 8 4), .int (X 8 5), .int (X 8 6), .int (X 8 7), .int (X 8 8), .ref (b 8), .int (X 8 9)])),
  (b 1, .inl (K.2 0, 336, .inl (X 0))), (b 2, .inl (K.2 0, 336, .inl (X 1))), (b 3, .inl (K.2 0, 336, .inl (X 2))), (b 4, .inl (K.2 0, 2688, .inl (X 3))), (b 5, .inl (K.2 0, 672, .inl (X 4))), (b 6, .inl (K.2 2, 2, .inl (X 5))), (b 7, .inl (K.2 0, 1200, .inl (X 6))), (b 8, .inl (K.2 0, 1300, .inl (X 7)))]
def GO {α : Type} (l : Launch) (K : gK) (Γ : gT) (ws : va_W) (pc nL : Nat) (lv : List (Nat × Value)) (st : List Value) (κ : α → gR) (x : Option α) : Prop := ∀ r, x = some r → G l K Γ ws pc nL lv st κ r
def jshr (a b : Int32) : Int32 := a >>> (b &&& 31)
section GO1
variable {α β : Type} {l : Launch} {K : gK} {Γ : gT} {own : String} {cc : ByteArray} {nL : Nat} {ret : Option FieldType} {h : Nat} {ws ws' : va_W} {pc pc' : Nat} {lv lv' : List (Nat × Value)} {st st' : List Value} {κ : α → gR} {x : Option α}
theorem GO.out {r : α} (k : GO l K Γ ws pc nL lv st κ x) (hr : x = some r) : G l K Γ ws pc nL lv st κ r := k r hr
theorem GO.lift (f : ∀ r : α, G l K Γ ws' pc' nL lv' st' κ r → G l K Γ ws pc nL lv st κ r) (k : GO l K Γ ws' pc' nL lv' st' κ x) : GO l K Γ ws pc nL lv st κ x := fun r hr => f r (k r hr)
theorem GO.fin {v : α} (k : G l K Γ ws pc nL lv st κ v) : GO l K Γ ws pc nL lv st κ (some v) := by
  intro r hr
  cases hr
  exact k
theorem GO.guard {c : Prop} [Decidable c] (k : c → GO l K Γ ws pc nL lv st κ x) : GO l K Γ ws pc nL lv st κ (if c then x else none) := by
  intro r hr
  by_cases hc : c
  · rw [if_pos hc] at hr
    exact k hc r hr
  · rw [if_neg hc] at hr
    cases hr
theorem GO.ite {c : Prop} [Decidable c] {y : Option α} (ky : c → GO l K Γ ws pc nL lv st κ x) (kn : ¬ c → GO l K Γ ws pc nL lv st κ y) : GO l K Γ ws pc nL lv st κ (if c then x else y) := by
  intro r hr
  by_cases hc : c
  · rw [if_pos hc] at hr
    exact ky hc r hr
  · rw [if_neg hc] at hr
    exact kn hc r hr
theorem GO.letS {e : β} {f : β → Option α} (k : ∀ g1, e = g1 → GO l K Γ ws pc nL lv st κ (f g1)) : GO l K Γ ws pc nL lv st κ (lt1 e f) := k e rfl
theorem GO.bind {y : Option β} {f : β → Option α} (k : ∀ r, y = some r → GO l K Γ ws pc nL lv st κ (f r)) : GO l K Γ ws pc nL lv st κ (y.bind f) := by
  intro r hr
  cases hy : y with
  | none => rw [hy] at hr; cases hr
  | some z => rw [hy] at hr; exact k z hy r hr
theorem GO.sub (ks : List Nat) {lv' : List (Nat × Value)} (hl' : lv_pick lv ks = lv') (k : GO l K Γ ws pc nL lv' st κ x) : GO l K Γ ws pc nL lv st κ x := fun r hr => G_sub ks hl' (k r hr)

theorem GO_if_eq (C : Cx l K Γ own cc nL ret h) {a : Int32} {off : Int} (tgt : Nat) {y : Option α} (hdg : decode cc pc = .ok (.ifCond .eq off, 3)) (ht : (pc : Int) + off = (tgt : Int)) (ky : a = 0 → GO l K Γ ws tgt nL lv st κ x) (kn : ¬ (a = 0) → GO l K Γ ws (pc + 3) nL lv st κ y) : GO l K Γ ws pc nL lv (.int a :: st) κ (if a = 0 then x else y) := by
  intro r hr
  have z := G_if_eq (x := r) (y := r) C tgt hdg ht (fun h => ky h r (by rw [if_pos h] at hr; exact hr)) (fun h => kn h r (by rw [if_neg h] at hr; exact hr))
  rwa [ite_self] at z
theorem GO_icmp_eq (C : Cx l K Γ own cc nL ret h) {a b : Int32} {off : Int} (tgt : Nat) {y : Option α} (hdg : decode cc pc = .ok (.if_icmp .eq off, 3)) (ht : (pc : Int) + off = (tgt : Int)) (ky : a = b → GO l K Γ ws tgt nL lv st κ x) (kn : ¬ (a = b) → GO l K Γ ws (pc + 3) nL lv st κ y) : GO l K Γ ws pc nL lv (.int b :: .int a :: st) κ (if a = b then x else y) := by
  intro r hr
  have z := G_icmp_eq (x := r) (y := r) C tgt hdg ht (fun h => ky h r (by rw [if_pos h] at hr; exact hr)) (fun h => kn h r (by rw [if_neg h] at hr; exact hr))
  rwa [ite_self] at z
theorem GO_if_ne (C : Cx l K Γ own cc nL ret h) {a : Int32} {off : Int} (tgt : Nat) {y : Option α} (hdg : decode cc pc = .ok (.ifCond .ne off, 3)) (ht : (pc : Int) + off = (tgt : Int)) (ky : a = 0 → GO l K Γ ws (pc + 3) nL lv st κ x) (kn : ¬ (a = 0) → GO l K Γ ws tgt nL lv st κ y) : GO l K Γ ws pc nL lv (.int a :: st) κ (if a = 0 then x else y) := by
  intro r hr
  have z := G_if_ne (x := r) (y := r) C tgt hdg ht (fun h => ky h r (by rw [if_pos h] at hr; exact hr)) (fun h => kn h r (by rw [if_neg h] at hr; exact hr))
  rwa [ite_self] at z
theorem GO_icmp_ne (C : Cx l K Γ own cc nL ret h) {a b : Int32} {off : Int} (tgt : Nat) {y : Option α} (hdg : decode cc pc = .ok (.if_icmp .ne off, 3)) (ht : (pc : Int) + off = (tgt : Int)) (ky : a = b → GO l K Γ ws (pc + 3) nL lv st κ x) (kn : ¬ (a = b) → GO l K Γ ws tgt nL lv st κ y) : GO l K Γ ws pc nL lv (.int b :: .int a :: st) κ (if a = b then x else y) := by
  intro r hr
  have z := G_icmp_ne (x := r) (y := r) C tgt hdg ht (fun h => ky h r (by rw [if_pos h] at hr; exact hr)) (fun h => kn h r (by rw [if_neg h] at hr; exact hr))
  rwa [ite_self] at z
theorem GO_if_lt (C : Cx l K Γ own cc nL ret h) {a : Int32} {off : Int} (tgt : Nat) {y : Option α} (hdg : decode cc pc = .ok (.ifCond .lt off, 3)) (ht : (pc : Int) + off = (tgt : Int)) (ky : a < 0 → GO l K Γ ws tgt nL lv st κ x) (kn : ¬ (a < 0) → GO l K Γ ws (pc + 3) nL lv st κ y) : GO l K Γ ws pc nL lv (.int a :: st) κ (if a < 0 then x else y) := by
  intro r hr
  have z := G_if_lt (x := r) (y := r) C tgt hdg ht (fun h => ky h r (by rw [if_pos h] at hr; exact hr)) (fun h => kn h r (by rw [if_neg h] at hr; exact hr))
  rwa [ite_self] at z
theorem GO_icmp_lt (C : Cx l K Γ own cc nL ret h) {a b : Int32} {off : Int} (tgt : Nat) {y : Option α} (hdg : decode cc pc = .ok (.if_icmp .lt off, 3)) (ht : (pc : Int) + off = (tgt : Int)) (ky : a < b → GO l K Γ ws tgt nL lv st κ x) (kn : ¬ (a < b) → GO l K Γ ws (pc + 3) nL lv st κ y) : GO l K Γ ws pc nL lv (.int b :: .int a :: st) κ (if a < b then x else y) := by
  intro r hr
  have z := G_icmp_lt (x := r) (y := r) C tgt hdg ht (fun h => ky h r (by rw [if_pos h] at hr; exact hr)) (fun h => kn h r (by rw [if_neg h] at hr; exact hr))
  rwa [ite_self] at z
theorem GO_if_ge (C : Cx l K Γ own cc nL ret h) {a : Int32} {off : Int} (tgt : Nat) {y : Option α} (hdg : decode cc pc = .ok (.ifCond .ge off, 3)) (ht : (pc : Int) + off = (tgt : Int)) (ky : a < 0 → GO l K Γ ws (pc + 3) nL lv st κ x) (kn : ¬ (a < 0) → GO l K Γ ws tgt nL lv st κ y) : GO l K Γ ws pc nL lv (.int a :: st) κ (if a < 0 then x else y) := by
  intro r hr
  have z := G_if_ge (x := r) (y := r) C tgt hdg ht (fun h => ky h r (by rw [if_pos h] at hr; exact hr)) (fun h => kn h r (by rw [if_neg h] at hr; exact hr))
  rwa [ite_self] at z
theorem GO_icmp_ge (C : Cx l K Γ own cc nL ret h) {a b : Int32} {off : Int} (tgt : Nat) {y : Option α} (hdg : decode cc pc = .ok (.if_icmp .ge off, 3)) (ht : (pc : Int) + off = (tgt : Int)) (ky : a < b → GO l K Γ ws (pc + 3) nL lv st κ x) (kn : ¬ (a < b) → GO l K Γ ws tgt nL lv st κ y) : GO l K Γ ws pc nL lv (.int b :: .int a :: st) κ (if a < b then x else y) := by
  intro r hr
  have z := G_icmp_ge (x := r) (y := r) C tgt hdg ht (fun h => ky h r (by rw [if_pos h] at hr; exact hr)) (fun h => kn h r (by rw [if_neg h] at hr; exact hr))
  rwa [ite_self] at z
theorem GO_if_gt (C : Cx l K Γ own cc nL ret h) {a : Int32} {off : Int} (tgt : Nat) {y : Option α} (hdg : decode cc pc = .ok (.ifCond .gt off, 3)) (ht : (pc : Int) + off = (tgt : Int)) (ky : 0 < a → GO l K Γ ws tgt nL lv st κ x) (kn : ¬ (0 < a) → GO l K Γ ws (pc + 3) nL lv st κ y) : GO l K Γ ws pc nL lv (.int a :: st) κ (if 0 < a then x else y) := by
  intro r hr
  have z := G_if_gt (x := r) (y := r) C tgt hdg ht (fun h => ky h r (by rw [if_pos h] at hr; exact hr)) (fun h => kn h r (by rw [if_neg h] at hr; exact hr))
  rwa [ite_self] at z
theorem GO_icmp_gt (C : Cx l K Γ own cc nL ret h) {a b : Int32} {off : Int} (tgt : Nat) {y : Option α} (hdg : decode cc pc = .ok (.if_icmp .gt off, 3)) (ht : (pc : Int) + off = (tgt : Int)) (ky : b < a → GO l K Γ ws tgt nL lv st κ x) (kn : ¬ (b < a) → GO l K Γ ws (pc + 3) nL lv st κ y) : GO l K Γ ws pc nL lv (.int b :: .int a :: st) κ (if b < a then x else y) := by
  intro r hr
  have z := G_icmp_gt (x := r) (y := r) C tgt hdg ht (fun h => ky h r (by rw [if_pos h] at hr; exact hr)) (fun h => kn h r (by rw [if_neg h] at hr; exact hr))
  rwa [ite_self] at z
theorem GO_if_le (C : Cx l K Γ own cc nL ret h) {a : Int32} {off : Int} (tgt : Nat) {y : Option α} (hdg : decode cc pc = .ok (.ifCond .le off, 3)) (ht : (pc : Int) + off = (tgt : Int)) (ky : 0 < a → GO l K Γ ws (pc + 3) nL lv st κ x) (kn : ¬ (0 < a) → GO l K Γ ws tgt nL lv st κ y) : GO l K Γ ws pc nL lv (.int a :: st) κ (if 0 < a then x else y) := by
  intro r hr
  have z := G_if_le (x := r) (y := r) C tgt hdg ht (fun h => ky h r (by rw [if_pos h] at hr; exact hr)) (fun h => kn h r (by rw [if_neg h] at hr; exact hr))
  rwa [ite_self] at z
theorem GO_icmp_le (C : Cx l K Γ own cc nL ret h) {a b : Int32} {off : Int} (tgt : Nat) {y : Option α} (hdg : decode cc pc = .ok (.if_icmp .le off, 3)) (ht : (pc : Int) + off = (tgt : Int)) (ky : b < a → GO l K Γ ws (pc + 3) nL lv st κ x) (kn : ¬ (b < a) → GO l K Γ ws tgt nL lv st κ y) : GO l K Γ ws pc nL lv (.int b :: .int a :: st) κ (if b < a then x else y) := by
  intro r hr
  have z := G_icmp_le (x := r) (y := r) C tgt hdg ht (fun h => ky h r (by rw [if_pos h] at hr; exact hr)) (fun h => kn h r (by rw [if_neg h] at hr; exact hr))
  rwa [ite_self] at z
end GO1
theorem kd_X10_in : Card yX10_in cX10_in 3 (some .boolean) 3 := ⟨uc_X10_in, un_X10, ⟨by decide, by decide, by decide⟩, by decide⟩
def v_X10_in (x0 : Int32) (x1 : Int32) (x2 : Int32) : Int32 := if x0 < x1 then 0 else if x2 < x0 then 0 else 1
theorem c_X10_in (l : Launch) (K : gK) (ws : va_W) (x0 : Int32) (x1 : Int32) (x2 : Int32) : Ct l K yX10_in cX10_in 3 (some .boolean) 0 [.int x0, .int x1, .int x2] (ws) (some (.int (v_X10_in x0 x1 x2)), ws) := by
  refine Ct.of (own := RX10) (fun z => (some (.int z), ws)) (x := v_X10_in x0 x1 x2) (by decide) rfl (Nat.le_of_ble_eq_true rfl) (fun Γ C => ?_)
  unfold v_X10_in
  refine G_iload_n C 1 dX10_in_0 rfl ?_
  refine G_iload_n C 0 dX10_in_1 rfl ?_
  refine G_icmp_gt C 14 dX10_in_2 rfl (fun h1 => ?_) (fun h1 => ?_)
  · refine G_iconst C dX10_in_14 (v := 0) rfl ?_
    exact G_zret C dX10_in_15 rfl rfl
  · refine G_iload_n C 0 dX10_in_5 rfl ?_
    refine G_iload_n C 2 dX10_in_6 rfl ?_
    refine G_icmp_gt C 14 dX10_in_7 rfl (fun h2 => ?_) (fun h2 => ?_)
    · refine G_iconst C dX10_in_14 (v := 0) rfl ?_
      exact G_zret C dX10_in_15 rfl rfl
    · refine G_iconst C dX10_in_10 (v := 1) rfl ?_
      refine G_goto C 15 dX10_in_11 rfl ?_
      exact G_zret C dX10_in_15 rfl rfl
theorem bz_X10_in (x0 : Int32) (x1 : Int32) (x2 : Int32) : narrow .boolean (.int (v_X10_in x0 x1 x2)) = .int (v_X10_in x0 x1 x2) := by
  unfold v_X10_in
  repeat' split
  all_goals first | rfl | exact bz_X10_in ..
theorem kd_X10_officeAt : Card yX10_officeAt cX10_officeAt 2 (some .int) 2 := ⟨uc_X10_officeAt, un_X10, ⟨by decide, by decide, by decide⟩, by decide⟩
def v_X10_officeAt (x0 : Int32) (x1 : Int32) : Int32 := (17 + (18 * x0)) + x1
theorem c_X10_officeAt (l : Launch) (K : gK) (ws : va_W) (x0 : Int32) (x1 : Int32) : Ct l K yX10_officeAt cX10_officeAt 2 (some .int) 0 [.int x0, .int x1] (ws) (some (.int (v_X10_officeAt x0 x1)), ws) := by
  refine Ct.of (own := RX10) (fun z => (some (.int z), ws)) (x := v_X10_officeAt x0 x1) (by decide) rfl (Nat.le_of_ble_eq_true rfl) (fun Γ C => ?_)
  unfold v_X10_officeAt
  refine G_bipush C dX10_officeAt_0 (v := 17) rfl ?_
  refine G_bipush C dX10_officeAt_2 (v := 18) rfl ?_
  refine G_iload_n C 0 dX10_officeAt_4 rfl ?_
  refine G_imul C dX10_officeAt_5 ?_
  refine G_iadd C dX10_officeAt_6 ?_
  refine G_iload_n C 1 dX10_officeAt_7 rfl ?_
  refine G_iadd C dX10_officeAt_8 ?_
  exact G_iret C dX10_officeAt_9 rfl
theorem kd_X10_letterAt : Card yX10_letterAt cX10_letterAt 3 (some .int) 3 := ⟨uc_X10_letterAt, un_X10, ⟨by decide, by decide, by decide⟩, by decide⟩
def v_X10_letterAt (x0 : Int32) (x1 : Int32) (x2 : Int32) : Int32 := v_X10_officeAt x0 ((6 + (2 * x1)) + x2)
theorem c_X10_letterAt (l : Launch) (K : gK) (ws : va_W) (x0 : Int32) (x1 : Int32) (x2 : Int32) : Ct l K yX10_letterAt cX10_letterAt 3 (some .int) 1 [.int x0, .int x1, .int x2] (ws) (some (.int (v_X10_letterAt x0 x1 x2)), ws) := by
  refine Ct.of (own := RX10) (fun z => (some (.int z), ws)) (x := v_X10_letterAt x0 x1 x2) (by decide) rfl (Nat.le_of_ble_eq_true rfl) (fun Γ C => ?_)
  unfold v_X10_letterAt
  refine G_iload_n C 0 dX10_letterAt_0 rfl ?_
  refine G_bipush C dX10_letterAt_1 (v := 6) rfl ?_
  refine G_iconst C dX10_letterAt_3 (v := 2) rfl ?_
  refine G_iload_n C 1 dX10_letterAt_4 rfl ?_
  refine G_imul C dX10_letterAt_5 ?_
  refine G_iadd C dX10_letterAt_6 ?_
  refine G_iload_n C 2 dX10_letterAt_7 rfl ?_
  refine G_iadd C dX10_letterAt_8 ?_
  refine G_callSi C kd_X10_officeAt ut_X10_officeAt um_X10_54 (c_X10_officeAt l K (ws) x0 ((6 + (2 * x1)) + x2)) dX10_letterAt_9 rfl rfl (Nat.le_of_ble_eq_true rfl) (Nat.le_of_ble_eq_true rfl) ?_
  exact G_iret C dX10_letterAt_12 rfl
theorem kd_X10_tokenAt : Card yX10_tokenAt cX10_tokenAt 2 (some .int) 2 := ⟨uc_X10_tokenAt, un_X10, ⟨by decide, by decide, by decide⟩, by decide⟩
def v_X10_tokenAt (x0 : Int32) (x1 : Int32) : Int32 := (197 + (6 * x0)) + x1
theorem c_X10_tokenAt (l : Launch) (K : gK) (ws : va_W) (x0 : Int32) (x1 : Int32) : Ct l K yX10_tokenAt cX10_tokenAt 2 (some .int) 0 [.int x0, .int x1] (ws) (some (.int (v_X10_tokenAt x0 x1)), ws) := by
  refine Ct.of (own := RX10) (fun z => (some (.int z), ws)) (x := v_X10_tokenAt x0 x1) (by decide) rfl (Nat.le_of_ble_eq_true rfl) (fun Γ C => ?_)
  unfold v_X10_tokenAt
  refine G_sipush C dX10_tokenAt_0 (v := 197) rfl ?_
  refine G_bipush C dX10_tokenAt_3 (v := 6) rfl ?_
  refine G_iload_n C 0 dX10_tokenAt_5 rfl ?_
  refine G_imul C dX10_tokenAt_6 ?_
  refine G_iadd C dX10_tokenAt_7 ?_
  refine G_iload_n C 1 dX10_tokenAt_8 rfl ?_
  refine G_iadd C dX10_tokenAt_9 ?_
  exact G_iret C dX10_tokenAt_10 rfl
theorem kd_X10_isAhead : Card yX10_isAhead cX10_isAhead 1 (some .boolean) 1 := ⟨uc_X10_isAhead, un_X10, ⟨by decide, by decide, by decide⟩, by decide⟩
def v_X10_isAhead (x0 : Int32) : Int32 := v_X10_in x0 0 300
theorem c_X10_isAhead (l : Launch) (K : gK) (ws : va_W) (x0 : Int32) : Ct l K yX10_isAhead cX10_isAhead 1 (some .boolean) 1 [.int x0] (ws) (some (.int (v_X10_isAhead x0)), ws) := by
  refine Ct.of (own := RX10) (fun z => (some (.int z), ws)) (x := v_X10_isAhead x0) (by decide) rfl (Nat.le_of_ble_eq_true rfl) (fun Γ C => ?_)
  unfold v_X10_isAhead
  refine G_iload_n C 0 dX10_isAhead_0 rfl ?_
  refine G_iconst C dX10_isAhead_1 (v := 0) rfl ?_
  refine G_sipush C dX10_isAhead_2 (v := 300) rfl ?_
  refine G_callSi C kd_X10_in ut_X10_in um_X10_58 (c_X10_in l K (ws) x0 0 300) dX10_isAhead_5 rfl rfl (Nat.le_of_ble_eq_true rfl) (Nat.le_of_ble_eq_true rfl) ?_
  exact G_zret C dX10_isAhead_8 (bz_X10_in ..) rfl
theorem bz_X10_isAhead (x0 : Int32) : narrow .boolean (.int (v_X10_isAhead x0)) = .int (v_X10_isAhead x0) := by
  unfold v_X10_isAhead
  repeat' split
  all_goals first | rfl | exact bz_X10_in ..
theorem kd_X10_isRule : Card yX10_isRule cX10_isRule 2 (some .boolean) 2 := ⟨uc_X10_isRule, un_X10, ⟨by decide, by decide, by decide⟩, by decide⟩
def v_X10_isRule (x0 : Int32) (x1 : Int32) : Int32 := if x0 = 0 then v_X10_in x1 1 20 else if x0 = 1 then v_X10_in x1 1 99 else if x0 = 2 then v_X10_in x1 1 60 else 0
theorem c_X10_isRule (l : Launch) (K : gK) (ws : va_W) (x0 : Int32) (x1 : Int32) : Ct l K yX10_isRule cX10_isRule 2 (some .boolean) 1 [.int x0, .int x1] (ws) (some (.int (v_X10_isRule x0 x1)), ws) := by
  refine Ct.of (own := RX10) (fun z => (some (.int z), ws)) (x := v_X10_isRule x0 x1) (by decide) rfl (Nat.le_of_ble_eq_true rfl) (fun Γ C => ?_)
  unfold v_X10_isRule
  refine G_iload_n C 0 dX10_isRule_0 rfl ?_
  refine G_ite (fun h1 => ?_) (fun h1 => ?_)
  · refine G_tswIn (v := 0) C 28 0 dX10_isRule_1 h1 rfl (by decide) rfl rfl ?_
    refine G_iload_n C 1 dX10_isRule_28 rfl ?_
    refine G_iconst C dX10_isRule_29 (v := 1) rfl ?_
    refine G_bipush C dX10_isRule_30 (v := 20) rfl ?_
    refine G_callSi C kd_X10_in ut_X10_in um_X10_58 (c_X10_in l K (ws) x1 1 20) dX10_isRule_32 rfl rfl (Nat.le_of_ble_eq_true rfl) (Nat.le_of_ble_eq_true rfl) ?_
    exact G_zret C dX10_isRule_35 (bz_X10_in ..) rfl
  · skip
    refine G_ite (fun h2 => ?_) (fun h2 => ?_)
    · refine G_tswIn (v := 1) C 36 1 dX10_isRule_1 h2 rfl (by decide) rfl rfl ?_
      refine G_iload_n C 1 dX10_isRule_36 rfl ?_
      refine G_iconst C dX10_isRule_37 (v := 1) rfl ?_
      refine G_bipush C dX10_isRule_38 (v := 99) rfl ?_
      refine G_callSi C kd_X10_in ut_X10_in um_X10_58 (c_X10_in l K (ws) x1 1 99) dX10_isRule_40 rfl rfl (Nat.le_of_ble_eq_true rfl) (Nat.le_of_ble_eq_true rfl) ?_
      exact G_zret C dX10_isRule_43 (bz_X10_in ..) rfl
    · skip
      refine G_ite (fun h3 => ?_) (fun h3 => ?_)
      · refine G_tswIn (v := 2) C 44 2 dX10_isRule_1 h3 rfl (by decide) rfl rfl ?_
        refine G_iload_n C 1 dX10_isRule_44 rfl ?_
        refine G_iconst C dX10_isRule_45 (v := 1) rfl ?_
        refine G_bipush C dX10_isRule_46 (v := 60) rfl ?_
        refine G_callSi C kd_X10_in ut_X10_in um_X10_58 (c_X10_in l K (ws) x1 1 60) dX10_isRule_48 rfl rfl (Nat.le_of_ble_eq_true rfl) (Nat.le_of_ble_eq_true rfl) ?_
        exact G_zret C dX10_isRule_51 (bz_X10_in ..) rfl
      · skip
        refine G_tswOut C 52 dX10_isRule_1 (by have q0 := i32_ne h1 (n := 0) rfl; have q1 := i32_ne h2 (n := 1) rfl; have q2 := i32_ne h3 (n := 2) rfl; omega) rfl ?_
        refine G_iconst C dX10_isRule_52 (v := 0) rfl ?_
        exact G_zret C dX10_isRule_53 rfl rfl
theorem bz_X10_isRule (x0 : Int32) (x1 : Int32) : narrow .boolean (.int (v_X10_isRule x0 x1)) = .int (v_X10_isRule x0 x1) := by
  unfold v_X10_isRule
  repeat' split
  all_goals first | rfl | exact bz_X10_in ..
theorem kd_X10_isTold : Card yX10_isTold cX10_isTold 1 (some .boolean) 1 := ⟨uc_X10_isTold, un_X10, ⟨by decide, by decide, by decide⟩, by decide⟩
def v_X10_isTold (x0 : Int32) : Int32 := v_X10_in x0 0 5
theorem c_X10_isTold (l : Launch) (K : gK) (ws : va_W) (x0 : Int32) : Ct l K yX10_isTold cX10_isTold 1 (some .boolean) 1 [.int x0] (ws) (some (.int (v_X10_isTold x0)), ws) := by
  refine Ct.of (own := RX10) (fun z => (some (.int z), ws)) (x := v_X10_isTold x0) (by decide) rfl (Nat.le_of_ble_eq_true rfl) (fun Γ C => ?_)
  unfold v_X10_isTold
  refine G_iload_n C 0 dX10_isTold_0 rfl ?_
  refine G_iconst C dX10_isTold_1 (v := 0) rfl ?_
  refine G_iconst C dX10_isTold_2 (v := 5) rfl ?_
  refine G_callSi C kd_X10_in ut_X10_in um_X10_58 (c_X10_in l K (ws) x0 0 5) dX10_isTold_3 rfl rfl (Nat.le_of_ble_eq_true rfl) (Nat.le_of_ble_eq_true rfl) ?_
  exact G_zret C dX10_isTold_6 (bz_X10_in ..) rfl
theorem bz_X10_isTold (x0 : Int32) : narrow .boolean (.int (v_X10_isTold x0)) = .int (v_X10_isTold x0) := by
  unfold v_X10_isTold
  repeat' split
  all_goals first | rfl | exact bz_X10_in ..
/-! X10_layRow -/
theorem kd_X10_layRow : Card yX10_layRow cX10_layRow 5 none 4 := ⟨uc_X10_layRow, un_X10, ⟨by decide, by decide, by decide⟩, by decide⟩
def o_X10_layRow1_L3 (n : Nat) : Nat → (Nat → Int32) → Int32 → Int32 → Int32 → Option ((Nat → Int32))
  | 0, _, _, _, _ => none
  | fuel + 1, g, x1, x3, x4 => if x4 < 336 then if gin (x1 + x4) n = true then (if gin (x3 + x4) n = true then (lt1 (upd g (x3 + x4).toNatClampNeg (g (x1 + x4).toNatClampNeg)) (fun r1 => o_X10_layRow1_L3 n fuel r1 x1 x3 (x4 + 1))) else none) else none else some g
theorem g_X10_layRow1_L3 {l : Launch} {K : gK} {Γ : gT} {ws : va_W} {q ad : Nat} (hq : q < ws.length) (n : Nat) (C : Cx l K Γ RX10 cX10_layRow 5 none 0) : ∀ (k : Nat) (g : Nat → Int32) (x1 : Int32) (x3 : Int32) (x4 : Int32), GO l K Γ (mW K ws q ad n g) 3 5 [(0, .ref ad), (1, .int x1), (2, .ref ad), (3, .int x3), (4, .int x4)] [] (fun z => (none, mW K ws q ad n z)) (o_X10_layRow1_L3 n k g x1 x3 x4) := by
  intro k
  induction k with
  | zero =>
    intro g x1 x3 x4
    exact fun r hr => nomatch hr
  | succ k ih =>
    intro g x1 x3 x4
    rw [o_X10_layRow1_L3]
    refine GO.lift (fun _ => G_iload C 4 dX10_layRow_3 rfl) ?_
    refine GO.lift (fun _ => G_sipush C dX10_layRow_5 (v := 336) rfl) ?_
    refine GO_icmp_ge C 29 dX10_layRow_8 rfl (fun h1 => ?_) (fun h1 => ?_)
    · refine GO.lift (fun _ => G_aload_n C 2 dX10_layRow_11 rfl) ?_
      refine GO.lift (fun _ => G_iload_n C 3 dX10_layRow_12 rfl) ?_
      refine GO.lift (fun _ => G_iload C 4 dX10_layRow_13 rfl) ?_
      refine GO.lift (fun _ => G_iadd C dX10_layRow_15) ?_
      refine GO.lift (fun _ => G_aload_n C 0 dX10_layRow_16 rfl) ?_
      refine GO.lift (fun _ => G_iload_n C 1 dX10_layRow_17 rfl) ?_
      refine GO.lift (fun _ => G_iload C 4 dX10_layRow_18 rfl) ?_
      refine GO.lift (fun _ => G_iadd C dX10_layRow_20) ?_
      refine GO.guard (fun h2 => ?_)
      refine GO.lift (fun _ => G_iald C q dX10_layRow_21 (mW_at hq) (gin_in h2)) ?_
      refine GO.guard (fun h3 => ?_)
      refine GO.letS (fun r1 hr1 => ?_)
      refine GO.lift (fun _ => G_iast (ws' := mW K ws q ad n r1) C q dX10_layRow_22 (mW_at hq) (gin_in h3) (mW_set hr1)) ?_
      refine GO.lift (fun _ => G_iinc (lv' := [(4, .int (x4 + 1)), (0, .ref ad), (1, .int x1), (2, .ref ad), (3, .int x3)]) C 4 dX10_layRow_23 rfl rfl (by decide) rfl) ?_
      refine GO.lift (fun _ => G_goto C 3 dX10_layRow_26 rfl) ?_
      refine GO.sub [1, 2, 3, 4, 0] rfl ?_
      exact ih r1 x1 x3 (x4 + 1)
    · exact GO.fin (G_vret C dX10_layRow_29 rfl)
def o_X10_layRow1 (n : Nat) (g : Nat → Int32) (x1 : Int32) (x3 : Int32) : Option ((Nat → Int32)) := o_X10_layRow1_L3 n 4000 g x1 x3 0
theorem c_X10_layRow1 (l : Launch) (K : gK) {ws : va_W} {q ad : Nat} (hq : q < ws.length) (n : Nat) (g : Nat → Int32) (x1 : Int32) (x3 : Int32) (r : (Nat → Int32)) (hr : o_X10_layRow1 n g x1 x3 = some r) : Ct l K yX10_layRow cX10_layRow 5 none 0 [.ref ad, .int x1, .ref ad, .int x3] (mW K ws q ad n g) (none, mW K ws q ad n r) := by
  refine Ct.of (own := RX10) (fun z => (none, mW K ws q ad n z)) (x := r) (by decide) rfl (Nat.le_of_ble_eq_true rfl) (fun Γ C => GO.out (x := o_X10_layRow1 n g x1 x3) ?_ hr)
  unfold o_X10_layRow1
  refine GO.lift (fun _ => G_iconst C dX10_layRow_0 (v := 0) rfl) ?_
  refine GO.lift (fun _ => G_istore (lv' := [(4, .int 0), (0, .ref ad), (1, .int x1), (2, .ref ad), (3, .int x3)]) C dX10_layRow_1 (by decide) rfl) ?_
  refine GO.sub [1, 2, 3, 4, 0] rfl ?_
  exact g_X10_layRow1_L3 hq n C _ g x1 x3 0
/-! X10_layRow -/
def o_X10_layRow2_L3 (n : Nat) (n0 : Nat) (f : Nat → Int32) : Nat → (Nat → Int32) → Int32 → Int32 → Int32 → Option ((Nat → Int32))
  | 0, _, _, _, _ => none
  | fuel + 1, g, x1, x3, x4 => if x4 < 336 then if gin (x1 + x4) n0 = true then (if gin (x3 + x4) n = true then (lt1 (upd g (x3 + x4).toNatClampNeg (f (x1 + x4).toNatClampNeg)) (fun r1 => o_X10_layRow2_L3 n n0 f fuel r1 x1 x3 (x4 + 1))) else none) else none else some g
theorem g_X10_layRow2_L3 {l : Launch} {K : gK} {Γ : gT} {ws : va_W} {q ad q0 ad0 : Nat} (hq : q < ws.length) (n : Nat) (n0 : Nat) (f : Nat → Int32) (C : Cx l K Γ RX10 cX10_layRow 5 none 0) (h0 : ws[q0]? = some (ad0, .inl (K.2 0, n0, .inl f))) (hne : q ≠ q0) : ∀ (k : Nat) (g : Nat → Int32) (x1 : Int32) (x3 : Int32) (x4 : Int32), GO l K Γ (mW K ws q ad n g) 3 5 [(0, .ref ad0), (1, .int x1), (2, .ref ad), (3, .int x3), (4, .int x4)] [] (fun z => (none, mW K ws q ad n z)) (o_X10_layRow2_L3 n n0 f k g x1 x3 x4) := by
  intro k
  induction k with
  | zero =>
    intro g x1 x3 x4
    exact fun r hr => nomatch hr
  | succ k ih =>
    intro g x1 x3 x4
    rw [o_X10_layRow2_L3]
    refine GO.lift (fun _ => G_iload C 4 dX10_layRow_3 rfl) ?_
    refine GO.lift (fun _ => G_sipush C dX10_layRow_5 (v := 336) rfl) ?_
    refine GO_icmp_ge C 29 dX10_layRow_8 rfl (fun h1 => ?_) (fun h1 => ?_)
    · refine GO.lift (fun _ => G_aload_n C 2 dX10_layRow_11 rfl) ?_
      refine GO.lift (fun _ => G_iload_n C 3 dX10_layRow_12 rfl) ?_
      refine GO.lift (fun _ => G_iload C 4 dX10_layRow_13 rfl) ?_
      refine GO.lift (fun _ => G_iadd C dX10_layRow_15) ?_
      refine GO.lift (fun _ => G_aload_n C 0 dX10_layRow_16 rfl) ?_
      refine GO.lift (fun _ => G_iload_n C 1 dX10_layRow_17 rfl) ?_
      refine GO.lift (fun _ => G_iload C 4 dX10_layRow_18 rfl) ?_
      refine GO.lift (fun _ => G_iadd C dX10_layRow_20) ?_
      refine GO.guard (fun h2 => ?_)
      refine GO.lift (fun _ => G_iald C q0 dX10_layRow_21 (mW_at0 hq h0 hne) (gin_in h2)) ?_
      refine GO.guard (fun h3 => ?_)
      refine GO.letS (fun r1 hr1 => ?_)
      refine GO.lift (fun _ => G_iast (ws' := mW K ws q ad n r1) C q dX10_layRow_22 (mW_at hq) (gin_in h3) (mW_set hr1)) ?_
      refine GO.lift (fun _ => G_iinc (lv' := [(4, .int (x4 + 1)), (0, .ref ad0), (1, .int x1), (2, .ref ad), (3, .int x3)]) C 4 dX10_layRow_23 rfl rfl (by decide) rfl) ?_
      refine GO.lift (fun _ => G_goto C 3 dX10_layRow_26 rfl) ?_
      refine GO.sub [1, 2, 3, 4, 0] rfl ?_
      exact ih r1 x1 x3 (x4 + 1)
    · exact GO.fin (G_vret C dX10_layRow_29 rfl)
def o_X10_layRow2 (n : Nat) (n0 : Nat) (f : Nat → Int32) (g : Nat → Int32) (x1 : Int32) (x3 : Int32) : Option ((Nat → Int32)) := o_X10_layRow2_L3 n n0 f 4000 g x1 x3 0
theorem c_X10_layRow2 (l : Launch) (K : gK) {ws : va_W} {q ad q0 ad0 : Nat} (hq : q < ws.length) (n : Nat) (n0 : Nat) (f : Nat → Int32) (h0 : ws[q0]? = some (ad0, .inl (K.2 0, n0, .inl f))) (hne : q ≠ q0) (g : Nat → Int32) (x1 : Int32) (x3 : Int32) (r : (Nat → Int32)) (hr : o_X10_layRow2 n n0 f g x1 x3 = some r) : Ct l K yX10_layRow cX10_layRow 5 none 0 [.ref ad0, .int x1, .ref ad, .int x3] (mW K ws q ad n g) (none, mW K ws q ad n r) := by
  refine Ct.of (own := RX10) (fun z => (none, mW K ws q ad n z)) (x := r) (by decide) rfl (Nat.le_of_ble_eq_true rfl) (fun Γ C => GO.out (x := o_X10_layRow2 n n0 f g x1 x3) ?_ hr)
  unfold o_X10_layRow2
  refine GO.lift (fun _ => G_iconst C dX10_layRow_0 (v := 0) rfl) ?_
  refine GO.lift (fun _ => G_istore (lv' := [(4, .int 0), (0, .ref ad0), (1, .int x1), (2, .ref ad), (3, .int x3)]) C dX10_layRow_1 (by decide) rfl) ?_
  refine GO.sub [1, 2, 3, 4, 0] rfl ?_
  exact g_X10_layRow2_L3 hq n n0 f C h0 hne _ g x1 x3 0
/-! X10_takesSpare -/
theorem kd_X10_takesSpare : Card yX10_takesSpare cX10_takesSpare 1 none 0 := ⟨uc_X10_takesSpare, un_X10, ⟨by decide, by decide, by decide⟩, by decide⟩
def o_X10_takesSpare (X : SM) : Option (SM) := (o_X10_layRow2 336 336 (X 0) (X 2) 0 0).bind (fun r1 => lt1 (sU X 2 r1) (fun r2 => some r2))
theorem c_X10_takesSpare (l : Launch) (K : gK) (b : Nat → Nat) (X : SM) (r : SM) (hr : o_X10_takesSpare X = some r) : Ct l K yX10_takesSpare cX10_takesSpare 1 none 1 [.ref (b 0)] (mo_W K b X) (none, mo_W K b r) := by
  refine Ct.of (own := RX10) (fun z => (none, mo_W K b z)) (x := r) (by decide) rfl (Nat.le_of_ble_eq_true rfl) (fun Γ C => GO.out (x := o_X10_takesSpare X) ?_ hr)
  unfold o_X10_takesSpare
  refine GO.lift (fun _ => G_aload_n C 0 dX10_takesSpare_0 rfl) ?_
  refine GO.lift (fun _ => G_get C 0 0 dX10_takesSpare_1 inlX10 uf_X10_7 rfl (by decide) rfl rfl rfl) ?_
  refine GO.lift (fun _ => G_iconst C dX10_takesSpare_4 (v := 0) rfl) ?_
  refine GO.lift (fun _ => G_aload_n C 0 dX10_takesSpare_5 rfl) ?_
  refine GO.lift (fun _ => G_get C 0 2 dX10_takesSpare_6 inlX10 uf_X10_16 rfl (by decide) rfl rfl rfl) ?_
  refine GO.lift (fun _ => G_iconst C dX10_takesSpare_9 (v := 0) rfl) ?_
  refine GO.bind (fun r1 hr1 => ?_)
  refine GO.letS (fun r2 hr2 => ?_)
  refine GO.lift (fun _ => G_callSv C kd_X10_layRow ut_X10_layRow um_X10_50 (Ct.to (r' := (none, mo_W K b r2)) (Ct.from (c_X10_layRow2 l K (ws := mo_W K b X) (q := 3) (ad := b 3) (q0 := 1) (ad0 := b 1) (Nat.le_of_ble_eq_true rfl) 336 336 (X 0) rfl (by decide) (X 2) 0 0 r1 hr1) rfl) (by cases hr2; rfl)) dX10_takesSpare_10 rfl rfl (Nat.le_of_ble_eq_true rfl) (Nat.le_of_ble_eq_true rfl)) ?_
  exact GO.fin (G_vret C dX10_takesSpare_13 rfl)
/-! X10_isOffice -/
theorem kd_X10_isOffice : Card yX10_isOffice cX10_isOffice 2 (some .boolean) 1 := ⟨uc_X10_isOffice, un_X10, ⟨by decide, by decide, by decide⟩, by decide⟩
def o_X10_isOffice (X : SM) (x1 : Int32) : Option (Int32) := some (v_X10_in x1 0 (((X 0) (4 : Int32).toNatClampNeg) - 1))
theorem c_X10_isOffice (l : Launch) (K : gK) (b : Nat → Nat) (X : SM) (x1 : Int32) (r : Int32) (hr : o_X10_isOffice X x1 = some r) : Ct l K yX10_isOffice cX10_isOffice 2 (some .boolean) 1 [.ref (b 0), .int x1] (mo_W K b X) (some (.int r), mo_W K b X) := by
  refine Ct.of (own := RX10) (fun z => (some (.int z), mo_W K b X)) (x := r) (by decide) rfl (Nat.le_of_ble_eq_true rfl) (fun Γ C => GO.out (x := o_X10_isOffice X x1) ?_ hr)
  unfold o_X10_isOffice
  refine GO.lift (fun _ => G_iload_n C 1 dX10_isOffice_0 rfl) ?_
  refine GO.lift (fun _ => G_iconst C dX10_isOffice_1 (v := 0) rfl) ?_
  refine GO.lift (fun _ => G_aload_n C 0 dX10_isOffice_2 rfl) ?_
  refine GO.lift (fun _ => G_get C 0 0 dX10_isOffice_3 inlX10 uf_X10_7 rfl (by decide) rfl rfl rfl) ?_
  refine GO.lift (fun _ => G_iconst C dX10_isOffice_6 (v := 4) rfl) ?_
  refine GO.lift (fun _ => G_iald C 1 dX10_isOffice_7 rfl (by unfold vp_in; decide)) ?_
  refine GO.lift (fun _ => G_iconst C dX10_isOffice_8 (v := 1) rfl) ?_
  refine GO.lift (fun _ => G_isub C dX10_isOffice_9) ?_
  refine GO.lift (fun _ => G_callSi C kd_X10_in ut_X10_in um_X10_58 (c_X10_in l K (mo_W K b X) x1 0 (((X 0) (4 : Int32).toNatClampNeg) - 1)) dX10_isOffice_10 rfl rfl (Nat.le_of_ble_eq_true rfl) (Nat.le_of_ble_eq_true rfl)) ?_
  exact GO.fin (G_zret C dX10_isOffice_13 (bz_X10_in ..) rfl)
/-! X10_isToken -/
theorem kd_X10_isToken : Card yX10_isToken cX10_isToken 2 (some .boolean) 1 := ⟨uc_X10_isToken, un_X10, ⟨by decide, by decide, by decide⟩, by decide⟩
def o_X10_isToken (X : SM) (x1 : Int32) : Option (Int32) := some (v_X10_in x1 0 (((X 0) (5 : Int32).toNatClampNeg) - 1))
theorem c_X10_isToken (l : Launch) (K : gK) (b : Nat → Nat) (X : SM) (x1 : Int32) (r : Int32) (hr : o_X10_isToken X x1 = some r) : Ct l K yX10_isToken cX10_isToken 2 (some .boolean) 1 [.ref (b 0), .int x1] (mo_W K b X) (some (.int r), mo_W K b X) := by
  refine Ct.of (own := RX10) (fun z => (some (.int z), mo_W K b X)) (x := r) (by decide) rfl (Nat.le_of_ble_eq_true rfl) (fun Γ C => GO.out (x := o_X10_isToken X x1) ?_ hr)
  unfold o_X10_isToken
  refine GO.lift (fun _ => G_iload_n C 1 dX10_isToken_0 rfl) ?_
  refine GO.lift (fun _ => G_iconst C dX10_isToken_1 (v := 0) rfl) ?_
  refine GO.lift (fun _ => G_aload_n C 0 dX10_isToken_2 rfl) ?_
  refine GO.lift (fun _ => G_get C 0 0 dX10_isToken_3 inlX10 uf_X10_7 rfl (by decide) rfl rfl rfl) ?_
  refine GO.lift (fun _ => G_iconst C dX10_isToken_6 (v := 5) rfl) ?_
  refine GO.lift (fun _ => G_iald C 1 dX10_isToken_7 rfl (by unfold vp_in; decide)) ?_
  refine GO.lift (fun _ => G_iconst C dX10_isToken_8 (v := 1) rfl) ?_
  refine GO.lift (fun _ => G_isub C dX10_isToken_9) ?_
  refine GO.lift (fun _ => G_callSi C kd_X10_in ut_X10_in um_X10_58 (c_X10_in l K (mo_W K b X) x1 0 (((X 0) (5 : Int32).toNatClampNeg) - 1)) dX10_isToken_10 rfl rfl (Nat.le_of_ble_eq_true rfl) (Nat.le_of_ble_eq_true rfl)) ?_
  exact GO.fin (G_zret C dX10_isToken_13 (bz_X10_in ..) rfl)
/-! X10_addOffice -/
theorem kd_X10_addOffice : Card yX10_addOffice cX10_addOffice 6 none 4 := ⟨uc_X10_addOffice, un_X10, ⟨by decide, by decide, by decide⟩, by decide⟩
def o_X10_addOffice_L8 : Nat → (Nat → Int32) → Int32 → Int32 → Int32 → Int32 → Int32 → Option ((Nat → Int32))
  | 0, _, _, _, _, _, _ => none
  | fuel + 1, g, x1, x2, x3, x4, x5 => if x5 < 18 then if gin (v_X10_officeAt x4 x5) 336 = true then (lt1 (upd g (v_X10_officeAt x4 x5).toNatClampNeg 0) (fun r1 => o_X10_addOffice_L8 fuel r1 x1 x2 x3 x4 (x5 + 1))) else none else if gin (v_X10_officeAt x4 0) 336 = true then (lt1 (upd g (v_X10_officeAt x4 0).toNatClampNeg x1) (fun r2 => if gin (v_X10_officeAt x4 1) 336 = true then (lt1 (upd r2 (v_X10_officeAt x4 1).toNatClampNeg x2) (fun r3 => if gin (v_X10_officeAt x4 2) 336 = true then (lt1 (upd r3 (v_X10_officeAt x4 2).toNatClampNeg x3) (fun r4 => lt1 (upd r4 (4 : Int32).toNatClampNeg ((r4 (4 : Int32).toNatClampNeg) + 1)) (fun r5 => some r5))) else none)) else none)) else none
theorem g_X10_addOffice_L8 {l : Launch} {K : gK} {Γ : gT} {ws : va_W} {q ad : Nat} (hq : q < ws.length) (C : Cx l K Γ RX10 cX10_addOffice 6 none 1) : ∀ (k : Nat) (g : Nat → Int32) (x1 : Int32) (x2 : Int32) (x3 : Int32) (x4 : Int32) (x5 : Int32), GO l K Γ (mW K ws q ad 336 g) 8 6 [(0, .ref ad), (1, .int x1), (2, .int x2), (3, .int x3), (4, .int x4), (5, .int x5)] [] (fun z => (none, mW K ws q ad 336 z)) (o_X10_addOffice_L8 k g x1 x2 x3 x4 x5) := by
  intro k
  induction k with
  | zero =>
    intro g x1 x2 x3 x4 x5
    exact fun r hr => nomatch hr
  | succ k ih =>
    intro g x1 x2 x3 x4 x5
    rw [o_X10_addOffice_L8]
    refine GO.lift (fun _ => G_iload C 5 dX10_addOffice_8 rfl) ?_
    refine GO.lift (fun _ => G_bipush C dX10_addOffice_10 (v := 18) rfl) ?_
    refine GO_icmp_ge C 31 dX10_addOffice_12 rfl (fun h1 => ?_) (fun h1 => ?_)
    · refine GO.lift (fun _ => G_aload_n C 0 dX10_addOffice_15 rfl) ?_
      refine GO.lift (fun _ => G_iload C 4 dX10_addOffice_16 rfl) ?_
      refine GO.lift (fun _ => G_iload C 5 dX10_addOffice_18 rfl) ?_
      refine GO.lift (fun _ => G_callSi C kd_X10_officeAt ut_X10_officeAt um_X10_54 (c_X10_officeAt l K (mW K ws q ad 336 g) x4 x5) dX10_addOffice_20 rfl rfl (Nat.le_of_ble_eq_true rfl) (Nat.le_of_ble_eq_true rfl)) ?_
      refine GO.lift (fun _ => G_iconst C dX10_addOffice_23 (v := 0) rfl) ?_
      refine GO.guard (fun h2 => ?_)
      refine GO.letS (fun r1 hr1 => ?_)
      refine GO.lift (fun _ => G_iast (ws' := mW K ws q ad 336 r1) C q dX10_addOffice_24 (mW_at hq) (gin_in h2) (mW_set hr1)) ?_
      refine GO.lift (fun _ => G_iinc (lv' := [(5, .int (x5 + 1)), (0, .ref ad), (1, .int x1), (2, .int x2), (3, .int x3), (4, .int x4)]) C 5 dX10_addOffice_25 rfl rfl (by decide) rfl) ?_
      refine GO.lift (fun _ => G_goto C 8 dX10_addOffice_28 rfl) ?_
      refine GO.sub [1, 2, 3, 4, 5, 0] rfl ?_
      exact ih r1 x1 x2 x3 x4 (x5 + 1)
    · refine GO.lift (fun _ => G_aload_n C 0 dX10_addOffice_31 rfl) ?_
      refine GO.lift (fun _ => G_iload C 4 dX10_addOffice_32 rfl) ?_
      refine GO.lift (fun _ => G_iconst C dX10_addOffice_34 (v := 0) rfl) ?_
      refine GO.lift (fun _ => G_callSi C kd_X10_officeAt ut_X10_officeAt um_X10_54 (c_X10_officeAt l K (mW K ws q ad 336 g) x4 0) dX10_addOffice_35 rfl rfl (Nat.le_of_ble_eq_true rfl) (Nat.le_of_ble_eq_true rfl)) ?_
      refine GO.lift (fun _ => G_iload_n C 1 dX10_addOffice_38 rfl) ?_
      refine GO.guard (fun h3 => ?_)
      refine GO.letS (fun r2 hr2 => ?_)
      refine GO.lift (fun _ => G_iast (ws' := mW K ws q ad 336 r2) C q dX10_addOffice_39 (mW_at hq) (gin_in h3) (mW_set hr2)) ?_
      refine GO.lift (fun _ => G_aload_n C 0 dX10_addOffice_40 rfl) ?_
      refine GO.lift (fun _ => G_iload C 4 dX10_addOffice_41 rfl) ?_
      refine GO.lift (fun _ => G_iconst C dX10_addOffice_43 (v := 1) rfl) ?_
      refine GO.lift (fun _ => G_callSi C kd_X10_officeAt ut_X10_officeAt um_X10_54 (c_X10_officeAt l K (mW K ws q ad 336 r2) x4 1) dX10_addOffice_44 rfl rfl (Nat.le_of_ble_eq_true rfl) (Nat.le_of_ble_eq_true rfl)) ?_
      refine GO.lift (fun _ => G_iload_n C 2 dX10_addOffice_47 rfl) ?_
      refine GO.guard (fun h4 => ?_)
      refine GO.letS (fun r3 hr3 => ?_)
      refine GO.lift (fun _ => G_iast (ws' := mW K ws q ad 336 r3) C q dX10_addOffice_48 (mW_at hq) (gin_in h4) (mW_set hr3)) ?_
      refine GO.lift (fun _ => G_aload_n C 0 dX10_addOffice_49 rfl) ?_
      refine GO.lift (fun _ => G_iload C 4 dX10_addOffice_50 rfl) ?_
      refine GO.lift (fun _ => G_iconst C dX10_addOffice_52 (v := 2) rfl) ?_
      refine GO.lift (fun _ => G_callSi C kd_X10_officeAt ut_X10_officeAt um_X10_54 (c_X10_officeAt l K (mW K ws q ad 336 r3) x4 2) dX10_addOffice_53 rfl rfl (Nat.le_of_ble_eq_true rfl) (Nat.le_of_ble_eq_true rfl)) ?_
      refine GO.lift (fun _ => G_iload_n C 3 dX10_addOffice_56 rfl) ?_
      refine GO.guard (fun h5 => ?_)
      refine GO.letS (fun r4 hr4 => ?_)
      refine GO.lift (fun _ => G_iast (ws' := mW K ws q ad 336 r4) C q dX10_addOffice_57 (mW_at hq) (gin_in h5) (mW_set hr4)) ?_
      refine GO.lift (fun _ => G_aload_n C 0 dX10_addOffice_58 rfl) ?_
      refine GO.lift (fun _ => G_iconst C dX10_addOffice_59 (v := 4) rfl) ?_
      refine GO.lift (fun _ => G_dup2 C dX10_addOffice_60 rfl rfl) ?_
      refine GO.lift (fun _ => G_iald C q dX10_addOffice_61 (mW_at hq) (by unfold vp_in; decide)) ?_
      refine GO.lift (fun _ => G_iconst C dX10_addOffice_62 (v := 1) rfl) ?_
      refine GO.lift (fun _ => G_iadd C dX10_addOffice_63) ?_
      refine GO.letS (fun r5 hr5 => ?_)
      refine GO.lift (fun _ => G_iast (ws' := mW K ws q ad 336 r5) C q dX10_addOffice_64 (mW_at hq) (by unfold vp_in; decide) (mW_set hr5)) ?_
      exact GO.fin (G_vret C dX10_addOffice_65 rfl)
def o_X10_addOffice (g : Nat → Int32) (x1 : Int32) (x2 : Int32) (x3 : Int32) : Option ((Nat → Int32)) := o_X10_addOffice_L8 4000 g x1 x2 x3 (g (4 : Int32).toNatClampNeg) 0
theorem c_X10_addOffice (l : Launch) (K : gK) {ws : va_W} {q ad : Nat} (hq : q < ws.length) (g : Nat → Int32) (x1 : Int32) (x2 : Int32) (x3 : Int32) (r : (Nat → Int32)) (hr : o_X10_addOffice g x1 x2 x3 = some r) : Ct l K yX10_addOffice cX10_addOffice 6 none 1 [.ref ad, .int x1, .int x2, .int x3] (mW K ws q ad 336 g) (none, mW K ws q ad 336 r) := by
  refine Ct.of (own := RX10) (fun z => (none, mW K ws q ad 336 z)) (x := r) (by decide) rfl (Nat.le_of_ble_eq_true rfl) (fun Γ C => GO.out (x := o_X10_addOffice g x1 x2 x3) ?_ hr)
  unfold o_X10_addOffice
  refine GO.lift (fun _ => G_aload_n C 0 dX10_addOffice_0 rfl) ?_
  refine GO.lift (fun _ => G_iconst C dX10_addOffice_1 (v := 4) rfl) ?_
  refine GO.lift (fun _ => G_iald C q dX10_addOffice_2 (mW_at hq) (by unfold vp_in; decide)) ?_
  refine GO.lift (fun _ => G_istore (lv' := [(4, .int (g (4 : Int32).toNatClampNeg)), (0, .ref ad), (1, .int x1), (2, .int x2), (3, .int x3)]) C dX10_addOffice_3 (by decide) rfl) ?_
  refine GO.lift (fun _ => G_iconst C dX10_addOffice_5 (v := 0) rfl) ?_
  refine GO.lift (fun _ => G_istore (lv' := [(5, .int 0), (4, .int (g (4 : Int32).toNatClampNeg)), (0, .ref ad), (1, .int x1), (2, .int x2), (3, .int x3)]) C dX10_addOffice_6 (by decide) rfl) ?_
  refine GO.sub [2, 3, 4, 5, 1, 0] rfl ?_
  exact g_X10_addOffice_L8 hq C _ g x1 x2 x3 (g (4 : Int32).toNatClampNeg) 0
/-! X10_addLetter -/
theorem kd_X10_addLetter : Card yX10_addLetter cX10_addLetter 5 none 4 := ⟨uc_X10_addLetter, un_X10, ⟨by decide, by decide, by decide⟩, by decide⟩
def o_X10_addLetter (g : Nat → Int32) (x1 : Int32) (x2 : Int32) (x3 : Int32) : Option ((Nat → Int32)) := if gin (v_X10_officeAt x1 4) 336 = true then (if gin (v_X10_letterAt x1 (g (v_X10_officeAt x1 4).toNatClampNeg) 0) 336 = true then (lt1 (upd g (v_X10_letterAt x1 (g (v_X10_officeAt x1 4).toNatClampNeg) 0).toNatClampNeg x2) (fun r1 => if gin (v_X10_letterAt x1 (g (v_X10_officeAt x1 4).toNatClampNeg) 1) 336 = true then (lt1 (upd r1 (v_X10_letterAt x1 (g (v_X10_officeAt x1 4).toNatClampNeg) 1).toNatClampNeg x3) (fun r2 => if gin (v_X10_officeAt x1 4) 336 = true then (if gin (v_X10_officeAt x1 4) 336 = true then (lt1 (upd r2 (v_X10_officeAt x1 4).toNatClampNeg ((r2 (v_X10_officeAt x1 4).toNatClampNeg) + 1)) (fun r3 => lt1 (upd r3 (8 : Int32).toNatClampNeg ((r3 (8 : Int32).toNatClampNeg) + 1)) (fun r4 => some r4))) else none) else none)) else none)) else none) else none
theorem c_X10_addLetter (l : Launch) (K : gK) {ws : va_W} {q ad : Nat} (hq : q < ws.length) (g : Nat → Int32) (x1 : Int32) (x2 : Int32) (x3 : Int32) (r : (Nat → Int32)) (hr : o_X10_addLetter g x1 x2 x3 = some r) : Ct l K yX10_addLetter cX10_addLetter 5 none 2 [.ref ad, .int x1, .int x2, .int x3] (mW K ws q ad 336 g) (none, mW K ws q ad 336 r) := by
  refine Ct.of (own := RX10) (fun z => (none, mW K ws q ad 336 z)) (x := r) (by decide) rfl (Nat.le_of_ble_eq_true rfl) (fun Γ C => GO.out (x := o_X10_addLetter g x1 x2 x3) ?_ hr)
  unfold o_X10_addLetter
  refine GO.lift (fun _ => G_aload_n C 0 dX10_addLetter_0 rfl) ?_
  refine GO.lift (fun _ => G_iload_n C 1 dX10_addLetter_1 rfl) ?_
  refine GO.lift (fun _ => G_iconst C dX10_addLetter_2 (v := 4) rfl) ?_
  refine GO.lift (fun _ => G_callSi C kd_X10_officeAt ut_X10_officeAt um_X10_54 (c_X10_officeAt l K (mW K ws q ad 336 g) x1 4) dX10_addLetter_3 rfl rfl (Nat.le_of_ble_eq_true rfl) (Nat.le_of_ble_eq_true rfl)) ?_
  refine GO.guard (fun h1 => ?_)
  refine GO.lift (fun _ => G_iald C q dX10_addLetter_6 (mW_at hq) (gin_in h1)) ?_
  refine GO.lift (fun _ => G_istore (lv' := [(4, .int (g (v_X10_officeAt x1 4).toNatClampNeg)), (0, .ref ad), (1, .int x1), (2, .int x2), (3, .int x3)]) C dX10_addLetter_7 (by decide) rfl) ?_
  refine GO.lift (fun _ => G_aload_n C 1 dX10_addLetter_9 rfl) ?_
  refine GO.lift (fun _ => G_iload_n C 2 dX10_addLetter_10 rfl) ?_
  refine GO.lift (fun _ => G_iload C 0 dX10_addLetter_11 rfl) ?_
  refine GO.lift (fun _ => G_iconst C dX10_addLetter_13 (v := 0) rfl) ?_
  refine GO.lift (fun _ => G_callSi C kd_X10_letterAt ut_X10_letterAt um_X10_62 (c_X10_letterAt l K (mW K ws q ad 336 g) x1 (g (v_X10_officeAt x1 4).toNatClampNeg) 0) dX10_addLetter_14 rfl rfl (Nat.le_of_ble_eq_true rfl) (Nat.le_of_ble_eq_true rfl)) ?_
  refine GO.lift (fun _ => G_iload_n C 3 dX10_addLetter_17 rfl) ?_
  refine GO.guard (fun h2 => ?_)
  refine GO.letS (fun r1 hr1 => ?_)
  refine GO.lift (fun _ => G_iast (ws' := mW K ws q ad 336 r1) C q dX10_addLetter_18 (mW_at hq) (gin_in h2) (mW_set hr1)) ?_
  refine GO.lift (fun _ => G_aload_n C 1 dX10_addLetter_19 rfl) ?_
  refine GO.lift (fun _ => G_iload_n C 2 dX10_addLetter_20 rfl) ?_
  refine GO.lift (fun _ => G_iload C 0 dX10_addLetter_21 rfl) ?_
  refine GO.lift (fun _ => G_iconst C dX10_addLetter_23 (v := 1) rfl) ?_
  refine GO.lift (fun _ => G_callSi C kd_X10_letterAt ut_X10_letterAt um_X10_62 (c_X10_letterAt l K (mW K ws q ad 336 r1) x1 (g (v_X10_officeAt x1 4).toNatClampNeg) 1) dX10_addLetter_24 rfl rfl (Nat.le_of_ble_eq_true rfl) (Nat.le_of_ble_eq_true rfl)) ?_
  refine GO.lift (fun _ => G_iload_n C 4 dX10_addLetter_27 rfl) ?_
  refine GO.guard (fun h3 => ?_)
  refine GO.letS (fun r2 hr2 => ?_)
  refine GO.lift (fun _ => G_iast (ws' := mW K ws q ad 336 r2) C q dX10_addLetter_28 (mW_at hq) (gin_in h3) (mW_set hr2)) ?_
  refine GO.lift (fun _ => G_aload_n C 1 dX10_addLetter_29 rfl) ?_
  refine GO.lift (fun _ => G_iload_n C 2 dX10_addLetter_30 rfl) ?_
  refine GO.lift (fun _ => G_iconst C dX10_addLetter_31 (v := 4) rfl) ?_
  refine GO.lift (fun _ => G_callSi C kd_X10_officeAt ut_X10_officeAt um_X10_54 (c_X10_officeAt l K (mW K ws q ad 336 r2) x1 4) dX10_addLetter_32 rfl rfl (Nat.le_of_ble_eq_true rfl) (Nat.le_of_ble_eq_true rfl)) ?_
  refine GO.lift (fun _ => G_dup2 C dX10_addLetter_35 rfl rfl) ?_
  refine GO.guard (fun h4 => ?_)
  refine GO.lift (fun _ => G_iald C q dX10_addLetter_36 (mW_at hq) (gin_in h4)) ?_
  refine GO.lift (fun _ => G_iconst C dX10_addLetter_37 (v := 1) rfl) ?_
  refine GO.lift (fun _ => G_iadd C dX10_addLetter_38) ?_
  refine GO.guard (fun h5 => ?_)
  refine GO.letS (fun r3 hr3 => ?_)
  refine GO.lift (fun _ => G_iast (ws' := mW K ws q ad 336 r3) C q dX10_addLetter_39 (mW_at hq) (gin_in h5) (mW_set hr3)) ?_
  refine GO.lift (fun _ => G_aload_n C 1 dX10_addLetter_40 rfl) ?_
  refine GO.lift (fun _ => G_bipush C dX10_addLetter_41 (v := 8) rfl) ?_
  refine GO.lift (fun _ => G_dup2 C dX10_addLetter_43 rfl rfl) ?_
  refine GO.lift (fun _ => G_iald C q dX10_addLetter_44 (mW_at hq) (by unfold vp_in; decide)) ?_
  refine GO.lift (fun _ => G_iconst C dX10_addLetter_45 (v := 1) rfl) ?_
  refine GO.lift (fun _ => G_iadd C dX10_addLetter_46) ?_
  refine GO.letS (fun r4 hr4 => ?_)
  refine GO.lift (fun _ => G_iast (ws' := mW K ws q ad 336 r4) C q dX10_addLetter_47 (mW_at hq) (by unfold vp_in; decide) (mW_set hr4)) ?_
  exact GO.fin (G_vret C dX10_addLetter_48 rfl)
/-! X10_dropLetter -/
theorem kd_X10_dropLetter : Card yX10_dropLetter cX10_dropLetter 4 none 3 := ⟨uc_X10_dropLetter, un_X10, ⟨by decide, by decide, by decide⟩, by decide⟩
def o_X10_dropLetter_L18 : Nat → (Nat → Int32) → Int32 → Int32 → Int32 → Option ((Nat → Int32))
  | 0, _, _, _, _ => none
  | fuel + 1, g, x1, x2, x3 => if gin (v_X10_officeAt x1 4) 336 = true then (if x3 < (v_X10_letterAt x1 (g (v_X10_officeAt x1 4).toNatClampNeg) 0) then if gin (x3 + 2) 336 = true then (if gin x3 336 = true then (lt1 (upd g x3.toNatClampNeg (g (x3 + 2).toNatClampNeg)) (fun r1 => o_X10_dropLetter_L18 fuel r1 x1 x2 (x3 + 1))) else none) else none else some g) else none
theorem g_X10_dropLetter_L18 {l : Launch} {K : gK} {Γ : gT} {ws : va_W} {q ad : Nat} (hq : q < ws.length) (C : Cx l K Γ RX10 cX10_dropLetter 4 none 2) : ∀ (k : Nat) (g : Nat → Int32) (x1 : Int32) (x2 : Int32) (x3 : Int32), GO l K Γ (mW K ws q ad 336 g) 18 4 [(0, .ref ad), (1, .int x1), (2, .int x2), (3, .int x3)] [] (fun z => (none, mW K ws q ad 336 z)) (o_X10_dropLetter_L18 k g x1 x2 x3) := by
  intro k
  induction k with
  | zero =>
    intro g x1 x2 x3
    exact fun r hr => nomatch hr
  | succ k ih =>
    intro g x1 x2 x3
    rw [o_X10_dropLetter_L18]
    refine GO.lift (fun _ => G_iload_n C 3 dX10_dropLetter_18 rfl) ?_
    refine GO.lift (fun _ => G_iload_n C 1 dX10_dropLetter_19 rfl) ?_
    refine GO.lift (fun _ => G_aload_n C 0 dX10_dropLetter_20 rfl) ?_
    refine GO.lift (fun _ => G_iload_n C 1 dX10_dropLetter_21 rfl) ?_
    refine GO.lift (fun _ => G_iconst C dX10_dropLetter_22 (v := 4) rfl) ?_
    refine GO.lift (fun _ => G_callSi C kd_X10_officeAt ut_X10_officeAt um_X10_54 (c_X10_officeAt l K (mW K ws q ad 336 g) x1 4) dX10_dropLetter_23 rfl rfl (Nat.le_of_ble_eq_true rfl) (Nat.le_of_ble_eq_true rfl)) ?_
    refine GO.guard (fun h1 => ?_)
    refine GO.lift (fun _ => G_iald C q dX10_dropLetter_26 (mW_at hq) (gin_in h1)) ?_
    refine GO.lift (fun _ => G_iconst C dX10_dropLetter_27 (v := 0) rfl) ?_
    refine GO.lift (fun _ => G_callSi C kd_X10_letterAt ut_X10_letterAt um_X10_62 (c_X10_letterAt l K (mW K ws q ad 336 g) x1 (g (v_X10_officeAt x1 4).toNatClampNeg) 0) dX10_dropLetter_28 rfl rfl (Nat.le_of_ble_eq_true rfl) (Nat.le_of_ble_eq_true rfl)) ?_
    refine GO_icmp_ge C 48 dX10_dropLetter_31 rfl (fun h2 => ?_) (fun h2 => ?_)
    · refine GO.lift (fun _ => G_aload_n C 0 dX10_dropLetter_34 rfl) ?_
      refine GO.lift (fun _ => G_iload_n C 3 dX10_dropLetter_35 rfl) ?_
      refine GO.lift (fun _ => G_aload_n C 0 dX10_dropLetter_36 rfl) ?_
      refine GO.lift (fun _ => G_iload_n C 3 dX10_dropLetter_37 rfl) ?_
      refine GO.lift (fun _ => G_iconst C dX10_dropLetter_38 (v := 2) rfl) ?_
      refine GO.lift (fun _ => G_iadd C dX10_dropLetter_39) ?_
      refine GO.guard (fun h3 => ?_)
      refine GO.lift (fun _ => G_iald C q dX10_dropLetter_40 (mW_at hq) (gin_in h3)) ?_
      refine GO.guard (fun h4 => ?_)
      refine GO.letS (fun r1 hr1 => ?_)
      refine GO.lift (fun _ => G_iast (ws' := mW K ws q ad 336 r1) C q dX10_dropLetter_41 (mW_at hq) (gin_in h4) (mW_set hr1)) ?_
      refine GO.lift (fun _ => G_iinc (lv' := [(3, .int (x3 + 1)), (0, .ref ad), (1, .int x1), (2, .int x2)]) C 3 dX10_dropLetter_42 rfl rfl (by decide) rfl) ?_
      refine GO.lift (fun _ => G_goto C 18 dX10_dropLetter_45 rfl) ?_
      refine GO.sub [1, 2, 3, 0] rfl ?_
      exact ih r1 x1 x2 (x3 + 1)
    · exact GO.fin (G_vret C dX10_dropLetter_48 rfl)
def o_X10_dropLetter (g : Nat → Int32) (x1 : Int32) (x2 : Int32) : Option ((Nat → Int32)) := if gin (v_X10_officeAt x1 4) 336 = true then (if gin (v_X10_officeAt x1 4) 336 = true then (lt1 (upd g (v_X10_officeAt x1 4).toNatClampNeg ((g (v_X10_officeAt x1 4).toNatClampNeg) - 1)) (fun r1 => o_X10_dropLetter_L18 4000 r1 x1 x2 (v_X10_letterAt x1 x2 0))) else none) else none
theorem c_X10_dropLetter (l : Launch) (K : gK) {ws : va_W} {q ad : Nat} (hq : q < ws.length) (g : Nat → Int32) (x1 : Int32) (x2 : Int32) (r : (Nat → Int32)) (hr : o_X10_dropLetter g x1 x2 = some r) : Ct l K yX10_dropLetter cX10_dropLetter 4 none 2 [.ref ad, .int x1, .int x2] (mW K ws q ad 336 g) (none, mW K ws q ad 336 r) := by
  refine Ct.of (own := RX10) (fun z => (none, mW K ws q ad 336 z)) (x := r) (by decide) rfl (Nat.le_of_ble_eq_true rfl) (fun Γ C => GO.out (x := o_X10_dropLetter g x1 x2) ?_ hr)
  unfold o_X10_dropLetter
  refine GO.lift (fun _ => G_aload_n C 0 dX10_dropLetter_0 rfl) ?_
  refine GO.lift (fun _ => G_iload_n C 1 dX10_dropLetter_1 rfl) ?_
  refine GO.lift (fun _ => G_iconst C dX10_dropLetter_2 (v := 4) rfl) ?_
  refine GO.lift (fun _ => G_callSi C kd_X10_officeAt ut_X10_officeAt um_X10_54 (c_X10_officeAt l K (mW K ws q ad 336 g) x1 4) dX10_dropLetter_3 rfl rfl (Nat.le_of_ble_eq_true rfl) (Nat.le_of_ble_eq_true rfl)) ?_
  refine GO.lift (fun _ => G_dup2 C dX10_dropLetter_6 rfl rfl) ?_
  refine GO.guard (fun h1 => ?_)
  refine GO.lift (fun _ => G_iald C q dX10_dropLetter_7 (mW_at hq) (gin_in h1)) ?_
  refine GO.lift (fun _ => G_iconst C dX10_dropLetter_8 (v := 1) rfl) ?_
  refine GO.lift (fun _ => G_isub C dX10_dropLetter_9) ?_
  refine GO.guard (fun h2 => ?_)
  refine GO.letS (fun r1 hr1 => ?_)
  refine GO.lift (fun _ => G_iast (ws' := mW K ws q ad 336 r1) C q dX10_dropLetter_10 (mW_at hq) (gin_in h2) (mW_set hr1)) ?_
  refine GO.lift (fun _ => G_iload_n C 1 dX10_dropLetter_11 rfl) ?_
  refine GO.lift (fun _ => G_iload_n C 2 dX10_dropLetter_12 rfl) ?_
  refine GO.lift (fun _ => G_iconst C dX10_dropLetter_13 (v := 0) rfl) ?_
  refine GO.lift (fun _ => G_callSi C kd_X10_letterAt ut_X10_letterAt um_X10_62 (c_X10_letterAt l K (mW K ws q ad 336 r1) x1 x2 0) dX10_dropLetter_14 rfl rfl (Nat.le_of_ble_eq_true rfl) (Nat.le_of_ble_eq_true rfl)) ?_
  refine GO.lift (fun _ => G_istore_n (lv' := [(3, .int (v_X10_letterAt x1 x2 0)), (0, .ref ad), (1, .int x1), (2, .int x2)]) C dX10_dropLetter_17 (by decide) rfl) ?_
  refine GO.sub [1, 2, 3, 0] rfl ?_
  exact g_X10_dropLetter_L18 hq C _ r1 x1 x2 (v_X10_letterAt x1 x2 0)
/-! X10_addToken -/
theorem kd_X10_addToken : Card yX10_addToken cX10_addToken 3 (some .int) 2 := ⟨uc_X10_addToken, un_X10, ⟨by decide, by decide, by decide⟩, by decide⟩
def o_X10_addToken (g : Nat → Int32) (x1 : Int32) : Option (Int32 × (Nat → Int32)) := lt1 (upd g (7 : Int32).toNatClampNeg ((g (7 : Int32).toNatClampNeg) + 1)) (fun r1 => if gin (v_X10_tokenAt (g (5 : Int32).toNatClampNeg) 0) 336 = true then (lt1 (upd r1 (v_X10_tokenAt (g (5 : Int32).toNatClampNeg) 0).toNatClampNeg (r1 (7 : Int32).toNatClampNeg)) (fun r2 => if gin (v_X10_tokenAt (g (5 : Int32).toNatClampNeg) 1) 336 = true then (lt1 (upd r2 (v_X10_tokenAt (g (5 : Int32).toNatClampNeg) 1).toNatClampNeg x1) (fun r3 => if gin (v_X10_tokenAt (g (5 : Int32).toNatClampNeg) 2) 336 = true then (lt1 (upd r3 (v_X10_tokenAt (g (5 : Int32).toNatClampNeg) 2).toNatClampNeg 0) (fun r4 => if gin (v_X10_tokenAt (g (5 : Int32).toNatClampNeg) 3) 336 = true then (lt1 (upd r4 (v_X10_tokenAt (g (5 : Int32).toNatClampNeg) 3).toNatClampNeg 0) (fun r5 => if gin (v_X10_tokenAt (g (5 : Int32).toNatClampNeg) 4) 336 = true then (lt1 (upd r5 (v_X10_tokenAt (g (5 : Int32).toNatClampNeg) 4).toNatClampNeg 0) (fun r6 => if gin (v_X10_tokenAt (g (5 : Int32).toNatClampNeg) 5) 336 = true then (lt1 (upd r6 (v_X10_tokenAt (g (5 : Int32).toNatClampNeg) 5).toNatClampNeg 1) (fun r7 => lt1 (upd r7 (5 : Int32).toNatClampNeg ((r7 (5 : Int32).toNatClampNeg) + 1)) (fun r8 => some ((r8 (7 : Int32).toNatClampNeg, r8))))) else none)) else none)) else none)) else none)) else none)) else none)
theorem c_X10_addToken (l : Launch) (K : gK) {ws : va_W} {q ad : Nat} (hq : q < ws.length) (g : Nat → Int32) (x1 : Int32) (r : Int32 × (Nat → Int32)) (hr : o_X10_addToken g x1 = some r) : Ct l K yX10_addToken cX10_addToken 3 (some .int) 1 [.ref ad, .int x1] (mW K ws q ad 336 g) (some (.int r.1), mW K ws q ad 336 r.2) := by
  refine Ct.of (own := RX10) (fun (z : Int32 × (Nat → Int32)) => (some (.int z.1), mW K ws q ad 336 z.2)) (x := r) (by decide) rfl (Nat.le_of_ble_eq_true rfl) (fun Γ C => GO.out (x := o_X10_addToken g x1) ?_ hr)
  unfold o_X10_addToken
  refine GO.lift (fun _ => G_aload_n C 0 dX10_addToken_0 rfl) ?_
  refine GO.lift (fun _ => G_iconst C dX10_addToken_1 (v := 5) rfl) ?_
  refine GO.lift (fun _ => G_iald C q dX10_addToken_2 (mW_at hq) (by unfold vp_in; decide)) ?_
  refine GO.lift (fun _ => G_istore_n (lv' := [(2, .int (g (5 : Int32).toNatClampNeg)), (0, .ref ad), (1, .int x1)]) C dX10_addToken_3 (by decide) rfl) ?_
  refine GO.lift (fun _ => G_aload_n C 1 dX10_addToken_4 rfl) ?_
  refine GO.lift (fun _ => G_bipush C dX10_addToken_5 (v := 7) rfl) ?_
  refine GO.lift (fun _ => G_dup2 C dX10_addToken_7 rfl rfl) ?_
  refine GO.lift (fun _ => G_iald C q dX10_addToken_8 (mW_at hq) (by unfold vp_in; decide)) ?_
  refine GO.lift (fun _ => G_iconst C dX10_addToken_9 (v := 1) rfl) ?_
  refine GO.lift (fun _ => G_iadd C dX10_addToken_10) ?_
  refine GO.letS (fun r1 hr1 => ?_)
  refine GO.lift (fun _ => G_iast (ws' := mW K ws q ad 336 r1) C q dX10_addToken_11 (mW_at hq) (by unfold vp_in; decide) (mW_set hr1)) ?_
  refine GO.lift (fun _ => G_aload_n C 1 dX10_addToken_12 rfl) ?_
  refine GO.lift (fun _ => G_iload_n C 0 dX10_addToken_13 rfl) ?_
  refine GO.lift (fun _ => G_iconst C dX10_addToken_14 (v := 0) rfl) ?_
  refine GO.lift (fun _ => G_callSi C kd_X10_tokenAt ut_X10_tokenAt um_X10_66 (c_X10_tokenAt l K (mW K ws q ad 336 r1) (g (5 : Int32).toNatClampNeg) 0) dX10_addToken_15 rfl rfl (Nat.le_of_ble_eq_true rfl) (Nat.le_of_ble_eq_true rfl)) ?_
  refine GO.lift (fun _ => G_aload_n C 1 dX10_addToken_18 rfl) ?_
  refine GO.lift (fun _ => G_bipush C dX10_addToken_19 (v := 7) rfl) ?_
  refine GO.lift (fun _ => G_iald C q dX10_addToken_21 (mW_at hq) (by unfold vp_in; decide)) ?_
  refine GO.guard (fun h1 => ?_)
  refine GO.letS (fun r2 hr2 => ?_)
  refine GO.lift (fun _ => G_iast (ws' := mW K ws q ad 336 r2) C q dX10_addToken_22 (mW_at hq) (gin_in h1) (mW_set hr2)) ?_
  refine GO.lift (fun _ => G_aload_n C 1 dX10_addToken_23 rfl) ?_
  refine GO.lift (fun _ => G_iload_n C 0 dX10_addToken_24 rfl) ?_
  refine GO.lift (fun _ => G_iconst C dX10_addToken_25 (v := 1) rfl) ?_
  refine GO.lift (fun _ => G_callSi C kd_X10_tokenAt ut_X10_tokenAt um_X10_66 (c_X10_tokenAt l K (mW K ws q ad 336 r2) (g (5 : Int32).toNatClampNeg) 1) dX10_addToken_26 rfl rfl (Nat.le_of_ble_eq_true rfl) (Nat.le_of_ble_eq_true rfl)) ?_
  refine GO.lift (fun _ => G_iload_n C 2 dX10_addToken_29 rfl) ?_
  refine GO.guard (fun h2 => ?_)
  refine GO.letS (fun r3 hr3 => ?_)
  refine GO.lift (fun _ => G_iast (ws' := mW K ws q ad 336 r3) C q dX10_addToken_30 (mW_at hq) (gin_in h2) (mW_set hr3)) ?_
  refine GO.lift (fun _ => G_aload_n C 1 dX10_addToken_31 rfl) ?_
  refine GO.lift (fun _ => G_iload_n C 0 dX10_addToken_32 rfl) ?_
  refine GO.lift (fun _ => G_iconst C dX10_addToken_33 (v := 2) rfl) ?_
  refine GO.lift (fun _ => G_callSi C kd_X10_tokenAt ut_X10_tokenAt um_X10_66 (c_X10_tokenAt l K (mW K ws q ad 336 r3) (g (5 : Int32).toNatClampNeg) 2) dX10_addToken_34 rfl rfl (Nat.le_of_ble_eq_true rfl) (Nat.le_of_ble_eq_true rfl)) ?_
  refine GO.lift (fun _ => G_iconst C dX10_addToken_37 (v := 0) rfl) ?_
  refine GO.guard (fun h3 => ?_)
  refine GO.letS (fun r4 hr4 => ?_)
  refine GO.lift (fun _ => G_iast (ws' := mW K ws q ad 336 r4) C q dX10_addToken_38 (mW_at hq) (gin_in h3) (mW_set hr4)) ?_
  refine GO.lift (fun _ => G_aload_n C 1 dX10_addToken_39 rfl) ?_
  refine GO.lift (fun _ => G_iload_n C 0 dX10_addToken_40 rfl) ?_
  refine GO.lift (fun _ => G_iconst C dX10_addToken_41 (v := 3) rfl) ?_
  refine GO.lift (fun _ => G_callSi C kd_X10_tokenAt ut_X10_tokenAt um_X10_66 (c_X10_tokenAt l K (mW K ws q ad 336 r4) (g (5 : Int32).toNatClampNeg) 3) dX10_addToken_42 rfl rfl (Nat.le_of_ble_eq_true rfl) (Nat.le_of_ble_eq_true rfl)) ?_
  refine GO.lift (fun _ => G_iconst C dX10_addToken_45 (v := 0) rfl) ?_
  refine GO.guard (fun h4 => ?_)
  refine GO.letS (fun r5 hr5 => ?_)
  refine GO.lift (fun _ => G_iast (ws' := mW K ws q ad 336 r5) C q dX10_addToken_46 (mW_at hq) (gin_in h4) (mW_set hr5)) ?_
  refine GO.lift (fun _ => G_aload_n C 1 dX10_addToken_47 rfl) ?_
  refine GO.lift (fun _ => G_iload_n C 0 dX10_addToken_48 rfl) ?_
  refine GO.lift (fun _ => G_iconst C dX10_addToken_49 (v := 4) rfl) ?_
  refine GO.lift (fun _ => G_callSi C kd_X10_tokenAt ut_X10_tokenAt um_X10_66 (c_X10_tokenAt l K (mW K ws q ad 336 r5) (g (5 : Int32).toNatClampNeg) 4) dX10_addToken_50 rfl rfl (Nat.le_of_ble_eq_true rfl) (Nat.le_of_ble_eq_true rfl)) ?_
  refine GO.lift (fun _ => G_iconst C dX10_addToken_53 (v := 0) rfl) ?_
  refine GO.guard (fun h5 => ?_)
  refine GO.letS (fun r6 hr6 => ?_)
  refine GO.lift (fun _ => G_iast (ws' := mW K ws q ad 336 r6) C q dX10_addToken_54 (mW_at hq) (gin_in h5) (mW_set hr6)) ?_
  refine GO.lift (fun _ => G_aload_n C 1 dX10_addToken_55 rfl) ?_
  refine GO.lift (fun _ => G_iload_n C 0 dX10_addToken_56 rfl) ?_
  refine GO.lift (fun _ => G_iconst C dX10_addToken_57 (v := 5) rfl) ?_
  refine GO.lift (fun _ => G_callSi C kd_X10_tokenAt ut_X10_tokenAt um_X10_66 (c_X10_tokenAt l K (mW K ws q ad 336 r6) (g (5 : Int32).toNatClampNeg) 5) dX10_addToken_58 rfl rfl (Nat.le_of_ble_eq_true rfl) (Nat.le_of_ble_eq_true rfl)) ?_
  refine GO.lift (fun _ => G_iconst C dX10_addToken_61 (v := 1) rfl) ?_
  refine GO.guard (fun h6 => ?_)
  refine GO.letS (fun r7 hr7 => ?_)
  refine GO.lift (fun _ => G_iast (ws' := mW K ws q ad 336 r7) C q dX10_addToken_62 (mW_at hq) (gin_in h6) (mW_set hr7)) ?_
  refine GO.lift (fun _ => G_aload_n C 1 dX10_addToken_63 rfl) ?_
  refine GO.lift (fun _ => G_iconst C dX10_addToken_64 (v := 5) rfl) ?_
  refine GO.lift (fun _ => G_dup2 C dX10_addToken_65 rfl rfl) ?_
  refine GO.lift (fun _ => G_iald C q dX10_addToken_66 (mW_at hq) (by unfold vp_in; decide)) ?_
  refine GO.lift (fun _ => G_iconst C dX10_addToken_67 (v := 1) rfl) ?_
  refine GO.lift (fun _ => G_iadd C dX10_addToken_68) ?_
  refine GO.letS (fun r8 hr8 => ?_)
  refine GO.lift (fun _ => G_iast (ws' := mW K ws q ad 336 r8) C q dX10_addToken_69 (mW_at hq) (by unfold vp_in; decide) (mW_set hr8)) ?_
  refine GO.lift (fun _ => G_aload_n C 1 dX10_addToken_70 rfl) ?_
  refine GO.lift (fun _ => G_bipush C dX10_addToken_71 (v := 7) rfl) ?_
  refine GO.lift (fun _ => G_iald C q dX10_addToken_73 (mW_at hq) (by unfold vp_in; decide)) ?_
  exact GO.fin (G_iret C dX10_addToken_74 rfl)
