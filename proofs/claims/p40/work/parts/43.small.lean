-- PART 43: arrays by whole numbers; small lemmas for the walks of the law
section JA
variable {l : Launch} {K : gK} {Γ : gT} {Q : State → Prop} {cs ss : Nat} {own : String} {cc : ByteArray} {nL : Nat} {ret : Option FieldType} {h : Nat} {ws ws2 : va_W} {pc : Nat} {lv : List (Nat × Value)} {st : List Value}
theorem J_iaN (C : Cx l K Γ own cc nL ret h) (q0 : Nat) {a n : Nat} {f : Nat → Int32} {v : Int32} (j : Nat) (hv : v = iN j) (hj : j < n) (hn : n < 100000) (ha : ws[q0]? = some (cI K a n f)) (hdg : decode cc pc = .ok (.iaload, 1)) (k : J l K Γ Q cs ss ws (pc + 1) nL lv (.int (f j) :: st)) : J l K Γ Q cs ss ws pc nL lv (.int v :: .ref a :: st) := by
  subst hv
  refine J_iald C q0 hdg ha (iN_vp hj hn) ?_
  rw [iN_nat (show j < 2147483648 by omega)]
  exact k
theorem J_isN (C : Cx l K Γ own cc nL ret h) (q0 : Nat) {a n : Nat} {f : Nat → Int32} {v x : Int32} (j : Nat) (hv : v = iN j) (hj : j < n) (hn : n < 100000) (ha : ws[q0]? = some (cI K a n f)) (hw : ws.set q0 (cI K a n (upd f j x)) = ws2) (hdg : decode cc pc = .ok (.iastore, 1)) (k : J l K Γ Q cs ss ws2 (pc + 1) nL lv st) : J l K Γ Q cs ss ws pc nL lv (.int x :: .int v :: .ref a :: st) := by
  subst hv
  refine J_iast C q0 hdg ha (iN_vp hj hn) ?_ k
  rw [iN_nat (show j < 2147483648 by omega)]
  exact hw
theorem J_zaN (C : Cx l K Γ own cc nL ret h) (q0 : Nat) {a n : Nat} {f : Nat → Int32} {v : Int32} (j : Nat) (hv : v = iN j) (hj : j < n) (hn : n < 100000) (ha : ws[q0]? = some (cZ K a n f)) (hdg : decode cc pc = .ok (.baload, 1)) (k : J l K Γ Q cs ss ws (pc + 1) nL lv (.int (f j) :: st)) : J l K Γ Q cs ss ws pc nL lv (.int v :: .ref a :: st) := by
  subst hv
  refine J_zald C q0 hdg ha (iN_vp hj hn) ?_
  rw [iN_nat (show j < 2147483648 by omega)]
  exact k
theorem J_zsN (C : Cx l K Γ own cc nL ret h) (q0 : Nat) {a n : Nat} {f : Nat → Int32} {v x : Int32} (j : Nat) (hv : v = iN j) (hj : j < n) (hn : n < 100000) (hx : vp_nar .boolean x = x) (ha : ws[q0]? = some (cZ K a n f)) (hw : ws.set q0 (cZ K a n (upd f j x)) = ws2) (hdg : decode cc pc = .ok (.bastore, 1)) (k : J l K Γ Q cs ss ws2 (pc + 1) nL lv st) : J l K Γ Q cs ss ws pc nL lv (.int x :: .int v :: .ref a :: st) := by
  subst hv
  refine J_zast C q0 hdg ha (iN_vp hj hn) ?_ k
  rw [iN_nat (show j < 2147483648 by omega), hx]
  exact hw
theorem J_baN (C : Cx l K Γ own cc nL ret h) (q0 : Nat) {a n : Nat} {f : Nat → Int32} {v : Int32} (j : Nat) (hv : v = iN j) (hj : j < n) (hn : n < 100000) (ha : ws[q0]? = some (cB K a n f)) (hdg : decode cc pc = .ok (.baload, 1)) (k : J l K Γ Q cs ss ws (pc + 1) nL lv (.int (f j) :: st)) : J l K Γ Q cs ss ws pc nL lv (.int v :: .ref a :: st) := by
  subst hv
  refine J_bald C q0 hdg ha (iN_vp hj hn) ?_
  rw [iN_nat (show j < 2147483648 by omega)]
  exact k
theorem J_bsN (C : Cx l K Γ own cc nL ret h) (q0 : Nat) {a n : Nat} {f : Nat → Int32} {v x : Int32} (j : Nat) (hv : v = iN j) (hj : j < n) (hn : n < 100000) (hx : vp_nar .byte x = x) (ha : ws[q0]? = some (cB K a n f)) (hw : ws.set q0 (cB K a n (upd f j x)) = ws2) (hdg : decode cc pc = .ok (.bastore, 1)) (k : J l K Γ Q cs ss ws2 (pc + 1) nL lv st) : J l K Γ Q cs ss ws pc nL lv (.int x :: .int v :: .ref a :: st) := by
  subst hv
  refine J_bast C q0 hdg ha (iN_vp hj hn) ?_ k
  rw [iN_nat (show j < 2147483648 by omega), hx]
  exact hw
end JA
theorem opt_ways {α : Type} (o : Option α) : o = none ∨ ∃ t, o = some t := by
  cases o with
  | none => exact Or.inl rfl
  | some t => exact Or.inr ⟨t, rfl⟩
theorem iN_ylt' {a b : Nat} (h : a < b) (hb : b < 2147483648) : iN a < iN b := (iN_lt (by omega) hb).mpr h
theorem iN_nlt' {a b : Nat} (h : b ≤ a) (ha : a < 2147483648) : ¬ iN a < iN b := fun q => by
  have := (iN_lt ha (by omega)).mp q
  omega
theorem iN_ne' {a b : Nat} (h : a ≠ b) (ha : a < 2147483648) (hb : b < 2147483648) : ¬ iN a = iN b := fun q => h ((iN_inj ha hb).mp q)
theorem iO_neg {o : Option Nat} (h : ∀ t, o = some t → t < 2147483648) : iO o < 0 ↔ o = none := by
  cases o with
  | none => exact ⟨fun _ => rfl, fun _ => by decide⟩
  | some t => exact ⟨fun q => absurd q (iN_neg (h t rfl)), fun q => by cases q⟩

theorem iN_sublt {a b c : Nat} (ha : a ≤ 100000000) (hb : b ≤ 100000000) (hc : c ≤ 100000000) : iN a - iN b < iN c ↔ a < c + b := by
  rw [Int32.lt_iff_toInt_lt, iN_toInt (show c < 2147483648 by omega), Int32.toInt_sub, iN_toInt (show a < 2147483648 by omega), iN_toInt (show b < 2147483648 by omega), Int.bmod_eq_of_le (by omega) (by omega)]
  omega
section JV
variable {l : Launch} {K : gK} {Γ : gT} {Q : State → Prop} {cs ss nL pc : Nat} {ws : va_W} {lv : List (Nat × Value)} {st : List Value}
theorem J_eqv {a b : Value} (e : a = b) (k : J l K Γ Q cs ss ws pc nL lv (b :: st)) : J l K Γ Q cs ss ws pc nL lv (a :: st) := by
  subst e
  exact k
end JV

