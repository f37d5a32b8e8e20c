-- PART 06: the worlds of Text, Scanner, SetupParser and of the whole RingOffices
def tx_W (K : gK) (t : Nat → Nat) (n : Nat) (X : SM) : va_W := [(t 0, .inr (7, [.ref (t 1), .int (X 1 0)])), (t 1, .inl (K.2 1, n, .inl (X 0)))]
def sc_W (K : gK) (t : Nat → Nat) (X : SM) (c : Nat → Int32) : va_W := [(t 2, .inr (3, [.ref (t 0), .int (c 0), .int (c 1), .int (c 2), .int (c 3)]))] ++ tx_W K t 1200 X
def pc_W (K : gK) (t a : Nat → Nat) (X : SM) (c : Nat → Int32) (z : Int32) : va_W := [(t 3, .inr (4, [.ref (t 2), .ref (a 0), .int z]))] ++ sc_W K t X c
abbrev PS : Type := (Nat → Int32) × Int32 × SM
def pa_W (K : gK) (t a : Nat → Nat) (X : SM) (q : PS) : va_W := pc_W K t a X q.1 q.2.1 ++ st_W K a q.2.2
abbrev RS : Type := Nat → SM
def yU (Y : RS) (k : Nat) (S : SM) : RS := fun j => if j = k then S else Y j
/-- one of the numbers beside the states: errorAt, taken, history's next and count -/
def yF (Y : RS) (j : Nat) (v : Int32) : RS := yU Y 4 (sU (Y 4) 0 (upd (Y 4 0) j v))
/-- a text's length -/
def yL (Y : RS) (k : Nat) (v : Int32) : RS := yU Y k (sU (Y k) 1 (upd (Y k 1) 0 v))
def ro_C (K : gK) (A : Nat → Nat → Nat) (Y : RS) : List va_W :=
  [(A 4 0, .inr (9, [.ref (A 0 0), .ref (A 4 1), .ref (A 4 3), .ref (A 2 3), .ref (A 2 0), .ref (A 1 0), .ref (A 3 0), .int (Y 4 0 0)]))] ::
  st_W K (A 0) (Y 0) ::
  pc_W K (A 2) (A 1) (Y 2) (Y 4 1) (Y 4 0 1) ::
  st_W K (A 1) (Y 1) ::
  tx_W K (A 3) 1024 (Y 3) ::
  [(A 4 1, .inr (0, [.ref (A 4 2), .int (Y 4 0 2), .int (Y 4 0 3)])), (A 4 2, .inl (K.2 3, 8, .inr (.inr (.inr (.inr (fun i => some (A (5 + i) 0)))))))] ::
  [(A 4 3, .inr (5, [.ref (A 4 4), .ref (A 4 5)])), (A 4 4, .inl (K.2 3, 2, .inr (.inr (.inr (.inr (fun i => some (A (13 + i) 0))))))), (A 4 5, .inl (K.2 2, 2, .inl (Y 4 2)))] ::
  (List.range 10).map (fun i => st_W K (A (5 + i)) (Y (5 + i)))
def ro_W (K : gK) (A : Nat → Nat → Nat) (Y : RS) : va_W := (ro_C K A Y).flatten
theorem ro_state (K : gK) (A : Nat → Nat → Nat) (Y : RS) {i : Nat} (hi : i < 10) : (ro_C K A Y)[7 + i]? = some (st_W K (A (5 + i)) (Y (5 + i))) := by
  have h : ∀ j, j < 10 → (ro_C K A Y)[7 + j]? = some (st_W K (A (5 + j)) (Y (5 + j))) := by
    intro j hj
    rcases (by omega : j = 0 ∨ j = 1 ∨ j = 2 ∨ j = 3 ∨ j = 4 ∨ j = 5 ∨ j = 6 ∨ j = 7 ∨ j = 8 ∨ j = 9) with rfl | rfl | rfl | rfl | rfl | rfl | rfl | rfl | rfl | rfl <;> rfl
  exact h i hi
theorem ro_stateU (K : gK) (A : Nat → Nat → Nat) (Y : RS) {i : Nat} (hi : i < 10) (S : SM) : (ro_C K A Y).set (7 + i) (st_W K (A (5 + i)) S) = ro_C K A (yU Y (5 + i) S) := by
  have h : ∀ j, j < 10 → (ro_C K A Y).set (7 + j) (st_W K (A (5 + j)) S) = ro_C K A (yU Y (5 + j) S) := by
    intro j hj
    rcases (by omega : j = 0 ∨ j = 1 ∨ j = 2 ∨ j = 3 ∨ j = 4 ∨ j = 5 ∨ j = 6 ∨ j = 7 ∨ j = 8 ∨ j = 9) with rfl | rfl | rfl | rfl | rfl | rfl | rfl | rfl | rfl | rfl <;> rfl
  exact h i hi
theorem flat_split {α : Type} : ∀ {cs : List (List α)} {i : Nat} {c : List α}, cs[i]? = some c → cs.flatten = (cs.take i).flatten ++ c ++ (cs.drop (i + 1)).flatten := by
  intro cs
  induction cs with
  | nil => intro i c h; simp at h
  | cons d cs ih =>
    intro i c h
    cases i with
    | zero =>
      rw [List.getElem?_cons_zero] at h
      cases h
      simp
    | succ i =>
      rw [List.getElem?_cons_succ] at h
      simp only [List.flatten_cons, List.take_succ_cons, List.drop_succ_cons]
      rw [ih h]
      simp [List.append_assoc]
theorem flat_set {α : Type} {cs : List (List α)} {i : Nat} {c d : List α} (h : cs[i]? = some c) : (cs.set i d).flatten = (cs.take i).flatten ++ d ++ (cs.drop (i + 1)).flatten := by
  have hl : i < cs.length := (List.getElem?_eq_some_iff.mp h).1
  rw [flat_split (c := d) (i := i) (by rw [List.getElem?_set_self hl])]
  rw [List.take_set_of_le (Nat.le_refl _), List.drop_set_of_lt (by omega)]
theorem flat_perm {α : Type} {cs : List (List α)} {i : Nat} {c : List α} (h : cs[i]? = some c) : cs.flatten.Perm (c ++ (cs.eraseIdx i).flatten) := by
  rw [flat_split h, List.eraseIdx_eq_take_drop_succ, List.flatten_append, List.append_assoc]
  exact List.perm_append_comm_assoc _ _ _
theorem flat_permS {α : Type} {cs : List (List α)} {i : Nat} {c d : List α} (h : cs[i]? = some c) : (cs.set i d).flatten.Perm (d ++ (cs.eraseIdx i).flatten) := by
  rw [flat_set h, List.eraseIdx_eq_take_drop_succ, List.flatten_append, List.append_assoc]
  exact List.perm_append_comm_assoc _ _ _
section CK
variable {l : Launch} {K : gK} {y : MethodName} {cc : ByteArray} {maxL : Nat} {ret : Option FieldType} {h : Nat} {as : List Value} {wc wd w1 w2 : va_W} {r : Option Value}
theorem Ct.chunk1 {cs cs' : List va_W} (i : Nat) (hi : cs[i]? = some wc) (hs : cs.set i w1 = cs') (ct : Ct l K y cc maxL ret h as wc (r, w1)) : Ct l K y cc maxL ret h as cs.flatten (r, cs'.flatten) := by
  subst hs
  exact Ct.perm (flat_perm hi) (flat_permS hi).symm ct
theorem erase_get {α : Type} {cs : List α} {i j : Nat} (hij : i ≠ j) {c : α} (h : cs[j]? = some c) : (cs.eraseIdx i)[if j < i then j else j - 1]? = some c := by
  rw [List.getElem?_eraseIdx]
  by_cases hj : j < i
  · rw [if_pos hj, if_pos hj]; exact h
  · rw [if_neg hj, if_neg (by omega), show j - 1 + 1 = j by omega]; exact h
theorem Ct.chunk2 {cs cs' : List va_W} (i j : Nat) (hij : i ≠ j) (hi : cs[i]? = some wc) (hj : cs[j]? = some wd) (hs : (cs.set i w1).set j w2 = cs') (ct : Ct l K y cc maxL ret h as (wc ++ wd) (r, w1 ++ w2)) : Ct l K y cc maxL ret h as cs.flatten (r, cs'.flatten) := by
  subst hs
  have e1 := erase_get hij hj
  have hj2 : (cs.set i w1)[j]? = some wd := by rw [List.getElem?_set_ne hij]; exact hj
  have hi2 : ((cs.set i w1).set j w2)[i]? = some w1 := by rw [List.getElem?_set_ne (Ne.symm hij), List.getElem?_set_self (List.getElem?_eq_some_iff.mp hi).1]
  refine Ct.perm (wc := wc ++ wd) (w1 := w1 ++ w2) (wr := ((cs.eraseIdx i).eraseIdx (if j < i then j else j - 1)).flatten) ?_ ?_ ct
  · rw [List.append_assoc]
    exact (flat_perm hi).trans ((flat_perm e1).append_left wc)
  · rw [List.append_assoc]
    refine List.Perm.symm ((flat_perm hi2).trans (List.Perm.append_left w1 ?_))
    have e2 : ((cs.set i w1).set j w2).eraseIdx i = (cs.eraseIdx i).set (if j < i then j else j - 1) w2 := by
      apply List.ext_getElem?
      intro k
      have hl := (List.getElem?_eq_some_iff.mp hj).1
      by_cases hji : j < i
      · rw [if_pos hji]
        simp only [List.getElem?_eraseIdx, List.getElem?_set, List.length_set, List.length_eraseIdx]
        have hil := (List.getElem?_eq_some_iff.mp hi).1
        split <;> split <;> (try split) <;> (try split) <;> (first | rfl | omega | (simp_all; done) | (simp_all; omega))
      · rw [if_neg hji]
        simp only [List.getElem?_eraseIdx, List.getElem?_set, List.length_set, List.length_eraseIdx]
        have hil := (List.getElem?_eq_some_iff.mp hi).1
        split <;> split <;> (try split) <;> (try split) <;> (first | rfl | omega | (simp_all; done) | (simp_all; omega))
    rw [e2]
    exact flat_permS e1
end CK
theorem ne_of_pos {x : Int32} (h : 0 < x) : ¬ x = 0 := by
  rintro rfl
  exact absurd h (by decide)
theorem div10_lt {x : Int32} (h : 0 < x) : (x / 10).toNatClampNeg < x.toNatClampNeg := by
  have h0 := Int32.lt_iff_toInt_lt.mp h
  have h1 : (0 : Int32).toInt = 0 := rfl
  have h2 : (x / 10).toInt = x.toInt.tdiv 10 := by
    rw [Int32.toInt_div_of_ne_right _ _ (by decide)]
    rfl
  have h3 : (x / 10).toNatClampNeg = (x / 10).toInt.toNat := rfl
  have h4 : x.toNatClampNeg = x.toInt.toNat := rfl
  rw [h3, h4, h2, Int.tdiv_eq_ediv_of_nonneg (by omega)]
  omega
