-- PART 39: the questions; the operations of the object (by gen/mkqry.py)
def whN (M : NM) (o : Nat) : Nat := if 0 < leftN M o then 0 else if M 4 o ≠ 1 then 1 else match stand M o with
  | none => 2
  | some t => if M 7 o = 0 then 3 else if ¬ M 9 (6 * o) + M 13 t ≤ M 0 0 then 4 else if ¬ M 9 (6 * o) + M 5 o ≤ M 0 2 then 5 else 6
section QY
variable {S S' : SM} {M N M' : NM} {Y Y' Z : RS} {B B' o p i t k v : Nat}
theorem St.val0 (h : St B Y M) : v_X9_value Y 0 = iN (M 0 0) := by
  unfold v_X9_value
  rw [if_neg (show ¬ v_X9_isWithin 0 0 2 = 0 by decide)]
  exact (at_in (i := 0) (by decide) (by decide)).trans (h.1.a (by decide) 0)
theorem St.val1 (h : St B Y M) : v_X9_value Y 1 = iN (M 0 1) := by
  unfold v_X9_value
  rw [if_neg (show ¬ v_X9_isWithin 1 0 2 = 0 by decide)]
  exact (at_in (i := 1) (by decide) (by decide)).trans (h.1.a (by decide) 1)
theorem St.val2 (h : St B Y M) : v_X9_value Y 2 = iN (M 0 2) := by
  unfold v_X9_value
  rw [if_neg (show ¬ v_X9_isWithin 2 0 2 = 0 by decide)]
  exact (at_in (i := 2) (by decide) (by decide)).trans (h.1.a (by decide) 2)
theorem St.val3 (h : St B Y M) : v_X9_value Y 3 = iN (M 18 0) := by
  unfold v_X9_value
  rw [if_pos (show v_X9_isWithin 3 0 2 = 0 by decide), if_pos (show v_X9_isWithin 3 10 18 = 0 by decide), if_pos rfl]
  exact h.1.2 0 (by decide) (by decide)
theorem St.val4 (h : St B Y M) : v_X9_value Y 4 = iN (M 18 2) := by
  unfold v_X9_value
  rw [if_pos (show v_X9_isWithin 4 0 2 = 0 by decide), if_pos (show v_X9_isWithin 4 10 18 = 0 by decide), if_neg (show ¬ (4 : Int32) = 3 by decide), if_pos rfl]
  exact h.1.2 2 (by decide) (by decide)
theorem St.val6 (h : St B Y M) : v_X9_value Y 6 = iN (M 18 3) := by
  unfold v_X9_value
  rw [if_pos (show v_X9_isWithin 6 0 2 = 0 by decide), if_pos (show v_X9_isWithin 6 10 18 = 0 by decide), if_neg (show ¬ (6 : Int32) = 3 by decide), if_neg (show ¬ (6 : Int32) = 4 by decide), if_neg (show ¬ (6 : Int32) = 5 by decide), if_pos rfl]
  exact h.1.2 3 (by decide) (by decide)
theorem St.val7 (h : St B Y M) : v_X9_value Y 7 = iN (M 18 1) := by
  unfold v_X9_value
  rw [if_pos (show v_X9_isWithin 7 0 2 = 0 by decide), if_pos (show v_X9_isWithin 7 10 18 = 0 by decide), if_neg (show ¬ (7 : Int32) = 3 by decide), if_neg (show ¬ (7 : Int32) = 4 by decide), if_neg (show ¬ (7 : Int32) = 5 by decide), if_neg (show ¬ (7 : Int32) = 6 by decide), if_pos rfl]
  exact h.1.2 1 (by decide) (by decide)
theorem St.val5 (h : St B Y M) : v_X9_value Y 5 = iN (nsum (M 4) (M 18 2)) := by
  unfold v_X9_value
  rw [if_pos (show v_X9_isWithin 5 0 2 = 0 by decide), if_pos (show v_X9_isWithin 5 10 18 = 0 by decide), if_neg (show ¬ (5 : Int32) = 3 by decide), if_neg (show ¬ (5 : Int32) = 4 by decide), if_pos rfl]
  exact h.1.openAll h.2.1.1.c10
theorem St.val8 (h : St B Y M) : v_X9_value Y 8 = iN (nsum (M 7) (M 18 2)) := by
  unfold v_X9_value
  rw [if_pos (show v_X9_isWithin 8 0 2 = 0 by decide), if_pos (show v_X9_isWithin 8 10 18 = 0 by decide), if_neg (show ¬ (8 : Int32) = 3 by decide), if_neg (show ¬ (8 : Int32) = 4 by decide), if_neg (show ¬ (8 : Int32) = 5 by decide), if_neg (show ¬ (8 : Int32) = 6 by decide), if_neg (show ¬ (8 : Int32) = 7 by decide), if_pos rfl]
  exact h.1.letAll h.2.1.1.c10
theorem St.val9 (h : St B Y M) : v_X9_value Y 9 = iN (nsum (lenQ M) (M 18 2)) := by
  unfold v_X9_value
  rw [if_pos (show v_X9_isWithin 9 0 2 = 0 by decide), if_pos (show v_X9_isWithin 9 10 18 = 0 by decide), if_neg (show ¬ (9 : Int32) = 3 by decide), if_neg (show ¬ (9 : Int32) = 4 by decide), if_neg (show ¬ (9 : Int32) = 5 by decide), if_neg (show ¬ (9 : Int32) = 6 by decide), if_neg (show ¬ (9 : Int32) = 7 by decide), if_neg (show ¬ (9 : Int32) = 8 by decide), if_pos rfl]
  exact h.1.lenAll h.2.1.1
theorem St.val10 (h : St B Y M) : v_X9_value Y 10 = iN (M 1 0) := by
  unfold v_X9_value
  rw [if_pos (show v_X9_isWithin 10 0 2 = 0 by decide), if_neg (show ¬ v_X9_isWithin 10 10 18 = 0 by decide)]
  exact (at_in (i := 0) (by decide) (by decide)).trans (h.1.a (by decide) 0)
theorem St.val11 (h : St B Y M) : v_X9_value Y 11 = iN (M 1 1) := by
  unfold v_X9_value
  rw [if_pos (show v_X9_isWithin 11 0 2 = 0 by decide), if_neg (show ¬ v_X9_isWithin 11 10 18 = 0 by decide)]
  exact (at_in (i := 1) (by decide) (by decide)).trans (h.1.a (by decide) 1)
theorem St.val12 (h : St B Y M) : v_X9_value Y 12 = iN (M 1 2) := by
  unfold v_X9_value
  rw [if_pos (show v_X9_isWithin 12 0 2 = 0 by decide), if_neg (show ¬ v_X9_isWithin 12 10 18 = 0 by decide)]
  exact (at_in (i := 2) (by decide) (by decide)).trans (h.1.a (by decide) 2)
theorem St.val13 (h : St B Y M) : v_X9_value Y 13 = iN (M 1 3) := by
  unfold v_X9_value
  rw [if_pos (show v_X9_isWithin 13 0 2 = 0 by decide), if_neg (show ¬ v_X9_isWithin 13 10 18 = 0 by decide)]
  exact (at_in (i := 3) (by decide) (by decide)).trans (h.1.a (by decide) 3)
theorem St.val14 (h : St B Y M) : v_X9_value Y 14 = iN (M 1 4) := by
  unfold v_X9_value
  rw [if_pos (show v_X9_isWithin 14 0 2 = 0 by decide), if_neg (show ¬ v_X9_isWithin 14 10 18 = 0 by decide)]
  exact (at_in (i := 4) (by decide) (by decide)).trans (h.1.a (by decide) 4)
theorem St.val15 (h : St B Y M) : v_X9_value Y 15 = iN (M 1 5) := by
  unfold v_X9_value
  rw [if_pos (show v_X9_isWithin 15 0 2 = 0 by decide), if_neg (show ¬ v_X9_isWithin 15 10 18 = 0 by decide)]
  exact (at_in (i := 5) (by decide) (by decide)).trans (h.1.a (by decide) 5)
theorem St.val16 (h : St B Y M) : v_X9_value Y 16 = iN (M 1 6) := by
  unfold v_X9_value
  rw [if_pos (show v_X9_isWithin 16 0 2 = 0 by decide), if_neg (show ¬ v_X9_isWithin 16 10 18 = 0 by decide)]
  exact (at_in (i := 6) (by decide) (by decide)).trans (h.1.a (by decide) 6)
theorem St.val17 (h : St B Y M) : v_X9_value Y 17 = iN (M 1 7) := by
  unfold v_X9_value
  rw [if_pos (show v_X9_isWithin 17 0 2 = 0 by decide), if_neg (show ¬ v_X9_isWithin 17 10 18 = 0 by decide)]
  exact (at_in (i := 7) (by decide) (by decide)).trans (h.1.a (by decide) 7)
theorem St.val18 (h : St B Y M) : v_X9_value Y 18 = iN (M 1 8) := by
  unfold v_X9_value
  rw [if_pos (show v_X9_isWithin 18 0 2 = 0 by decide), if_neg (show ¬ v_X9_isWithin 18 10 18 = 0 by decide)]
  exact (at_in (i := 8) (by decide) (by decide)).trans (h.1.a (by decide) 8)
theorem St.val21 (h : St B Y M) : v_X9_value Y 21 = -1 := by
  unfold v_X9_value
  rw [if_pos (show v_X9_isWithin 21 0 2 = 0 by decide), if_pos (show v_X9_isWithin 21 10 18 = 0 by decide), if_neg (show ¬ (21 : Int32) = 3 by decide), if_neg (show ¬ (21 : Int32) = 4 by decide), if_neg (show ¬ (21 : Int32) = 5 by decide), if_neg (show ¬ (21 : Int32) = 6 by decide), if_neg (show ¬ (21 : Int32) = 7 by decide), if_neg (show ¬ (21 : Int32) = 8 by decide), if_neg (show ¬ (21 : Int32) = 9 by decide), if_neg (show ¬ (21 : Int32) = 10 by decide), if_neg (show ¬ (21 : Int32) = 11 by decide), if_neg (show ¬ (21 : Int32) = 12 by decide), if_neg (show ¬ (21 : Int32) = 13 by decide), if_neg (show ¬ (21 : Int32) = 14 by decide), if_neg (show ¬ (21 : Int32) = 15 by decide), if_neg (show ¬ (21 : Int32) = 16 by decide), if_neg (show ¬ (21 : Int32) = 17 by decide), if_neg (show ¬ (21 : Int32) = 18 by decide), if_neg (show ¬ (21 : Int32) = 19 by decide), if_neg (show ¬ (21 : Int32) = 20 by decide)]
  skip
theorem St.off0 (h : St B Y M) (ho : o < M 18 2) : v_X9_office Y (iN o) 0 = iN (M 2 o) := by
  have c10 := h.2.1.1.c10
  unfold v_X9_office
  rw [h.1.has h.2.1.1.c10 (by have := h.2.1.1.c10; omega), if_pos ho, if_neg (by decide), if_pos rfl]
  exact (at_in (by decide) (by omega)).trans (h.1.a (by decide) o)
theorem St.off1 (h : St B Y M) (ho : o < M 18 2) : v_X9_office Y (iN o) 1 = iN (M 3 o) := by
  have c10 := h.2.1.1.c10
  unfold v_X9_office
  rw [h.1.has h.2.1.1.c10 (by have := h.2.1.1.c10; omega), if_pos ho, if_neg (by decide), if_neg (show ¬ (1 : Int32) = 0 by decide), if_pos rfl]
  exact (at_in (by decide) (by omega)).trans (h.1.a (by decide) o)
theorem St.off2 (h : St B Y M) (ho : o < M 18 2) : v_X9_office Y (iN o) 2 = iN (M 4 o) := by
  have c10 := h.2.1.1.c10
  unfold v_X9_office
  rw [h.1.has h.2.1.1.c10 (by have := h.2.1.1.c10; omega), if_pos ho, if_neg (by decide), if_neg (show ¬ (2 : Int32) = 0 by decide), if_neg (show ¬ (2 : Int32) = 1 by decide), if_pos rfl]
  exact (at_in (by decide) (by omega)).trans (h.1.a (by decide) o)
theorem St.off3 (h : St B Y M) (ho : o < M 18 2) : v_X9_office Y (iN o) 3 = iN (M 5 o) := by
  have c10 := h.2.1.1.c10
  unfold v_X9_office
  rw [h.1.has h.2.1.1.c10 (by have := h.2.1.1.c10; omega), if_pos ho, if_neg (by decide), if_neg (show ¬ (3 : Int32) = 0 by decide), if_neg (show ¬ (3 : Int32) = 1 by decide), if_neg (show ¬ (3 : Int32) = 2 by decide), if_pos rfl]
  exact (at_in (by decide) (by omega)).trans (h.1.a (by decide) o)
theorem St.off4 (h : St B Y M) (ho : o < M 18 2) : v_X9_office Y (iN o) 4 = iN (M 7 o) := by
  have c10 := h.2.1.1.c10
  unfold v_X9_office
  rw [h.1.has h.2.1.1.c10 (by have := h.2.1.1.c10; omega), if_pos ho, if_neg (by decide), if_neg (show ¬ (4 : Int32) = 0 by decide), if_neg (show ¬ (4 : Int32) = 1 by decide), if_neg (show ¬ (4 : Int32) = 2 by decide), if_neg (show ¬ (4 : Int32) = 3 by decide), if_pos rfl]
  exact (at_in (by decide) (by omega)).trans (h.1.a (by decide) o)
theorem St.off7 (h : St B Y M) (ho : o < M 18 2) : v_X9_office Y (iN o) 7 = iN (M 6 o) := by
  have c10 := h.2.1.1.c10
  unfold v_X9_office
  rw [h.1.has h.2.1.1.c10 (by have := h.2.1.1.c10; omega), if_pos ho, if_neg (by decide), if_neg (show ¬ (7 : Int32) = 0 by decide), if_neg (show ¬ (7 : Int32) = 1 by decide), if_neg (show ¬ (7 : Int32) = 2 by decide), if_neg (show ¬ (7 : Int32) = 3 by decide), if_neg (show ¬ (7 : Int32) = 4 by decide), if_neg (show ¬ (7 : Int32) = 5 by decide), if_neg (show ¬ (7 : Int32) = 6 by decide), if_pos rfl]
  exact (at_in (by decide) (by omega)).trans (h.1.a (by decide) o)
theorem St.off5 (h : St B Y M) (ho : o < M 18 2) : v_X9_office Y (iN o) 5 = iN (lenQ M o) := by
  have c10 := h.2.1.1.c10
  unfold v_X9_office
  rw [h.1.has h.2.1.1.c10 (by have := h.2.1.1.c10; omega), if_pos ho, if_neg (by decide), if_neg (show ¬ (5 : Int32) = 0 by decide), if_neg (show ¬ (5 : Int32) = 1 by decide), if_neg (show ¬ (5 : Int32) = 2 by decide), if_neg (show ¬ (5 : Int32) = 3 by decide), if_neg (show ¬ (5 : Int32) = 4 by decide), if_pos rfl]
  exact h.1.lenq (by omega) (h.2.1.1.w6 ho)
theorem St.off8 (h : St B Y M) (ho : o < M 18 2) : v_X9_office Y (iN o) 8 = iN (toN M o (M 18 2)) := by
  have c10 := h.2.1.1.c10
  unfold v_X9_office
  rw [h.1.has h.2.1.1.c10 (by have := h.2.1.1.c10; omega), if_pos ho, if_neg (by decide), if_neg (show ¬ (8 : Int32) = 0 by decide), if_neg (show ¬ (8 : Int32) = 1 by decide), if_neg (show ¬ (8 : Int32) = 2 by decide), if_neg (show ¬ (8 : Int32) = 3 by decide), if_neg (show ¬ (8 : Int32) = 4 by decide), if_neg (show ¬ (8 : Int32) = 5 by decide), if_neg (show ¬ (8 : Int32) = 6 by decide), if_neg (show ¬ (8 : Int32) = 7 by decide), if_pos rfl]
  exact h.1.to_ h.2.1.1 (by omega)
theorem St.off6 (h : St B Y M) (hB : B ≤ 1000000) (ho : o < M 18 2) : v_X9_office Y (iN o) 6 = iO (stand M o) := by
  have c10 := h.2.1.1.c10
  unfold v_X9_office
  rw [h.1.has h.2.1.1.c10 (by have := h.2.1.1.c10; omega), if_pos ho, if_neg (by decide), if_neg (show ¬ (6 : Int32) = 0 by decide), if_neg (show ¬ (6 : Int32) = 1 by decide), if_neg (show ¬ (6 : Int32) = 2 by decide), if_neg (show ¬ (6 : Int32) = 3 by decide), if_neg (show ¬ (6 : Int32) = 4 by decide), if_neg (show ¬ (6 : Int32) = 5 by decide), if_pos rfl]
  exact h.1.std (TS.inv h.2.1 (by omega)) (by omega)
theorem St.offN (h : St B Y M) (x : Int32) : v_X9_office Y (iN (M 18 2)) x = -1 := by
  have c10 := h.2.1.1.c10
  unfold v_X9_office
  rw [h.1.has c10 (by omega), if_neg (Nat.lt_irrefl _), if_pos rfl]
theorem St.tokN (h : St B Y M) (x : Int32) : v_X9_token Y (iN (M 18 3)) x = -1 := by
  have t3 := h.2.1.2.1.1
  unfold v_X9_token
  rw [h.1.hasT t3 (by omega), if_neg (Nat.lt_irrefl _), if_pos rfl]
theorem St.tok0 (h : St B Y M) (ht : t < M 18 3) : v_X9_token Y (iN t) 0 = iN (M 10 t) := by
  have t3 := h.2.1.2.1.1
  unfold v_X9_token
  rw [h.1.hasT t3 (by omega), if_pos ht, if_neg (by decide), if_pos rfl]
  exact (at_in (by decide) (by omega)).trans (h.1.a (by decide) t)
theorem St.tok1 (h : St B Y M) (ht : t < M 18 3) : v_X9_token Y (iN t) 1 = iN (M 11 t) := by
  have t3 := h.2.1.2.1.1
  unfold v_X9_token
  rw [h.1.hasT t3 (by omega), if_pos ht, if_neg (by decide), if_neg (show ¬ (1 : Int32) = 0 by decide), if_pos rfl]
  exact (at_in (by decide) (by omega)).trans (h.1.a (by decide) t)
theorem St.tok2 (h : St B Y M) (ht : t < M 18 3) : v_X9_token Y (iN t) 2 = iN (M 12 t) := by
  have t3 := h.2.1.2.1.1
  unfold v_X9_token
  rw [h.1.hasT t3 (by omega), if_pos ht, if_neg (by decide), if_neg (show ¬ (2 : Int32) = 0 by decide), if_neg (show ¬ (2 : Int32) = 1 by decide), if_pos rfl]
  exact (at_in (by decide) (by omega)).trans (h.1.a (by decide) t)
theorem St.tok3 (h : St B Y M) (ht : t < M 18 3) : v_X9_token Y (iN t) 3 = iN (M 13 t) := by
  have t3 := h.2.1.2.1.1
  unfold v_X9_token
  rw [h.1.hasT t3 (by omega), if_pos ht, if_neg (by decide), if_neg (show ¬ (3 : Int32) = 0 by decide), if_neg (show ¬ (3 : Int32) = 1 by decide), if_neg (show ¬ (3 : Int32) = 2 by decide), if_pos rfl]
  exact (at_in (by decide) (by omega)).trans (h.1.a (by decide) t)
theorem St.tok4 (h : St B Y M) (ht : t < M 18 3) : v_X9_token Y (iN t) 4 = iN (M 14 t) := by
  have t3 := h.2.1.2.1.1
  unfold v_X9_token
  rw [h.1.hasT t3 (by omega), if_pos ht, if_neg (by decide), if_neg (show ¬ (4 : Int32) = 0 by decide), if_neg (show ¬ (4 : Int32) = 1 by decide), if_neg (show ¬ (4 : Int32) = 2 by decide), if_neg (show ¬ (4 : Int32) = 3 by decide), if_pos rfl]
  exact (at_in (by decide) (by omega)).trans (h.1.a (by decide) t)
theorem St.que (h : St B Y M) (ho : o < M 18 2) (hi : i < M 7 o) : v_X9_queue Y (iN o) (iN i) 0 = iN (M 8 (6 * o + i)) ∧ v_X9_queue Y (iN o) (iN i) 1 = iN (M 9 (6 * o + i)) := by
  have c10 := h.2.1.1.c10
  have w6 := h.2.1.1.w6 ho
  refine ⟨?_, ?_⟩
  · unfold v_X9_queue
    rw [h.1.has c10 (by omega), if_pos ho, if_neg (by decide), if_neg (iN_neg (by omega)), if_neg (by decide), at_in (by decide) (by omega), h.1.a (by decide), if_pos (iN_ylt hi (by omega)), if_pos rfl, h.1.toOf (by omega) (by omega)]
  · unfold v_X9_queue v_X9_queue_L91
    rw [h.1.has c10 (by omega), if_pos ho, if_neg (by decide), if_neg (iN_neg (by omega)), if_neg (by decide), at_in (by decide) (by omega), h.1.a (by decide), if_pos (iN_ylt hi (by omega)), if_neg (by decide), if_neg (by decide), h.1.lengthOf (by omega) (by omega)]
theorem St.que2 (h : St B Y M) (hB : B ≤ 1000000) (ho : o < M 18 2) (hi : i < M 7 o) : v_X9_queue Y (iN o) (iN i) 2 = iN (if i = 0 ∧ 0 < leftN M o then leftN M o else M 9 (6 * o + i)) := by
  have c10 := h.2.1.1.c10
  have w6 := h.2.1.1.w6 ho
  have hT := TS.inv h.2.1 (show B ≤ 100000000 by omega)
  have l9 : leftN M o < 2147483648 := by
    unfold leftN
    cases hs : stand M o with
    | none =>
      show 0 < 2147483648
      decide
    | some t =>
      have := (hT.2 t (stN_some _ hs).1).2.2.1
      show M 14 t < _
      omega
  unfold v_X9_queue v_X9_queue_L91
  rw [h.1.has c10 (by omega), if_pos ho, if_neg (by decide), if_neg (iN_neg (by omega)), if_neg (by decide), at_in (by decide) (by omega), h.1.a (by decide), if_pos (iN_ylt hi (by omega)), if_neg (by decide), if_pos rfl, h.1.leftAt hT (by omega), h.1.lengthOf (by omega) (by omega)]
  by_cases q : i = 0
  · rw [if_pos ((iN_0 (by omega)).mpr q)]
    by_cases q2 : 0 < leftN M o
    · rw [if_pos ((iN_pos l9).mpr q2), if_pos ⟨q, q2⟩]
    · rw [if_neg (fun z => q2 ((iN_pos l9).mp z)), if_neg (fun z => q2 z.2)]
  · rw [if_neg (fun z => q ((iN_0 (by omega)).mp z)), if_neg (fun z => q z.1)]
theorem St.queN (h : St B Y M) (ho : o < M 18 2) : v_X9_queue Y (iN o) (iN (M 7 o)) 0 = -2 := by
  have c10 := h.2.1.1.c10
  have w6 := h.2.1.1.w6 ho
  unfold v_X9_queue
  rw [h.1.has c10 (by omega), if_pos ho, if_neg (by decide), if_neg (iN_neg (by omega)), if_neg (by decide), at_in (by decide) (by omega), h.1.a (by decide), if_neg (iN_nlt (by omega))]
theorem left_lt (hI : Inv B M) : leftN M o ≤ 9 := by
  unfold leftN
  cases hs : stand M o with
  | none => exact Nat.zero_le 9
  | some t => exact (hI.2.1.2.2.1 t (stN_some _ hs).1).2.2.2.2.2.1
theorem St.why (h : St B Y M) (hB : B ≤ 1000000) (ho : o < M 18 2) : v_X9_why Y (iN o) = iN (whN M o) := by
  have c10 := h.2.1.1.c10
  have w6 := h.2.1.1.w6 ho
  have hT := TS.inv h.2.1 (show B ≤ 100000000 by omega)
  have l9 := left_lt (o := o) h.2.1
  have hl := h.1.leftAt hT (x := o) (by omega)
  unfold v_X8_leftAt at hl
  unfold v_X9_why whN
  rw [h.1.has c10 (by omega), if_pos ho, if_neg (by decide), hl]
  by_cases q : 0 < leftN M o
  · rw [if_pos q, if_pos ((iN_pos (by omega)).mpr q)]
    rfl
  · rw [if_neg q, if_neg (fun z => q ((iN_pos (by omega)).mp z)), h.1.isOpen (by omega) (h.2.1.1.op ho)]
    by_cases q1 : M 4 o = 1
    · rw [if_pos q1, if_neg (by decide), if_neg (show ¬ M 4 o ≠ 1 from fun z => z q1), h.1.std hT (by omega)]
      cases hs : stand M o with
      | none =>
        rw [if_pos (show iO none = -2 from rfl)]
        rfl
      | some t =>
        have ht := (stN_some _ hs).1
        have t3 := h.2.1.2.1.1
        have TT := h.2.1.2.1.2.2.1 t ht
        have t13 := TT.2.2.2.2.1
        obtain ⟨r1, r2, r3, r4, r5, r6⟩ := h.2.1.2.2.2.2.2
        have b5 := h.2.1.2.2.2.1.2.2.1 o ho
        rw [if_neg (show ¬ iO (some t) = -2 from iN_m2 (by omega)), at_in (by decide) (show o < 10 by omega), h.1.a (by decide)]
        show (if iN (M 7 o) = 0 then (3 : Int32) else if v_X6_fitsInTurn (Y 0) (iN o) (iN t) = 0 then 4 else if v_X6_fitsInDay (Y 0) (iN o) = 0 then 5 else 6) = iN (if M 7 o = 0 then 3 else if ¬ M 9 (6 * o) + M 13 t ≤ M 0 0 then 4 else if ¬ M 9 (6 * o) + M 5 o ≤ M 0 2 then 5 else 6)
        by_cases q7 : M 7 o = 0
        · rw [if_pos q7, if_pos ((iN_0 (by omega)).mpr q7)]
          rfl
        · have l0 := h.2.1.1.let ho (i := 0) (by omega)
          rw [Nat.add_zero] at l0
          rw [if_neg q7, if_neg (fun z => q7 ((iN_0 (by omega)).mp z)), h.1.inTurn (by omega) (by omega) (by omega) (by omega) (by omega), h.1.inDay (by omega) (by omega) (by omega) (by omega)]
          by_cases x1 : M 9 (6 * o) + M 13 t ≤ M 0 0
          · rw [if_pos x1, if_neg (by decide), if_neg (show ¬ ¬ M 9 (6 * o) + M 13 t ≤ M 0 0 from fun z => z x1)]
            by_cases x2 : M 9 (6 * o) + M 5 o ≤ M 0 2
            · rw [if_pos x2, if_neg (by decide), if_neg (show ¬ ¬ M 9 (6 * o) + M 5 o ≤ M 0 2 from fun z => z x2)]
              rfl
            · rw [if_neg x2, if_pos rfl, if_pos x2]
              rfl
          · rw [if_neg x1, if_pos rfl, if_pos x1]
            rfl
    · rw [if_neg q1, if_pos rfl, if_pos q1]
      rfl
theorem St.winner (h : St B Y M) : v_X9_winner Y = iO (winN M (M 18 2)) := h.1.win h.2.1.1
theorem rouL (h : LL (Y 0) M) (c10 : M 18 2 ≤ 10) : ∀ d k n, k + d = M 18 2 → d < n → v_X9_round_L4 n Y (iN (nsum (M 2) k)) (iN k) = iN (nsum (M 2) (M 18 2)) := by
  intro d
  induction d with
  | zero =>
    intro k n e hn
    obtain ⟨n, rfl⟩ := some_succ hn
    rw [v_X9_round_L4, h.c, show k = M 18 2 by omega, if_neg (iN_nlt (by omega))]
  | succ d ih =>
    intro k n e hn
    obtain ⟨n, rfl⟩ := some_succ hn
    rw [v_X9_round_L4, h.c, if_pos (iN_ylt (by omega) (by omega)), at_in (by decide) (by omega), h.a (by decide), iN_add, iN_s]
    exact ih (k + 1) n (by omega) (by omega)
theorem St.round (h : St B Y M) : v_X9_round Y = iN (nsum (M 2) (M 18 2)) := by
  have c10 := h.2.1.1.c10
  exact rouL h.1 c10 (M 18 2) 0 (mu 0 + 1) (by omega) (by rw [mu_0]; omega)
theorem lenQ_le (hO : OI M) (ho : o < M 18 2) : lenQ M o ≤ 54 := by
  have w6 := hO.w6 ho
  have : lenQ M o ≤ M 7 o * 9 := nsum_le _ (fun i hi => (hO.let ho hi).2.2.2)
  omega
theorem busL (h : LL (Y 0) M) (hO : OI M) : ∀ d k n, k + 1 + d = M 18 2 → d < n → v_X9_busiest_L4 n Y (iN (busN M k)) (iN (k + 1)) = iN (busN M (M 18 2 - 1)) := by
  have c10 := hO.c10
  intro d
  induction d with
  | zero =>
    intro k n e hn
    obtain ⟨n, rfl⟩ := some_succ hn
    rw [v_X9_busiest_L4, h.c, show k + 1 = M 18 2 by omega, if_neg (iN_nlt (by omega)), show M 18 2 - 1 = k by omega]
  | succ d ih =>
    intro k n e hn
    obtain ⟨n, rfl⟩ := some_succ hn
    have hb := busN_le M k
    have l1 := lenQ_le hO (show busN M k < M 18 2 by omega)
    have l2 := lenQ_le hO (show k + 1 < M 18 2 by omega)
    have ih' := ih (k + 1) n (by omega) (by omega)
    rw [busN] at ih'
    rw [v_X9_busiest_L4, h.c, if_pos (iN_ylt (by omega) (by omega)), h.lenq (by omega) (hO.w6 (by omega)), h.lenq (by omega) (hO.w6 (by omega)), iN_s]
    by_cases q : lenQ M (busN M k) < lenQ M (k + 1)
    · rw [if_pos ((iN_lt (by omega) (by omega)).mpr q)]
      rw [if_pos q] at ih'
      exact ih'
    · rw [if_neg (fun z => q ((iN_lt (by omega) (by omega)).mp z))]
      rw [if_neg q] at ih'
      exact ih'
theorem St.busiest (h : St B Y M) : v_X9_busiest Y = iN (busN M (M 18 2 - 1)) := by
  have c10 := h.2.1.1.c10
  have c2 := h.2.1.1.c2
  exact busL h.1 h.2.1.1 (M 18 2 - 1) 0 (mu 1 + 1) (by omega) (by rw [show mu 1 = 2147483646 from rfl]; omega)
/-- an operation's new state -/
theorem St.opY (h : St B Y M) (hL : LL S' M') (hI : Inv B' M') (hB : B ≤ B') : St B' (yU (s_X0_remember Y) 0 S') M' ∧ UN B (yU (s_X0_remember Y) 0 S') (Y 0) M := h.op (fun k hk => yU_ne hk) (by rw [yU_eq]; exact hL) hI hB
theorem St.rule (h : St B Y M) {a : Nat} (ha : rOK a v) : (M 0 a = v ∧ p_X9_rule Y (iN a) (iN v) = (-2, Y)) ∨ (M 0 a ≠ v ∧ ∃ Z, p_X9_rule Y (iN a) (iN v) = (iN (M 0 a), Z) ∧ St B Z (nP M 0 a v) ∧ UN B Z (Y 0) M) := by
  have r0 := rem_0 h
  have ha2 : a ≤ 2 := by have := ha.1; omega
  have hv : v ≤ 99 := by have := ha.1; omega
  obtain ⟨r1, r2, r3, r4, r5, r6⟩ := h.2.1.2.2.2.2.2
  have hb : M 0 a ≤ 99 := by rcases (by omega : a = 0 ∨ a = 1 ∨ a = 2) with rfl | rfl | rfl <;> omega
  unfold p_X9_rule
  rw [isRuleY ha, if_neg (by decide), at_in (by decide) (by omega), h.1.a (by decide)]
  by_cases q : M 0 a = v
  · left
    rw [if_pos (by rw [q])]
    exact ⟨q, rfl⟩
  · right
    rw [if_neg (fun z => q ((iN_inj (by omega) (by omega)).mp z))]
    refine ⟨q, _, rfl, ?_⟩
    rw [yU_eq, yU_yU, r0]
    exact h.opY ((h.1.rule ha2 v).log _ _ _) (h.2.1.rule ha.1 ha.2) (Nat.le_refl _)
theorem St.shut (h : St B Y M) (hB : B ≤ 1000000) (ho : o < M 18 2) (hv : v ≤ 1) (hne : M 4 o ≠ v) : ∃ Z, p_X9_shut Y (iN o) (iN v) = (iN (match stand M o with | none => 0 | some _ => 1), Z) ∧ St (B + 1) Z (shN M o v) ∧ UN B Z (Y 0) M := by
  have r0 := rem_0 h
  have c10 := h.2.1.1.c10
  have o1 := h.2.1.1.op ho
  have hT := TS.inv h.2.1 (show B ≤ 100000000 by omega)
  have hs := h.1.shut hT (show o < 10 by omega) hv
  have e1 : at_ 9 (Y 0 1) 6 = iN (M 1 6) := (at_in (i := 6) (by decide) (by decide)).trans (h.1.a (by decide) 6)
  have e2 : at_ 9 (s_X6_shutOrOpen (Y 0) (iN o) (iN v) 1) 6 = iN (shN M o v 1 6) := (at_in (i := 6) (by decide) (by decide)).trans (hs.a (by decide) 6)
  have ew : v_X9_isWithin (iN v) 0 1 = 1 := (wth_iN v 0 1 (by omega) (by decide) (by decide)).trans (if_pos ⟨by omega, hv⟩)
  unfold p_X9_shut
  rw [h.1.has c10 (by omega), if_pos ho, if_neg (by decide), ew, if_neg (by decide), at_in (by decide) (show o < 10 by omega), h.1.a (by decide), if_neg (fun z => hne ((iN_inj (by omega) (by omega)).mp z))]
  unfold p_X9_shut_L57 p_X9_shut_L79
  rw [yU_eq, r0, e1, e2]
  refine ⟨_, ?_, h.opY hs (h.2.1.shut ho hv hne) (by omega)⟩
  congr 1
  unfold shN
  cases hst : stand M o with
  | none =>
    show iN (nP M 4 o v 1 6) - iN (M 1 6) = iN 0
    rw [nP_r (by decide), iN_sub (Nat.le_refl _), Nat.sub_self]
  | some t =>
    show iN (loN (nP M 4 o v) t 1 6) - iN (M 1 6) = iN 1
    have : loN (nP M 4 o v) t 1 6 = M 1 6 + 1 := by
      unfold loN
      rw [drN_o (by omega), nP_e, nP_r (by decide)]
    rw [this, iN_sub (by omega), Nat.add_sub_cancel_left]
theorem St.stray (h : St B Y M) (hB : B ≤ 1000000) (ho : o < M 18 2) : (M 4 o ≠ 1 ∧ p_X9_stray Y (iN o) = (-4, Y)) ∨ (M 4 o = 1 ∧ ¬ M 18 3 < 3 ∧ p_X9_stray Y (iN o) = (-3, Y)) ∨ (M 4 o = 1 ∧ M 18 3 < 3 ∧ ∃ Z, p_X9_stray Y (iN o) = (iN (M 18 4 + 1), Z) ∧ St (B + 1) Z (sxN M o) ∧ UN B Z (Y 0) M) := by
  have r0 := rem_0 h
  have c10 := h.2.1.1.c10
  have o1 := h.2.1.1.op ho
  have t3 := h.2.1.2.1.1
  have hT := TS.inv h.2.1 (show B ≤ 100000000 by omega)
  unfold p_X9_stray
  rw [h.1.has c10 (by omega), if_pos ho, if_neg (by decide), h.1.isOpen (by omega) o1, h.1.tc]
  by_cases q : M 4 o = 1
  · right
    rw [if_pos q, if_neg (by decide)]
    by_cases q3 : M 18 3 < 3
    · right
      rw [if_pos (show iN (M 18 3) < 3 from (iN_lt (b := 3) (by omega) (by decide)).mpr q3)]
      unfold p_X9_stray_L61 p_X9_stray_L72 p_X9_stray_L97
      have e4 : s_X8_add (Y 0) (iN o) 18 4 = iN (M 18 4 + 1) := by
        rw [(h.1.add q3 o).2 4 (by decide) (by decide), adN_18, if_neg (by decide), if_pos rfl]
      refine ⟨q, q3, yU (s_X0_remember Y) 0 (s_X6_tearUpWhereTwoMeet (s_X1_add (s_X8_add (Y 0) (iN o)) 6 (iN (M 18 4 + 1)) (iN o))), ?_, ?_⟩
      · rw [yU_eq, yU_yU, yU_eq, yU_yU, r0, e4]
      · exact h.opY (h.1.stray hT h.2.1.2.2.1 q3 (show o < 10 by omega) 6 (iN (M 18 4 + 1)) (iN o)) (h.2.1.stray q3 ho q) (by omega)
    · left
      rw [if_neg (show ¬ iN (M 18 3) < 3 from fun z => q3 ((iN_lt (b := 3) (by omega) (by decide)).mp z))]
      exact ⟨q, q3, rfl⟩
  · left
    rw [if_neg q, if_pos rfl]
    exact ⟨q, rfl⟩
theorem St.cancel4 (h : St B Y M) (hB : B ≤ 1000000) (ho : o < M 18 2) (hl : 0 < leftN M o) (hw : 0 < M 7 o) : p_X9_cancel Y (iN o) 0 = (-4, Y) := by
  have c10 := h.2.1.1.c10
  have w6 := h.2.1.1.w6 ho
  have hT := TS.inv h.2.1 (show B ≤ 100000000 by omega)
  have l9 := left_lt (o := o) h.2.1
  unfold p_X9_cancel
  rw [h.1.has c10 (by omega), if_pos ho, if_neg (by decide), if_neg (by decide), at_in (by decide) (show o < 10 by omega), h.1.a (by decide), if_pos ((iN_pos (by omega)).mpr hw), if_pos rfl, h.1.leftAt hT (by omega), if_pos ((iN_pos (by omega)).mpr hl)]
theorem Dn.same (h : St B Y M) (x : Int32) : Dn B Y (x, Y) := ⟨Or.inr rfl, M, h.mono (by omega)⟩
theorem Dn.op (n : Nat) (hn : n < 2147483648) (h : St B' Z M') (hB : B' ≤ B + 600) : Dn B Y (iN n, Z) := ⟨Or.inl (iN_neg hn), M', h.mono hB⟩
theorem Dn.letter (h : St B Y M) (ho : o < M 18 2) (hp : p < M 18 2) (hne : p ≠ o) (h1 : 1 ≤ k) (h9 : k ≤ 9) : Dn B Y (p_X9_letter Y (iN o) (iN p) (iN k)) := by
  have r0 := rem_0 h
  have c10 := h.2.1.1.c10
  have w6 := h.2.1.1.w6 ho
  have ew : v_X9_isWithin (iN k) 1 9 = 1 := (wth_iN k 1 9 (by omega) (by decide) (by decide)).trans (if_pos ⟨h1, h9⟩)
  unfold p_X9_letter
  rw [h.1.has c10 (by omega), if_pos ho, if_neg (by decide), h.1.has c10 (by omega), if_pos hp, if_neg (by decide), if_neg (fun z => hne ((iN_inj (by omega) (by omega)).mp z).symm), ew, if_neg (by decide), at_in (by decide) (show o < 10 by omega), h.1.a (by decide)]
  by_cases q : M 7 o < 6
  · rw [if_pos (show iN (M 7 o) < 6 from (iN_lt (b := 6) (by omega) (by decide)).mpr q)]
    unfold p_X9_letter_L74 p_X9_letter_L82 p_X9_letter_L93 p_X9_letter_L106
    rw [yU_eq, yU_yU, yU_eq, yU_yU, yU_eq, r0]
    have hL := (h.1.letter (p := p) (k := k) (show o < 10 by omega) q).log 0 (iN o) (iN k)
    have e7 : at_ 10 (s_X1_add (sU (s_X2_addLetter (Y 0) (iN o) (iN p) (iN k)) 1 (raise_ 9 (s_X2_addLetter (Y 0) (iN o) (iN p) (iN k) 1) 0)) 0 (iN o) (iN k) 7) (iN o) = iN (M 7 o + 1) := by
      rw [at_in (by decide) (show o < 10 by omega), hL.a (by decide), adL_7, if_pos rfl]
    rw [e7]
    exact Dn.op _ (by omega) (h.opY hL (h.2.1.letter ho hp hne q h1 h9) (Nat.le_refl _)).1 (by omega)
  · rw [if_neg (show ¬ iN (M 7 o) < 6 from fun z => q ((iN_lt (b := 6) (by omega) (by decide)).mp z))]
    exact Dn.same h _
theorem Dn.cancel (h : St B Y M) (hB : B ≤ 1000000) (ho : o < M 18 2) (hi : i ≤ 3) : Dn B Y (p_X9_cancel Y (iN o) (iN i)) := by
  have r0 := rem_0 h
  have c10 := h.2.1.1.c10
  have w6 := h.2.1.1.w6 ho
  have hT := TS.inv h.2.1 (show B ≤ 100000000 by omega)
  have l9 := left_lt (o := o) h.2.1
  have fin : i < M 7 o → (i = 0 → ¬ 0 < leftN M o) → Dn B Y (p_X9_cancel_L58 Y (iN o) (iN i)) := by
    intro hw hz
    unfold p_X9_cancel_L58 p_X9_cancel_L69 p_X9_cancel_L83 p_X9_cancel_L94 p_X9_cancel_L109
    rw [yU_eq, yU_yU, yU_eq, yU_yU, yU_eq, r0]
    have hL := (h.1.cancel (show o < 10 by omega) w6 hw).log 9 (iN o) (v_X2_lengthOf (Y 0) (iN o) (iN i))
    have e7 : at_ 10 (s_X1_add (sU (s_X2_removeLetter (Y 0) (iN o) (iN i)) 1 (raise_ 9 (s_X2_removeLetter (Y 0) (iN o) (iN i) 1) 3)) 9 (iN o) (v_X2_lengthOf (Y 0) (iN o) (iN i)) 7) (iN o) = iN (M 7 o - 1) := by
      rw [at_in (by decide) (show o < 10 by omega), hL.a (by decide)]
      unfold caN
      rw [nP_r (by decide), rmN_7, if_pos rfl]
    rw [e7]
    refine Dn.op _ (by omega) (h.opY hL (h.2.1.cancel ho hw (fun z t ht h14 h11 => hz z ?_)) (Nat.le_refl _)).1 (by omega)
    have T := h.2.1.2.1.2.2.1 t ht
    have h12 : M 12 t = 0 := Classical.byContradiction fun w => h14 (T.2.2.2.2.2.2.1 w).2
    have hs := stand_of h.2.1.2.2.1 ht h12
    rw [h11] at hs
    unfold leftN
    rw [hs]
    exact Nat.pos_of_ne_zero h14
  unfold p_X9_cancel
  rw [h.1.has c10 (by omega), if_pos ho, if_neg (by decide), if_neg (iN_neg (by omega)), at_in (by decide) (show o < 10 by omega), h.1.a (by decide)]
  by_cases q : i < M 7 o
  · rw [if_pos (iN_ylt q (by omega))]
    by_cases q0 : i = 0
    · rw [if_pos ((iN_0 (by omega)).mpr q0), h.1.leftAt hT (by omega)]
      by_cases ql : 0 < leftN M o
      · rw [if_pos ((iN_pos (by omega)).mpr ql)]
        exact Dn.same h _
      · rw [if_neg (fun z => ql ((iN_pos (by omega)).mp z))]
        exact fin q (fun _ => ql)
    · rw [if_neg (fun z => q0 ((iN_0 (by omega)).mp z))]
      exact fin q (fun z => absurd z q0)
  · rw [if_neg (fun z => q ((iN_lt (by omega) (by omega)).mp z))]
    exact Dn.same h _
theorem Dn.shut (h : St B Y M) (hB : B ≤ 1000000) (ho : o < M 18 2) (hv : v ≤ 1) : Dn B Y (p_X9_shut Y (iN o) (iN v)) := by
  by_cases q : M 4 o = v
  · have c10 := h.2.1.1.c10
    have ew : v_X9_isWithin (iN v) 0 1 = 1 := (wth_iN v 0 1 (by omega) (by decide) (by decide)).trans (if_pos ⟨by omega, hv⟩)
    unfold p_X9_shut
    rw [h.1.has c10 (by omega), if_pos ho, if_neg (by decide), ew, if_neg (by decide), at_in (by decide) (show o < 10 by omega), h.1.a (by decide), if_pos (by rw [q])]
    exact Dn.same h _
  · obtain ⟨Z, e, h1, -⟩ := h.shut hB ho hv q
    rw [e]
    refine Dn.op _ ?_ h1 (by omega)
    cases stand M o with
    | none =>
      show 0 < 2147483648
      decide
    | some _ =>
      show 1 < 2147483648
      decide
theorem Dn.lose (h : St B Y M) (hB : B ≤ 1000000) (ht : t ≤ 3) : Dn B Y (p_X9_lose Y (iN t)) := by
  have r0 := rem_0 h
  have t3 := h.2.1.2.1.1
  unfold p_X9_lose p_X9_lose_L27
  rw [h.1.hasT t3 (by omega)]
  by_cases q : t < M 18 3
  · rw [if_pos q, if_neg (by decide), r0, at_in (by decide) (show t < 3 by omega), h.1.a (by decide)]
    have T := h.2.1.2.1.2.2.1 t q
    have b4 := h.2.1.2.1.2.1
    have t2 := T.2.1
    exact Dn.op _ (by omega) (h.opY (h.1.lose t3 q) (h.2.1.lose q) (by omega)).1 (by omega)
  · rw [if_neg q, if_pos rfl]
    exact Dn.same h _
theorem Dn.stray (h : St B Y M) (hB : B ≤ 1000000) (ho : o < M 18 2) : Dn B Y (p_X9_stray Y (iN o)) := by
  have b4 := h.2.1.2.1.2.1
  rcases h.stray hB ho with ⟨-, e⟩ | ⟨-, -, e⟩ | ⟨-, -, Z, e, h1, -⟩
  · rw [e]; exact Dn.same h _
  · rw [e]; exact Dn.same h _
  · rw [e]; exact Dn.op _ (by omega) h1 (by omega)
theorem Dn.minute (h : St B Y M) (hB : B ≤ 9000) {m : Nat} (h1 : 1 ≤ m) (h2 : m ≤ 100) : Dn B Y (p_X9_minute Y (iN m)) := by
  obtain ⟨Z, e, -, hs, -⟩ := h.minute hB h1 h2
  have b1 := hs.2.1.2.2.2.1.2.2.2.1
  rw [e]
  exact Dn.op _ (by omega) hs (by omega)
theorem Dn.rule (h : St B Y M) {a : Nat} (ha : a ≤ 2) (hv : 1 ≤ v) (hv2 : v ≤ 16) : Dn B Y (p_X9_rule Y (iN a) (iN v)) := by
  obtain ⟨r1, r2, r3, r4, r5, r6⟩ := h.2.1.2.2.2.2.2
  have hb : M 0 a ≤ 99 := by rcases (by omega : a = 0 ∨ a = 1 ∨ a = 2) with rfl | rfl | rfl <;> omega
  rcases h.rule (a := a) (v := v) ⟨by omega, hv⟩ with ⟨-, e⟩ | ⟨-, Z, e, h1, -⟩
  · rw [e]; exact Dn.same h _
  · rw [e]; exact Dn.op _ (by omega) h1 (by omega)
theorem Dn.set (h : St B Y M) (ho : o < M 18 2) {w : Nat} (hw : w ≤ 1) (hv : 1 ≤ v) (hv2 : v ≤ 16) : Dn B Y (p_X9_set Y (iN o) (iN w) (iN v)) := by
  have r0 := rem_0 h
  have c10 := h.2.1.1.c10
  have ew : v_X9_isWithin (iN w) 0 1 = 1 := (wth_iN w 0 1 (by omega) (by decide) (by decide)).trans (if_pos ⟨by omega, hw⟩)
  have e9 : v_X9_isWithin (iN v) 1 9 = if 1 ≤ v ∧ v ≤ 9 then 1 else 0 := wth_iN v 1 9 (by omega) (by decide) (by decide)
  have e99 : v_X9_isWithin (iN v) 1 99 = 1 := (wth_iN v 1 99 (by omega) (by decide) (by decide)).trans (if_pos ⟨hv, by omega⟩)
  obtain ⟨d1, d2, d3, d4, -⟩ := h.2.1.1.2.2.1 o ho
  unfold p_X9_set lt1
  rw [h.1.has c10 (by omega), if_pos ho, if_neg (by decide), ew, if_neg (by decide), at_in (by decide) (show o < 10 by omega), at_in (by decide) (show o < 10 by omega), h.1.a (by decide), h.1.a (by decide)]
  rcases (by omega : w = 0 ∨ w = 1) with rfl | rfl
  · rw [if_pos (show iN 0 = 0 from rfl), e9]
    by_cases q : 1 ≤ v ∧ v ≤ 9
    · rw [if_pos q, if_neg (by decide), if_pos (show iN 0 = 0 from rfl)]
      by_cases q2 : M 2 o = v
      · rw [if_pos (by rw [q2])]
        exact Dn.same h _
      · rw [if_neg (fun z => q2 ((iN_inj (by omega) (by omega)).mp z)), if_neg (show ¬ iN 0 = 1 by decide)]
        dsimp only
        rw [yU_eq, yU_yU, r0]
        exact Dn.op _ (by omega) (h.opY ((h.1.put (j := 2) (by decide) (n := 10) (by decide) (show o < 10 by omega) v).log _ _ _) (h.2.1.way q.1 q.2) (Nat.le_refl _)).1 (by omega)
    · rw [if_neg q, if_pos rfl]
      exact Dn.same h _
  · rw [if_neg (show ¬ iN 1 = 0 by decide), e99, if_neg (by decide), if_neg (show ¬ iN 1 = 0 by decide)]
    by_cases q2 : M 3 o = v
    · rw [if_pos (by rw [q2])]
      exact Dn.same h _
    · rw [if_neg (fun z => q2 ((iN_inj (by omega) (by omega)).mp z)), if_pos (show iN 1 = 1 from rfl)]
      by_cases q3 : v_X2_isNameTaken (Y 0) (iN v) = 0
      · have hn := (h.1.taken c10 (fun o ho => h.2.1.1.nm ho) (by omega)).mp q3
        rw [if_pos q3]
        dsimp only
        rw [yU_eq, yU_yU, r0]
        exact Dn.op _ (by omega) (h.opY ((h.1.put (j := 3) (by decide) (n := 10) (by decide) (show o < 10 by omega) v).log _ _ _) (h.2.1.name hv (by omega) hn) (Nat.le_refl _)).1 (by omega)
      · rw [if_neg q3]
        exact Dn.same h _
theorem Dn.keep (h : St B Y M) (hB : B ≤ 1000000) : Dn B Y (p_X9_keep Y 1) := by
  have b0 := h.2.1.2.2.2.1.1
  have e1 : (1 : Int32).toNatClampNeg = 1 := rfl
  have e14 : Int32.toNatClampNeg 1 = 1 := rfl
  unfold p_X9_keep p_X9_keep_L23 s_X5_fill
  rw [if_neg (show ¬ v_X9_isWithin 1 0 1 = 0 by decide), if_neg (show ¬ (1 : Int32) < 0 by decide), if_pos (show (1 : Int32) < 2 by decide), e14]
  generalize hZ : yU (yU Y (13 + 1) (Y 0)) 4 (sU ((yU Y (13 + 1) (Y 0)) 4) 2 (upd ((yU Y (13 + 1) (Y 0)) 4 2) 1 (vp_nar .boolean 1))) = Z
  have zk : ∀ k, k ≠ 4 → k ≠ 14 → Z k = Y k := fun k a b => by rw [← hZ, yU_ne a, yU_ne (by omega)]
  have z14 : Z 14 = Y 0 := by rw [← hZ, yU_ne (by decide), yU_eq]
  have z40 : Z 4 0 = Y 4 0 := by rw [← hZ, yU_eq, sU_ne (by decide), yU_ne (by decide)]
  have z42 : Z 4 2 0 = Y 4 2 0 := by rw [← hZ, yU_eq, sU_eq, upd_ne (by decide), yU_ne (by decide)]
  rw [zk 0 (by decide) (by decide), h.1.2 0 (by decide) (by decide)]
  refine Dn.op _ (by omega) (B' := B) (M' := M) ⟨by rw [zk 0 (by decide) (by decide)]; exact h.1, h.2.1, h.2.2.1.fr (fun k a b => zk k (by omega) (by omega)) (by rw [z40]) (by rw [z40]), fun i hi hz => ?_, by rw [zk 2 (by decide) (by decide)]; exact h.2.2.2.2⟩ (by omega)
  by_cases q : i = 1
  · subst q
    rw [z14]
    exact ⟨M, h.1, h.2.1⟩
  · have i0 : i = 0 := by omega
    subst i0
    rw [zk 13 (by decide) (by decide)]
    exact h.2.2.2.1 0 (by decide) (by rw [← z42]; exact hz)
theorem Dn.restore (h : St B Y M) (hB : B ≤ 1000000) : Dn B Y (p_X9_restore Y 1) := by
  have e1 : (1 : Int32).toNatClampNeg = 1 := rfl
  unfold p_X9_restore p_restore2 lt1
  rw [if_neg (show ¬ v_X9_isWithin 1 0 1 = 0 by decide), e1]
  by_cases q : Y 4 2 1 = 0
  · rw [if_pos q]
    exact Dn.same h _
  · rw [if_neg q]
    obtain ⟨N, n1, n2⟩ := h.2.2.2.1 1 (by decide) q
    obtain ⟨g1, g2, ⟨hn, hc, g3, g4, g5, g6, g7⟩, g8, g9⟩ := id h
    have r14 : s_X0_remember Y (13 + 1) = Y (13 + 1) := (v_rem g3 g4 g5 g6).2.1 14 (by decide) (by omega)
    have b0 := n2.2.2.2.1.1
    dsimp only
    rw [r14, yU_eq, n1.2 0 (by decide) (by decide)]
    exact Dn.op _ (by omega) (h.opY n1 n2 (Nat.le_refl _)).1 (by omega)
end QY
