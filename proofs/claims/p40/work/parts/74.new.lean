-- PART 74: a new ring
theorem FR.zero {P : Nat → Prop} {mx : Nat} {r : Int32} (h : FR P mx r) (h0 : P 0) : r = 0 := by
  rcases h with ⟨-, h⟩ | ⟨k, -, e, -, h⟩
  · exact absurd h0 (h 0 (Nat.zero_le _))
  · cases k with
    | zero => exact e
    | succ k => exact absurd h0 (h 0 (by omega))
def z0N : NM := clN (fun _ _ => 0)
theorem z0N_eq (a b : Nat) : z0N a b = 0 := by
  unfold z0N clN
  split
  · rfl
  · split <;> rfl
theorem LL0 : LL zS z0N := ⟨fun j k _ => by rw [z0N_eq]; rfl, fun k _ _ => by rw [z0N_eq]; rfl⟩
def os0 : List (Nat × Nat × Nat) := [(2, 40, 1), (3, 70, 1), (1, 20, 1)]
def M0 : NM := bldN (fun _ _ => 0) 6 10 30 os0 [] (some 0)
theorem M0_inv : Inv 1 M0 := bld_inv _ ⟨by decide, by decide, by decide⟩ ⟨by decide, by decide⟩ (by decide) (by decide) trivial (fun x hx => by
  cases hx
  exact ⟨by decide, _, rfl, rfl⟩)
theorem LLM0 : LL (s_X6_beginAsNew zS) M0 := by
  have h1 := LL0.put (j := 0) (by decide) (n := 3) (by decide) (k := 0) (by decide) 6
  have h2 := h1.put (j := 0) (by decide) (n := 3) (by decide) (k := 1) (by decide) 10
  have h3 := h2.put (j := 0) (by decide) (n := 3) (by decide) (k := 2) (by decide) 30
  have h4 := h3.addO (by decide) (2, 40, 1)
  have h5 := h4.addO (by decide) (3, 70, 1)
  have h6 := h5.addO (by decide) (1, 20, 1)
  exact h6.add (by decide) 0
theorem St0 : St 1 Y2 M0 := ⟨LLM0, M0_inv, ⟨0, 0, by decide, by decide, rfl, rfl, fun i hi => absurd hi (Nat.not_lt_zero i)⟩, fun i _ h => absurd rfl h, rfl⟩
theorem undo0 : p_X9_undo Y2 = (-1, Y2) := by
  unfold p_X9_undo
  exact if_pos rfl
theorem val0_0 : v_X9_value Y2 0 = 6 := St0.val0
theorem val0_1 : v_X9_value Y2 1 = 10 := St0.val1
theorem val0_2 : v_X9_value Y2 2 = 30 := St0.val2
theorem rou0 : v_X9_round Y2 = 6 := St0.round
theorem win0 : v_X9_winner Y2 = 1 := St0.winner
theorem done0 {B : Nat} {Y : RS} (h : St B Y M0) (hB : B ≤ 1000000) : ∃ Y', p_X9_doneIn Y = (0, Y') ∧ St B Y' M0 := by
  obtain ⟨h1, h2⟩ := h.doneIn hB
  exact ⟨_, Prod.ext (h1.zero rfl) rfl, h2.st h⟩
theorem come0 {B : Nat} {Y : RS} (h : St B Y M0) (hB : B ≤ 1000000) : ∃ Y', p_X9_comesIn Y 0 = (0, Y') ∧ St B Y' M0 := by
  obtain ⟨h1, h2⟩ := h.comesIn hB (o := 0) (by decide)
  exact ⟨_, Prod.ext (h1.zero (fun z => by
    have e : stand M0 0 = some 0 := rfl
    have e2 : stand (miI M0 0) 0 = none := z
    rw [show miI M0 0 = M0 from rfl, e] at e2
    cases e2)) rfl, h2.st h⟩
