-- PART 44: masks and shifts by whole numbers
theorem iN_sl : ∀ n, n < 32 → ((iN n &&& 31).toBitVec.smod 32).toNat = n := by decide +kernel
theorem iN_shr {a k : Nat} (ha : a < 2147483648) (hk : k < 32) : iN a >>> (iN k &&& 31) = iN (a / 2 ^ k) := by
  have hd : a / 2 ^ k ≤ a := Nat.div_le_self _ _
  apply Int32.toInt_inj.mp
  have e : (iN a >>> (iN k &&& 31)).toInt = (iN a).toInt >>> k := by
    have h := iN_sl k hk
    rw [← h]
    rw [h]
    exact (BitVec.toInt_sshiftRight ..).trans (by rw [h]; rfl)
  rw [e, Int.shiftRight_eq_div_pow, iN_toInt ha, iN_toInt (show a / 2 ^ k < 2147483648 by omega)]
  rfl
theorem iN_and (a b : Nat) : iN a &&& iN b = iN (a &&& b) := by
  apply Int32.toBitVec_inj.1
  show BitVec.ofNat 32 a &&& BitVec.ofNat 32 b = BitVec.ofNat 32 (a &&& b)
  apply BitVec.eq_of_getLsbD_eq
  intro i hi
  simp [hi]
theorem iN_msk (a k : Nat) : iN a &&& iN (2 ^ k - 1) = iN (a % 2 ^ k) := by
  rw [iN_and, Nat.and_two_pow_sub_one_eq_mod]
theorem m1_ (a : Nat) : iN a &&& 1 = iN (a % 2) := iN_msk a 1
theorem m3_ (a : Nat) : iN a &&& 3 = iN (a % 4) := iN_msk a 2
theorem m7_ (a : Nat) : iN a &&& 7 = iN (a % 8) := iN_msk a 3
theorem m15_ (a : Nat) : iN a &&& 15 = iN (a % 16) := iN_msk a 4
theorem m31_ (a : Nat) : iN a &&& 31 = iN (a % 32) := iN_msk a 5
theorem m255_ (a : Nat) : iN a &&& 255 = iN (a % 256) := iN_msk a 8
theorem m7f_ (a : Nat) : iN a &&& 2147483647 = iN (a % 2147483648) := iN_msk a 31
theorem any_7 (x : Int32) : ∃ n, n < 8 ∧ x &&& 7 = iN n := by
  obtain ⟨a, rfl⟩ := iN_any x
  exact ⟨a % 8, Nat.mod_lt _ (by decide), m7_ a⟩
theorem any_255 (x : Int32) : ∃ n, n < 256 ∧ x &&& 255 = iN n := by
  obtain ⟨a, rfl⟩ := iN_any x
  exact ⟨a % 256, Nat.mod_lt _ (by decide), m255_ a⟩
theorem any_7f (x : Int32) : ∃ n, n < 2147483648 ∧ x &&& 2147483647 = iN n := by
  obtain ⟨a, rfl⟩ := iN_any x
  exact ⟨a % 2147483648, Nat.mod_lt _ (by decide), m7f_ a⟩
theorem sr_ {a : Nat} (ha : a < 2147483648) (k : Nat) (hk : k < 32) : iN a >>> (iN k &&& 31) = iN (a / 2 ^ k) := iN_shr ha hk
