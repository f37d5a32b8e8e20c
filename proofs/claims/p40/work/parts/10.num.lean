-- PART 10: small whole numbers as Int32; reading and writing at them
def iN (n : Nat) : Int32 := Int32.ofNat n
theorem iN_add (a b : Nat) : iN a + iN b = iN (a + b) := (Int32.ofNat_add a b).symm
theorem iN_mul (a b : Nat) : iN a * iN b = iN (a * b) := (Int32.ofNat_mul a b).symm
theorem iN_sub {a b : Nat} (h : b ≤ a) : iN a - iN b = iN (a - b) := (Int32.ofNat_sub a b h).symm
theorem iN_nat {a : Nat} (h : a < 2147483648) : (iN a).toNatClampNeg = a := Int32.toNatClampNeg_ofNat_of_lt h
theorem iN_toInt {a : Nat} (h : a < 2147483648) : (iN a).toInt = a := Int32.toInt_ofNat_of_lt h
theorem iN_lt {a b : Nat} (ha : a < 2147483648) (hb : b < 2147483648) : (iN a < iN b) ↔ a < b := Int32.ofNat_lt_iff_lt ha hb
theorem iN_inj {a b : Nat} (ha : a < 2147483648) (hb : b < 2147483648) : iN a = iN b ↔ a = b := by
  constructor
  · intro h
    rw [← iN_nat ha, ← iN_nat hb, h]
  · intro h
    rw [h]
theorem iN_neg {a : Nat} (h : a < 2147483648) : ¬ iN a < 0 := fun q => Nat.not_lt_zero a ((iN_lt h (by decide)).mp q)
theorem iN_of {x : Int32} (h : ¬ x < 0) : ∃ a, a < 2147483648 ∧ x = iN a := ⟨x.toNatClampNeg, Int32.toNatClampNeg_lt x, (Int32.ofNat_toNatClampNeg x (Int32.not_lt.mp h)).symm⟩
theorem iN_between {x : Int32} {b : Nat} (hb : b < 2147483648) (h : ¬ x < 0) (h2 : x < iN b) : ∃ a, a < b ∧ x = iN a := by
  obtain ⟨a, ha, rfl⟩ := iN_of h
  exact ⟨a, (iN_lt ha hb).mp h2, rfl⟩
theorem iN_div {a b : Nat} (ha : a < 2147483648) (hb : b < 2147483648) : iN a / iN b = iN (a / b) := (Int32.ofNat_div ha hb).symm
theorem iN_rem {a b : Nat} (ha : a < 2147483648) (hb : b < 2147483648) : jrem (iN a) (iN b) = iN (a % b) := by
  unfold jrem
  rw [iN_div ha hb, iN_mul, iN_sub (Nat.div_mul_le_self a b), Nat.mod_eq_sub, Nat.mul_comm]
theorem at_iN {n : Nat} {g : Nat → Int32} {i : Nat} (hn : n < 2147483648) (hi : i < 2147483648) : at_ n g (iN i) = if i < n then g i else 0 := by
  unfold at_
  rw [show Int32.ofNat n = iN n from rfl]
  rw [if_neg (iN_neg hi), iN_nat hi]
  by_cases h : i < n
  · rw [if_pos h, if_pos ((iN_lt hi hn).mpr h)]
  · rw [if_neg h, if_neg (fun q => h ((iN_lt hi hn).mp q))]
theorem at_in {n : Nat} {g : Nat → Int32} {i : Nat} (hn : n < 2147483648) (hi : i < n) : at_ n g (iN i) = g i := by
  rw [at_iN hn (by omega), if_pos hi]
theorem put_in {n : Nat} {g : Nat → Int32} {i : Nat} {v : Int32} (hn : n < 2147483648) (hi : i < n) : put_ n g (iN i) v = upd g i v := by
  unfold put_
  rw [show Int32.ofNat n = iN n from rfl]
  rw [if_neg (iN_neg (by omega)), iN_nat (by omega), if_pos ((iN_lt (by omega) hn).mpr hi)]
theorem raise_in {n : Nat} {g : Nat → Int32} {i : Nat} (hn : n < 2147483648) (hi : i < n) : raise_ n g (iN i) = upd g i (g i + 1) := by
  unfold raise_
  rw [show Int32.ofNat n = iN n from rfl]
  rw [if_neg (iN_neg (by omega)), iN_nat (by omega), if_pos ((iN_lt (by omega) hn).mpr hi)]
theorem takeOut_in {n : Nat} {g : Nat → Int32} {i ah : Nat} (hn : n < 2147483648) (hi : i < ah) (hah : ah ≤ n) (j : Nat) : takeOut_ n g (iN i) (iN ah) j = if i ≤ j ∧ j + 1 < ah then g (j + 1) else g j := by
  unfold takeOut_
  rw [show Int32.ofNat n = iN n from rfl]
  rw [if_neg (iN_neg (by omega)), if_pos ((iN_lt (by omega) (by omega)).mpr hi), if_neg (fun q => by have := (iN_lt (by omega) (by omega)).mp q; omega)]
  rw [show iN i + 1 = iN (i + 1) from iN_add i 1, show iN ah - iN i - 1 = iN (ah - i - 1) by rw [iN_sub (by omega)]; exact iN_sub (b := 1) (by omega)]
  rw [iN_nat (by omega), iN_nat (by omega), iN_nat (by omega)]
  unfold va_cpy
  by_cases h : i ≤ j ∧ j + 1 < ah
  · rw [if_pos h, if_pos (by omega), show i + 1 + (j - i) = j + 1 by omega]
  · rw [if_neg h, if_neg (by omega)]
theorem upd_get (g : Nat → Int32) (k : Nat) (v : Int32) (j : Nat) : upd g k v j = if j = k then v else g j := rfl
theorem upd_eq (g : Nat → Int32) (k : Nat) (v : Int32) : upd g k v k = v := if_pos rfl
theorem upd_ne {g : Nat → Int32} {k j : Nat} {v : Int32} (h : j ≠ k) : upd g k v j = g j := if_neg h
theorem sU_get (S : SM) (k : Nat) (g : Nat → Int32) (j : Nat) : sU S k g j = if j = k then g else S j := rfl
theorem sU_eq (S : SM) (k : Nat) (g : Nat → Int32) : sU S k g k = g := if_pos rfl
theorem sU_ne {S : SM} {k j : Nat} {g : Nat → Int32} (h : j ≠ k) : sU S k g j = S j := if_neg h
theorem mu_iN {a : Nat} (h : a < 2147483648) : mu (iN a) = 2147483647 - a := by
  unfold mu
  rw [iN_toInt h]
  omega
theorem mu_0 : mu 0 = 2147483647 := rfl
theorem nK0 : (0 : Int32).toNatClampNeg = 0 := rfl
theorem nK1 : (1 : Int32).toNatClampNeg = 1 := rfl
theorem nK2 : (2 : Int32).toNatClampNeg = 2 := rfl
theorem nK3 : (3 : Int32).toNatClampNeg = 3 := rfl
theorem nK4 : (4 : Int32).toNatClampNeg = 4 := rfl
theorem nK5 : (5 : Int32).toNatClampNeg = 5 := rfl
theorem nK6 : (6 : Int32).toNatClampNeg = 6 := rfl
theorem nK7 : (7 : Int32).toNatClampNeg = 7 := rfl
theorem nK8 : (8 : Int32).toNatClampNeg = 8 := rfl
theorem nK9 : (9 : Int32).toNatClampNeg = 9 := rfl
theorem nK10 : (10 : Int32).toNatClampNeg = 10 := rfl
theorem nK11 : (11 : Int32).toNatClampNeg = 11 := rfl
theorem nK12 : (12 : Int32).toNatClampNeg = 12 := rfl
theorem nK13 : (13 : Int32).toNatClampNeg = 13 := rfl
theorem nK14 : (14 : Int32).toNatClampNeg = 14 := rfl
theorem nK15 : (15 : Int32).toNatClampNeg = 15 := rfl
theorem nK16 : (16 : Int32).toNatClampNeg = 16 := rfl
theorem nK40 : (40 : Int32).toNatClampNeg = 40 := rfl
theorem nK60 : (60 : Int32).toNatClampNeg = 60 := rfl
theorem nK100 : (100 : Int32).toNatClampNeg = 100 := rfl
theorem nK197 : (197 : Int32).toNatClampNeg = 197 := rfl
theorem nK215 : (215 : Int32).toNatClampNeg = 215 := rfl
theorem nK216 : (216 : Int32).toNatClampNeg = 216 := rfl
theorem nK336 : (336 : Int32).toNatClampNeg = 336 := rfl
theorem nK1200 : (1200 : Int32).toNatClampNeg = 1200 := rfl
theorem nK1300 : (1300 : Int32).toNatClampNeg = 1300 := rfl
theorem iN_s (a : Nat) : iN a + 1 = iN (a + 1) := iN_add a 1
theorem some_succ {n d : Nat} (h : d < n) : ∃ z, n = z + 1 := ⟨n - 1, by omega⟩
theorem iN_nlt {a : Nat} (ha : a ≤ 100000) : ¬ iN a < iN a := fun q => by
  have := (iN_lt (by omega) (by omega)).mp q
  omega
theorem iN_ylt {a b : Nat} (h : a < b) (hb : b ≤ 100000) : iN a < iN b := (iN_lt (by omega) (by omega)).mpr h
theorem m2_neg : (-2 : Int32) < 0 := by decide
theorem iN_m2 {a : Nat} (h : a < 2147483648) : ¬ iN a = -2 := fun z => iN_neg h (by rw [z]; exact m2_neg)
theorem iN_m1 {a : Nat} (h : a < 2147483648) : ¬ iN a = -1 := fun z => iN_neg h (by rw [z]; decide)
theorem iN_0 {a : Nat} (h : a < 2147483648) : iN a = 0 ↔ a = 0 := iN_inj (b := 0) h (by decide)
theorem iN_pos {a : Nat} (h : a < 2147483648) : 0 < iN a ↔ 0 < a := iN_lt (a := 0) (by decide) h
theorem iN_1 {a : Nat} (h : 1 ≤ a) : iN a - 1 = iN (a - 1) := iN_sub (b := 1) h
theorem at_m2 {n : Nat} {g : Nat → Int32} : at_ n g (-2) = 0 := if_pos m2_neg
theorem yU_eq (Y : RS) (k : Nat) (S : SM) : yU Y k S k = S := if_pos rfl
theorem yU_ne {Y : RS} {k j : Nat} {S : SM} (h : j ≠ k) : yU Y k S j = Y j := if_neg h
theorem yU_yU (Y : RS) (k : Nat) (A B : SM) : yU (yU Y k A) k B = yU Y k B := by
  funext j
  unfold yU
  by_cases q : j = k
  · rw [if_pos q, if_pos q]
  · rw [if_neg q, if_neg q, if_neg q]
theorem sU_sU (X : SM) (k : Nat) (f g : Nat → Int32) : sU (sU X k f) k g = sU X k g := by
  funext j
  unfold sU
  by_cases q : j = k
  · rw [if_pos q, if_pos q]
  · rw [if_neg q, if_neg q, if_neg q]
theorem sF_j (S : SM) (k : Nat) (v : Int32) {j : Nat} (h : j ≠ 18) : sF S k v j = S j := sU_ne h
theorem sF_k (S : SM) {k k' : Nat} (v : Int32) (h : k' ≠ k) : sF S k v 18 k' = S 18 k' := by
  unfold sF
  rw [sU_eq, upd_ne h]
theorem sF_e (S : SM) (k : Nat) (v : Int32) : sF S k v 18 k = v := by
  unfold sF
  rw [sU_eq, upd_eq]
/-- every Int32 is that of some whole number -/
theorem iN_any (x : Int32) : ∃ n, x = iN n := ⟨x.toBitVec.toNat, (Int32.ofNat_bitVecToNat x.toBitVec).symm⟩
