-- PART 10: small whole numbers as Int32; reading and writing at them
def iN (n : Nat) : Int32 := Int32.ofNat n
theorem iN_add (a b : Nat) : iN a + iN b = iN (a + b) := (Int32.ofNat_add a b).symm
theorem iN_mul (a b : Nat) : iN a * iN b = iN (a * b) := (Int32.ofNat_mul a b).symm
theorem iN_sub {a b : Nat} (h : b ≤ a) : iN a - iN b = iN (a - b) := (Int32.ofNat_sub a b h).symm
theorem iN_nat {a : Nat} (h : a < 2147483648) : (iN a).toNatClampNeg = a := Int32.toNatClampNeg_ofNat_of_lt h
theorem iN_toInt {a : Nat} (h : a < 2147483648) : (iN a).toInt = a := Int32.toInt_ofNat_of_lt h
theorem iN_lt {a b : Nat} (ha : a < 2147483648) (hb : b < 2147483648) : (iN a < iN b) ↔ a < b := Int32.ofNat_lt_iff_lt ha hb
theorem iN_inj {a b : Nat} (ha : a < 2147483648) (hb : b < 2147483648) : iN a = iN b ↔ a = b := by
  constructor
  · intro h
    rw [← iN_nat ha, ← iN_nat hb, h]
  · intro h
    rw [h]
theorem iN_neg {a : Nat} (h : a < 2147483648) : ¬ iN a < 0 := fun q => Nat.not_lt_zero a ((iN_lt h (by decide)).mp q)
theorem iN_of {x : Int32} (h : ¬ x < 0) : ∃ a, a < 2147483648 ∧ x = iN a := ⟨x.toNatClampNeg, Int32.toNatClampNeg_lt x, (Int32.ofNat_toNatClampNeg x (Int32.not_lt.mp h)).symm⟩
theorem iN_between {x : Int32} {b : Nat} (hb : b < 2147483648) (h : ¬ x < 0) (h2 : x < iN b) : ∃ a, a < b ∧ x = iN a := by
  obtain ⟨a, ha, rfl⟩ := iN_of h
  exact ⟨a, (iN_lt ha hb).mp h2, rfl⟩
theorem iN_div {a b : Nat} (ha : a < 2147483648) (hb : b < 2147483648) : iN a / iN b = iN (a / b) := (Int32.ofNat_div ha hb).symm
theorem iN_rem {a b : Nat} (ha : a < 2147483648) (hb : b < 2147483648) : jrem (iN a) (iN b) = iN (a % b) := by
  unfold jrem
  rw [iN_div ha hb, iN_mul, iN_sub (Nat.div_mul_le_self a b), Nat.mod_eq_sub, Nat.mul_comm]
theorem gin_iN {k n : Nat} (h : k < n) (hk : k < 2147483648) : gin (iN k) n = true := by
  unfold gin
  rw [iN_nat hk, decide_eq_true (iN_neg hk), decide_eq_true h]
  rfl
theorem at_iN {n : Nat} {g : Nat → Int32} {i : Nat} (hn : n < 2147483648) (hi : i < 2147483648) : at_ n g (iN i) = if i < n then g i else 0 := by
  unfold at_
  rw [show Int32.ofNat n = iN n from rfl]
  rw [if_neg (iN_neg hi), iN_nat hi]
  by_cases h : i < n
  · rw [if_pos h, if_pos ((iN_lt hi hn).mpr h)]
  · rw [if_neg h, if_neg (fun q => h ((iN_lt hi hn).mp q))]
theorem at_in {n : Nat} {g : Nat → Int32} {i : Nat} (hn : n < 2147483648) (hi : i < n) : at_ n g (iN i) = g i := by
  rw [at_iN hn (by omega), if_pos hi]
theorem put_in {n : Nat} {g : Nat → Int32} {i : Nat} {v : Int32} (hn : n < 2147483648) (hi : i < n) : put_ n g (iN i) v = upd g i v := by
  unfold put_
  rw [show Int32.ofNat n = iN n from rfl]
  rw [if_neg (iN_neg (by omega)), iN_nat (by omega), if_pos ((iN_lt (by omega) hn).mpr hi)]
theorem raise_in {n : Nat} {g : Nat → Int32} {i : Nat} (hn : n < 2147483648) (hi : i < n) : raise_ n g (iN i) = upd g i (g i + 1) := by
  unfold raise_
  rw [show Int32.ofNat n = iN n from rfl]
  rw [if_neg (iN_neg (by omega)), iN_nat (by omega), if_pos ((iN_lt (by omega) hn).mpr hi)]
theorem takeOut_in {n : Nat} {g : Nat → Int32} {i ah : Nat} (hn : n < 2147483648) (hi : i < ah) (hah : ah ≤ n) (j : Nat) : takeOut_ n g (iN i) (iN ah) j = if i ≤ j ∧ j + 1 < ah then g (j + 1) else g j := by
  unfold takeOut_
  rw [show Int32.ofNat n = iN n from rfl]
  rw [if_neg (iN_neg (by omega)), if_pos ((iN_lt (by omega) (by omega)).mpr hi), if_neg (fun q => by have := (iN_lt (by omega) (by omega)).mp q; omega)]
  rw [show iN i + 1 = iN (i + 1) from iN_add i 1, show iN ah - iN i - 1 = iN (ah - i - 1) by rw [iN_sub (by omega)]; exact iN_sub (b := 1) (by omega)]
  rw [iN_nat (by omega), iN_nat (by omega), iN_nat (by omega)]
  unfold va_cpy
  by_cases h : i ≤ j ∧ j + 1 < ah
  · rw [if_pos h, if_pos (by omega), show i + 1 + (j - i) = j + 1 by omega]
  · rw [if_neg h, if_neg (by omega)]
theorem upd_get (g : Nat → Int32) (k : Nat) (v : Int32) (j : Nat) : upd g k v j = if j = k then v else g j := rfl
theorem upd_eq (g : Nat → Int32) (k : Nat) (v : Int32) : upd g k v k = v := if_pos rfl
theorem upd_ne {g : Nat → Int32} {k j : Nat} {v : Int32} (h : j ≠ k) : upd g k v j = g j := if_neg h
theorem sU_get (S : SM) (k : Nat) (g : Nat → Int32) (j : Nat) : sU S k g j = if j = k then g else S j := rfl
theorem sU_eq (S : SM) (k : Nat) (g : Nat → Int32) : sU S k g k = g := if_pos rfl
theorem sU_ne {S : SM} {k j : Nat} {g : Nat → Int32} (h : j ≠ k) : sU S k g j = S j := if_neg h
/-- where things stand in the reference's row -/
def pO (o f : Nat) : Nat := 17 + 18 * o + f
def pL (o i f : Nat) : Nat := 17 + 18 * o + (6 + 2 * i + f)
def pT (t f : Nat) : Nat := 197 + 6 * t + f
def pG (i f : Nat) : Nat := 216 + 3 * i + f
theorem officeAt_iN (o f : Nat) : v_X10_officeAt (iN o) (iN f) = iN (pO o f) := by
  unfold v_X10_officeAt
  show iN 17 + iN 18 * iN o + iN f = _
  rw [iN_mul, iN_add, iN_add]
  rfl
theorem letterAt_iN (o i f : Nat) : v_X10_letterAt (iN o) (iN i) (iN f) = iN (pL o i f) := by
  unfold v_X10_letterAt
  rw [show (6 : Int32) + 2 * iN i + iN f = iN (6 + 2 * i + f) by
    show iN 6 + iN 2 * iN i + iN f = _
    rw [iN_mul, iN_add, iN_add]]
  exact officeAt_iN o _
theorem tokenAt_iN (t f : Nat) : v_X10_tokenAt (iN t) (iN f) = iN (pT t f) := by
  unfold v_X10_tokenAt
  show iN 197 + iN 6 * iN t + iN f = _
  rw [iN_mul, iN_add, iN_add]
  rfl
theorem oA0 (o : Nat) : v_X10_officeAt (iN o) 0 = iN (pO o 0) := officeAt_iN o 0
theorem oA1 (o : Nat) : v_X10_officeAt (iN o) 1 = iN (pO o 1) := officeAt_iN o 1
theorem oA2 (o : Nat) : v_X10_officeAt (iN o) 2 = iN (pO o 2) := officeAt_iN o 2
theorem oA3 (o : Nat) : v_X10_officeAt (iN o) 3 = iN (pO o 3) := officeAt_iN o 3
theorem oA4 (o : Nat) : v_X10_officeAt (iN o) 4 = iN (pO o 4) := officeAt_iN o 4
theorem oA5 (o : Nat) : v_X10_officeAt (iN o) 5 = iN (pO o 5) := officeAt_iN o 5
theorem lA0 (o i : Nat) : v_X10_letterAt (iN o) (iN i) 0 = iN (pL o i 0) := letterAt_iN o i 0
theorem lA1 (o i : Nat) : v_X10_letterAt (iN o) (iN i) 1 = iN (pL o i 1) := letterAt_iN o i 1
theorem lA00 (o : Nat) : v_X10_letterAt (iN o) 0 0 = iN (pL o 0 0) := letterAt_iN o 0 0
theorem lA01 (o : Nat) : v_X10_letterAt (iN o) 0 1 = iN (pL o 0 1) := letterAt_iN o 0 1
theorem tA0 (t : Nat) : v_X10_tokenAt (iN t) 0 = iN (pT t 0) := tokenAt_iN t 0
theorem tA1 (t : Nat) : v_X10_tokenAt (iN t) 1 = iN (pT t 1) := tokenAt_iN t 1
theorem tA2 (t : Nat) : v_X10_tokenAt (iN t) 2 = iN (pT t 2) := tokenAt_iN t 2
theorem tA3 (t : Nat) : v_X10_tokenAt (iN t) 3 = iN (pT t 3) := tokenAt_iN t 3
theorem tA4 (t : Nat) : v_X10_tokenAt (iN t) 4 = iN (pT t 4) := tokenAt_iN t 4
theorem tA5 (t : Nat) : v_X10_tokenAt (iN t) 5 = iN (pT t 5) := tokenAt_iN t 5
theorem gO {o f : Nat} (ho : o < 10) (hf : f < 18) : gin (iN (pO o f)) 336 = true := gin_iN (by unfold pO; omega) (by unfold pO; omega)
theorem gL {o i f : Nat} (ho : o < 10) (hi : i < 6) (hf : f < 2) : gin (iN (pL o i f)) 336 = true := gin_iN (by unfold pL; omega) (by unfold pL; omega)
theorem gT' {t f : Nat} (ht : t < 3) (hf : f < 6) : gin (iN (pT t f)) 336 = true := gin_iN (by unfold pT; omega) (by unfold pT; omega)
theorem gG {i f : Nat} (hi : i < 40) (hf : f < 3) : gin (iN (pG i f)) 336 = true := gin_iN (by unfold pG; omega) (by unfold pG; omega)
theorem nO {o f : Nat} (ho : o < 10) (hf : f < 18) : (iN (pO o f)).toNatClampNeg = pO o f := iN_nat (by unfold pO; omega)
theorem nL' {o i f : Nat} (ho : o < 10) (hi : i < 6) (hf : f < 2) : (iN (pL o i f)).toNatClampNeg = pL o i f := iN_nat (by unfold pL; omega)
theorem nT {t f : Nat} (ht : t < 3) (hf : f < 6) : (iN (pT t f)).toNatClampNeg = pT t f := iN_nat (by unfold pT; omega)
theorem nG {i f : Nat} (hi : i < 40) (hf : f < 3) : (iN (pG i f)).toNatClampNeg = pG i f := iN_nat (by unfold pG; omega)
/-- when two places are one -/
theorem qOO {o f o' f' : Nat} (hf : f < 18) (hf' : f' < 18) : (pO o f = pO o' f') ↔ (o = o' ∧ f = f') := by
  unfold pO
  omega
theorem qOL {o f o' i g : Nat} (hf : f < 6) (hi : i < 6) (hg : g < 2) : (pO o f = pL o' i g) ↔ False := by
  refine iff_false_intro (fun h => ?_)
  unfold pO pL at h
  omega
theorem qLO {o f o' i g : Nat} (hf : f < 6) (hi : i < 6) (hg : g < 2) : (pL o' i g = pO o f) ↔ False := by
  refine iff_false_intro (fun h => ?_)
  unfold pO pL at h
  omega
theorem qLL {o i g o' i' g' : Nat} (hi : i < 6) (hg : g < 2) (hi' : i' < 6) (hg' : g' < 2) : (pL o i g = pL o' i' g') ↔ (o = o' ∧ i = i' ∧ g = g') := by
  unfold pL
  omega
theorem qTT {t f t' f' : Nat} (hf : f < 6) (hf' : f' < 6) : (pT t f = pT t' f') ↔ (t = t' ∧ f = f') := by
  unfold pT
  omega
theorem qGG {t f t' f' : Nat} (hf : f < 3) (hf' : f' < 3) : (pG t f = pG t' f') ↔ (t = t' ∧ f = f') := by
  unfold pG
  omega
theorem qOT {o f t g : Nat} (ho : o < 10) (hf : f < 18) : (pO o f = pT t g) ↔ False := by
  refine iff_false_intro (fun h => ?_)
  unfold pO pT at h
  omega
theorem qTO {o f t g : Nat} (ho : o < 10) (hf : f < 18) : (pT t g = pO o f) ↔ False := by
  refine iff_false_intro (fun h => ?_)
  unfold pO pT at h
  omega
theorem qLT {o i f t g : Nat} (ho : o < 10) (hi : i < 6) (hf : f < 2) : (pL o i f = pT t g) ↔ False := by
  refine iff_false_intro (fun h => ?_)
  unfold pL pT at h
  omega
theorem qTL {o i f t g : Nat} (ho : o < 10) (hi : i < 6) (hf : f < 2) : (pT t g = pL o i f) ↔ False := by
  refine iff_false_intro (fun h => ?_)
  unfold pL pT at h
  omega
theorem qkO {k o f : Nat} (hk : k < 17) : (k = pO o f) ↔ False := by
  refine iff_false_intro (fun h => ?_)
  unfold pO at h
  omega
theorem qkL {k o i f : Nat} (hk : k < 17) : (k = pL o i f) ↔ False := by
  refine iff_false_intro (fun h => ?_)
  unfold pL at h
  omega
theorem qkT {k t f : Nat} (hk : k < 197) : (k = pT t f) ↔ False := by
  refine iff_false_intro (fun h => ?_)
  unfold pT at h
  omega
theorem qkG {k t f : Nat} (hk : k < 216) : (k = pG t f) ↔ False := by
  refine iff_false_intro (fun h => ?_)
  unfold pG at h
  omega
theorem qOk {k o f : Nat} (hk : k < 17) : (pO o f = k) ↔ False := by
  refine iff_false_intro (fun h => ?_)
  unfold pO at h
  omega
theorem qLk {k o i f : Nat} (hk : k < 17) : (pL o i f = k) ↔ False := by
  refine iff_false_intro (fun h => ?_)
  unfold pL at h
  omega
theorem qTk {k t f : Nat} (hk : k < 197) : (pT t f = k) ↔ False := by
  refine iff_false_intro (fun h => ?_)
  unfold pT at h
  omega
theorem qGk {k t f : Nat} (hk : k < 216) : (pG t f = k) ↔ False := by
  refine iff_false_intro (fun h => ?_)
  unfold pG at h
  omega
theorem lO {o f : Nat} (ho : o < 10) (hf : f < 18) : pO o f < 197 := by
  unfold pO
  omega
theorem lL {o i f : Nat} (ho : o < 10) (hi : i < 6) (hf : f < 2) : pL o i f < 197 := by
  unfold pL
  omega
theorem lT {t f : Nat} (ht : t < 3) (hf : f < 6) : pT t f < 215 := by
  unfold pT
  omega
theorem mu_iN {a : Nat} (h : a < 2147483648) : mu (iN a) = 2147483647 - a := by
  unfold mu
  rw [iN_toInt h]
  omega
theorem mu_0 : mu 0 = 2147483647 := rfl
theorem nK0 : (0 : Int32).toNatClampNeg = 0 := rfl
theorem nK1 : (1 : Int32).toNatClampNeg = 1 := rfl
theorem nK2 : (2 : Int32).toNatClampNeg = 2 := rfl
theorem nK3 : (3 : Int32).toNatClampNeg = 3 := rfl
theorem nK4 : (4 : Int32).toNatClampNeg = 4 := rfl
theorem nK5 : (5 : Int32).toNatClampNeg = 5 := rfl
theorem nK6 : (6 : Int32).toNatClampNeg = 6 := rfl
theorem nK7 : (7 : Int32).toNatClampNeg = 7 := rfl
theorem nK8 : (8 : Int32).toNatClampNeg = 8 := rfl
theorem nK9 : (9 : Int32).toNatClampNeg = 9 := rfl
theorem nK10 : (10 : Int32).toNatClampNeg = 10 := rfl
theorem nK11 : (11 : Int32).toNatClampNeg = 11 := rfl
theorem nK12 : (12 : Int32).toNatClampNeg = 12 := rfl
theorem nK13 : (13 : Int32).toNatClampNeg = 13 := rfl
theorem nK14 : (14 : Int32).toNatClampNeg = 14 := rfl
theorem nK15 : (15 : Int32).toNatClampNeg = 15 := rfl
theorem nK16 : (16 : Int32).toNatClampNeg = 16 := rfl
theorem nK40 : (40 : Int32).toNatClampNeg = 40 := rfl
theorem nK60 : (60 : Int32).toNatClampNeg = 60 := rfl
theorem nK100 : (100 : Int32).toNatClampNeg = 100 := rfl
theorem nK197 : (197 : Int32).toNatClampNeg = 197 := rfl
theorem nK215 : (215 : Int32).toNatClampNeg = 215 := rfl
theorem nK216 : (216 : Int32).toNatClampNeg = 216 := rfl
theorem nK336 : (336 : Int32).toNatClampNeg = 336 := rfl
theorem nK1200 : (1200 : Int32).toNatClampNeg = 1200 := rfl
theorem nK1300 : (1300 : Int32).toNatClampNeg = 1300 := rfl
