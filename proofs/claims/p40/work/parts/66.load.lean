-- PART 66: load(), append(), truncate()
section LD
variable {Y : RS} {M M' : NM} {p2 : PS} {f : Nat → Nat} {n k : Nat} {E : SM} {T : List Nat}
theorem yP_4 (Y : RS) (q : PS) : yP Y q 4 0 = upd (Y 4 0) 1 q.2.1 ∧ yP Y q 4 2 = Y 4 2 ∧ yP Y q 1 = q.2.2 := by
  refine ⟨?_, ?_, ?_⟩
  · unfold yP
    rw [yU_eq, sU_eq]
  · unfold yP
    rw [yU_eq, sU_ne (by decide), sU_ne (by decide)]
  · unfold yP
    rw [yU_ne (by decide), yU_eq]
theorem fg5 (Y : RS) : (∀ k, k ≠ 4 → s_X5_forget Y k = Y k) ∧ s_X5_forget Y 4 0 = Y 4 0 ∧ s_X5_forget Y 4 2 0 = 0 ∧ s_X5_forget Y 4 2 1 = 0 := by
  unfold s_X5_forget
  refine ⟨fun k hk => ?_, ?_, ?_, ?_⟩
  · rw [yU_ne hk, yU_ne hk]
  · rw [yU_eq, sU_ne (by decide), yU_eq, sU_ne (by decide)]
  · rw [yU_eq, sU_eq, nK1, upd_ne (by decide), yU_eq, sU_eq, nK0, upd_eq]
    rfl
  · rw [yU_eq, sU_eq, nK1, upd_eq]
    rfl
theorem v_load (hp : p_X4_parse (Y 4 1, Y 4 0 1, Y 1) (Y 2) = (-2, p2)) (hL : LL p2.2.2 M) (hI : Inv 1 M) (hn : ∃ hn, hn < 8 ∧ Y 4 0 2 = iN hn) : ∃ Z, p_X9_load Y = (iN (M 18 2), Z) ∧ St 1 Z M ∧ p_X9_undo Z = (-1, Z) ∧ Z 4 0 0 = -2 := by
  obtain ⟨hn, h8, e2⟩ := hn
  obtain ⟨a1, a2, a3⟩ := yP_4 Y p2
  have b1 : yL (yF (yP Y p2) 0 (-2)) 2 0 4 0 = upd (upd (Y 4 0) 1 p2.2.1) 0 (-2) := by
    unfold yL
    rw [yU_ne (by decide), yF_4, a1]
  have b3 : yL (yF (yP Y p2) 0 (-2)) 2 0 1 = p2.2.2 := by
    unfold yL
    rw [yU_ne (by decide), yF_k _ _ _ (by decide), a3]
  have b4 : yL (yF (yP Y p2) 0 (-2)) 2 0 2 1 0 = 0 := by
    unfold yL
    rw [yU_eq, sU_eq, upd_eq]
  generalize hY3 : yL (yF (yP Y p2) 0 (-2)) 2 0 = Y3 at *
  obtain ⟨c1, c2, c3, c4⟩ := fg5 (yU Y3 0 (Y3 1))
  have hz : p_X9_load Y = (yF (s_X5_forget (yU Y3 0 (Y3 1))) 3 0 0 18 2, yF (s_X5_forget (yU Y3 0 (Y3 1))) 3 0) := by
    unfold p_X9_load
    rw [hp]
    unfold p_X9_load_L8 p_X9_load_L11
    show p_X9_load_L19 (yL (yF (yP Y p2) 0 (-2)) 2 0) = _
    rw [hY3]
    unfold p_X9_load_L19
    rw [if_pos (show Y3 4 0 0 = -2 by rw [b1, upd_eq])]
    rfl
  have z0 : yF (s_X5_forget (yU Y3 0 (Y3 1))) 3 0 0 = p2.2.2 := by
    rw [yF_k _ _ _ (by decide), c1 0 (by decide), yU_eq, b3]
  have z4 : yF (s_X5_forget (yU Y3 0 (Y3 1))) 3 0 4 0 = upd (upd (upd (Y 4 0) 1 p2.2.1) 0 (-2)) 3 0 := by
    rw [yF_4, c2, yU_ne (by decide), b1]
  have z42 : yF (s_X5_forget (yU Y3 0 (Y3 1))) 3 0 4 2 = s_X5_forget (yU Y3 0 (Y3 1)) 4 2 := yF_42 _ _ _
  have z2 : yF (s_X5_forget (yU Y3 0 (Y3 1))) 3 0 2 1 0 = 0 := by
    rw [yF_k _ _ _ (by decide), c1 2 (by decide), yU_ne (by decide), b4]
  have z402 : yF (s_X5_forget (yU Y3 0 (Y3 1))) 3 0 4 0 2 = iN hn := by
    rw [z4, upd_ne (by decide), upd_ne (by decide), upd_ne (by decide), e2]
  have z403 : yF (s_X5_forget (yU Y3 0 (Y3 1))) 3 0 4 0 3 = iN 0 := by
    rw [z4, upd_eq]
    rfl
  have z420 : yF (s_X5_forget (yU Y3 0 (Y3 1))) 3 0 4 2 0 = 0 := by rw [z42, c3]
  have z421 : yF (s_X5_forget (yU Y3 0 (Y3 1))) 3 0 4 2 1 = 0 := by rw [z42, c4]
  have z400 : yF (s_X5_forget (yU Y3 0 (Y3 1))) 3 0 4 0 0 = -2 := by rw [z4, upd_ne (by decide), upd_eq]
  generalize yF (s_X5_forget (yU Y3 0 (Y3 1))) 3 0 = Z at *
  refine ⟨Z, ?_, ⟨by rw [z0]; exact hL, hI, ⟨hn, 0, h8, by decide, z402, z403, fun i hi => absurd hi (Nat.not_lt_zero i)⟩, fun i hi h => ?_, z2⟩, ?_, z400⟩
  · rw [hz, z0, hL.c]
  · rcases (show i = 0 ∨ i = 1 by omega) with rfl | rfl
    · exact absurd z420 h
    · exact absurd z421 h
  · unfold p_X9_undo
    rw [if_pos (show Z 4 0 3 = 0 from z403)]
/-- the tape holds the first n of f -/
def TPF (f : Nat → Nat) (n : Nat) (E : SM) : Prop := n ≤ 1200 ∧ E 1 0 = iN n ∧ ∀ k, k < n → f k < 128 ∧ E 0 k = iN (f k)
theorem TPF.text (h : TPF f n E) (hl : T.length ≤ n) (he : ∀ k, k < T.length → f k = T.getD k 0) (hE : E 1 0 = iN n) {E2 : SM} (h1 : E2 1 0 = iN T.length) (h0 : E2 0 = E 0) : TPE T E2 := by
  obtain ⟨a, b, c⟩ := h
  refine ⟨by omega, h1, fun k hk => ?_⟩
  rw [h0, ← he k hk]
  exact c k (by omega)
theorem TPF.add (h : TPF f n E) (hl : n < 1200) {x : Int32} (hx : x.toInt8.toInt32 = iN (f n)) (hb : f n < 128) : TPF f (n + 1) (s_X7_add E x) := by
  obtain ⟨a, b, c⟩ := h
  unfold s_X7_add s_X7_add_L31
  rw [b, if_neg (iN_neg (by omega)), if_pos (show iN n < 1200 from iN_ylt' (b := 1200) hl (by decide)), iN_nat (by omega), hx, by_n _ hb]
  refine ⟨by omega, ?_, fun k hk => ?_⟩
  · rw [sU_eq, upd_eq, sU_ne (by decide), b, iN_s]
  · rw [sU_ne (by decide), sU_eq]
    by_cases q : k = n
    · rw [q, upd_eq]
      exact ⟨hb, rfl⟩
    · rw [upd_ne q]
      exact c k (by omega)
theorem sx8 (x : Nat) (h : x % 256 < 128) : (iN x).toInt8.toInt32 = iN (x % 256) := by
  have e : (iN x).toInt8 = (iN (x % 256)).toInt8 := by
    apply Int8.toBitVec_inj.1
    show (BitVec.ofNat 32 x).signExtend 8 = (BitVec.ofNat 32 (x % 256)).signExtend 8
    rw [BitVec.signExtend_eq_setWidth_of_le _ (by decide), BitVec.signExtend_eq_setWidth_of_le _ (by decide)]
    apply BitVec.eq_of_toNat_eq
    rw [BitVec.toNat_setWidth, BitVec.toNat_setWidth, BitVec.toNat_ofNat, BitVec.toNat_ofNat]
    omega
  rw [e]
  exact by_b _ h
theorem iN_ushr {w k : Nat} (hw : w < 4294967296) (hk : k < 32) : ((iN w).toUInt32 >>> ((iN k).toUInt32 &&& Int32.toUInt32 31)).toInt32 = iN (w / 2 ^ k) := by
  have hd : w / 2 ^ k ≤ w := Nat.div_le_self _ _
  have hs : ∀ k, k < 32 → ((iN k).toUInt32 &&& Int32.toUInt32 31).toNat = k := by decide +kernel
  apply Int32.toBitVec_inj.1
  apply BitVec.eq_of_toNat_eq
  show ((iN w).toUInt32 >>> ((iN k).toUInt32 &&& Int32.toUInt32 31)).toNat = (BitVec.ofNat 32 (w / 2 ^ k)).toNat
  rw [UInt32.toNat_shiftRight, hs k hk, BitVec.toNat_ofNat, Nat.mod_eq_of_lt (show w / 2 ^ k < 2 ^ 32 by omega), Nat.mod_eq_of_lt hk, Nat.shiftRight_eq_div_pow]
  show (BitVec.ofNat 32 w).toNat / 2 ^ k = _
  rw [BitVec.toNat_ofNat, Nat.mod_eq_of_lt (show w < 2 ^ 32 by omega)]
theorem iN_sh8 (x b : Nat) (hb : b < 256) : iN x <<< (8 &&& 31) ||| iN b = iN (x * 256 + b) := by
  apply Int32.toBitVec_inj.1
  have h8 : ((8 : Int32) &&& 31).toBitVec.smod 32 = 8 := by decide
  show BitVec.ofNat 32 x <<< (((8 : Int32) &&& 31).toBitVec.smod 32) ||| BitVec.ofNat 32 b = BitVec.ofNat 32 (x * 256 + b)
  rw [h8]
  apply BitVec.eq_of_toNat_eq
  rw [BitVec.toNat_or, BitVec.toNat_ofNat, BitVec.toNat_ofNat]
  rw [show (BitVec.ofNat 32 x <<< (8 : BitVec 32)).toNat = ((BitVec.ofNat 32 x).toNat <<< 8) % 2 ^ 32 from BitVec.toNat_shiftLeft ..]
  rw [BitVec.toNat_ofNat, Nat.mod_eq_of_lt (show b < 2 ^ 32 by omega), Nat.shiftLeft_eq]
  rw [show x % 2 ^ 32 * 2 ^ 8 % 2 ^ 32 = 2 ^ 8 * (x % 2 ^ 24) by omega]
  rw [← Nat.two_pow_add_eq_or_of_lt (show b < 2 ^ 8 by omega)]
  omega
def wdN (f : Nat → Nat) (n : Nat) : Nat → Nat
  | 0 => 0
  | m + 1 => wdN f n m * 256 + f (n + m)
theorem TPF.add4 (h : TPF f n E) (hl : n + 4 ≤ 1200) (hb : ∀ k, k < n + 4 → f k < 128) : TPF f (n + 4) (s_X7_addFourBytes E (iN (wdN f n 4))) := by
  have b0 := hb n (by omega)
  have b1 := hb (n + 1) (by omega)
  have b2 := hb (n + 2) (by omega)
  have b3 := hb (n + 3) (by omega)
  have ew : wdN f n 4 = ((f n * 256 + f (n + 1)) * 256 + f (n + 2)) * 256 + f (n + 3) := by
    simp only [wdN]
    rw [Nat.zero_mul, Nat.zero_add]
    rfl
  unfold s_X7_addFourBytes s_X7_addFourBytes_L8 s_X7_addFourBytes_L16 s_X7_addFourBytes_L24
  rw [ew]
  generalize hw : ((f n * 256 + f (n + 1)) * 256 + f (n + 2)) * 256 + f (n + 3) = w
  have s24 := iN_ushr (w := w) (k := 24) (by omega) (by decide)
  have s16 := iN_ushr (w := w) (k := 16) (by omega) (by decide)
  have s8 := iN_ushr (w := w) (k := 8) (by omega) (by decide)
  have h1 := h.add (by omega) (x := ((iN w).toUInt32 >>> ((24 : Int32).toUInt32 &&& Int32.toUInt32 31)).toInt32) (by
    rw [show ((iN w).toUInt32 >>> ((24 : Int32).toUInt32 &&& Int32.toUInt32 31)).toInt32 = iN (w / 2 ^ 24) from s24, sx8 _ (by omega)]
    congr 1
    omega) b0
  have h2 := h1.add (by omega) (x := ((iN w).toUInt32 >>> ((16 : Int32).toUInt32 &&& Int32.toUInt32 31)).toInt32) (by
    rw [show ((iN w).toUInt32 >>> ((16 : Int32).toUInt32 &&& Int32.toUInt32 31)).toInt32 = iN (w / 2 ^ 16) from s16, sx8 _ (by omega)]
    congr 1
    omega) b1
  have h3 := h2.add (by omega) (x := ((iN w).toUInt32 >>> ((8 : Int32).toUInt32 &&& Int32.toUInt32 31)).toInt32) (by
    rw [show ((iN w).toUInt32 >>> ((8 : Int32).toUInt32 &&& Int32.toUInt32 31)).toInt32 = iN (w / 2 ^ 8) from s8, sx8 _ (by omega), show n + 1 + 1 = n + 2 from rfl]
    congr 1
    omega) b2
  exact h3.add (by omega) (x := iN w) (by
    rw [sx8 _ (by omega)]
    congr 1
    show w % 256 = f (n + 1 + 1 + 1)
    rw [show n + 1 + 1 + 1 = n + 3 by omega]
    omega) b3
theorem v_append (h : TPF f n (Y 2)) (hl : n ≤ 1180) (hb : ∀ k, k < n + 20 → f k < 128) : ∃ E, p_X9_append Y (iN (wdN f n 4)) (iN (wdN f (n + 4) 4)) (iN (wdN f (n + 8) 4)) (iN (wdN f (n + 12) 4)) (iN (wdN f (n + 16) 4)) = (iN (n + 20), yU Y 2 E) ∧ TPF f (n + 20) E := by
  have h1 := h.add4 (by omega) (fun k hk => hb k (by omega))
  have h2 := h1.add4 (by omega) (fun k hk => hb k (by omega))
  have h3 := h2.add4 (by omega) (fun k hk => hb k (by omega))
  have h4 := h3.add4 (by omega) (fun k hk => hb k (by omega))
  have h5 := h4.add4 (by omega) (fun k hk => hb k (by omega))
  refine ⟨_, ?_, h5⟩
  unfold p_X9_append
  rw [h.2.1, if_neg (show ¬ 1180 < iN n from iN_nlt' (a := 1180) hl (by decide))]
  unfold p_X9_append_L23 p_X9_append_L31 p_X9_append_L39 p_X9_append_L48 p_X9_append_L57
  simp only [yU_yU, yU_eq]
  rw [h5.2.1]
theorem v_trunc (h : TPF f n (Y 2)) (hk : k ≤ n) : p_X9_truncate Y (iN k) = (iN (n - k), yL Y 2 (iN (n - k))) := by
  have h12 := h.1
  unfold p_X9_truncate
  rw [if_neg (iN_neg (by omega)), h.2.1, if_neg (iN_nlt' hk (by omega)), iN_sub hk]
  unfold p_X9_truncate_L30
  have e : yL Y 2 (iN (n - k)) 2 1 0 = iN (n - k) := by
    unfold yL
    rw [yU_eq, sU_eq, upd_eq]
  rw [e]
end LD
