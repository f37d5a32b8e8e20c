-- PART 19: the tape (bt and its rows, bp_b: begun as kit/laws/BITS.to-paste.lean.txt)
def bt (x : Int32) (i : Nat) : Bool := x.toBitVec.getLsbD i
theorem b_ext {x y : Int32} (h : ∀ i, i < 32 → bt x i = bt y i) : x = y := Int32.toBitVec_inj.mp (BitVec.eq_of_getLsbD_eq (fun i hi => h i hi))
theorem b_and (x y : Int32) (i : Nat) : bt (x &&& y) i = (bt x i && bt y i) := by unfold bt; rw [Int32.toBitVec_and, BitVec.getLsbD_and]
theorem b_255 : ∀ i, i < 32 → bt 255 i = decide (i < 8) := by decide +kernel
theorem s_l : ∀ n, n < 32 → ((nI n &&& 31).toBitVec.smod 32).toNat = n := by decide +kernel
theorem s_u : ∀ n, n < 32 → (((nI n).toUInt32 &&& Int32.toUInt32 31).toBitVec % 32).toNat = n := by decide +kernel
theorem b_ushr (n : Nat) (hn : n < 32) (x : Int32) (i : Nat) : bt ((x.toUInt32 >>> ((nI n).toUInt32 &&& Int32.toUInt32 31)).toInt32) i = bt x (n + i) := by
  show (x.toUInt32 >>> ((nI n).toUInt32 &&& Int32.toUInt32 31)).toBitVec.getLsbD i = x.toUInt32.toBitVec.getLsbD (n + i)
  rw [UInt32.toBitVec_shiftRight]
  show (x.toUInt32.toBitVec >>> (((nI n).toUInt32 &&& Int32.toUInt32 31).toBitVec % 32).toNat).getLsbD i = _
  rw [s_u n hn, BitVec.getLsbD_ushiftRight]
theorem b_sshr (n : Nat) (hn : n < 32) (x : Int32) {i : Nat} (hi : i < 32) : bt (x >>> (nI n &&& 31)) i = if n + i < 32 then bt x (n + i) else bt x 31 := by
  unfold bt
  rw [Int32.toBitVec_shiftRight]
  show (x.toBitVec.sshiftRight ((nI n &&& 31).toBitVec.smod 32).toNat).getLsbD i = _
  rw [s_l n hn, BitVec.getLsbD_sshiftRight, BitVec.msb_eq_getLsbD_last]
  simp [hi]
theorem bp_b (x : Int32) : x.toInt8.toInt32 &&& 255 = x &&& 255 := by
  apply Int32.toBitVec_inj.mp
  rw [Int32.toBitVec_and, Int32.toBitVec_and, Int8.toBitVec_toInt32, Int32.toBitVec_toInt8]
  apply BitVec.eq_of_getLsbD_eq
  intro i hi
  rw [BitVec.getLsbD_and, BitVec.getLsbD_and]
  have hm : ∀ i < 32, 8 ≤ i → (255 : Int32).toBitVec.getLsbD i = false := by decide
  rcases Nat.lt_or_ge i 8 with z | z
  · rw [BitVec.getLsbD_signExtend, BitVec.getLsbD_signExtend, if_pos z, if_pos hi]
    simp only [z, hi, decide_true, Bool.true_and]
  · rw [hm i hi z]; simp
theorem and255 (z : Int32) : ∃ t, t < 256 ∧ z &&& 255 = iN t := by
  refine ⟨(z &&& 255).toBitVec.toNat, ?_, ?_⟩
  · rw [Int32.toBitVec_and, BitVec.toNat_and]
    exact Nat.lt_of_le_of_lt Nat.and_le_right (by decide)
  · apply Int32.toBitVec_inj.1
    show _ = BitVec.ofNat 32 _
    rw [BitVec.ofNat_toNat, BitVec.setWidth_eq]
theorem byte2 (z : Int32) : z.toInt8.toInt32.toInt8.toInt32 = z.toInt8.toInt32 := (vp_nar_byte _).symm.trans (pk_vb z)
/-- a byte of a word, as the class and the reference cut it out -/
theorem ap_byte (x : Int32) {n : Nat} (hn : n ≤ 24) : ((x.toUInt32 >>> ((nI n).toUInt32 &&& Int32.toUInt32 31)).toInt32).toInt8.toInt32 &&& 255 = jshr x (nI n) &&& 255 := by
  rw [bp_b]
  apply b_ext
  intro i hi
  rw [b_and, b_and, b_255 i hi]
  by_cases z : i < 8
  · unfold jshr
    rw [b_ushr n (by omega), b_sshr n (by omega) x hi, if_pos (by omega)]
  · rw [decide_eq_false z, Bool.and_false, Bool.and_false]
theorem jshr_0 (x : Int32) : jshr x 0 = x := sb_shr0 x
def Tp (n : Nat) (E X : SM) : Prop := n ≤ 1200 ∧ E 1 0 = iN n ∧ X 8 1 = iN n ∧ ∀ k, k < n → X 6 k = (E 0 k) &&& 255 ∧ (E 0 k).toInt8.toInt32 = E 0 k
section TPE
variable {c tc B k n : Nat} {S : SM} {m : Nat → Int32} {E X X' : SM} {Y Y' : RS} {o t i : Nat}
theorem Tp.add (h : Tp n E X) (hn : n < 1200) {y v : Int32} (hv : y.toInt8.toInt32 &&& 255 = v) : Tp (n + 1) (s_X7_add E y) (sU (sU X 6 (upd (X 6) n v)) 8 (upd (X 8) 1 (iN (n + 1)))) := by
  obtain ⟨h1, h2, h3, h4⟩ := h
  have ec : s_X7_add E y = sU (sU E 0 (upd (E 0) n y.toInt8.toInt32)) 1 (upd (E 1) 0 (iN (n + 1))) := by
    unfold s_X7_add s_X7_add_L31
    rw [h2, if_neg (iN_neg (by omega)), if_pos (show iN n < 1200 from iN_ylt (b := 1200) hn (by decide)), iN_nat (by omega), pk_vb, sU_ne (show (1 : Nat) ≠ 0 by decide), h2, iN_s]
  rw [ec]
  refine ⟨by omega, by rw [sU_eq, upd_eq], by rw [sU_eq, upd_eq], fun k hk => ?_⟩
  rw [sU_ne (show (0 : Nat) ≠ 1 by decide), sU_eq, sU_ne (show (6 : Nat) ≠ 8 by decide), sU_eq, upd_get, upd_get]
  by_cases q : k = n
  · rw [if_pos q, if_pos q]
    exact ⟨hv.symm, byte2 y⟩
  · rw [if_neg q, if_neg q]
    exact h4 k (by omega)
def wv (a b c d e : Int32) (q : Nat) : Int32 := if q = 0 then a else if q = 1 then b else if q = 2 then c else if q = 3 then d else e
theorem o_app1 (f : Nat) {a b c d e : Int32} {q r : Nat} (hq : q < 5) (hr : r < 4) (h8 : X 8 1 = iN n) (hn : n < 1200) : o_X10_append_L18 (f + 1) X a b c d e (iN (4 * q + r)) = o_X10_append_L18 f (sU (sU X 6 (upd (X 6) n (jshr (wv a b c d e q) (iN (24 - 8 * r)) &&& 255))) 8 (upd (X 8) 1 (iN (n + 1)))) a b c d e (iN (4 * q + r + 1)) := by
  have ej : (24 : Int32) - 8 * jrem (iN (4 * q + r)) 4 = iN (24 - 8 * r) := by
    rw [show (4 : Int32) = iN 4 from rfl, iN_rem (by omega) (by decide), show (4 * q + r) % 4 = r by omega, show (8 : Int32) * iN r = iN (8 * r) from iN_mul 8 r]
    exact iN_sub (a := 24) (by omega)
  have hl : ∀ k, 4 * q + r < k → k ≤ 1000 → iN (4 * q + r) < iN k := fun k h h2 => iN_ylt h (by omega)
  have hg : ∀ k, ¬ 4 * q + r < k → k ≤ 1000 → ¬ iN (4 * q + r) < iN k := fun k h h2 z => h ((iN_lt (by omega) (by omega)).mp z)
  have l20 : iN (4 * q + r) < 20 := hl 20 (by omega) (by decide)
  have hgin : gin (iN n) 1200 = true := gin_iN hn (by omega)
  rw [o_X10_append_L18, if_pos l20, ej, h8, iN_nat (by omega)]
  simp only [lt1, hgin, ↓reduceIte]
  rw [iN_s]
  have es : ∀ g : Nat → Int32, sU X 6 g 8 = X 8 := fun g => sU_ne (by decide)
  simp only [es, h8, iN_s]
  unfold wv
  rcases (by omega : q = 0 ∨ q = 1 ∨ q = 2 ∨ q = 3 ∨ q = 4) with rfl | rfl | rfl | rfl | rfl
  · rw [if_pos (show iN (4 * 0 + r) < 4 from hl 4 (by omega) (by decide)), if_pos rfl]
  · rw [if_neg (show ¬ iN (4 * 1 + r) < 4 from hg 4 (by omega) (by decide)), if_pos (show iN (4 * 1 + r) < 8 from hl 8 (by omega) (by decide)), if_neg (show ¬ (1 : Nat) = 0 by decide), if_pos rfl]
  · rw [if_neg (show ¬ iN (4 * 2 + r) < 4 from hg 4 (by omega) (by decide)), if_neg (show ¬ iN (4 * 2 + r) < 8 from hg 8 (by omega) (by decide)), if_pos (show iN (4 * 2 + r) < 12 from hl 12 (by omega) (by decide)), if_neg (show ¬ (2 : Nat) = 0 by decide), if_neg (show ¬ (2 : Nat) = 1 by decide), if_pos rfl]
  · rw [if_neg (show ¬ iN (4 * 3 + r) < 4 from hg 4 (by omega) (by decide)), if_neg (show ¬ iN (4 * 3 + r) < 8 from hg 8 (by omega) (by decide)), if_neg (show ¬ iN (4 * 3 + r) < 12 from hg 12 (by omega) (by decide)), if_pos (show iN (4 * 3 + r) < 16 from hl 16 (by omega) (by decide)), if_neg (show ¬ (3 : Nat) = 0 by decide), if_neg (show ¬ (3 : Nat) = 1 by decide), if_neg (show ¬ (3 : Nat) = 2 by decide), if_pos rfl]
  · rw [if_neg (show ¬ iN (4 * 4 + r) < 4 from hg 4 (by omega) (by decide)), if_neg (show ¬ iN (4 * 4 + r) < 8 from hg 8 (by omega) (by decide)), if_neg (show ¬ iN (4 * 4 + r) < 12 from hg 12 (by omega) (by decide)), if_neg (show ¬ iN (4 * 4 + r) < 16 from hg 16 (by omega) (by decide)), if_neg (show ¬ (4 : Nat) = 0 by decide), if_neg (show ¬ (4 : Nat) = 1 by decide), if_neg (show ¬ (4 : Nat) = 2 by decide), if_neg (show ¬ (4 : Nat) = 3 by decide)]
/-- what an append leaves of the reference's object -/
def XA (X X' : SM) : Prop := (∀ j, j ≠ 6 → j ≠ 8 → X' j = X j) ∧ ∀ k, k ≠ 1 → X' 8 k = X 8 k
theorem XA.step {v w : Int32} : XA X (sU (sU X 6 (upd (X 6) n v)) 8 (upd (X 8) 1 w)) := ⟨fun j a b => by rw [sU_ne b, sU_ne a], fun k a => by rw [sU_eq, upd_ne a]⟩
theorem XA.trans {X1 X2 : SM} (h : XA X X1) (h2 : XA X1 X2) : XA X X2 := ⟨fun j a b => (h2.1 j a b).trans (h.1 j a b), fun k a => (h2.2 k a).trans (h.2 k a)⟩
theorem t_four (f : Nat) {a b c d e : Int32} {q : Nat} (hq : q < 5) (h : Tp n E X) (hn : n + 4 ≤ 1200) : ∃ X', o_X10_append_L18 (f + 4) X a b c d e (iN (4 * q)) = o_X10_append_L18 f X' a b c d e (iN (4 * (q + 1))) ∧ Tp (n + 4) (s_X7_addFourBytes E (wv a b c d e q)) X' ∧ XA X X' := by
  have T1 := h.add (by omega) (y := ((wv a b c d e q).toUInt32 >>> ((24 : Int32).toUInt32 &&& Int32.toUInt32 31)).toInt32) (ap_byte (wv a b c d e q) (n := 24) (by decide))
  have F1 := o_app1 (X := X) (n := n) (f + 3) (a := a) (b := b) (c := c) (d := d) (e := e) hq (r := 0) (by decide) h.2.2.1 (by omega)
  obtain ⟨X1, hX1⟩ : ∃ Z, sU (sU X 6 (upd (X 6) n (jshr (wv a b c d e q) (nI 24) &&& 255))) 8 (upd (X 8) 1 (iN (n + 1))) = Z := ⟨_, rfl⟩
  have A1 : XA X X1 := by
    rw [← hX1]
    exact XA.step
  have F1' : o_X10_append_L18 (f + 4) X a b c d e (iN (4 * q)) = o_X10_append_L18 (f + 3) X1 a b c d e (iN (4 * q + 1)) := by
    rw [← hX1]
    exact F1
  rw [hX1] at T1
  have T2 := T1.add (by omega) (y := ((wv a b c d e q).toUInt32 >>> ((16 : Int32).toUInt32 &&& Int32.toUInt32 31)).toInt32) (ap_byte (wv a b c d e q) (n := 16) (by decide))
  have F2 := o_app1 (X := X1) (n := n + 1) (f + 2) (a := a) (b := b) (c := c) (d := d) (e := e) hq (r := 1) (by decide) T1.2.2.1 (by omega)
  obtain ⟨X2, hX2⟩ : ∃ Z, sU (sU X1 6 (upd (X1 6) (n + 1) (jshr (wv a b c d e q) (nI 16) &&& 255))) 8 (upd (X1 8) 1 (iN (n + 1 + 1))) = Z := ⟨_, rfl⟩
  have A2 : XA X1 X2 := by
    rw [← hX2]
    exact XA.step
  have F2' : o_X10_append_L18 (f + 3) X1 a b c d e (iN (4 * q + 1)) = o_X10_append_L18 (f + 2) X2 a b c d e (iN (4 * q + 1 + 1)) := by
    rw [← hX2]
    exact F2
  rw [hX2] at T2
  have T3 := T2.add (by omega) (y := ((wv a b c d e q).toUInt32 >>> ((8 : Int32).toUInt32 &&& Int32.toUInt32 31)).toInt32) (ap_byte (wv a b c d e q) (n := 8) (by decide))
  have F3 := o_app1 (X := X2) (n := n + 1 + 1) (f + 1) (a := a) (b := b) (c := c) (d := d) (e := e) hq (r := 2) (by decide) T2.2.2.1 (by omega)
  obtain ⟨X3, hX3⟩ : ∃ Z, sU (sU X2 6 (upd (X2 6) (n + 1 + 1) (jshr (wv a b c d e q) (nI 8) &&& 255))) 8 (upd (X2 8) 1 (iN (n + 1 + 1 + 1))) = Z := ⟨_, rfl⟩
  have A3 : XA X2 X3 := by
    rw [← hX3]
    exact XA.step
  have F3' : o_X10_append_L18 (f + 2) X2 a b c d e (iN (4 * q + 1 + 1)) = o_X10_append_L18 (f + 1) X3 a b c d e (iN (4 * q + 1 + 1 + 1)) := by
    rw [← hX3]
    exact F3
  rw [hX3] at T3
  have T4 := T3.add (by omega) (y := wv a b c d e q) (v := jshr (wv a b c d e q) (nI 0) &&& 255) (by
    rw [bp_b]
    show _ = jshr (wv a b c d e q) 0 &&& 255
    rw [jshr_0])
  have F4 := o_app1 (X := X3) (n := n + 1 + 1 + 1) f (a := a) (b := b) (c := c) (d := d) (e := e) hq (r := 3) (by decide) T3.2.2.1 (by omega)
  obtain ⟨X4, hX4⟩ : ∃ Z, sU (sU X3 6 (upd (X3 6) (n + 1 + 1 + 1) (jshr (wv a b c d e q) (nI 0) &&& 255))) 8 (upd (X3 8) 1 (iN (n + 1 + 1 + 1 + 1))) = Z := ⟨_, rfl⟩
  have A4 : XA X3 X4 := by
    rw [← hX4]
    exact XA.step
  have F4' : o_X10_append_L18 (f + 1) X3 a b c d e (iN (4 * q + 1 + 1 + 1)) = o_X10_append_L18 f X4 a b c d e (iN (4 * (q + 1))) := by
    rw [← hX4]
    exact F4
  rw [hX4] at T4
  refine ⟨X4, by rw [F1', F2', F3', F4'], ?_, ((A1.trans A2).trans A3).trans A4⟩
  exact T4
theorem Top.tap (h : Top B Y X) (ht : Tp n E X') (hA : XA X X') : Top B (yU Y 2 E) X' :=
  ⟨by rw [yU_ne (by decide), hA.1 0 (by decide) (by decide)]; exact h.1, h.2.1.fr (fun k a b => yU_ne (by omega)) (by rw [yU_ne (by decide)]) (by rw [yU_ne (by decide)]) (hA.1 3 (by decide) (by decide)) (hA.2 0 (by decide)), h.2.2.1.fr (fun k a b => yU_ne (by omega)) (by rw [yU_ne (by decide)]) (hA.1 4 (by decide) (by decide)) (hA.1 5 (by decide) (by decide)), ⟨n, by rw [yU_eq]; exact ht⟩, by rw [yU_ne (by decide), hA.2 2 (by decide)]; exact h.2.2.2.2⟩
theorem t_append (h : Top B Y X) (x1 x2 x3 x4 x5 : Int32) : OpR B (p_X9_append Y x1 x2 x3 x4 x5) (o_X10_append X x1 x2 x3 x4 x5) := by
  obtain ⟨n, hn⟩ := h.2.2.2.1
  have hT : Tp n (Y 2) X := hn
  unfold p_X9_append o_X10_append
  rw [hT.2.1, hT.2.2.1, show iN n + 20 = iN (n + 20) from iN_add n 20]
  have h12 := hT.1
  by_cases q : 1180 < n
  · rw [if_pos (show 1180 < iN n from iN_ylt (a := 1180) q (by omega)), if_pos (show 1200 < iN (n + 20) from iN_ylt (a := 1200) (by omega) (by omega))]
    exact OpR.same h _
  · rw [if_neg (show ¬ 1180 < iN n from fun z => q ((iN_lt (a := 1180) (by decide) (by omega)).mp z)), if_neg (show ¬ 1200 < iN (n + 20) from fun z => by have := (iN_lt (a := 1200) (by decide) (by omega)).mp z; omega)]
    obtain ⟨X1, e1, T1, A1⟩ := t_four 3996 (a := x1) (b := x2) (c := x3) (d := x4) (e := x5) (q := 0) (by decide) hT (by omega)
    obtain ⟨X2, e2, T2, A2⟩ := t_four 3992 (a := x1) (b := x2) (c := x3) (d := x4) (e := x5) (q := 1) (by decide) T1 (by omega)
    obtain ⟨X3, e3, T3, A3⟩ := t_four 3988 (a := x1) (b := x2) (c := x3) (d := x4) (e := x5) (q := 2) (by decide) T2 (by omega)
    obtain ⟨X4, e4, T4, A4⟩ := t_four 3984 (a := x1) (b := x2) (c := x3) (d := x4) (e := x5) (q := 3) (by decide) T3 (by omega)
    obtain ⟨X5, e5, T5, A5⟩ := t_four 3980 (a := x1) (b := x2) (c := x3) (d := x4) (e := x5) (q := 4) (by decide) T4 (by omega)
    have e1' : o_X10_append_L18 4000 X x1 x2 x3 x4 x5 0 = o_X10_append_L18 3996 X1 x1 x2 x3 x4 x5 (iN (4 * (0 + 1))) := e1
    have e6 : o_X10_append_L18 3980 X5 x1 x2 x3 x4 x5 (iN (4 * (4 + 1))) = some (X5 8 1, X5) := by
      rw [o_X10_append_L18, if_neg (show ¬ iN (4 * (4 + 1)) < 20 by decide)]
    rw [e1', e2, e3, e4, e5, e6]
    have hA := (((A1.trans A2).trans A3).trans A4).trans A5
    unfold p_X9_append_L23 p_X9_append_L31 p_X9_append_L39 p_X9_append_L48 p_X9_append_L57
    simp only [yU_eq, yU_yU]
    rw [show wv x1 x2 x3 x4 x5 0 = x1 from rfl, show wv x1 x2 x3 x4 x5 1 = x2 from rfl, show wv x1 x2 x3 x4 x5 2 = x3 from rfl, show wv x1 x2 x3 x4 x5 3 = x4 from rfl, show wv x1 x2 x3 x4 x5 4 = x5 from rfl] at T5
    obtain ⟨E5, hE5⟩ : ∃ Z, s_X7_addFourBytes (s_X7_addFourBytes (s_X7_addFourBytes (s_X7_addFourBytes (s_X7_addFourBytes (Y 2) x1) x2) x3) x4) x5 = Z := ⟨_, rfl⟩
    rw [hE5] at T5 ⊢
    refine ⟨X5, ?_, h.tap T5 hA⟩
    rw [T5.2.2.1]
    exact congrArg (fun z => some (z, X5)) T5.2.1.symm
theorem t_truncate (h : Top B Y X) (x1 : Int32) : OpR B (p_X9_truncate Y x1) (o_X10_truncate X x1) := by
  obtain ⟨n, hn⟩ := h.2.2.2.1
  have hT : Tp n (Y 2) X := hn
  have h12 := hT.1
  unfold p_X9_truncate o_X10_truncate
  rw [hT.2.1, hT.2.2.1]
  by_cases q : x1 < 0
  · rw [if_pos q, if_pos q]
    exact OpR.same h _
  rw [if_neg q, if_neg q]
  by_cases q2 : iN n < x1
  · rw [if_pos q2, if_pos q2]
    exact OpR.same h _
  rw [if_neg q2, if_neg q2]
  obtain ⟨a, ha, rfl⟩ := iN_of q
  have han : a ≤ n := Nat.not_lt.mp (fun z => q2 ((iN_lt (by omega) ha).mpr z))
  simp only [lt1]
  unfold p_X9_truncate_L30 yL
  rw [iN_sub han, yU_eq, sU_eq, upd_eq, sU_eq, upd_eq]
  refine ⟨_, rfl, h.tap (n := n - a) ⟨by omega, by rw [sU_eq, upd_eq], by rw [sU_eq, upd_eq], fun k hk => ?_⟩ ⟨fun j a b => sU_ne b, fun k a => by rw [sU_eq, upd_ne a]⟩⟩
  rw [sU_ne (show (0 : Nat) ≠ 1 by decide), sU_ne (show (6 : Nat) ≠ 8 by decide)]
  exact hT.2.2.2 k (by omega)
end TPE
