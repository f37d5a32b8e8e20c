-- PART 60: the JDK's methods that the law reaches: StringBuilder, String, Arrays (Latin-1)
/-- all bytes are ASCII -/
def BY (m : Nat) (f : Nat → Int32) : Prop := ∀ i, i < m → ∃ c, c < 128 ∧ f i = iN c
theorem BY.fit {m : Nat} {f : Nat → Int32} (h : BY m f) {i : Nat} (hi : i < m) : fits .byte (.int (f i)) = true := by
  obtain ⟨c, hc, e⟩ := h i hi
  rw [e]
  exact (show ∀ c, c < 128 → fits .byte (.int (iN c)) = true by decide +kernel) c hc
theorem by_b : ∀ c, c < 128 → (iN c).toInt8.toInt32 = iN c := by decide +kernel
theorem by_n : ∀ c, c < 128 → vp_nar .byte (iN c) = iN c := by decide +kernel
theorem by_i : ∀ c, c < 128 → iN c &&& 255 = iN c := by decide +kernel
theorem by_c : ∀ c, c < 128 → ((iN c).toUInt32 % 65536).toInt32 = iN c := by decide +kernel
/-- the text T stands at the beginning of an array -/
def TXT (T : List Nat) (m : Nat) (f : Nat → Int32) : Prop := T.length ≤ m ∧ (∀ i, i < T.length → f i = iN (T.getD i 0)) ∧ BY m f
def stx (j : Nat) : List Nat := (sbyt.getD j []).map (fun x => x.toNatClampNeg)
theorem stx_ok : ∀ j, j < 16 → (stx j).length = slen.getD j 0 ∧ slen.getD j 0 ≤ 8 ∧ ∀ i, i < slen.getD j 0 → (stx j).getD i 0 < 128 ∧ (sbyt.getD j []).getD i 0 = iN ((stx j).getD i 0) := by
  have h : ∀ j, j < 16 → (stx j).length = slen.getD j 0 ∧ slen.getD j 0 ≤ 8 ∧ ∀ i, i < 8 → i < slen.getD j 0 → (stx j).getD i 0 < 128 ∧ (sbyt.getD j []).getD i 0 = iN ((stx j).getD i 0) := by decide +kernel
  intro j hj
  obtain ⟨a, b, c⟩ := h j hj
  exact ⟨a, b, fun i hi => c i (by omega) hi⟩
theorem va_cpy_in {f g : Nat → Int32} {sp dp n k : Nat} (h : dp ≤ k ∧ k < dp + n) : va_cpy f g sp dp n k = f (sp + (k - dp)) := by
  unfold va_cpy
  exact if_pos h
theorem va_cpy_out {f g : Nat → Int32} {sp dp n k : Nat} (h : ¬ (dp ≤ k ∧ k < dp + n)) : va_cpy f g sp dp n k = g k := by
  unfold va_cpy
  exact if_neg h
theorem iN_ite {p q : Nat} (hp : p < 2147483648) (hq : q < 2147483648) : (if iN p < iN q then iN q else iN p) = iN (if p < q then q else p) := by
  by_cases h : p < q
  · rw [if_pos h, if_pos ((iN_lt hp hq).mpr h)]
  · rw [if_neg h, if_neg (fun z => h ((iN_lt hp hq).mp z))]
theorem iN_subp {p q : Nat} (hp : p ≤ 100000000) (hq : q ≤ 100000000) : 0 < iN p - iN q ↔ q < p := by
  rw [Int32.lt_iff_toInt_lt, Int32.toInt_sub, iN_toInt (show p < 2147483648 by omega), iN_toInt (show q < 2147483648 by omega), Int.bmod_eq_of_le (by omega) (by omega), Int32.toInt_zero]
  omega
section JD
variable {l : Launch} {K : gK} {Γ : gT} {Q : State → Prop} {cs ss nL pc : Nat} {lv : List (Nat × Value)} {st : List Value}
theorem J_dropR {u v : va_W} (k : J l K Γ Q cs ss u pc nL lv st) : J l K Γ Q cs ss (u ++ v) pc nL lv st := J_perm List.perm_append_comm (J_drop k)
end JD
theorem kj_J0_coder_7d493 : Cd yJ0_coder_7d493 cJ0_coder_7d493 1 (some .byte) 0 := ⟨kd_J0_coder_7d493.1, kd_J0_coder_7d493.2.1, kd_J0_coder_7d493.2.2.1⟩
theorem kj_J0_isLatin1_aae02 : Cd yJ0_isLatin1_aae02 cJ0_isLatin1_aae02 1 (some .boolean) 0 := ⟨kd_J0_isLatin1_aae02.1, kd_J0_isLatin1_aae02.2.1, kd_J0_isLatin1_aae02.2.2.1⟩
theorem kj_J0_length_8abf5 : Cd yJ0_length_8abf5 cJ0_length_8abf5 1 (some .int) 0 := ⟨kd_J0_length_8abf5.1, kd_J0_length_8abf5.2.1, kd_J0_length_8abf5.2.2.1⟩
theorem kj_J0_checkIndex_df160 : Cd yJ0_checkIndex_df160 cJ0_checkIndex_df160 2 none 2 := ⟨kd_J0_checkIndex_df160.1, kd_J0_checkIndex_df160.2.1, kd_J0_checkIndex_df160.2.2.1⟩
theorem kj_J1_charAt_3b067 : Cd yJ1_charAt_3b067 cJ1_charAt_3b067 2 (some .char) 2 := ⟨kd_J1_charAt_3b067.1, kd_J1_charAt_3b067.2.1, kd_J1_charAt_3b067.2.2.1⟩
theorem kj_J0_charAt_5068e : Cd yJ0_charAt_5068e cJ0_charAt_5068e 2 (some .char) 1 := ⟨kd_J0_charAt_5068e.1, kd_J0_charAt_5068e.2.1, kd_J0_charAt_5068e.2.2.1⟩
theorem kj_J0_getBytes_840e7 : Cd yJ0_getBytes_840e7 cJ0_getBytes_840e7 4 none 3 := ⟨uc_J0_getBytes_840e7, un_J0, ⟨by decide, by decide, by decide⟩⟩
theorem kj_J0_init_db425 : Cd yJ0_init_db425 cJ0_init_db425 5 none 2 := ⟨uc_J0_init_db425, un_J0, ⟨by decide, by decide, by decide⟩⟩
theorem kj_J0_init_81219 : Cd yJ0_init_81219 cJ0_init_81219 2 none 1 := ⟨uc_J0_init_81219, un_J0, ⟨by decide, by decide, by decide⟩⟩
theorem kj_J1_canEncode_fc78d : Cd yJ1_canEncode_fc78d cJ1_canEncode_fc78d 1 (some .boolean) 1 := ⟨uc_J1_canEncode_fc78d, un_J1, ⟨by decide, by decide, by decide⟩⟩
theorem kj_J4_init_da8c8 : Cd yJ4_init_da8c8 cJ4_init_da8c8 1 none 0 := ⟨uc_J4_init_da8c8, un_J4, ⟨by decide, by decide, by decide⟩⟩
theorem kj_J4_init_a7421 : Cd yJ4_init_a7421 cJ4_init_a7421 2 none 1 := ⟨uc_J4_init_a7421, un_J4, ⟨by decide, by decide, by decide⟩⟩
theorem kj_J4_append_15ec4 : Cd yJ4_append_15ec4 cJ4_append_15ec4 2 (some (.object "java/lang/StringBuilder")) 1 := ⟨uc_J4_append_15ec4, un_J4, ⟨by decide, by decide, by decide⟩⟩
theorem kj_J4_append_cf468 : Cd yJ4_append_cf468 cJ4_append_cf468 2 (some (.object "java/lang/StringBuilder")) 1 := ⟨uc_J4_append_cf468, un_J4, ⟨by decide, by decide, by decide⟩⟩
theorem kj_J4_append_bf812 : Cd yJ4_append_bf812 cJ4_append_bf812 2 (some (.object "java/lang/StringBuilder")) 1 := ⟨uc_J4_append_bf812, un_J4, ⟨by decide, by decide, by decide⟩⟩
theorem kj_J4_toString_0e30d : Cd yJ4_toString_0e30d cJ4_toString_0e30d 1 (some (.object "java/lang/String")) 0 := ⟨uc_J4_toString_0e30d, un_J4, ⟨by decide, by decide, by decide⟩⟩
theorem kj_J4_append_cf1ce : Cd yJ4_append_cf1ce cJ4_append_cf1ce 2 (some (.object "java/lang/AbstractStringBuilder")) 1 := ⟨uc_J4_append_cf1ce, un_J4, ⟨by decide, by decide, by decide⟩⟩
theorem kj_J4_length_8abf5 : Cd yJ4_length_8abf5 cJ4_length_8abf5 1 (some .int) 0 := ⟨uc_J4_length_8abf5, un_J4, ⟨by decide, by decide, by decide⟩⟩
theorem kj_J5_init_d00df : Cd yJ5_init_d00df cJ5_init_d00df 2 none 1 := ⟨uc_J5_init_d00df, un_J5, ⟨by decide, by decide, by decide⟩⟩
theorem kj_J5_init_a7421 : Cd yJ5_init_a7421 cJ5_init_a7421 5 none 1 := ⟨uc_J5_init_a7421, un_J5, ⟨by decide, by decide, by decide⟩⟩
theorem kj_J5_length_8abf5 : Cd yJ5_length_8abf5 cJ5_length_8abf5 1 (some .int) 0 := ⟨uc_J5_length_8abf5, un_J5, ⟨by decide, by decide, by decide⟩⟩
theorem kj_J5_ensureCapacityInternal_d00df : Cd yJ5_ensureCapacityInternal_d00df cJ5_ensureCapacityInternal_d00df 3 none 1 := ⟨uc_J5_ensureCapacityInternal_d00df, un_J5, ⟨by decide, by decide, by decide⟩⟩
theorem kj_J5_newCapacity_0f7a4 : Cd yJ5_newCapacity_0f7a4 cJ5_newCapacity_0f7a4 6 (some .int) 1 := ⟨uc_J5_newCapacity_0f7a4, un_J5, ⟨by decide, by decide, by decide⟩⟩
theorem kj_J5_append_cf1ce : Cd yJ5_append_cf1ce cJ5_append_cf1ce 3 (some (.object "java/lang/AbstractStringBuilder")) 1 := ⟨uc_J5_append_cf1ce, un_J5, ⟨by decide, by decide, by decide⟩⟩
theorem kj_J5_append_3fe6f : Cd yJ5_append_3fe6f cJ5_append_3fe6f 2 (some (.object "java/lang/AbstractStringBuilder")) 1 := ⟨uc_J5_append_3fe6f, un_J5, ⟨by decide, by decide, by decide⟩⟩
theorem kj_J5_append_c97b9 : Cd yJ5_append_c97b9 cJ5_append_c97b9 4 (some (.object "java/lang/AbstractStringBuilder")) 1 := ⟨uc_J5_append_c97b9, un_J5, ⟨by decide, by decide, by decide⟩⟩
theorem kj_J5_getValue_6d5f1 : Cd yJ5_getValue_6d5f1 cJ5_getValue_6d5f1 1 (some (.array .byte)) 0 := ⟨uc_J5_getValue_6d5f1, un_J5, ⟨by decide, by decide, by decide⟩⟩
theorem kj_J5_isLatin1_aae02 : Cd yJ5_isLatin1_aae02 cJ5_isLatin1_aae02 1 (some .boolean) 0 := ⟨uc_J5_isLatin1_aae02, un_J5, ⟨by decide, by decide, by decide⟩⟩
theorem kj_J5_inflateIfNeededFor_a7421 : Cd yJ5_inflateIfNeededFor_a7421 cJ5_inflateIfNeededFor_a7421 2 none 1 := ⟨uc_J5_inflateIfNeededFor_a7421, un_J5, ⟨by decide, by decide, by decide⟩⟩
theorem kj_J5_putStringAt_47b60 : Cd yJ5_putStringAt_47b60 cJ5_putStringAt_47b60 3 none 2 := ⟨uc_J5_putStringAt_47b60, un_J5, ⟨by decide, by decide, by decide⟩⟩
theorem kj_J6_getChars_ba4f3 : Cd yJ6_getChars_ba4f3 cJ6_getChars_ba4f3 7 (some .int) 3 := ⟨uc_J6_getChars_ba4f3, un_J6, ⟨by decide, by decide, by decide⟩⟩
theorem kj_J6_stringSize_0f7a4 : Cd yJ6_stringSize_0f7a4 cJ6_stringSize_0f7a4 4 (some .int) 1 := ⟨uc_J6_stringSize_0f7a4, un_J6, ⟨by decide, by decide, by decide⟩⟩
theorem kj_J7_copyOf_9075b : Cd yJ7_copyOf_9075b cJ7_copyOf_9075b 3 (some (.array .byte)) 2 := ⟨uc_J7_copyOf_9075b, un_J7, ⟨by decide, by decide, by decide⟩⟩
theorem kj_J7_checkLength_df160 : Cd yJ7_checkLength_df160 cJ7_checkLength_df160 2 none 2 := ⟨uc_J7_checkLength_df160, un_J7, ⟨by decide, by decide, by decide⟩⟩
theorem kj_J7_copyOfRange_39247 : Cd yJ7_copyOfRange_39247 cJ7_copyOfRange_39247 3 (some (.array .byte)) 3 := ⟨uc_J7_copyOfRange_39247, un_J7, ⟨by decide, by decide, by decide⟩⟩
theorem kj_J7_copyOfRangeByte_39247 : Cd yJ7_copyOfRangeByte_39247 cJ7_copyOfRangeByte_39247 5 (some (.array .byte)) 3 := ⟨uc_J7_copyOfRangeByte_39247, un_J7, ⟨by decide, by decide, by decide⟩⟩
theorem kj_J8_newLength_cabcc : Cd yJ8_newLength_cabcc cJ8_newLength_cabcc 4 (some .int) 3 := ⟨uc_J8_newLength_cabcc, un_J8, ⟨by decide, by decide, by decide⟩⟩
theorem cj_len5 (l : Launch) (K : gK) (b a n : Nat) : Cr l K yJ5_length_8abf5 cJ5_length_8abf5 1 (some .int) 0 0 0 [.ref b] [(b, .inr (11, [.ref a, .int 0, .int 0, .int (iN n)]))] (fun _ : Unit => (some (.int (iN n)), [(b, .inr (11, [.ref a, .int 0, .int 0, .int (iN n)]))])) := by
  refine Cr.of (own := RJ5) (by decide) rfl (Nat.le_of_ble_eq_true rfl) (fun Γ C Yc _ => ?_)
  refine J_aload_n C 0 dJ5_length_8abf5_0 rfl ?_
  refine J_get C 0 3 dJ5_length_8abf5_1 inlJ4 uf_J5_79 rfl (by decide) rfl rfl rfl ?_
  exact J_riret C () dJ5_length_8abf5_4 (Nat.le_of_ble_eq_true rfl) (Nat.le_of_ble_eq_true rfl) rfl
theorem cj_len4 (l : Launch) (K : gK) (b a n : Nat) : Cr l K yJ4_length_8abf5 cJ4_length_8abf5 1 (some .int) 1 0 0 [.ref b] [(b, .inr (11, [.ref a, .int 0, .int 0, .int (iN n)]))] (fun _ : Unit => (some (.int (iN n)), [(b, .inr (11, [.ref a, .int 0, .int 0, .int (iN n)]))])) := by
  refine Cr.of (own := RJ4) (by decide) rfl (Nat.le_of_ble_eq_true rfl) (fun Γ C Yc _ => ?_)
  refine J_aload_n C 0 dJ4_length_8abf5_0 rfl ?_
  refine J_crSU (as := []) (C0 := RJ4) (T := TJ4) (N := 4) C Yc 0 11 kj_J5_length_8abf5 (by decide) uq_AbstractStringBuilder_AbstractStringBuilder_length_8abf up_J4 ui_J5_length_8abf5 um_J4_343 rfl rfl (cj_len5 l K b a n) dJ4_length_8abf5_1 rfl rfl ⟨(Nat.le_of_ble_eq_true rfl), (Nat.le_of_ble_eq_true rfl)⟩ (Nat.le_of_ble_eq_true rfl) (Nat.le_of_ble_eq_true rfl) (Nat.le_of_ble_eq_true rfl) (fun _ => ?_)
  exact J_riret C () dJ4_length_8abf5_4 (Nat.le_of_ble_eq_true rfl) (Nat.le_of_ble_eq_true rfl) rfl
theorem cj_lat (l : Launch) (K : gK) (b a n : Nat) : Cr l K yJ5_isLatin1_aae02 cJ5_isLatin1_aae02 1 (some .boolean) 0 0 0 [.ref b] [(b, .inr (11, [.ref a, .int 0, .int 0, .int (iN n)]))] (fun _ : Unit => (some (.int 1), [(b, .inr (11, [.ref a, .int 0, .int 0, .int (iN n)]))])) := by
  refine Cr.of (own := RJ5) (by decide) rfl (Nat.le_of_ble_eq_true rfl) (fun Γ C Yc _ => ?_)
  refine J_getcs C dJ5_isLatin1_aae02_0 uf_J5_18 ?_
  refine J_if_eq_n C 17 (by decide) dJ5_isLatin1_aae02_3 rfl ?_
  refine J_aload_n C 0 dJ5_isLatin1_aae02_6 rfl ?_
  refine J_get C 0 1 dJ5_isLatin1_aae02_7 inlJ4 uf_J5_22 rfl (by decide) rfl rfl rfl ?_
  refine J_if_ne_y C 17 rfl dJ5_isLatin1_aae02_10 rfl ?_
  refine J_iconst C (v := 1) dJ5_isLatin1_aae02_13 rfl ?_
  refine J_goto C 18 dJ5_isLatin1_aae02_14 rfl ?_
  exact J_rnret rfl C () dJ5_isLatin1_aae02_18 (Nat.le_of_ble_eq_true rfl) (Nat.le_of_ble_eq_true rfl) rfl
theorem cj_val (l : Launch) (K : gK) (b a n : Nat) : Cr l K yJ5_getValue_6d5f1 cJ5_getValue_6d5f1 1 (some (.array .byte)) 0 0 0 [.ref b] [(b, .inr (11, [.ref a, .int 0, .int 0, .int (iN n)]))] (fun _ : Unit => (some (.ref a), [(b, .inr (11, [.ref a, .int 0, .int 0, .int (iN n)]))])) := by
  refine Cr.of (own := RJ5) (by decide) rfl (Nat.le_of_ble_eq_true rfl) (fun Γ C Yc _ => ?_)
  refine J_aload_n C 0 dJ5_getValue_6d5f1_0 rfl ?_
  refine J_get C 0 0 dJ5_getValue_6d5f1_1 inlJ4 uf_J5_15 rfl (by decide) rfl rfl rfl ?_
  exact J_raret (Or.inr ⟨_, rfl⟩) C () dJ5_getValue_6d5f1_4 (Nat.le_of_ble_eq_true rfl) (Nat.le_of_ble_eq_true rfl) rfl
theorem cj_newLen (l : Launch) (K : gK) {m x y : Nat} (hm : m ≤ 10000) (hx : x ≤ 10000) (hy : y ≤ 10000) (h1 : 1 ≤ y) : Cr l K yJ8_newLength_cabcc cJ8_newLength_cabcc 4 (some .int) 1 0 0 [.int (iN m), .int (iN x), .int (iN y)] [] (fun _ : Unit => (some (.int (iN (m + (if x < y then y else x)))), [])) := by
  have hM : 1 ≤ (if x < y then y else x) ∧ (if x < y then y else x) ≤ 10000 := by split <;> omega
  generalize hz : (if x < y then y else x) = z at hM
  refine Cr.of (own := RJ8) (by decide) rfl (Nat.le_of_ble_eq_true rfl) (fun Γ C Yc _ => ?_)
  refine J_iload_n C 0 dJ8_newLength_cabcc_0 rfl ?_
  refine J_iload_n C 1 dJ8_newLength_cabcc_1 rfl ?_
  refine J_iload_n C 2 dJ8_newLength_cabcc_2 rfl ?_
  refine J_max C Yc (Nat.le_of_ble_eq_true rfl) (Nat.le_of_ble_eq_true rfl) dJ8_newLength_cabcc_3 um_J8_194 (Nat.le_of_ble_eq_true rfl) (Nat.le_of_ble_eq_true rfl) ?_
  refine J_eqi (b := iN z) (by rw [iN_ite (by omega) (by omega), hz]) ?_
  refine J_iadd C dJ8_newLength_cabcc_6 ?_
  refine J_eqi (b := (iN (m + z))) (iN_add _ _) ?_
  refine J_istore_n C (lv' := [(3, .int (iN (m + z))), (0, .int (iN m)), (1, .int (iN x)), (2, .int (iN y))]) dJ8_newLength_cabcc_7 (by decide) rfl ?_
  refine J_iconst C (v := 0) dJ8_newLength_cabcc_8 rfl ?_
  refine J_iload_n C 0 dJ8_newLength_cabcc_9 rfl ?_
  refine J_icmp_ge_y C 21 ((iN_pos (by omega)).mpr (by omega)) dJ8_newLength_cabcc_10 rfl ?_
  refine J_iload_n C 0 dJ8_newLength_cabcc_13 rfl ?_
  refine J_ldc C (v := 2147483639) dJ8_newLength_cabcc_14 uk_J8_200 ?_
  refine J_icmp_gt_n C 21 (iN_nlt' (a := 2147483639) (by omega) (by decide)) dJ8_newLength_cabcc_16 rfl ?_
  refine J_iload_n C 0 dJ8_newLength_cabcc_19 rfl ?_
  exact J_riret C () dJ8_newLength_cabcc_20 (Nat.le_of_ble_eq_true rfl) (Nat.le_of_ble_eq_true rfl) rfl
theorem cj_newCap (l : Launch) (K : gK) (b a n : Nat) {m q : Nat} (f : Nat → Int32) (hm : m ≤ 3000) (hq : q ≤ 3000) (hmq : m < q) : Cr l K yJ5_newCapacity_0f7a4 cJ5_newCapacity_0f7a4 6 (some .int) 2 0 0 [.ref b, .int (iN q)] [(b, .inr (11, [.ref a, .int 0, .int 0, .int (iN n)])), cB K a m f] (fun _ : Unit => (some (.int (iN (m + (if q - m < m + 2 then m + 2 else q - m)))), [(b, .inr (11, [.ref a, .int 0, .int 0, .int (iN n)])), cB K a m f])) := by
  have hM : (m + (if q - m < m + 2 then m + 2 else q - m)) ≤ 10000 := by split <;> omega
  refine Cr.of (own := RJ5) (by decide) rfl (Nat.le_of_ble_eq_true rfl) (fun Γ C Yc _ => ?_)
  refine J_aload_n C 0 dJ5_newCapacity_0f7a4_0 rfl ?_
  refine J_get C 0 0 dJ5_newCapacity_0f7a4_1 inlJ4 uf_J5_15 rfl (by decide) rfl rfl rfl ?_
  refine J_alen C 1 1 (v := iN m) dJ5_newCapacity_0f7a4_4 rfl rfl rfl ?_
  refine J_istore_n C (lv' := [(2, .int (iN m)), (0, .ref b), (1, .int (iN q))]) dJ5_newCapacity_0f7a4_5 (by decide) rfl ?_
  refine J_iload_n C 2 dJ5_newCapacity_0f7a4_6 rfl ?_
  refine J_aload_n C 1 dJ5_newCapacity_0f7a4_7 rfl ?_
  refine J_get C 0 1 dJ5_newCapacity_0f7a4_8 inlJ4 uf_J5_22 rfl (by decide) rfl rfl rfl ?_
  refine J_ishl C dJ5_newCapacity_0f7a4_11 ?_
  refine J_eqi (b := (iN q)) (sb_shl0 _) ?_
  refine J_istore_n C (lv' := [(3, .int (iN q)), (2, .int (iN m)), (0, .ref b), (1, .int (iN q))]) dJ5_newCapacity_0f7a4_12 (by decide) rfl ?_
  refine J_iload_n C 0 dJ5_newCapacity_0f7a4_13 rfl ?_
  refine J_iload_n C 1 dJ5_newCapacity_0f7a4_14 rfl ?_
  refine J_isub C dJ5_newCapacity_0f7a4_15 ?_
  refine J_eqi (b := (iN (q - m))) (iN_sub (by omega)) ?_
  refine J_istore C (lv' := [(4, .int (iN (q - m))), (3, .int (iN q)), (2, .int (iN m)), (0, .ref b), (1, .int (iN q))]) dJ5_newCapacity_0f7a4_16 (by decide) rfl ?_
  refine J_iload_n C 2 dJ5_newCapacity_0f7a4_18 rfl ?_
  refine J_iload C 0 dJ5_newCapacity_0f7a4_19 rfl ?_
  refine J_iload_n C 2 dJ5_newCapacity_0f7a4_21 rfl ?_
  refine J_iconst C (v := 2) dJ5_newCapacity_0f7a4_22 rfl ?_
  refine J_aload_n C 3 dJ5_newCapacity_0f7a4_23 rfl ?_
  refine J_get C 0 1 dJ5_newCapacity_0f7a4_24 inlJ4 uf_J5_22 rfl (by decide) rfl rfl rfl ?_
  refine J_ishl C dJ5_newCapacity_0f7a4_27 ?_
  refine J_eqi (b := 2) (sb_shl0 2) ?_
  refine J_iadd C dJ5_newCapacity_0f7a4_28 ?_
  refine J_eqi (b := (iN (m + 2))) (iN_add m 2) ?_
  refine J_crS (as := [.int (iN m), .int (iN (q - m)), .int (iN (m + 2))]) C Yc kj_J8_newLength_cabcc ut_J8_newLength_cabcc um_J5_114 (Cr.left [(b, .inr (11, [.ref a, .int 0, .int 0, .int (iN n)])), cB K a m f] (cj_newLen l K (m := m) (x := q - m) (y := m + 2) (by omega) (by omega) (by omega) (by omega))) dJ5_newCapacity_0f7a4_29 rfl rfl ⟨(Nat.le_of_ble_eq_true rfl), (Nat.le_of_ble_eq_true rfl)⟩ (Nat.le_of_ble_eq_true rfl) (Nat.le_of_ble_eq_true rfl) (Nat.le_of_ble_eq_true rfl) (fun _ => ?_)
  refine J_istore C (lv' := [(5, .int (iN (m + (if q - m < m + 2 then m + 2 else q - m)))), (4, .int (iN (q - m))), (3, .int (iN q)), (2, .int (iN m)), (0, .ref b), (1, .int (iN q))]) dJ5_newCapacity_0f7a4_32 (by decide) rfl ?_
  refine J_iload C 0 dJ5_newCapacity_0f7a4_34 rfl ?_
  refine J_ldc C (v := 2147483647) dJ5_newCapacity_0f7a4_36 uk_J5_39 ?_
  refine J_icmp_ne_n C 51 (iN_ne' (b := 2147483647) (by omega) (by omega) (by decide)) dJ5_newCapacity_0f7a4_38 rfl ?_
  refine J_iload C 0 dJ5_newCapacity_0f7a4_51 rfl ?_
  refine J_aload_n C 4 dJ5_newCapacity_0f7a4_53 rfl ?_
  refine J_get C 0 1 dJ5_newCapacity_0f7a4_54 inlJ4 uf_J5_22 rfl (by decide) rfl rfl rfl ?_
  refine J_ishr C dJ5_newCapacity_0f7a4_57 rfl ?_
  refine J_eqi (b := (iN (m + (if q - m < m + 2 then m + 2 else q - m)))) (sb_shr0 _) ?_
  exact J_riret C () dJ5_newCapacity_0f7a4_58 (Nat.le_of_ble_eq_true rfl) (Nat.le_of_ble_eq_true rfl) rfl
theorem cj_copyOf (l : Launch) (K : gK) (a : Nat) {m q : Nat} {f : Nat → Int32} (hf : BY m f) (hmq : m < q) (hq : q ≤ 2300) : Cr l K yJ7_copyOf_9075b cJ7_copyOf_9075b 3 (some (.array .byte)) 1 1 2300 [.ref a, .int (iN q)] [cB K a m f] (fun u : {u : Nat × (Nat → Int32) // (∀ i, i < m → u.2 i = f i) ∧ BY q u.2} => (some (.ref u.1.1), [cB K u.1.1 q u.1.2, cB K a m f])) := by
  refine Cr.of (own := RJ7) (by decide) rfl (Nat.le_of_ble_eq_true rfl) (fun Γ C Yc _ => ?_)
  refine J_iload_n C 1 dJ7_copyOf_9075b_0 rfl ?_
  refine J_aload_n C 0 dJ7_copyOf_9075b_1 rfl ?_
  refine J_alen C 0 1 (v := iN m) dJ7_copyOf_9075b_2 rfl rfl rfl ?_
  refine J_icmp_ne_n C 14 (iN_ne' (by omega) (by omega) (by omega)) dJ7_copyOf_9075b_3 rfl ?_
  refine J_iload_n C 1 dJ7_copyOf_9075b_14 rfl ?_
  refine J_newB C Yc q dJ7_copyOf_9075b_15 rfl (by omega) (Nat.le_of_ble_eq_true rfl) (by omega) (fun a2 => ?_)
  refine J_widen (k := 1) (n := 2300) (Nat.le_refl _) (by omega) ?_
  refine J_astore_n C (lv' := [(2, .ref a2), (0, .ref a), (1, .int (iN q))]) dJ7_copyOf_9075b_17 (by decide) rfl ?_
  refine J_aload_n C 1 dJ7_copyOf_9075b_18 rfl ?_
  refine J_iconst C (v := 0) dJ7_copyOf_9075b_19 rfl ?_
  refine J_aload_n C 0 dJ7_copyOf_9075b_20 rfl ?_
  refine J_iconst C (v := 0) dJ7_copyOf_9075b_21 rfl ?_
  refine J_aload_n C 1 dJ7_copyOf_9075b_22 rfl ?_
  refine J_alen C 1 1 (v := iN m) dJ7_copyOf_9075b_23 rfl rfl rfl ?_
  refine J_iload_n C 2 dJ7_copyOf_9075b_24 rfl ?_
  refine J_min C Yc (Nat.le_of_ble_eq_true rfl) (Nat.le_of_ble_eq_true rfl) dJ7_copyOf_9075b_25 um_J7_304 (Nat.le_of_ble_eq_true rfl) (Nat.le_of_ble_eq_true rfl) ?_
  refine J_eqi (b := iN m) (if_neg (fun z => by have := (iN_lt (by omega) (by omega)).mp z; omega)) ?_
  refine J_copyb C 1 0 (ws2 := [cB K a2 q (va_cpy f (fun _ => 0) 0 0 m), cB K a m f]) 0 0 m rfl rfl rfl dJ7_copyOf_9075b_28 um_J7_150 (Nat.le_of_ble_eq_true rfl) rfl rfl (by omega) (by omega) ⟨by omega, by omega⟩ (fun i hi => by rw [Nat.zero_add]; exact hf.fit hi) rfl (Nat.le_of_ble_eq_true rfl) ?_
  refine J_aload_n C 0 dJ7_copyOf_9075b_31 rfl ?_
  have hp : (∀ i, i < m → va_cpy f (fun _ => 0) 0 0 m i = f i) ∧ BY q (va_cpy f (fun _ => 0) 0 0 m) := by
    have e : ∀ i, i < m → va_cpy f (fun _ => 0) 0 0 m i = f i := fun i hi => by rw [va_cpy_in (by omega), Nat.zero_add, Nat.sub_zero]
    refine ⟨e, fun i hi => ?_⟩
    by_cases h : i < m
    · rw [e i h]
      exact hf i h
    · rw [va_cpy_out (by omega)]
      exact ⟨0, by decide, rfl⟩
  exact J_raret (Or.inr ⟨_, rfl⟩) C ⟨(a2, va_cpy f (fun _ => 0) 0 0 m), hp⟩ dJ7_copyOf_9075b_32 (Nat.le_of_ble_eq_true rfl) (Nat.le_of_ble_eq_true rfl) rfl
def CP (q m : Nat) (f : Nat → Int32) (u : Nat × Nat × (Nat → Int32)) : Prop := q ≤ u.2.1 ∧ u.2.1 ≤ 2300 ∧ (∀ i, i < m → u.2.2 i = f i) ∧ BY u.2.1 u.2.2
theorem cj_ens (l : Launch) (K : gK) (b a n : Nat) {m q : Nat} {f : Nat → Int32} (hf : BY m f) (hm : m ≤ 2300) (hq : q ≤ 1100) : Cr l K yJ5_ensureCapacityInternal_d00df cJ5_ensureCapacityInternal_d00df 3 none 3 1 2300 [.ref b, .int (iN q)] [(b, .inr (11, [.ref a, .int 0, .int 0, .int (iN n)])), cB K a m f] (fun u : {u : Nat × Nat × (Nat → Int32) // CP q m f u} => (none, [(b, .inr (11, [.ref u.1.1, .int 0, .int 0, .int (iN n)])), cB K u.1.1 u.1.2.1 u.1.2.2])) := by
  refine Cr.of (own := RJ5) (by decide) rfl (Nat.le_of_ble_eq_true rfl) (fun Γ C Yc _ => ?_)
  refine J_aload_n C 0 dJ5_ensureCapacityInternal_d00df_0 rfl ?_
  refine J_get C 0 0 dJ5_ensureCapacityInternal_d00df_1 inlJ4 uf_J5_15 rfl (by decide) rfl rfl rfl ?_
  refine J_alen C 1 1 (v := iN m) dJ5_ensureCapacityInternal_d00df_4 rfl rfl rfl ?_
  refine J_aload_n C 0 dJ5_ensureCapacityInternal_d00df_5 rfl ?_
  refine J_get C 0 1 dJ5_ensureCapacityInternal_d00df_6 inlJ4 uf_J5_22 rfl (by decide) rfl rfl rfl ?_
  refine J_ishr C dJ5_ensureCapacityInternal_d00df_9 rfl ?_
  refine J_eqi (b := (iN m)) (sb_shr0 _) ?_
  refine J_istore_n C (lv' := [(2, .int (iN m)), (0, .ref b), (1, .int (iN q))]) dJ5_ensureCapacityInternal_d00df_10 (by decide) rfl ?_
  refine J_iload_n C 2 dJ5_ensureCapacityInternal_d00df_11 rfl ?_
  refine J_iload_n C 0 dJ5_ensureCapacityInternal_d00df_12 rfl ?_
  refine J_isub C dJ5_ensureCapacityInternal_d00df_13 ?_
  by_cases hmq : m < q
  · have hc : (m + (if q - m < m + 2 then m + 2 else q - m)) ≤ 2300 ∧ q ≤ (m + (if q - m < m + 2 then m + 2 else q - m)) ∧ m < (m + (if q - m < m + 2 then m + 2 else q - m)) := by split <;> omega
    refine J_if_le_y C 38 ((iN_subp (by omega) (by omega)).mpr hmq) dJ5_ensureCapacityInternal_d00df_14 rfl ?_
    refine J_aload_n C 1 dJ5_ensureCapacityInternal_d00df_17 rfl ?_
    refine J_aload_n C 1 dJ5_ensureCapacityInternal_d00df_18 rfl ?_
    refine J_get C 0 0 dJ5_ensureCapacityInternal_d00df_19 inlJ4 uf_J5_15 rfl (by decide) rfl rfl rfl ?_
    refine J_aload_n C 1 dJ5_ensureCapacityInternal_d00df_22 rfl ?_
    refine J_iload_n C 2 dJ5_ensureCapacityInternal_d00df_23 rfl ?_
    refine J_crU (as := [.int (iN q)]) (x := ⟨"java/lang/AbstractStringBuilder", "newCapacity", "(I)I"⟩) (C0 := RJ4) (T := TJ4) (N := 4) (owner := "java/lang/AbstractStringBuilder") C Yc 0 11 kj_J5_newCapacity_0f7a4 rfl ⟨by decide, by decide, by decide⟩ uq_AbstractStringBuilder_AbstractStringBuilder_newCapacity_0f7a ui_J5_newCapacity_0f7a4 us_RJ4_rAbstractStringBuilder_newCapacity_0f7a um_J5_104 rfl rfl (cj_newCap l K b a n f (by omega) (by omega) hmq) dJ5_ensureCapacityInternal_d00df_24 rfl rfl ⟨(Nat.le_of_ble_eq_true rfl), (Nat.le_of_ble_eq_true rfl)⟩ (Nat.le_of_ble_eq_true rfl) (Nat.le_of_ble_eq_true rfl) (Nat.le_of_ble_eq_true rfl) (fun _ => ?_)
    generalize hz : (m + (if q - m < m + 2 then m + 2 else q - m)) = z at hc ⊢
    refine J_aload_n C 1 dJ5_ensureCapacityInternal_d00df_27 rfl ?_
    refine J_get C 0 1 dJ5_ensureCapacityInternal_d00df_28 inlJ4 uf_J5_22 rfl (by decide) rfl rfl rfl ?_
    refine J_ishl C dJ5_ensureCapacityInternal_d00df_31 ?_
    refine J_eqi (b := (iN z)) (sb_shl0 _) ?_
    refine J_crS (as := [.ref a, .int (iN z)]) C Yc kj_J7_copyOf_9075b ut_J7_copyOf_9075b um_J5_108 (Cr.right [(b, .inr (11, [.ref a, .int 0, .int 0, .int (iN n)]))] (cj_copyOf l K a (q := z) hf (by omega) (by omega))) dJ5_ensureCapacityInternal_d00df_32 rfl rfl ⟨(Nat.le_of_ble_eq_true rfl), (Nat.le_of_ble_eq_true rfl)⟩ (Nat.le_of_ble_eq_true rfl) (Nat.le_of_ble_eq_true rfl) (Nat.le_of_ble_eq_true rfl) (fun u => ?_)
    refine J_put C 0 0 tyJ4 (.array .byte) (ws' := [(b, .inr (11, [.ref u.1.1, .int 0, .int 0, .int (iN n)])), cB K u.1.1 z u.1.2, cB K a m f]) dJ5_ensureCapacityInternal_d00df_35 inlJ4 uf_J5_15 tyJ4_ok nmJ4 rfl (by decide) rfl rfl rfl rfl rfl rfl (Nat.le_of_ble_eq_true rfl) rfl ?_
    refine J_dropR (u := [(b, .inr (11, [.ref u.1.1, .int 0, .int 0, .int (iN n)])), cB K u.1.1 z u.1.2]) (v := [cB K a m f]) ?_
    exact J_rvret C ⟨(u.1.1, z, u.1.2), by show q ≤ z; omega, by show z ≤ 2300; omega, u.2.1, u.2.2⟩ dJ5_ensureCapacityInternal_d00df_38 (Nat.le_of_ble_eq_true rfl) (Nat.le_of_ble_eq_true rfl) rfl
  · refine J_if_le_n C 38 (fun z => hmq ((iN_subp (by omega) (by omega)).mp z)) dJ5_ensureCapacityInternal_d00df_14 rfl ?_
    exact J_rvret C ⟨(a, m, f), by show q ≤ m; omega, by show m ≤ 2300; omega, fun _ _ => rfl, hf⟩ dJ5_ensureCapacityInternal_d00df_38 (Nat.le_of_ble_eq_true rfl) (Nat.le_of_ble_eq_true rfl) rfl
theorem cj_getB (l : Launch) (K : gK) (a n : Nat) {m j : Nat} {f : Nat → Int32} (hj : j < 16) (hn : n + slen.getD j 0 ≤ m) (hm : m ≤ 2300) : Cr l K yJ0_getBytes_840e7 cJ0_getBytes_840e7 4 none 1 0 0 [.ref (K.2 (100 + j)), .ref a, .int (iN n), .int 0] [cB K a m f] (fun _ : Unit => (none, [cB K a m (va_cpy (fun i => (sbyt.getD j []).getD i 0) f 0 n (slen.getD j 0))])) := by
  obtain ⟨s1, s2, s3⟩ := stx_ok j hj
  refine Cr.of (own := RJ0) (by decide) rfl (Nat.le_of_ble_eq_true rfl) (fun Γ C Yc _ => ?_)
  refine J_aload_n C 0 dJ0_getBytes_840e7_0 rfl ?_
  refine J_crVS (as := []) C Yc hj rfl kj_J0_coder_7d493 ui_J0_coder_7d493 us_J0_coder_7d493 um_J0_335 (Ct.cr (c_coder l K [cB K a m f] hj)) dJ0_getBytes_840e7_1 rfl rfl ⟨(Nat.le_of_ble_eq_true rfl), (Nat.le_of_ble_eq_true rfl)⟩ (Nat.le_of_ble_eq_true rfl) (Nat.le_of_ble_eq_true rfl) (Nat.le_of_ble_eq_true rfl) (fun _ => ?_)
  refine J_iload_n C 3 dJ0_getBytes_840e7_4 rfl ?_
  refine J_icmp_ne_y C 28 rfl dJ0_getBytes_840e7_5 rfl ?_
  refine J_aload_n C 0 dJ0_getBytes_840e7_8 rfl ?_
  refine J_sval C hj dJ0_getBytes_840e7_9 uf_J0_9 ?_
  refine J_iconst C (v := 0) dJ0_getBytes_840e7_12 rfl ?_
  refine J_aload_n C 1 dJ0_getBytes_840e7_13 rfl ?_
  refine J_iload_n C 2 dJ0_getBytes_840e7_14 rfl ?_
  refine J_iload_n C 3 dJ0_getBytes_840e7_15 rfl ?_
  refine J_ishl C dJ0_getBytes_840e7_16 ?_
  refine J_eqi (b := (iN n)) (sb_shl0 _) ?_
  refine J_aload_n C 0 dJ0_getBytes_840e7_17 rfl ?_
  refine J_sval C hj dJ0_getBytes_840e7_18 uf_J0_9 ?_
  refine J_tlen C hj dJ0_getBytes_840e7_21 ?_
  refine J_copyt C 0 (ws2 := [cB K a m (va_cpy (fun i => (sbyt.getD j []).getD i 0) f 0 n (slen.getD j 0))]) hj n (slen.getD j 0) rfl rfl rfl dJ0_getBytes_840e7_22 um_J0_212 (Nat.le_of_ble_eq_true rfl) rfl (Nat.le_refl _) hn ⟨by omega, by omega⟩ (fun i hi => by rw [(s3 i hi).2]; exact (show ∀ c, c < 128 → fits .byte (.int (iN c)) = true by decide +kernel) _ (s3 i hi).1) rfl (Nat.le_of_ble_eq_true rfl) ?_
  refine J_goto C 43 dJ0_getBytes_840e7_25 rfl ?_
  exact J_rvret C () dJ0_getBytes_840e7_43 (Nat.le_of_ble_eq_true rfl) (Nat.le_of_ble_eq_true rfl) rfl
theorem cj_infl (l : Launch) (K : gK) (b a n : Nat) {j : Nat} (hj : j < 16) : Cr l K yJ5_inflateIfNeededFor_a7421 cJ5_inflateIfNeededFor_a7421 2 none 1 0 0 [.ref b, .ref (K.2 (100 + j))] [(b, .inr (11, [.ref a, .int 0, .int 0, .int (iN n)]))] (fun _ : Unit => (none, [(b, .inr (11, [.ref a, .int 0, .int 0, .int (iN n)]))])) := by
  refine Cr.of (own := RJ5) (by decide) rfl (Nat.le_of_ble_eq_true rfl) (fun Γ C Yc _ => ?_)
  refine J_getcs C dJ5_inflateIfNeededFor_a7421_0 uf_J5_18 ?_
  refine J_if_eq_n C 21 (by decide) dJ5_inflateIfNeededFor_a7421_3 rfl ?_
  refine J_aload_n C 0 dJ5_inflateIfNeededFor_a7421_6 rfl ?_
  refine J_get C 0 1 dJ5_inflateIfNeededFor_a7421_7 inlJ4 uf_J5_22 rfl (by decide) rfl rfl rfl ?_
  refine J_aload_n C 1 dJ5_inflateIfNeededFor_a7421_10 rfl ?_
  refine J_crVS (as := []) C Yc hj rfl kj_J0_coder_7d493 ui_J0_coder_7d493 us_J0_coder_7d493 um_J5_40 (Ct.cr (c_coder l K [(b, .inr (11, [.ref a, .int 0, .int 0, .int (iN n)]))] hj)) dJ5_inflateIfNeededFor_a7421_11 rfl rfl ⟨(Nat.le_of_ble_eq_true rfl), (Nat.le_of_ble_eq_true rfl)⟩ (Nat.le_of_ble_eq_true rfl) (Nat.le_of_ble_eq_true rfl) (Nat.le_of_ble_eq_true rfl) (fun _ => ?_)
  refine J_icmp_eq_y C 21 rfl dJ5_inflateIfNeededFor_a7421_14 rfl ?_
  exact J_rvret C () dJ5_inflateIfNeededFor_a7421_21 (Nat.le_of_ble_eq_true rfl) (Nat.le_of_ble_eq_true rfl) rfl
theorem cj_putS (l : Launch) (K : gK) (b a n0 n : Nat) {m j : Nat} {f : Nat → Int32} (hj : j < 16) (hn : n + slen.getD j 0 ≤ m) (hm : m ≤ 2300) : Cr l K yJ5_putStringAt_47b60 cJ5_putStringAt_47b60 3 none 2 0 0 [.ref b, .int (iN n), .ref (K.2 (100 + j))] [(b, .inr (11, [.ref a, .int 0, .int 0, .int (iN n0)])), cB K a m f] (fun _ : Unit => (none, [(b, .inr (11, [.ref a, .int 0, .int 0, .int (iN n0)])), cB K a m (va_cpy (fun i => (sbyt.getD j []).getD i 0) f 0 n (slen.getD j 0))])) := by
  refine Cr.of (own := RJ5) (by decide) rfl (Nat.le_of_ble_eq_true rfl) (fun Γ C Yc _ => ?_)
  refine J_aload_n C 0 dJ5_putStringAt_47b60_0 rfl ?_
  refine J_aload_n C 2 dJ5_putStringAt_47b60_1 rfl ?_
  refine J_crU (as := [.ref (K.2 (100 + j))]) (x := ⟨"java/lang/AbstractStringBuilder", "inflateIfNeededFor", "(Ljava/lang/String;)V"⟩) (C0 := RJ4) (T := TJ4) (N := 4) (owner := "java/lang/AbstractStringBuilder") C Yc 0 11 kj_J5_inflateIfNeededFor_a7421 rfl ⟨by decide, by decide, by decide⟩ uq_AbstractStringBuilder_AbstractStringBuilder_inflateIfNeededFor_a742 ui_J5_inflateIfNeededFor_a7421 us_RJ4_rAbstractStringBuilder_inflateIfNeededFor_a742 um_J5_397 rfl rfl (Cr.left [cB K a m f] (cj_infl l K b a n0 hj)) dJ5_putStringAt_47b60_2 rfl rfl ⟨(Nat.le_of_ble_eq_true rfl), (Nat.le_of_ble_eq_true rfl)⟩ (Nat.le_of_ble_eq_true rfl) (Nat.le_of_ble_eq_true rfl) (Nat.le_of_ble_eq_true rfl) (fun _ => ?_)
  refine J_aload_n C 2 dJ5_putStringAt_47b60_5 rfl ?_
  refine J_aload_n C 0 dJ5_putStringAt_47b60_6 rfl ?_
  refine J_get C 0 0 dJ5_putStringAt_47b60_7 inlJ4 uf_J5_15 rfl (by decide) rfl rfl rfl ?_
  refine J_iload_n C 1 dJ5_putStringAt_47b60_10 rfl ?_
  refine J_aload_n C 0 dJ5_putStringAt_47b60_11 rfl ?_
  refine J_get C 0 1 dJ5_putStringAt_47b60_12 inlJ4 uf_J5_22 rfl (by decide) rfl rfl rfl ?_
  refine J_crVS (as := [.ref a, .int (iN n), .int 0]) C Yc hj rfl kj_J0_getBytes_840e7 ui_J0_getBytes_840e7 us_J0_getBytes_840e7 um_J5_399 (Cr.right [(b, .inr (11, [.ref a, .int 0, .int 0, .int (iN n0)]))] (cj_getB l K a n hj hn hm)) dJ5_putStringAt_47b60_15 rfl rfl ⟨(Nat.le_of_ble_eq_true rfl), (Nat.le_of_ble_eq_true rfl)⟩ (Nat.le_of_ble_eq_true rfl) (Nat.le_of_ble_eq_true rfl) (Nat.le_of_ble_eq_true rfl) (fun _ => ?_)
  exact J_rvret C () dJ5_putStringAt_47b60_18 (Nat.le_of_ble_eq_true rfl) (Nat.le_of_ble_eq_true rfl) rfl
theorem getD_l {T s : List Nat} {i : Nat} (h : i < T.length) : (T ++ s).getD i 0 = T.getD i 0 := by
  rw [List.getD_eq_getElem?_getD, List.getD_eq_getElem?_getD, List.getElem?_append_left h]
theorem getD_r {T s : List Nat} {i : Nat} (h : T.length ≤ i) : (T ++ s).getD i 0 = s.getD (i - T.length) 0 := by
  rw [List.getD_eq_getElem?_getD, List.getD_eq_getElem?_getD, List.getElem?_append_right h]
theorem iN_dec {a : Nat} (h : 1 ≤ a) : iN a + Int32.ofInt (-1) = iN (a - 1) := by
  rw [show Int32.ofInt (-1) = -1 from rfl, ← Int32.sub_eq_add_neg]
  exact iN_sub (b := 1) h
theorem TXT.put {T s : List Nat} {m : Nat} {f : Nat → Int32} {u : Nat × Nat × (Nat → Int32)} {g : Nat → Int32} (h : TXT T m f) (hc : CP (T.length + s.length) m f u) (hs : ∀ i, i < s.length → s.getD i 0 < 128) (h1 : ∀ i, i < s.length → g (T.length + i) = iN (s.getD i 0)) (h2 : ∀ i, ¬ (T.length ≤ i ∧ i < T.length + s.length) → g i = u.2.2 i) : TXT (T ++ s) u.2.1 g := by
  obtain ⟨a1, a2, a3⟩ := h
  obtain ⟨c1, c2, c3, c4⟩ := hc
  refine ⟨by rw [List.length_append]; exact c1, fun i hi => ?_, fun i hi => ?_⟩
  · rw [List.length_append] at hi
    by_cases q : i < T.length
    · rw [h2 i (by omega), c3 i (by omega), a2 i q, getD_l q]
    · have e := h1 (i - T.length) (by omega)
      rw [show T.length + (i - T.length) = i by omega] at e
      rw [e, getD_r (by omega)]
  · by_cases q : T.length ≤ i ∧ i < T.length + s.length
    · have e := h1 (i - T.length) (by omega)
      rw [show T.length + (i - T.length) = i by omega] at e
      exact ⟨_, hs _ (by omega), e⟩
    · rw [h2 i q]
      exact c4 i hi
/-- a StringBuilder's array, that holds T -/
abbrev SBt (T : List Nat) : Type := {u : Nat × Nat × (Nat → Int32) // TXT T u.2.1 u.2.2 ∧ u.2.1 ≤ 2300}
abbrev sbW (K : gK) (b : Nat) (T : List Nat) (u : Nat × Nat × (Nat → Int32)) : va_W := [(b, .inr (11, [.ref u.1, .int 0, .int 0, .int (iN T.length)])), cB K u.1 u.2.1 u.2.2]
theorem cj_appS5 (l : Launch) (K : gK) (b : Nat) {T : List Nat} (u : SBt T) {j : Nat} (hj : j < 16) (hT : T.length + slen.getD j 0 ≤ 1100) : Cr l K yJ5_append_cf1ce cJ5_append_cf1ce 3 (some (.object "java/lang/AbstractStringBuilder")) 4 1 2300 [.ref b, .ref (K.2 (100 + j))] (sbW K b T u.1) (fun z : SBt (T ++ stx j) => (some (.ref b), sbW K b (T ++ stx j) z.1)) := by
  obtain ⟨uT, um⟩ := u.2
  obtain ⟨s1, s2, s3⟩ := stx_ok j hj
  refine Cr.of (own := RJ5) (by decide) rfl (Nat.le_of_ble_eq_true rfl) (fun Γ C Yc _ => ?_)
  refine J_aload_n C 1 dJ5_append_cf1ce_0 rfl ?_
  refine J_ifnonnull C 9 dJ5_append_cf1ce_1 rfl ?_
  refine J_aload_n C 1 dJ5_append_cf1ce_9 rfl ?_
  refine J_crVS (as := []) C Yc hj rfl kj_J0_length_8abf5 ui_J0_length_8abf5 us_J0_length_8abf5 um_J5_32 (Ct.cr (c_slength l K [(b, .inr (11, [.ref u.1.1, .int 0, .int 0, .int (iN T.length)])), cB K u.1.1 u.1.2.1 u.1.2.2] hj)) dJ5_append_cf1ce_10 rfl rfl ⟨(Nat.le_of_ble_eq_true rfl), (Nat.le_of_ble_eq_true rfl)⟩ (Nat.le_of_ble_eq_true rfl) (Nat.le_of_ble_eq_true rfl) (Nat.le_of_ble_eq_true rfl) (fun _ => ?_)
  refine J_istore_n C (lv' := [(2, .int (iN (slen.getD j 0))), (0, .ref b), (1, .ref (K.2 (100 + j)))]) dJ5_append_cf1ce_13 (by decide) rfl ?_
  refine J_aload_n C 1 dJ5_append_cf1ce_14 rfl ?_
  refine J_aload_n C 1 dJ5_append_cf1ce_15 rfl ?_
  refine J_get C 0 3 dJ5_append_cf1ce_16 inlJ4 uf_J5_79 rfl (by decide) rfl rfl rfl ?_
  refine J_iload_n C 0 dJ5_append_cf1ce_19 rfl ?_
  refine J_iadd C dJ5_append_cf1ce_20 ?_
  refine J_eqi (b := (iN (T.length + slen.getD j 0))) (iN_add _ _) ?_
  refine J_crU (as := [.int (iN (T.length + slen.getD j 0))]) (x := ⟨"java/lang/AbstractStringBuilder", "ensureCapacityInternal", "(I)V"⟩) (C0 := RJ4) (T := TJ4) (N := 4) (owner := "java/lang/AbstractStringBuilder") C Yc 0 11 kj_J5_ensureCapacityInternal_d00df rfl ⟨by decide, by decide, by decide⟩ uq_AbstractStringBuilder_AbstractStringBuilder_ensureCapacityInternal_d00d ui_J5_ensureCapacityInternal_d00df us_RJ4_rAbstractStringBuilder_ensureCapacityInternal_d00d um_J5_100 rfl rfl (cj_ens l K b u.1.1 T.length (q := T.length + slen.getD j 0) uT.2.2 um hT) dJ5_append_cf1ce_21 rfl rfl ⟨(Nat.le_of_ble_eq_true rfl), (Nat.le_of_ble_eq_true rfl)⟩ (Nat.le_of_ble_eq_true rfl) (Nat.le_of_ble_eq_true rfl) (Nat.le_of_ble_eq_true rfl) (fun v => ?_)
  obtain ⟨c1, c2, c3, c4⟩ := v.2
  refine J_aload_n C 1 dJ5_append_cf1ce_24 rfl ?_
  refine J_aload_n C 1 dJ5_append_cf1ce_25 rfl ?_
  refine J_get C 0 3 dJ5_append_cf1ce_26 inlJ4 uf_J5_79 rfl (by decide) rfl rfl rfl ?_
  refine J_aload_n C 2 dJ5_append_cf1ce_29 rfl ?_
  refine J_crU (as := [.int (iN T.length), .ref (K.2 (100 + j))]) (x := ⟨"java/lang/AbstractStringBuilder", "putStringAt", "(ILjava/lang/String;)V"⟩) (C0 := RJ4) (T := TJ4) (N := 4) (owner := "java/lang/AbstractStringBuilder") C Yc 0 11 kj_J5_putStringAt_47b60 rfl ⟨by decide, by decide, by decide⟩ uq_AbstractStringBuilder_AbstractStringBuilder_putStringAt_47b6 ui_J5_putStringAt_47b60 us_RJ4_rAbstractStringBuilder_putStringAt_47b6 um_J5_208 rfl rfl (cj_putS l K b v.1.1 T.length T.length hj c1 c2) dJ5_append_cf1ce_30 rfl rfl ⟨(Nat.le_of_ble_eq_true rfl), (Nat.le_of_ble_eq_true rfl)⟩ (Nat.le_of_ble_eq_true rfl) (Nat.le_of_ble_eq_true rfl) (Nat.le_of_ble_eq_true rfl) (fun _ => ?_)
  refine J_aload_n C 1 dJ5_append_cf1ce_33 rfl ?_
  refine J_dup C dJ5_append_cf1ce_34 rfl ?_
  refine J_get C 0 3 dJ5_append_cf1ce_35 inlJ4 uf_J5_79 rfl (by decide) rfl rfl rfl ?_
  refine J_iload_n C 0 dJ5_append_cf1ce_38 rfl ?_
  refine J_iadd C dJ5_append_cf1ce_39 ?_
  refine J_eqi (b := (iN (T.length + slen.getD j 0))) (iN_add _ _) ?_
  refine J_put C 0 3 tyJ4 .int (ws' := [(b, .inr (11, [.ref v.1.1, .int 0, .int 0, .int (iN (T.length + slen.getD j 0))])), cB K v.1.1 v.1.2.1 (va_cpy (fun i => (sbyt.getD j []).getD i 0) v.1.2.2 0 T.length (slen.getD j 0))]) dJ5_append_cf1ce_40 inlJ4 uf_J5_79 tyJ4_ok nmJ4 rfl (by decide) rfl rfl rfl rfl rfl rfl (Nat.le_of_ble_eq_true rfl) rfl ?_
  refine J_aload_n C 1 dJ5_append_cf1ce_43 rfl ?_
  have hx : TXT (T ++ stx j) v.1.2.1 (va_cpy (fun i => (sbyt.getD j []).getD i 0) v.1.2.2 0 T.length (slen.getD j 0)) := uT.put (u := v.1) (by rw [s1]; exact v.2) (fun i hi => (s3 i (by omega)).1) (fun i hi => by rw [s1] at hi; rw [va_cpy_in (by omega), ← (s3 i hi).2, show 0 + (T.length + i - T.length) = i by omega]) (fun i hi => by rw [s1] at hi; exact va_cpy_out hi)
  refine J_weq (ws' := sbW K b (T ++ stx j) (v.1.1, v.1.2.1, (va_cpy (fun i => (sbyt.getD j []).getD i 0) v.1.2.2 0 T.length (slen.getD j 0)))) (by unfold sbW; rw [List.length_append, s1]) ?_
  exact J_raret (Or.inl ⟨_, rfl⟩) C ⟨(v.1.1, v.1.2.1, (va_cpy (fun i => (sbyt.getD j []).getD i 0) v.1.2.2 0 T.length (slen.getD j 0))), hx, c2⟩ dJ5_append_cf1ce_44 (Nat.le_of_ble_eq_true rfl) (Nat.le_of_ble_eq_true rfl) rfl
theorem cj_appS (l : Launch) (K : gK) (b : Nat) {T : List Nat} (u : SBt T) {j : Nat} (hj : j < 16) (hT : T.length + slen.getD j 0 ≤ 1100) : Cr l K yJ4_append_15ec4 cJ4_append_15ec4 2 (some (.object "java/lang/StringBuilder")) 5 1 2300 [.ref b, .ref (K.2 (100 + j))] (sbW K b T u.1) (fun z : SBt (T ++ stx j) => (some (.ref b), sbW K b (T ++ stx j) z.1)) := by
  obtain ⟨uT, um⟩ := u.2
  refine Cr.of (own := RJ4) (by decide) rfl (Nat.le_of_ble_eq_true rfl) (fun Γ C Yc _ => ?_)
  refine J_aload_n C 0 dJ4_append_15ec4_0 rfl ?_
  refine J_aload_n C 1 dJ4_append_15ec4_1 rfl ?_
  refine J_crSU (as := [.ref (K.2 (100 + j))]) (C0 := RJ4) (T := TJ4) (N := 4) C Yc 0 11 kj_J5_append_cf1ce (by decide) uq_AbstractStringBuilder_AbstractStringBuilder_append_cf1c up_J4 ui_J5_append_cf1ce um_J4_29 rfl rfl (cj_appS5 l K b u hj hT) dJ4_append_15ec4_2 rfl rfl ⟨(Nat.le_of_ble_eq_true rfl), (Nat.le_of_ble_eq_true rfl)⟩ (Nat.le_of_ble_eq_true rfl) (Nat.le_of_ble_eq_true rfl) (Nat.le_of_ble_eq_true rfl) (fun v => ?_)
  refine J_pop C dJ4_append_15ec4_5 rfl ?_
  refine J_aload_n C 0 dJ4_append_15ec4_6 rfl ?_
  exact J_raret (Or.inl ⟨_, rfl⟩) C v dJ4_append_15ec4_7 (Nat.le_of_ble_eq_true rfl) (Nat.le_of_ble_eq_true rfl) rfl
theorem cj_appB (l : Launch) (K : gK) (b : Nat) {T : List Nat} (u : SBt T) {j : Nat} (hj : j < 16) (hT : T.length + slen.getD j 0 ≤ 1100) : Cr l K yJ4_append_cf1ce cJ4_append_cf1ce 2 (some (.object "java/lang/AbstractStringBuilder")) 6 1 2300 [.ref b, .ref (K.2 (100 + j))] (sbW K b T u.1) (fun z : SBt (T ++ stx j) => (some (.ref b), sbW K b (T ++ stx j) z.1)) := by
  obtain ⟨uT, um⟩ := u.2
  refine Cr.of (own := RJ4) (by decide) rfl (Nat.le_of_ble_eq_true rfl) (fun Γ C Yc _ => ?_)
  refine J_aload_n C 0 dJ4_append_cf1ce_0 rfl ?_
  refine J_aload_n C 1 dJ4_append_cf1ce_1 rfl ?_
  refine J_crV (as := [.ref (K.2 (100 + j))]) (T := TJ4) (N := 4) C Yc 0 11 kj_J4_append_15ec4 ui_J4_append_15ec4 us_J4_append_15ec4 um_J4_23 rfl rfl (cj_appS l K b u hj hT) dJ4_append_cf1ce_2 rfl rfl ⟨(Nat.le_of_ble_eq_true rfl), (Nat.le_of_ble_eq_true rfl)⟩ (Nat.le_of_ble_eq_true rfl) (Nat.le_of_ble_eq_true rfl) (Nat.le_of_ble_eq_true rfl) (fun v => ?_)
  exact J_raret (Or.inl ⟨_, rfl⟩) C v dJ4_append_cf1ce_5 (Nat.le_of_ble_eq_true rfl) (Nat.le_of_ble_eq_true rfl) rfl
theorem cj_canE (l : Launch) (K : gK) (ws : va_W) {c : Nat} (hc : c < 128) : Cr l K yJ1_canEncode_fc78d cJ1_canEncode_fc78d 1 (some .boolean) 0 0 0 [.int (iN c)] ws (fun _ : Unit => (some (.int 1), ws)) := by
  refine Cr.of (own := RJ1) (by decide) rfl (Nat.le_of_ble_eq_true rfl) (fun Γ C Yc _ => ?_)
  refine J_iload_n C 0 dJ1_canEncode_fc78d_0 rfl ?_
  refine J_sipush C (v := 255) dJ1_canEncode_fc78d_1 rfl ?_
  refine J_icmp_gt_n C 11 (iN_nlt' (a := 255) (b := c) (by omega) (by decide)) dJ1_canEncode_fc78d_4 rfl ?_
  refine J_iconst C (v := 1) dJ1_canEncode_fc78d_7 rfl ?_
  refine J_goto C 12 dJ1_canEncode_fc78d_8 rfl ?_
  exact J_rnret rfl C () dJ1_canEncode_fc78d_12 (Nat.le_of_ble_eq_true rfl) (Nat.le_of_ble_eq_true rfl) rfl
theorem cj_appC5 (l : Launch) (K : gK) (b : Nat) {T : List Nat} (u : SBt T) {c : Nat} (hc : c < 128) (hT : T.length + 1 ≤ 1100) : Cr l K yJ5_append_3fe6f cJ5_append_3fe6f 2 (some (.object "java/lang/AbstractStringBuilder")) 4 1 2300 [.ref b, .int (iN c)] (sbW K b T u.1) (fun z : SBt (T ++ [c]) => (some (.ref b), sbW K b (T ++ [c]) z.1)) := by
  obtain ⟨uT, um⟩ := u.2
  refine Cr.of (own := RJ5) (by decide) rfl (Nat.le_of_ble_eq_true rfl) (fun Γ C Yc _ => ?_)
  refine J_aload_n C 0 dJ5_append_3fe6f_0 rfl ?_
  refine J_aload_n C 0 dJ5_append_3fe6f_1 rfl ?_
  refine J_get C 0 3 dJ5_append_3fe6f_2 inlJ4 uf_J5_79 rfl (by decide) rfl rfl rfl ?_
  refine J_iconst C (v := 1) dJ5_append_3fe6f_5 rfl ?_
  refine J_iadd C dJ5_append_3fe6f_6 ?_
  refine J_eqi (b := (iN (T.length + 1))) (iN_s _) ?_
  refine J_crU (as := [.int (iN (T.length + 1))]) (x := ⟨"java/lang/AbstractStringBuilder", "ensureCapacityInternal", "(I)V"⟩) (C0 := RJ4) (T := TJ4) (N := 4) (owner := "java/lang/AbstractStringBuilder") C Yc 0 11 kj_J5_ensureCapacityInternal_d00df rfl ⟨by decide, by decide, by decide⟩ uq_AbstractStringBuilder_AbstractStringBuilder_ensureCapacityInternal_d00d ui_J5_ensureCapacityInternal_d00df us_RJ4_rAbstractStringBuilder_ensureCapacityInternal_d00d um_J5_100 rfl rfl (cj_ens l K b u.1.1 T.length (q := T.length + 1) uT.2.2 um hT) dJ5_append_3fe6f_7 rfl rfl ⟨(Nat.le_of_ble_eq_true rfl), (Nat.le_of_ble_eq_true rfl)⟩ (Nat.le_of_ble_eq_true rfl) (Nat.le_of_ble_eq_true rfl) (Nat.le_of_ble_eq_true rfl) (fun v => ?_)
  obtain ⟨c1, c2, c3, c4⟩ := v.2
  refine J_aload_n C 0 dJ5_append_3fe6f_10 rfl ?_
  refine J_crU (as := []) (x := ⟨"java/lang/AbstractStringBuilder", "isLatin1", "()Z"⟩) (C0 := RJ4) (T := TJ4) (N := 4) (owner := "java/lang/AbstractStringBuilder") C Yc 0 11 kj_J5_isLatin1_aae02 rfl ⟨by decide, by decide, by decide⟩ uq_AbstractStringBuilder_AbstractStringBuilder_isLatin1_aae0 ui_J5_isLatin1_aae02 us_RJ4_rAbstractStringBuilder_isLatin1_aae0 um_J5_83 rfl rfl (Cr.left [cB K v.1.1 v.1.2.1 v.1.2.2] (cj_lat l K b v.1.1 T.length)) dJ5_append_3fe6f_11 rfl rfl ⟨(Nat.le_of_ble_eq_true rfl), (Nat.le_of_ble_eq_true rfl)⟩ (Nat.le_of_ble_eq_true rfl) (Nat.le_of_ble_eq_true rfl) (Nat.le_of_ble_eq_true rfl) (fun _ => ?_)
  refine J_if_eq_n C 45 (by decide) dJ5_append_3fe6f_14 rfl ?_
  refine J_iload_n C 1 dJ5_append_3fe6f_17 rfl ?_
  refine J_crS (as := [.int (iN c)]) C Yc kj_J1_canEncode_fc78d ut_J1_canEncode_fc78d um_J5_191 (cj_canE l K [(b, .inr (11, [.ref v.1.1, .int 0, .int 0, .int (iN T.length)])), cB K v.1.1 v.1.2.1 v.1.2.2] hc) dJ5_append_3fe6f_18 rfl rfl ⟨(Nat.le_of_ble_eq_true rfl), (Nat.le_of_ble_eq_true rfl)⟩ (Nat.le_of_ble_eq_true rfl) (Nat.le_of_ble_eq_true rfl) (Nat.le_of_ble_eq_true rfl) (fun _ => ?_)
  refine J_if_eq_n C 45 (by decide) dJ5_append_3fe6f_21 rfl ?_
  refine J_aload_n C 0 dJ5_append_3fe6f_24 rfl ?_
  refine J_get C 0 0 dJ5_append_3fe6f_25 inlJ4 uf_J5_15 rfl (by decide) rfl rfl rfl ?_
  refine J_aload_n C 0 dJ5_append_3fe6f_28 rfl ?_
  refine J_dup C dJ5_append_3fe6f_29 rfl ?_
  refine J_get C 0 3 dJ5_append_3fe6f_30 inlJ4 uf_J5_79 rfl (by decide) rfl rfl rfl ?_
  refine J_dup_x1 C rfl rfl dJ5_append_3fe6f_33 ?_
  refine J_iconst C (v := 1) dJ5_append_3fe6f_34 rfl ?_
  refine J_iadd C dJ5_append_3fe6f_35 ?_
  refine J_eqi (b := (iN (T.length + 1))) (iN_s _) ?_
  refine J_put C 0 3 tyJ4 .int (ws' := [(b, .inr (11, [.ref v.1.1, .int 0, .int 0, .int (iN (T.length + 1))])), cB K v.1.1 v.1.2.1 v.1.2.2]) dJ5_append_3fe6f_36 inlJ4 uf_J5_79 tyJ4_ok nmJ4 rfl (by decide) rfl rfl rfl rfl rfl rfl (Nat.le_of_ble_eq_true rfl) rfl ?_
  refine J_iload_n C 1 dJ5_append_3fe6f_39 rfl ?_
  refine J_i2b C (v := (iN c)) dJ5_append_3fe6f_40 (by_b c hc) ?_
  refine J_bsN C 1 T.length rfl (by omega) (by omega) (by_n c hc) (ws2 := [(b, .inr (11, [.ref v.1.1, .int 0, .int 0, .int (iN (T.length + 1))])), cB K v.1.1 v.1.2.1 (upd v.1.2.2 T.length (iN c))]) rfl rfl dJ5_append_3fe6f_41 ?_
  refine J_goto C 75 dJ5_append_3fe6f_42 rfl ?_
  refine J_aload_n C 0 dJ5_append_3fe6f_75 rfl ?_
  have hx : TXT (T ++ [c]) v.1.2.1 (upd v.1.2.2 T.length (iN c)) := by
    refine uT.put (u := v.1) v.2 (fun i hi => ?_) (fun i hi => ?_) (fun i hi => ?_)
    · have e : i = 0 := by simpa using hi
      subst e
      exact hc
    · have e : i = 0 := by simpa using hi
      subst e
      exact upd_eq _ _ _
    · exact upd_ne (fun z => hi (by subst z; simp))
  refine J_weq (ws' := sbW K b (T ++ [c]) (v.1.1, v.1.2.1, (upd v.1.2.2 T.length (iN c)))) (by unfold sbW; rw [List.length_append]; rfl) ?_
  exact J_raret (Or.inl ⟨_, rfl⟩) C ⟨(v.1.1, v.1.2.1, (upd v.1.2.2 T.length (iN c))), hx, c2⟩ dJ5_append_3fe6f_76 (Nat.le_of_ble_eq_true rfl) (Nat.le_of_ble_eq_true rfl) rfl
theorem cj_appC (l : Launch) (K : gK) (b : Nat) {T : List Nat} (u : SBt T) {c : Nat} (hc : c < 128) (hT : T.length + 1 ≤ 1100) : Cr l K yJ4_append_cf468 cJ4_append_cf468 2 (some (.object "java/lang/StringBuilder")) 5 1 2300 [.ref b, .int (iN c)] (sbW K b T u.1) (fun z : SBt (T ++ [c]) => (some (.ref b), sbW K b (T ++ [c]) z.1)) := by
  obtain ⟨uT, um⟩ := u.2
  refine Cr.of (own := RJ4) (by decide) rfl (Nat.le_of_ble_eq_true rfl) (fun Γ C Yc _ => ?_)
  refine J_aload_n C 0 dJ4_append_cf468_0 rfl ?_
  refine J_iload_n C 1 dJ4_append_cf468_1 rfl ?_
  refine J_crSU (as := [.int (iN c)]) (C0 := RJ4) (T := TJ4) (N := 4) C Yc 0 11 kj_J5_append_3fe6f (by decide) uq_AbstractStringBuilder_AbstractStringBuilder_append_3fe6 up_J4 ui_J5_append_3fe6f um_J4_50 rfl rfl (cj_appC5 l K b u hc hT) dJ4_append_cf468_2 rfl rfl ⟨(Nat.le_of_ble_eq_true rfl), (Nat.le_of_ble_eq_true rfl)⟩ (Nat.le_of_ble_eq_true rfl) (Nat.le_of_ble_eq_true rfl) (Nat.le_of_ble_eq_true rfl) (fun v => ?_)
  refine J_pop C dJ4_append_cf468_5 rfl ?_
  refine J_aload_n C 0 dJ4_append_cf468_6 rfl ?_
  exact J_raret (Or.inl ⟨_, rfl⟩) C v dJ4_append_cf468_7 (Nat.le_of_ble_eq_true rfl) (Nat.le_of_ble_eq_true rfl) rfl
/-- the decimal digits of a number below 100 -/
def dcN (v : Nat) : List Nat := if v < 10 then [48 + v] else [48 + v / 10, 48 + v % 10]
def dgN (v : Nat) : Nat := if v < 10 then 1 else 2
theorem dcN_len (v : Nat) : (dcN v).length = dgN v := by
  unfold dcN dgN
  split <;> rfl
theorem neg_lt {a b : Nat} (ha : a < 2147483648) (hb : b < 2147483648) : -iN a < -iN b ↔ b < a := sb_nlt ha hb
theorem cj_size (l : Launch) (K : gK) (ws : va_W) {v : Nat} (hv : v < 100) : Cr l K yJ6_stringSize_0f7a4 cJ6_stringSize_0f7a4 4 (some .int) 0 0 0 [.int (iN v)] ws (fun _ : Unit => (some (.int (iN (dgN v))), ws)) := by
  refine Cr.of (own := RJ6) (by decide) rfl (Nat.le_of_ble_eq_true rfl) (fun Γ C Yc _ => ?_)
  refine J_iconst C (v := 1) dJ6_stringSize_0f7a4_0 rfl ?_
  refine J_istore_n C (lv' := [(1, .int 1), (0, .int (iN v))]) dJ6_stringSize_0f7a4_1 (by decide) rfl ?_
  refine J_iload_n C 1 dJ6_stringSize_0f7a4_2 rfl ?_
  refine J_if_lt_n C 11 (iN_neg (by omega)) dJ6_stringSize_0f7a4_3 rfl ?_
  refine J_iconst C (v := 0) dJ6_stringSize_0f7a4_6 rfl ?_
  refine J_istore_n C (lv' := [(1, .int 0), (0, .int (iN v))]) dJ6_stringSize_0f7a4_7 (by decide) rfl ?_
  refine J_iload_n C 1 dJ6_stringSize_0f7a4_8 rfl ?_
  refine J_ineg C dJ6_stringSize_0f7a4_9 ?_
  refine J_istore_n C (lv' := [(0, .int (-(iN v))), (1, .int 0)]) dJ6_stringSize_0f7a4_10 (by decide) rfl ?_
  refine J_bipush C (v := -10) dJ6_stringSize_0f7a4_11 rfl ?_
  refine J_istore_n C (lv' := [(2, .int (-10)), (0, .int (-(iN v))), (1, .int 0)]) dJ6_stringSize_0f7a4_13 (by decide) rfl ?_
  refine J_iconst C (v := 1) dJ6_stringSize_0f7a4_14 rfl ?_
  refine J_istore_n C (lv' := [(3, .int 1), (2, .int (-10)), (0, .int (-(iN v))), (1, .int 0)]) dJ6_stringSize_0f7a4_15 (by decide) rfl ?_
  refine J_iload_n C 0 dJ6_stringSize_0f7a4_16 rfl ?_
  refine J_bipush C (v := 10) dJ6_stringSize_0f7a4_17 rfl ?_
  refine J_icmp_ge_y C 42 (by decide) dJ6_stringSize_0f7a4_19 rfl ?_
  refine J_iload_n C 2 dJ6_stringSize_0f7a4_22 rfl ?_
  refine J_iload_n C 1 dJ6_stringSize_0f7a4_23 rfl ?_
  by_cases h : v < 10
  · have e : dgN v = 1 := if_pos h
    rw [e]
    refine J_icmp_le_y C 31 ((neg_lt (a := 10) (by decide) (by omega)).mpr h) dJ6_stringSize_0f7a4_24 rfl ?_
    refine J_iload_n C 0 dJ6_stringSize_0f7a4_27 rfl ?_
    refine J_iload_n C 3 dJ6_stringSize_0f7a4_28 rfl ?_
    refine J_iadd C dJ6_stringSize_0f7a4_29 ?_
    exact J_riret C () dJ6_stringSize_0f7a4_30 (Nat.le_of_ble_eq_true rfl) (Nat.le_of_ble_eq_true rfl) rfl
  · have e : dgN v = 2 := if_neg h
    rw [e]
    refine J_icmp_le_n C 31 (fun z => h ((neg_lt (a := 10) (by decide) (by omega)).mp z)) dJ6_stringSize_0f7a4_24 rfl ?_
    refine J_bipush C (v := 10) dJ6_stringSize_0f7a4_31 rfl ?_
    refine J_iload_n C 1 dJ6_stringSize_0f7a4_33 rfl ?_
    refine J_imul C dJ6_stringSize_0f7a4_34 ?_
    refine J_istore_n C (lv' := [(2, .int (10 * (-10))), (3, .int 1), (0, .int (-(iN v))), (1, .int 0)]) dJ6_stringSize_0f7a4_35 (by decide) rfl ?_
    refine J_iinc C 1 (w := (1 + 1)) (lv' := [(3, .int (1 + 1)), (2, .int (10 * (-10))), (0, .int (-(iN v))), (1, .int 0)]) dJ6_stringSize_0f7a4_36 rfl rfl (by decide) rfl ?_
    refine J_goto C 16 dJ6_stringSize_0f7a4_39 rfl ?_
    refine J_iload_n C 0 dJ6_stringSize_0f7a4_16 rfl ?_
    refine J_bipush C (v := 10) dJ6_stringSize_0f7a4_17 rfl ?_
    refine J_icmp_ge_y C 42 (by decide) dJ6_stringSize_0f7a4_19 rfl ?_
    refine J_iload_n C 2 dJ6_stringSize_0f7a4_22 rfl ?_
    refine J_iload_n C 1 dJ6_stringSize_0f7a4_23 rfl ?_
    refine J_icmp_le_y C 31 ((neg_lt (a := 100) (by decide) (by omega)).mpr hv) dJ6_stringSize_0f7a4_24 rfl ?_
    refine J_iload_n C 0 dJ6_stringSize_0f7a4_27 rfl ?_
    refine J_iload_n C 3 dJ6_stringSize_0f7a4_28 rfl ?_
    refine J_iadd C dJ6_stringSize_0f7a4_29 ?_
    exact J_riret C () dJ6_stringSize_0f7a4_30 (Nat.le_of_ble_eq_true rfl) (Nat.le_of_ble_eq_true rfl) rfl
def gcF (v : Nat) (f : Nat → Int32) (n : Nat) : Nat → Int32 := if v < 10 then upd f n (dg1 v) else upd (upd f (n + 1) (dg1 v)) n (dg10 v)
theorem dg_nar : ∀ v, v < 100 → vp_nar .byte (dg1 v) = dg1 v ∧ vp_nar .byte (dg10 v) = dg10 v := by decide +kernel
theorem neg_neg_ (x : Int32) : -(-x) = x := Int32.neg_neg
theorem cj_getC (l : Launch) (K : gK) (a : Nat) {v n m : Nat} {f : Nat → Int32} (hv : v < 100) (hn : n + dgN v ≤ m) (hm : m ≤ 2300) : Cr l K yJ6_getChars_ba4f3 cJ6_getChars_ba4f3 7 (some .int) 0 0 0 [.int (iN v), .int (iN (n + dgN v)), .ref a] [cB K a m f] (fun _ : Unit => (some (.int (iN n)), [cB K a m (gcF v f n)])) := by
  obtain ⟨z1, z2⟩ := dg_nar v hv
  have hd : 1 ≤ dgN v := by
    unfold dgN
    split <;> omega
  refine Cr.of (own := RJ6) (by decide) rfl (Nat.le_of_ble_eq_true rfl) (fun Γ C Yc _ => ?_)
  refine J_iload_n C 1 dJ6_getChars_ba4f3_0 rfl ?_
  refine J_istore C (lv' := [(5, .int (iN (n + dgN v))), (0, .int (iN v)), (1, .int (iN (n + dgN v))), (2, .ref a)]) dJ6_getChars_ba4f3_1 (by decide) rfl ?_
  refine J_iload_n C 1 dJ6_getChars_ba4f3_3 rfl ?_
  refine J_if_ge_n C 11 (iN_neg (by omega)) dJ6_getChars_ba4f3_4 rfl ?_
  refine J_iconst C (v := 0) dJ6_getChars_ba4f3_11 rfl ?_
  refine J_istore C (lv' := [(6, .int 0), (5, .int (iN (n + dgN v))), (0, .int (iN v)), (1, .int (iN (n + dgN v))), (2, .ref a)]) dJ6_getChars_ba4f3_12 (by decide) rfl ?_
  refine J_iload C 0 dJ6_getChars_ba4f3_14 rfl ?_
  refine J_if_ne_y C 22 rfl dJ6_getChars_ba4f3_16 rfl ?_
  refine J_iload_n C 2 dJ6_getChars_ba4f3_19 rfl ?_
  refine J_ineg C dJ6_getChars_ba4f3_20 ?_
  refine J_istore_n C (lv' := [(0, .int (-(iN v))), (6, .int 0), (5, .int (iN (n + dgN v))), (1, .int (iN (n + dgN v))), (2, .ref a)]) dJ6_getChars_ba4f3_21 (by decide) rfl ?_
  refine J_iload_n C 0 dJ6_getChars_ba4f3_22 rfl ?_
  refine J_bipush C (v := -100) dJ6_getChars_ba4f3_23 rfl ?_
  refine J_icmp_gt_y C 72 ((neg_lt (a := 100) (by decide) (by omega)).mpr hv) dJ6_getChars_ba4f3_25 rfl ?_
  refine J_aload_n C 4 dJ6_getChars_ba4f3_72 rfl ?_
  refine J_iinc C 2 (w := (iN (n + dgN v - 1))) (lv' := [(5, .int (iN (n + dgN v - 1))), (0, .int (-(iN v))), (6, .int 0), (1, .int (iN (n + dgN v))), (2, .ref a)]) dJ6_getChars_ba4f3_73 rfl (iN_dec (by omega)) (by decide) rfl ?_
  refine J_iload C 0 dJ6_getChars_ba4f3_76 rfl ?_
  refine J_getd1 C dJ6_getChars_ba4f3_78 uf_J6_83 ?_
  refine J_iload_n C 1 dJ6_getChars_ba4f3_81 rfl ?_
  refine J_ineg C dJ6_getChars_ba4f3_82 ?_
  refine J_eqi (b := (iN v)) (neg_neg_ _) ?_
  refine J_ldd1 C v rfl hv dJ6_getChars_ba4f3_83 ?_
  refine J_bsN C 0 (n + dgN v - 1) rfl (by omega) (by omega) z1 (ws2 := [cB K a m (upd f (n + dgN v - 1) (dg1 v))]) rfl rfl dJ6_getChars_ba4f3_84 ?_
  refine J_iload_n C 1 dJ6_getChars_ba4f3_85 rfl ?_
  refine J_bipush C (v := -9) dJ6_getChars_ba4f3_86 rfl ?_
  by_cases h : v < 10
  · have e : dgN v = 1 := if_pos h
    refine J_icmp_ge_n C 104 (fun z => by have := (neg_lt (b := 9) (by omega) (by decide)).mp z; omega) dJ6_getChars_ba4f3_88 rfl ?_
    refine J_iload C 2 dJ6_getChars_ba4f3_104 rfl ?_
    refine J_if_eq_y C 118 rfl dJ6_getChars_ba4f3_106 rfl ?_
    refine J_iload C 0 dJ6_getChars_ba4f3_118 rfl ?_
    have e2 : gcF v f n = upd f n (dg1 v) := if_pos h
    rw [e2]
    rw [e, Nat.add_sub_cancel]
    exact J_riret C () dJ6_getChars_ba4f3_120 (Nat.le_of_ble_eq_true rfl) (Nat.le_of_ble_eq_true rfl) rfl
  · have e : dgN v = 2 := if_neg h
    refine J_icmp_ge_y C 104 ((neg_lt (b := 9) (by omega) (by decide)).mpr (by omega)) dJ6_getChars_ba4f3_88 rfl ?_
    refine J_aload_n C 4 dJ6_getChars_ba4f3_91 rfl ?_
    refine J_iinc C 0 (w := (iN n)) (lv' := [(5, .int (iN n)), (0, .int (-(iN v))), (6, .int 0), (1, .int (iN (n + dgN v))), (2, .ref a)]) dJ6_getChars_ba4f3_92 rfl (by rw [e]; exact iN_dec (by omega)) (by decide) rfl ?_
    refine J_iload C 0 dJ6_getChars_ba4f3_95 rfl ?_
    refine J_getd10 C dJ6_getChars_ba4f3_97 uf_J6_87 ?_
    refine J_iload_n C 1 dJ6_getChars_ba4f3_100 rfl ?_
    refine J_ineg C dJ6_getChars_ba4f3_101 ?_
    refine J_eqi (b := (iN v)) (neg_neg_ _) ?_
    refine J_ldd10 C v rfl hv dJ6_getChars_ba4f3_102 ?_
    refine J_bsN C 0 n rfl (by omega) (by omega) z2 (ws2 := [cB K a m (upd (upd f (n + dgN v - 1) (dg1 v)) n (dg10 v))]) rfl rfl dJ6_getChars_ba4f3_103 ?_
    refine J_iload C 2 dJ6_getChars_ba4f3_104 rfl ?_
    refine J_if_eq_y C 118 rfl dJ6_getChars_ba4f3_106 rfl ?_
    refine J_iload C 0 dJ6_getChars_ba4f3_118 rfl ?_
    have e2 : gcF v f n = upd (upd f (n + 1) (dg1 v)) n (dg10 v) := if_neg h
    rw [e2]
    rw [e, show n + 2 - 1 = n + 1 by omega]
    exact J_riret C () dJ6_getChars_ba4f3_120 (Nat.le_of_ble_eq_true rfl) (Nat.le_of_ble_eq_true rfl) rfl
theorem cj_appI5 (l : Launch) (K : gK) (b : Nat) {T : List Nat} (u : SBt T) {v : Nat} (hv : v < 100) (hT : T.length + dgN v ≤ 1100) : Cr l K yJ5_append_c97b9 cJ5_append_c97b9 4 (some (.object "java/lang/AbstractStringBuilder")) 4 1 2300 [.ref b, .int (iN v)] (sbW K b T u.1) (fun z : SBt (T ++ dcN v) => (some (.ref b), sbW K b (T ++ dcN v) z.1)) := by
  obtain ⟨uT, um⟩ := u.2
  have hL := dcN_len v
  refine Cr.of (own := RJ5) (by decide) rfl (Nat.le_of_ble_eq_true rfl) (fun Γ C Yc _ => ?_)
  refine J_aload_n C 0 dJ5_append_c97b9_0 rfl ?_
  refine J_get C 0 3 dJ5_append_c97b9_1 inlJ4 uf_J5_79 rfl (by decide) rfl rfl rfl ?_
  refine J_istore_n C (lv' := [(2, .int (iN T.length)), (0, .ref b), (1, .int (iN v))]) dJ5_append_c97b9_4 (by decide) rfl ?_
  refine J_iload_n C 0 dJ5_append_c97b9_5 rfl ?_
  refine J_iload_n C 2 dJ5_append_c97b9_6 rfl ?_
  refine J_crS (as := [.int (iN v)]) C Yc kj_J6_stringSize_0f7a4 ut_J6_stringSize_0f7a4 um_J5_245 (cj_size l K [(b, .inr (11, [.ref u.1.1, .int 0, .int 0, .int (iN T.length)])), cB K u.1.1 u.1.2.1 u.1.2.2] hv) dJ5_append_c97b9_7 rfl rfl ⟨(Nat.le_of_ble_eq_true rfl), (Nat.le_of_ble_eq_true rfl)⟩ (Nat.le_of_ble_eq_true rfl) (Nat.le_of_ble_eq_true rfl) (Nat.le_of_ble_eq_true rfl) (fun _ => ?_)
  refine J_iadd C dJ5_append_c97b9_10 ?_
  refine J_eqi (b := (iN (T.length + dgN v))) (iN_add _ _) ?_
  refine J_istore_n C (lv' := [(3, .int (iN (T.length + dgN v))), (2, .int (iN T.length)), (0, .ref b), (1, .int (iN v))]) dJ5_append_c97b9_11 (by decide) rfl ?_
  refine J_aload_n C 2 dJ5_append_c97b9_12 rfl ?_
  refine J_iload_n C 0 dJ5_append_c97b9_13 rfl ?_
  refine J_crU (as := [.int (iN (T.length + dgN v))]) (x := ⟨"java/lang/AbstractStringBuilder", "ensureCapacityInternal", "(I)V"⟩) (C0 := RJ4) (T := TJ4) (N := 4) (owner := "java/lang/AbstractStringBuilder") C Yc 0 11 kj_J5_ensureCapacityInternal_d00df rfl ⟨by decide, by decide, by decide⟩ uq_AbstractStringBuilder_AbstractStringBuilder_ensureCapacityInternal_d00d ui_J5_ensureCapacityInternal_d00df us_RJ4_rAbstractStringBuilder_ensureCapacityInternal_d00d um_J5_100 rfl rfl (cj_ens l K b u.1.1 T.length (q := T.length + dgN v) uT.2.2 um hT) dJ5_append_c97b9_14 rfl rfl ⟨(Nat.le_of_ble_eq_true rfl), (Nat.le_of_ble_eq_true rfl)⟩ (Nat.le_of_ble_eq_true rfl) (Nat.le_of_ble_eq_true rfl) (Nat.le_of_ble_eq_true rfl) (fun x => ?_)
  obtain ⟨c1, c2, c3, c4⟩ := x.2
  refine J_aload_n C 2 dJ5_append_c97b9_17 rfl ?_
  refine J_crU (as := []) (x := ⟨"java/lang/AbstractStringBuilder", "isLatin1", "()Z"⟩) (C0 := RJ4) (T := TJ4) (N := 4) (owner := "java/lang/AbstractStringBuilder") C Yc 0 11 kj_J5_isLatin1_aae02 rfl ⟨by decide, by decide, by decide⟩ uq_AbstractStringBuilder_AbstractStringBuilder_isLatin1_aae0 ui_J5_isLatin1_aae02 us_RJ4_rAbstractStringBuilder_isLatin1_aae0 um_J5_83 rfl rfl (Cr.left [cB K x.1.1 x.1.2.1 x.1.2.2] (cj_lat l K b x.1.1 T.length)) dJ5_append_c97b9_18 rfl rfl ⟨(Nat.le_of_ble_eq_true rfl), (Nat.le_of_ble_eq_true rfl)⟩ (Nat.le_of_ble_eq_true rfl) (Nat.le_of_ble_eq_true rfl) (Nat.le_of_ble_eq_true rfl) (fun _ => ?_)
  refine J_if_eq_n C 37 (by decide) dJ5_append_c97b9_21 rfl ?_
  refine J_iload_n C 3 dJ5_append_c97b9_24 rfl ?_
  refine J_iload_n C 0 dJ5_append_c97b9_25 rfl ?_
  refine J_aload_n C 2 dJ5_append_c97b9_26 rfl ?_
  refine J_get C 0 0 dJ5_append_c97b9_27 inlJ4 uf_J5_15 rfl (by decide) rfl rfl rfl ?_
  refine J_crS (as := [.int (iN v), .int (iN (T.length + dgN v)), .ref x.1.1]) C Yc kj_J6_getChars_ba4f3 ut_J6_getChars_ba4f3 um_J5_248 (Cr.right [(b, .inr (11, [.ref x.1.1, .int 0, .int 0, .int (iN T.length)]))] (cj_getC l K x.1.1 (n := T.length) hv c1 c2)) dJ5_append_c97b9_30 rfl rfl ⟨(Nat.le_of_ble_eq_true rfl), (Nat.le_of_ble_eq_true rfl)⟩ (Nat.le_of_ble_eq_true rfl) (Nat.le_of_ble_eq_true rfl) (Nat.le_of_ble_eq_true rfl) (fun _ => ?_)
  refine J_pop C dJ5_append_c97b9_33 rfl ?_
  refine J_goto C 48 dJ5_append_c97b9_34 rfl ?_
  refine J_aload_n C 2 dJ5_append_c97b9_48 rfl ?_
  refine J_iload_n C 0 dJ5_append_c97b9_49 rfl ?_
  refine J_put C 0 3 tyJ4 .int (ws' := [(b, .inr (11, [.ref x.1.1, .int 0, .int 0, .int (iN (T.length + dgN v))])), cB K x.1.1 x.1.2.1 (gcF v x.1.2.2 T.length)]) dJ5_append_c97b9_50 inlJ4 uf_J5_79 tyJ4_ok nmJ4 rfl (by decide) rfl rfl rfl rfl rfl rfl (Nat.le_of_ble_eq_true rfl) rfl ?_
  refine J_aload_n C 2 dJ5_append_c97b9_53 rfl ?_
  have hx : TXT (T ++ dcN v) x.1.2.1 (gcF v x.1.2.2 T.length) := by
    refine uT.put (u := x.1) (by rw [hL]; exact x.2) (fun i hi => ?_) (fun i hi => ?_) (fun i hi => ?_)
    · unfold dcN at hi ⊢
      by_cases h : v < 10
      · rw [if_pos h] at hi ⊢
        have e : i = 0 := by simpa using hi
        subst e
        show 48 + v < 128
        omega
      · rw [if_neg h] at hi ⊢
        have e : i = 0 ∨ i = 1 := by
          have : i < 2 := hi
          omega
        rcases e with rfl | rfl
        · show 48 + v / 10 < 128
          omega
        · show 48 + v % 10 < 128
          omega
    · unfold dcN at hi ⊢
      unfold gcF
      by_cases h : v < 10
      · rw [if_pos h] at hi ⊢
        have e : i = 0 := by simpa using hi
        subst e
        rw [if_pos h, Nat.add_zero, upd_eq]
        show Int32.ofNat (48 + v % 10) = iN (48 + v)
        rw [Nat.mod_eq_of_lt h]
        rfl
      · rw [if_neg h] at hi ⊢
        rw [if_neg h]
        have e : i = 0 ∨ i = 1 := by
          have : i < 2 := hi
          omega
        rcases e with rfl | rfl
        · show (upd (upd x.1.2.2 (T.length + 1) (dg1 v)) T.length (dg10 v)) T.length = _
          rw [upd_eq]
          rfl
        · rw [upd_ne (by omega), upd_eq]
          rfl
    · rw [hL] at hi
      unfold gcF
      unfold dgN at hi
      by_cases h : v < 10
      · rw [if_pos h] at hi ⊢
        exact upd_ne (by omega)
      · rw [if_neg h] at hi ⊢
        rw [upd_ne (by omega), upd_ne (by omega)]
  refine J_weq (ws' := sbW K b (T ++ dcN v) (x.1.1, x.1.2.1, (gcF v x.1.2.2 T.length))) (by unfold sbW; rw [List.length_append, hL]) ?_
  exact J_raret (Or.inl ⟨_, rfl⟩) C ⟨(x.1.1, x.1.2.1, (gcF v x.1.2.2 T.length)), hx, c2⟩ dJ5_append_c97b9_54 (Nat.le_of_ble_eq_true rfl) (Nat.le_of_ble_eq_true rfl) rfl
theorem cj_appI (l : Launch) (K : gK) (b : Nat) {T : List Nat} (u : SBt T) {v : Nat} (hv : v < 100) (hT : T.length + dgN v ≤ 1100) : Cr l K yJ4_append_bf812 cJ4_append_bf812 2 (some (.object "java/lang/StringBuilder")) 5 1 2300 [.ref b, .int (iN v)] (sbW K b T u.1) (fun z : SBt (T ++ dcN v) => (some (.ref b), sbW K b (T ++ dcN v) z.1)) := by
  obtain ⟨uT, um⟩ := u.2
  refine Cr.of (own := RJ4) (by decide) rfl (Nat.le_of_ble_eq_true rfl) (fun Γ C Yc _ => ?_)
  refine J_aload_n C 0 dJ4_append_bf812_0 rfl ?_
  refine J_iload_n C 1 dJ4_append_bf812_1 rfl ?_
  refine J_crSU (as := [.int (iN v)]) (C0 := RJ4) (T := TJ4) (N := 4) C Yc 0 11 kj_J5_append_c97b9 (by decide) uq_AbstractStringBuilder_AbstractStringBuilder_append_c97b up_J4 ui_J5_append_c97b9 um_J4_53 rfl rfl (cj_appI5 l K b u hv hT) dJ4_append_bf812_2 rfl rfl ⟨(Nat.le_of_ble_eq_true rfl), (Nat.le_of_ble_eq_true rfl)⟩ (Nat.le_of_ble_eq_true rfl) (Nat.le_of_ble_eq_true rfl) (Nat.le_of_ble_eq_true rfl) (fun v => ?_)
  refine J_pop C dJ4_append_bf812_5 rfl ?_
  refine J_aload_n C 0 dJ4_append_bf812_6 rfl ?_
  exact J_raret (Or.inl ⟨_, rfl⟩) C v dJ4_append_bf812_7 (Nat.le_of_ble_eq_true rfl) (Nat.le_of_ble_eq_true rfl) rfl
theorem cj_sbI5 (l : Launch) (K : gK) (b : Nat) : Cr l K yJ5_init_d00df cJ5_init_d00df 2 none 1 1 16 [.ref b, .int (iN 16)] [(b, .inr (11, [.null, .int 0, .int 0, .int 0]))] (fun v : SBt ([]) => (none, sbW K b ([]) v.1)) := by
  refine Cr.of (own := RJ5) (by decide) rfl (Nat.le_of_ble_eq_true rfl) (fun Γ C Yc _ => ?_)
  refine J_aload_n C 0 dJ5_init_d00df_0 rfl ?_
  refine J_obj C dJ5_init_d00df_1 um_J5_3 (by decide) (Nat.le_of_ble_eq_true rfl) ?_
  refine J_getcs C dJ5_init_d00df_4 uf_J5_18 ?_
  refine J_if_eq_n C 25 (by decide) dJ5_init_d00df_7 rfl ?_
  refine J_aload_n C 0 dJ5_init_d00df_10 rfl ?_
  refine J_iload_n C 1 dJ5_init_d00df_11 rfl ?_
  refine J_newB C Yc 16 dJ5_init_d00df_12 rfl (by decide) (Nat.le_of_ble_eq_true rfl) (Nat.le_of_ble_eq_true rfl) (fun a => ?_)
  refine J_put C 1 0 tyJ4 (.array .byte) (ws' := [cB K a 16 (fun _ => 0), (b, .inr (11, [.ref a, .int 0, .int 0, .int 0]))]) dJ5_init_d00df_14 inlJ4 uf_J5_15 tyJ4_ok nmJ4 rfl (by decide) rfl rfl rfl rfl rfl rfl (Nat.le_of_ble_eq_true rfl) rfl ?_
  refine J_aload_n C 0 dJ5_init_d00df_17 rfl ?_
  refine J_iconst C (v := 0) dJ5_init_d00df_18 rfl ?_
  refine J_put C 1 1 tyJ4 .byte (ws' := [cB K a 16 (fun _ => 0), (b, .inr (11, [.ref a, .int 0, .int 0, .int 0]))]) dJ5_init_d00df_19 inlJ4 uf_J5_22 tyJ4_ok nmJ4 rfl (by decide) rfl rfl rfl rfl rfl rfl (Nat.le_of_ble_eq_true rfl) rfl ?_
  refine J_goto C 38 dJ5_init_d00df_22 rfl ?_
  refine J_perm (ws' := [(b, .inr (11, [.ref a, .int 0, .int 0, .int 0])), cB K a 16 (fun _ => 0)]) (List.Perm.swap _ _ _) ?_
  exact J_rvret C ⟨(a, 16, fun _ => 0), ⟨Nat.zero_le _, fun i hi => absurd hi (Nat.not_lt_zero i), fun i hi => ⟨0, by decide, rfl⟩⟩, (show 16 ≤ 2300 by decide)⟩ dJ5_init_d00df_38 (Nat.le_of_ble_eq_true rfl) (Nat.le_of_ble_eq_true rfl) rfl
theorem cj_sbI (l : Launch) (K : gK) (b : Nat) : Cr l K yJ4_init_da8c8 cJ4_init_da8c8 1 none 2 1 16 [.ref b] [(b, .inr (11, [.null, .int 0, .int 0, .int 0]))] (fun v : SBt ([]) => (none, sbW K b ([]) v.1)) := by
  refine Cr.of (own := RJ4) (by decide) rfl (Nat.le_of_ble_eq_true rfl) (fun Γ C Yc _ => ?_)
  refine J_aload_n C 0 dJ4_init_da8c8_0 rfl ?_
  refine J_bipush C (v := 16) dJ4_init_da8c8_1 rfl ?_
  refine J_crI (as := [.int 16]) C Yc kj_J5_init_d00df rfl ui_J5_init_d00df um_J4_1 (cj_sbI5 l K b) dJ4_init_da8c8_3 rfl rfl ⟨(Nat.le_of_ble_eq_true rfl), (Nat.le_of_ble_eq_true rfl)⟩ (Nat.le_of_ble_eq_true rfl) (Nat.le_of_ble_eq_true rfl) (Nat.le_of_ble_eq_true rfl) (fun v => ?_)
  exact J_rvret C v dJ4_init_da8c8_6 (Nat.le_of_ble_eq_true rfl) (Nat.le_of_ble_eq_true rfl) rfl
theorem cj_sbS5 (l : Launch) (K : gK) (b : Nat) {j : Nat} (hj : j < 16) : Cr l K yJ5_init_a7421 cJ5_init_a7421 5 none 7 2 2400 [.ref b, .ref (K.2 (100 + j))] [(b, .inr (11, [.null, .int 0, .int 0, .int 0]))] (fun v : SBt (stx j) => (none, sbW K b (stx j) v.1)) := by
  obtain ⟨s1, s2, s3⟩ := stx_ok j hj
  refine Cr.of (own := RJ5) (by decide) rfl (Nat.le_of_ble_eq_true rfl) (fun Γ C Yc _ => ?_)
  refine J_aload_n C 0 dJ5_init_a7421_0 rfl ?_
  refine J_obj C dJ5_init_a7421_1 um_J5_3 (by decide) (Nat.le_of_ble_eq_true rfl) ?_
  refine J_aload_n C 1 dJ5_init_a7421_4 rfl ?_
  refine J_crVS (as := []) C Yc hj rfl kj_J0_length_8abf5 ui_J0_length_8abf5 us_J0_length_8abf5 um_J5_32 (Ct.cr (c_slength l K [(b, .inr (11, [.null, .int 0, .int 0, .int 0]))] hj)) dJ5_init_a7421_5 rfl rfl ⟨(Nat.le_of_ble_eq_true rfl), (Nat.le_of_ble_eq_true rfl)⟩ (Nat.le_of_ble_eq_true rfl) (Nat.le_of_ble_eq_true rfl) (Nat.le_of_ble_eq_true rfl) (fun _ => ?_)
  refine J_istore_n C (lv' := [(2, .int (iN (slen.getD j 0))), (0, .ref b), (1, .ref (K.2 (100 + j)))]) dJ5_init_a7421_8 (by decide) rfl ?_
  refine J_iload_n C 0 dJ5_init_a7421_9 rfl ?_
  refine J_ldc C (v := 2147483631) dJ5_init_a7421_10 uk_J5_38 ?_
  refine J_icmp_ge_y C 22 (iN_ylt' (b := 2147483631) (by omega) (by decide)) dJ5_init_a7421_12 rfl ?_
  refine J_iload_n C 0 dJ5_init_a7421_15 rfl ?_
  refine J_bipush C (v := 16) dJ5_init_a7421_16 rfl ?_
  refine J_iadd C dJ5_init_a7421_18 ?_
  refine J_eqi (b := (iN (slen.getD j 0 + 16))) (iN_add _ 16) ?_
  refine J_goto C 24 dJ5_init_a7421_19 rfl ?_
  refine J_istore_n C (lv' := [(3, .int (iN (slen.getD j 0 + 16))), (2, .int (iN (slen.getD j 0))), (0, .ref b), (1, .ref (K.2 (100 + j)))]) dJ5_init_a7421_24 (by decide) rfl ?_
  refine J_aload_n C 3 dJ5_init_a7421_25 rfl ?_
  refine J_crVS (as := []) C Yc hj rfl kj_J0_coder_7d493 ui_J0_coder_7d493 us_J0_coder_7d493 um_J5_40 (Ct.cr (c_coder l K [(b, .inr (11, [.null, .int 0, .int 0, .int 0]))] hj)) dJ5_init_a7421_26 rfl rfl ⟨(Nat.le_of_ble_eq_true rfl), (Nat.le_of_ble_eq_true rfl)⟩ (Nat.le_of_ble_eq_true rfl) (Nat.le_of_ble_eq_true rfl) (Nat.le_of_ble_eq_true rfl) (fun _ => ?_)
  refine J_istore C (lv' := [(4, .int 0), (3, .int (iN (slen.getD j 0 + 16))), (2, .int (iN (slen.getD j 0))), (0, .ref b), (1, .ref (K.2 (100 + j)))]) dJ5_init_a7421_29 (by decide) rfl ?_
  refine J_aload_n C 3 dJ5_init_a7421_31 rfl ?_
  refine J_iload C 0 dJ5_init_a7421_32 rfl ?_
  refine J_put C 0 1 tyJ4 .byte (ws' := [(b, .inr (11, [.null, .int 0, .int 0, .int 0]))]) dJ5_init_a7421_34 inlJ4 uf_J5_22 tyJ4_ok nmJ4 rfl (by decide) rfl rfl rfl rfl rfl rfl (Nat.le_of_ble_eq_true rfl) rfl ?_
  refine J_aload_n C 3 dJ5_init_a7421_37 rfl ?_
  refine J_iload C 0 dJ5_init_a7421_38 rfl ?_
  refine J_if_ne_y C 49 rfl dJ5_init_a7421_40 rfl ?_
  refine J_iload_n C 1 dJ5_init_a7421_43 rfl ?_
  refine J_newB C Yc (slen.getD j 0 + 16) dJ5_init_a7421_44 rfl (by omega) (Nat.le_of_ble_eq_true rfl) (by omega) (fun a => ?_)
  refine J_widen (k := 1) (n := 100) (Nat.le_refl _) (by omega) ?_
  refine J_goto C 53 dJ5_init_a7421_46 rfl ?_
  refine J_put C 1 0 tyJ4 (.array .byte) (ws' := [cB K a (slen.getD j 0 + 16) (fun _ => 0), (b, .inr (11, [.ref a, .int 0, .int 0, .int 0]))]) dJ5_init_a7421_53 inlJ4 uf_J5_15 tyJ4_ok nmJ4 rfl (by decide) rfl rfl rfl rfl rfl rfl (Nat.le_of_ble_eq_true rfl) rfl ?_
  refine J_aload_n C 3 dJ5_init_a7421_56 rfl ?_
  refine J_aload_n C 4 dJ5_init_a7421_57 rfl ?_
  refine J_perm (ws' := [(b, .inr (11, [.ref a, .int 0, .int 0, .int 0])), cB K a (slen.getD j 0 + 16) (fun _ => 0)]) (List.Perm.swap _ _ _) ?_
  have hx : TXT [] (slen.getD j 0 + 16) (fun _ => 0) ∧ slen.getD j 0 + 16 ≤ 2300 := ⟨⟨Nat.zero_le _, fun i hi => absurd hi (Nat.not_lt_zero i), fun i hi => ⟨0, by decide, rfl⟩⟩, by omega⟩
  refine J_crO (as := [.ref (K.2 (100 + j))]) (x := ⟨"java/lang/AbstractStringBuilder", "append", "(Ljava/lang/String;)Ljava/lang/AbstractStringBuilder;"⟩) (C0 := RJ4) (T := TJ4) (N := 4) (owner := "java/lang/AbstractStringBuilder") C Yc 0 11 kj_J4_append_cf1ce uc_J5_append_cf1ce ⟨by decide, by decide, by decide⟩ uq_AbstractStringBuilder_AbstractStringBuilder_append_cf1c ui_J5_append_cf1ce ui_J4_append_cf1ce us_RJ4_rAbstractStringBuilder_append_cf1c um_J5_43 rfl rfl (cj_appB l K b (T := []) ⟨(a, slen.getD j 0 + 16, fun _ => 0), hx⟩ hj (by show 0 + _ ≤ 1100; omega)) dJ5_init_a7421_58 rfl rfl ⟨(Nat.le_of_ble_eq_true rfl), (Nat.le_of_ble_eq_true rfl)⟩ (Nat.le_of_ble_eq_true rfl) (Nat.le_of_ble_eq_true rfl) (Nat.le_of_ble_eq_true rfl) (fun v => ?_)
  refine J_pop C dJ5_init_a7421_61 rfl ?_
  exact J_rvret C v dJ5_init_a7421_62 (Nat.le_of_ble_eq_true rfl) (Nat.le_of_ble_eq_true rfl) rfl
theorem cj_sbS (l : Launch) (K : gK) (b : Nat) {j : Nat} (hj : j < 16) : Cr l K yJ4_init_a7421 cJ4_init_a7421 2 none 8 2 2400 [.ref b, .ref (K.2 (100 + j))] [(b, .inr (11, [.null, .int 0, .int 0, .int 0]))] (fun v : SBt (stx j) => (none, sbW K b (stx j) v.1)) := by
  refine Cr.of (own := RJ4) (by decide) rfl (Nat.le_of_ble_eq_true rfl) (fun Γ C Yc _ => ?_)
  refine J_aload_n C 0 dJ4_init_a7421_0 rfl ?_
  refine J_aload_n C 1 dJ4_init_a7421_1 rfl ?_
  refine J_crI (as := [.ref (K.2 (100 + j))]) C Yc kj_J5_init_a7421 rfl ui_J5_init_a7421 um_J4_7 (cj_sbS5 l K b hj) dJ4_init_a7421_2 rfl rfl ⟨(Nat.le_of_ble_eq_true rfl), (Nat.le_of_ble_eq_true rfl)⟩ (Nat.le_of_ble_eq_true rfl) (Nat.le_of_ble_eq_true rfl) (Nat.le_of_ble_eq_true rfl) (fun v => ?_)
  exact J_rvret C v dJ4_init_a7421_5 (Nat.le_of_ble_eq_true rfl) (Nat.le_of_ble_eq_true rfl) rfl
theorem cj_chkLen (l : Launch) (K : gK) (ws : va_W) {p q : Nat} (hpq : p ≤ q) (hq : q ≤ 10000) : Cr l K yJ7_checkLength_df160 cJ7_checkLength_df160 2 none 0 0 0 [.int (iN p), .int (iN q)] ws (fun _ : Unit => (none, ws)) := by
  refine Cr.of (own := RJ7) (by decide) rfl (Nat.le_of_ble_eq_true rfl) (fun Γ C Yc _ => ?_)
  refine J_iload_n C 1 dJ7_checkLength_df160_0 rfl ?_
  refine J_iload_n C 0 dJ7_checkLength_df160_1 rfl ?_
  refine J_icmp_ge_n C 37 (iN_nlt' hpq (by omega)) dJ7_checkLength_df160_2 rfl ?_
  exact J_rvret C () dJ7_checkLength_df160_37 (Nat.le_of_ble_eq_true rfl) (Nat.le_of_ble_eq_true rfl) rfl
theorem cj_cRB (l : Launch) (K : gK) (a : Nat) {m n : Nat} {f : Nat → Int32} (hf : BY m f) (hn : n ≤ m) (hm : m ≤ 2300) : Cr l K yJ7_copyOfRangeByte_39247 cJ7_copyOfRangeByte_39247 5 (some (.array .byte)) 1 1 2300 [.ref a, .int 0, .int (iN n)] [cB K a m f] (fun u : {u : Nat × (Nat → Int32) // (∀ i, i < n → u.2 i = f i)} => (some (.ref u.1.1), [cB K u.1.1 n u.1.2, cB K a m f])) := by
  refine Cr.of (own := RJ7) (by decide) rfl (Nat.le_of_ble_eq_true rfl) (fun Γ C Yc _ => ?_)
  refine J_iload_n C 1 dJ7_copyOfRangeByte_39247_0 rfl ?_
  refine J_iload_n C 2 dJ7_copyOfRangeByte_39247_1 rfl ?_
  refine J_crS (as := [.int 0, .int (iN n)]) C Yc kj_J7_checkLength_df160 ut_J7_checkLength_df160 um_J7_343 (cj_chkLen l K [cB K a m f] (p := 0) (q := n) (Nat.zero_le _) (by omega)) dJ7_copyOfRangeByte_39247_2 rfl rfl ⟨(Nat.le_of_ble_eq_true rfl), (Nat.le_of_ble_eq_true rfl)⟩ (Nat.le_of_ble_eq_true rfl) (Nat.le_of_ble_eq_true rfl) (Nat.le_of_ble_eq_true rfl) (fun _ => ?_)
  refine J_iload_n C 2 dJ7_copyOfRangeByte_39247_5 rfl ?_
  refine J_iload_n C 1 dJ7_copyOfRangeByte_39247_6 rfl ?_
  refine J_isub C dJ7_copyOfRangeByte_39247_7 ?_
  refine J_eqi (b := (iN n)) (iN_sub (b := 0) (Nat.zero_le _)) ?_
  refine J_istore_n C (lv' := [(3, .int (iN n)), (0, .ref a), (1, .int 0), (2, .int (iN n))]) dJ7_copyOfRangeByte_39247_8 (by decide) rfl ?_
  refine J_iload_n C 0 dJ7_copyOfRangeByte_39247_9 rfl ?_
  refine J_newB C Yc n dJ7_copyOfRangeByte_39247_10 rfl (by omega) (Nat.le_of_ble_eq_true rfl) (by omega) (fun a2 => ?_)
  refine J_widen (k := 1) (n := 2300) (Nat.le_refl _) (by omega) ?_
  refine J_astore C (lv' := [(4, .ref a2), (3, .int (iN n)), (0, .ref a), (1, .int 0), (2, .int (iN n))]) dJ7_copyOfRangeByte_39247_12 (by decide) rfl ?_
  refine J_aload_n C 2 dJ7_copyOfRangeByte_39247_14 rfl ?_
  refine J_iload_n C 3 dJ7_copyOfRangeByte_39247_15 rfl ?_
  refine J_aload C 0 dJ7_copyOfRangeByte_39247_16 rfl ?_
  refine J_iconst C (v := 0) dJ7_copyOfRangeByte_39247_18 rfl ?_
  refine J_aload_n C 2 dJ7_copyOfRangeByte_39247_19 rfl ?_
  refine J_alen C 1 1 (v := iN m) dJ7_copyOfRangeByte_39247_20 rfl rfl rfl ?_
  refine J_iload_n C 3 dJ7_copyOfRangeByte_39247_21 rfl ?_
  refine J_isub C dJ7_copyOfRangeByte_39247_22 ?_
  refine J_eqi (b := (iN m)) (iN_sub (b := 0) (Nat.zero_le _)) ?_
  refine J_iload_n C 1 dJ7_copyOfRangeByte_39247_23 rfl ?_
  refine J_min C Yc (Nat.le_of_ble_eq_true rfl) (Nat.le_of_ble_eq_true rfl) dJ7_copyOfRangeByte_39247_24 um_J7_304 (Nat.le_of_ble_eq_true rfl) (Nat.le_of_ble_eq_true rfl) ?_
  have hmin : (if iN n < iN m then iN n else iN m) = iN n := by
    by_cases h : n < m
    · exact if_pos ((iN_lt (by omega) (by omega)).mpr h)
    · rw [if_neg (fun z => h ((iN_lt (by omega) (by omega)).mp z)), show m = n by omega]
  refine J_eqi (b := iN n) hmin ?_
  refine J_copyb C 1 0 (ws2 := [cB K a2 n (va_cpy f (fun _ => 0) 0 0 n), cB K a m f]) 0 0 n rfl rfl rfl dJ7_copyOfRangeByte_39247_27 um_J7_150 (Nat.le_of_ble_eq_true rfl) rfl rfl (by omega) (by omega) ⟨by omega, by omega⟩ (fun i hi => by rw [Nat.zero_add]; exact hf.fit (by omega)) rfl (Nat.le_of_ble_eq_true rfl) ?_
  refine J_aload C 0 dJ7_copyOfRangeByte_39247_30 rfl ?_
  exact J_raret (Or.inr ⟨_, rfl⟩) C ⟨(a2, va_cpy f (fun _ => 0) 0 0 n), fun i hi => by show va_cpy f (fun _ => 0) 0 0 n i = f i; rw [va_cpy_in (by omega), Nat.zero_add, Nat.sub_zero]⟩ dJ7_copyOfRangeByte_39247_32 (Nat.le_of_ble_eq_true rfl) (Nat.le_of_ble_eq_true rfl) rfl
theorem cj_cR (l : Launch) (K : gK) (a : Nat) {m n : Nat} {f : Nat → Int32} (hf : BY m f) (hn : n ≤ m) (hm : m ≤ 2300) : Cr l K yJ7_copyOfRange_39247 cJ7_copyOfRange_39247 3 (some (.array .byte)) 2 1 2300 [.ref a, .int 0, .int (iN n)] [cB K a m f] (fun u : {u : Nat × (Nat → Int32) // (∀ i, i < n → u.2 i = f i)} => (some (.ref u.1.1), [cB K u.1.1 n u.1.2, cB K a m f])) := by
  refine Cr.of (own := RJ7) (by decide) rfl (Nat.le_of_ble_eq_true rfl) (fun Γ C Yc _ => ?_)
  refine J_iload_n C 1 dJ7_copyOfRange_39247_0 rfl ?_
  refine J_if_ne_y C 10 rfl dJ7_copyOfRange_39247_1 rfl ?_
  refine J_iload_n C 2 dJ7_copyOfRange_39247_4 rfl ?_
  refine J_aload_n C 0 dJ7_copyOfRange_39247_5 rfl ?_
  refine J_alen C 0 1 (v := iN m) dJ7_copyOfRange_39247_6 rfl rfl rfl ?_
  by_cases h : n = m
  · refine J_icmp_eq_y C 17 (by rw [h]) dJ7_copyOfRange_39247_7 rfl ?_
    refine J_aload_n C 0 dJ7_copyOfRange_39247_17 rfl ?_
    subst h
    refine J_cloneb C Yc 0 dJ7_copyOfRange_39247_18 (Nat.le_of_ble_eq_true rfl) rfl (fun i hi => hf.fit hi) (Nat.le_of_ble_eq_true rfl) (by omega) (Nat.le_of_ble_eq_true rfl) (fun q => ?_)
    refine J_widen (k := 1) (n := 2300) (Nat.le_refl _) (by omega) ?_
    refine J_castB C 0 dJ7_copyOfRange_39247_21 rfl ?_
    exact J_raret (Or.inr ⟨_, rfl⟩) C ⟨(q, f), fun i hi => rfl⟩ dJ7_copyOfRange_39247_24 (Nat.le_of_ble_eq_true rfl) (Nat.le_of_ble_eq_true rfl) rfl
  · refine J_icmp_eq_n C 17 (iN_ne' h (by omega) (by omega)) dJ7_copyOfRange_39247_7 rfl ?_
    refine J_aload_n C 0 dJ7_copyOfRange_39247_10 rfl ?_
    refine J_iload_n C 1 dJ7_copyOfRange_39247_11 rfl ?_
    refine J_iload_n C 2 dJ7_copyOfRange_39247_12 rfl ?_
    refine J_crS (as := [.ref a, .int 0, .int (iN n)]) C Yc kj_J7_copyOfRangeByte_39247 ut_J7_copyOfRangeByte_39247 um_J7_339 (cj_cRB l K a hf hn hm) dJ7_copyOfRange_39247_13 rfl rfl ⟨(Nat.le_of_ble_eq_true rfl), (Nat.le_of_ble_eq_true rfl)⟩ (Nat.le_of_ble_eq_true rfl) (Nat.le_of_ble_eq_true rfl) (Nat.le_of_ble_eq_true rfl) (fun u => ?_)
    exact J_raret (Or.inr ⟨_, rfl⟩) C u dJ7_copyOfRange_39247_16 (Nat.le_of_ble_eq_true rfl) (Nat.le_of_ble_eq_true rfl) rfl
/-- a made String that holds T -/
abbrev StT (T : List Nat) : Type := {u : Nat × (Nat → Int32) // ∀ i, i < T.length → u.2 i = iN (T.getD i 0)}
abbrev stW (K : gK) (s : Nat) (T : List Nat) (u : Nat × (Nat → Int32)) : va_W := [(s, .inr (10, [.ref u.1, .int 0, .int 0, .int 0])), cB K u.1 T.length u.2]
theorem cj_strI (l : Launch) (K : gK) (s b : Nat) {T : List Nat} (u : SBt T) : Cr l K yJ0_init_db425 cJ0_init_db425 5 none 3 1 2300 [.ref s, .ref b, .null] ([(s, .inr (10, [.null, .int 0, .int 0, .int 0]))] ++ sbW K b T u.1) (fun v : StT T => (none, stW K s T v.1)) := by
  obtain ⟨⟨u1, u2, u3⟩, um⟩ := u.2
  refine Cr.of (own := RJ0) (by decide) rfl (Nat.le_of_ble_eq_true rfl) (fun Γ C Yc Z0 => ?_)
  have Z := Z0 rfl
  refine J_aload_n C 0 dJ0_init_db425_0 rfl ?_
  refine J_obj C dJ0_init_db425_1 um_J0_1 (by decide) (Nat.le_of_ble_eq_true rfl) ?_
  refine J_aload_n C 1 dJ0_init_db425_4 rfl ?_
  refine J_crU (as := []) (x := ⟨"java/lang/AbstractStringBuilder", "getValue", "()[B"⟩) (C0 := RJ4) (T := TJ4) (N := 4) (owner := "java/lang/AbstractStringBuilder") C Yc 1 11 kj_J5_getValue_6d5f1 rfl ⟨by decide, by decide, by decide⟩ uq_AbstractStringBuilder_AbstractStringBuilder_getValue_6d5f ui_J5_getValue_6d5f1 us_RJ4_rAbstractStringBuilder_getValue_6d5f um_J0_552 rfl rfl (Cr.mid [(s, .inr (10, [.null, .int 0, .int 0, .int 0]))] [cB K u.1.1 u.1.2.1 u.1.2.2] (cj_val l K b u.1.1 T.length)) dJ0_init_db425_5 rfl rfl ⟨(Nat.le_of_ble_eq_true rfl), (Nat.le_of_ble_eq_true rfl)⟩ (Nat.le_of_ble_eq_true rfl) (Nat.le_of_ble_eq_true rfl) (Nat.le_of_ble_eq_true rfl) (fun _ => ?_)
  refine J_astore_n C (lv' := [(3, .ref u.1.1), (0, .ref s), (1, .ref b), (2, .null)]) dJ0_init_db425_8 (by decide) rfl ?_
  refine J_aload_n C 2 dJ0_init_db425_9 rfl ?_
  refine J_crO (as := []) (x := ⟨"java/lang/AbstractStringBuilder", "length", "()I"⟩) (C0 := RJ4) (T := TJ4) (N := 4) (owner := "java/lang/AbstractStringBuilder") C Yc 1 11 kj_J4_length_8abf5 uc_J5_length_8abf5 ⟨by decide, by decide, by decide⟩ uq_AbstractStringBuilder_AbstractStringBuilder_length_8abf ui_J5_length_8abf5 ui_J4_length_8abf5 us_RJ4_rAbstractStringBuilder_length_8abf um_J0_549 rfl rfl (Cr.mid [(s, .inr (10, [.null, .int 0, .int 0, .int 0]))] [cB K u.1.1 u.1.2.1 u.1.2.2] (cj_len4 l K b u.1.1 T.length)) dJ0_init_db425_10 rfl rfl ⟨(Nat.le_of_ble_eq_true rfl), (Nat.le_of_ble_eq_true rfl)⟩ (Nat.le_of_ble_eq_true rfl) (Nat.le_of_ble_eq_true rfl) (Nat.le_of_ble_eq_true rfl) (fun _ => ?_)
  refine J_istore C (lv' := [(4, .int (iN T.length)), (3, .ref u.1.1), (0, .ref s), (1, .ref b), (2, .null)]) dJ0_init_db425_13 (by decide) rfl ?_
  refine J_aload_n C 3 dJ0_init_db425_15 rfl ?_
  refine J_crU (as := []) (x := ⟨"java/lang/AbstractStringBuilder", "isLatin1", "()Z"⟩) (C0 := RJ4) (T := TJ4) (N := 4) (owner := "java/lang/AbstractStringBuilder") C Yc 1 11 kj_J5_isLatin1_aae02 rfl ⟨by decide, by decide, by decide⟩ uq_AbstractStringBuilder_AbstractStringBuilder_isLatin1_aae0 ui_J5_isLatin1_aae02 us_RJ4_rAbstractStringBuilder_isLatin1_aae0 um_J0_1047 rfl rfl (Cr.mid [(s, .inr (10, [.null, .int 0, .int 0, .int 0]))] [cB K u.1.1 u.1.2.1 u.1.2.2] (cj_lat l K b u.1.1 T.length)) dJ0_init_db425_16 rfl rfl ⟨(Nat.le_of_ble_eq_true rfl), (Nat.le_of_ble_eq_true rfl)⟩ (Nat.le_of_ble_eq_true rfl) (Nat.le_of_ble_eq_true rfl) (Nat.le_of_ble_eq_true rfl) (fun _ => ?_)
  refine J_if_eq_n C 41 (by decide) dJ0_init_db425_19 rfl ?_
  refine J_aload_n C 2 dJ0_init_db425_22 rfl ?_
  refine J_iconst C (v := 0) dJ0_init_db425_23 rfl ?_
  refine J_putF C Z 0 1 tyJ0 .byte ([(s, .inr (10, [.null, .int 0, .int 0, .int 0])), (b, .inr (11, [.ref u.1.1, .int 0, .int 0, .int (iN T.length)])), cB K u.1.1 u.1.2.1 u.1.2.2]) dJ0_init_db425_24 inlJ0 uf_J0_15 tyJ0_ok nmJ0 rfl (by decide) rfl rfl rfl rfl rfl rfl rfl (Nat.le_of_ble_eq_true rfl) rfl ?_
  refine J_aload_n C 2 dJ0_init_db425_27 rfl ?_
  refine J_aload_n C 1 dJ0_init_db425_28 rfl ?_
  refine J_iconst C (v := 0) dJ0_init_db425_29 rfl ?_
  refine J_iload C 0 dJ0_init_db425_30 rfl ?_
  refine J_crS (as := [.ref u.1.1, .int 0, .int (iN T.length)]) C Yc kj_J7_copyOfRange_39247 ut_J7_copyOfRange_39247 um_J0_54 (Cr.right [(s, .inr (10, [.null, .int 0, .int 0, .int 0])), (b, .inr (11, [.ref u.1.1, .int 0, .int 0, .int (iN T.length)]))] (cj_cR l K u.1.1 u3 u1 um)) dJ0_init_db425_32 rfl rfl ⟨(Nat.le_of_ble_eq_true rfl), (Nat.le_of_ble_eq_true rfl)⟩ (Nat.le_of_ble_eq_true rfl) (Nat.le_of_ble_eq_true rfl) (Nat.le_of_ble_eq_true rfl) (fun v => ?_)
  refine J_putF C Z 0 0 tyJ0 (.array .byte) ([(s, .inr (10, [.ref v.1.1, .int 0, .int 0, .int 0])), (b, .inr (11, [.ref u.1.1, .int 0, .int 0, .int (iN T.length)])), cB K v.1.1 T.length v.1.2, cB K u.1.1 u.1.2.1 u.1.2.2]) dJ0_init_db425_35 inlJ0 uf_J0_9 tyJ0_ok nmJ0 rfl (by decide) rfl rfl rfl rfl rfl rfl rfl (Nat.le_of_ble_eq_true rfl) rfl ?_
  refine J_goto C 97 dJ0_init_db425_38 rfl ?_
  refine J_perm (ws' := [(s, .inr (10, [.ref v.1.1, .int 0, .int 0, .int 0])), cB K v.1.1 T.length v.1.2] ++ [(b, .inr (11, [.ref u.1.1, .int 0, .int 0, .int (iN T.length)])), cB K u.1.1 u.1.2.1 u.1.2.2]) (List.Perm.cons _ (List.Perm.swap _ _ _)) ?_
  refine J_dropR ?_
  exact J_rvret C ⟨v.1, fun i hi => (v.2 i hi).trans (u2 i hi)⟩ dJ0_init_db425_97 (Nat.le_of_ble_eq_true rfl) (Nat.le_of_ble_eq_true rfl) rfl
theorem cj_strI2 (l : Launch) (K : gK) (s b : Nat) {T : List Nat} (u : SBt T) : Cr l K yJ0_init_81219 cJ0_init_81219 2 none 4 1 2300 [.ref s, .ref b] ([(s, .inr (10, [.null, .int 0, .int 0, .int 0]))] ++ sbW K b T u.1) (fun v : StT T => (none, stW K s T v.1)) := by
  obtain ⟨⟨u1, u2, u3⟩, um⟩ := u.2
  refine Cr.of (own := RJ0) (by decide) rfl (Nat.le_of_ble_eq_true rfl) (fun Γ C Yc _ => ?_)
  refine J_aload_n C 0 dJ0_init_81219_0 rfl ?_
  refine J_aload_n C 1 dJ0_init_81219_1 rfl ?_
  refine J_aconst_null C dJ0_init_81219_2 ?_
  refine J_crI (as := [.ref b, .null]) C Yc kj_J0_init_db425 rfl ui_J0_init_db425 um_J0_489 (cj_strI l K s b u) dJ0_init_81219_3 rfl rfl ⟨(Nat.le_of_ble_eq_true rfl), (Nat.le_of_ble_eq_true rfl)⟩ (Nat.le_of_ble_eq_true rfl) (Nat.le_of_ble_eq_true rfl) (Nat.le_of_ble_eq_true rfl) (fun v => ?_)
  exact J_rvret C v dJ0_init_81219_6 (Nat.le_of_ble_eq_true rfl) (Nat.le_of_ble_eq_true rfl) rfl
theorem cj_toS (l : Launch) (K : gK) (b : Nat) {T : List Nat} (u : SBt T) : Cr l K yJ4_toString_0e30d cJ4_toString_0e30d 1 (some (.object "java/lang/String")) 5 2 2304 [.ref b] (sbW K b T u.1) (fun v : Nat × StT T => (some (.ref v.1), stW K v.1 T v.2.1)) := by
  refine Cr.of (own := RJ4) (by decide) rfl (Nat.le_of_ble_eq_true rfl) (fun Γ C Yc _ => ?_)
  refine J_new C Yc 10 [.null, .int 0, .int 0, .int 0] tyJ0 dJ4_toString_0e30d_0 inlJ0 tyJ0_ok ul_J4_18 ua_J0 un_J0 rfl (fun j hj => by rcases (show j = 0 ∨ j = 1 ∨ j = 2 ∨ j = 3 by omega) with rfl | rfl | rfl | rfl <;> rfl) (Nat.le_of_ble_eq_true rfl) (Nat.le_of_ble_eq_true rfl) (fun s => ?_)
  refine J_perm List.perm_append_comm ?_
  refine J_dup C dJ4_toString_0e30d_3 rfl ?_
  refine J_aload_n C 0 dJ4_toString_0e30d_4 rfl ?_
  refine J_crI (as := [.ref b]) C Yc kj_J0_init_81219 rfl ui_J0_init_81219 um_J4_137 (cj_strI2 l K s b u) dJ4_toString_0e30d_5 rfl rfl ⟨(Nat.le_of_ble_eq_true rfl), (Nat.le_of_ble_eq_true rfl)⟩ (Nat.le_of_ble_eq_true rfl) (Nat.le_of_ble_eq_true rfl) (Nat.le_of_ble_eq_true rfl) (fun v => ?_)
  exact J_raret (Or.inl ⟨_, rfl⟩) C (s, v) dJ4_toString_0e30d_8 (Nat.le_of_ble_eq_true rfl) (Nat.le_of_ble_eq_true rfl) rfl
theorem cj_mcod (l : Launch) (K : gK) (s : Nat) {T : List Nat} (u : StT T)  : Cr l K yJ0_coder_7d493 cJ0_coder_7d493 1 (some .byte) 0 0 0 [.ref s] (stW K s T u.1) (fun _ : Unit => (some (.int 0), stW K s T u.1)) := by
  refine Cr.of (own := RJ0) (by decide) rfl (Nat.le_of_ble_eq_true rfl) (fun Γ C Yc _ => ?_)
  refine J_getcs C dJ0_coder_7d493_0 uf_J0_38 ?_
  refine J_if_eq_n C 13 (by decide) dJ0_coder_7d493_3 rfl ?_
  refine J_aload_n C 0 dJ0_coder_7d493_6 rfl ?_
  refine J_get C 0 1 dJ0_coder_7d493_7 inlJ0 uf_J0_15 rfl (by decide) rfl rfl rfl ?_
  refine J_goto C 14 dJ0_coder_7d493_10 rfl ?_
  exact J_rnret rfl C () dJ0_coder_7d493_14 (Nat.le_of_ble_eq_true rfl) (Nat.le_of_ble_eq_true rfl) rfl
theorem cj_mlat (l : Launch) (K : gK) (s : Nat) {T : List Nat} (u : StT T)  : Cr l K yJ0_isLatin1_aae02 cJ0_isLatin1_aae02 1 (some .boolean) 0 0 0 [.ref s] (stW K s T u.1) (fun _ : Unit => (some (.int 1), stW K s T u.1)) := by
  refine Cr.of (own := RJ0) (by decide) rfl (Nat.le_of_ble_eq_true rfl) (fun Γ C Yc _ => ?_)
  refine J_getcs C dJ0_isLatin1_aae02_0 uf_J0_38 ?_
  refine J_if_eq_n C 17 (by decide) dJ0_isLatin1_aae02_3 rfl ?_
  refine J_aload_n C 0 dJ0_isLatin1_aae02_6 rfl ?_
  refine J_get C 0 1 dJ0_isLatin1_aae02_7 inlJ0 uf_J0_15 rfl (by decide) rfl rfl rfl ?_
  refine J_if_ne_y C 17 rfl dJ0_isLatin1_aae02_10 rfl ?_
  refine J_iconst C (v := 1) dJ0_isLatin1_aae02_13 rfl ?_
  refine J_goto C 18 dJ0_isLatin1_aae02_14 rfl ?_
  exact J_rnret rfl C () dJ0_isLatin1_aae02_18 (Nat.le_of_ble_eq_true rfl) (Nat.le_of_ble_eq_true rfl) rfl
theorem cj_mlen (l : Launch) (K : gK) (s : Nat) {T : List Nat} (u : StT T)  : Cr l K yJ0_length_8abf5 cJ0_length_8abf5 1 (some .int) 1 0 0 [.ref s] (stW K s T u.1) (fun _ : Unit => (some (.int (iN T.length)), stW K s T u.1)) := by
  refine Cr.of (own := RJ0) (by decide) rfl (Nat.le_of_ble_eq_true rfl) (fun Γ C Yc _ => ?_)
  refine J_aload_n C 0 dJ0_length_8abf5_0 rfl ?_
  refine J_get C 0 0 dJ0_length_8abf5_1 inlJ0 uf_J0_9 rfl (by decide) rfl rfl rfl ?_
  refine J_alen C 1 1 (v := iN T.length) dJ0_length_8abf5_4 rfl rfl rfl ?_
  refine J_aload_n C 0 dJ0_length_8abf5_5 rfl ?_
  refine J_crV (as := []) (T := TJ0) (N := 4) C Yc 0 10 kj_J0_coder_7d493 ui_J0_coder_7d493 us_J0_coder_7d493 um_J0_335 rfl rfl (cj_mcod l K s u) dJ0_length_8abf5_6 rfl rfl ⟨(Nat.le_of_ble_eq_true rfl), (Nat.le_of_ble_eq_true rfl)⟩ (Nat.le_of_ble_eq_true rfl) (Nat.le_of_ble_eq_true rfl) (Nat.le_of_ble_eq_true rfl) (fun _ => ?_)
  refine J_ishr C dJ0_length_8abf5_9 rfl ?_
  refine J_eqi (b := (iN T.length)) (sb_shr0 _) ?_
  exact J_riret C () dJ0_length_8abf5_10 (Nat.le_of_ble_eq_true rfl) (Nat.le_of_ble_eq_true rfl) rfl
theorem by_narc : ∀ c, c < 128 → narrow .char (.int (iN c)) = .int (iN c) := by decide +kernel
theorem cj_mlch (l : Launch) (K : gK) (s : Nat) {T : List Nat} (u : StT T) {i : Nat} (hi : i < T.length) (hT : T.length ≤ 2300) (hc : T.getD i 0 < 128) : Cr l K yJ1_charAt_3b067 cJ1_charAt_3b067 2 (some .char) 2 0 0 [.ref u.1.1, .int (iN i)] [cB K u.1.1 T.length u.1.2] (fun _ : Unit => (some (.int (iN (T.getD i 0))), [cB K u.1.1 T.length u.1.2])) := by
  refine Cr.of (own := RJ1) (by decide) rfl (Nat.le_of_ble_eq_true rfl) (fun Γ C Yc _ => ?_)
  refine J_iload_n C 1 dJ1_charAt_3b067_0 rfl ?_
  refine J_aload_n C 0 dJ1_charAt_3b067_1 rfl ?_
  refine J_alen C 0 1 (v := iN T.length) dJ1_charAt_3b067_2 rfl rfl rfl ?_
  refine J_crS (as := [.int (iN i), .int (iN T.length)]) C Yc kj_J0_checkIndex_df160 ut_J0_checkIndex_df160 um_J1_9 (Ct.cr (c_scheck l K [cB K u.1.1 T.length u.1.2] (iN_neg (by omega)) (iN_ylt' hi (by omega)))) dJ1_charAt_3b067_3 rfl rfl ⟨(Nat.le_of_ble_eq_true rfl), (Nat.le_of_ble_eq_true rfl)⟩ (Nat.le_of_ble_eq_true rfl) (Nat.le_of_ble_eq_true rfl) (Nat.le_of_ble_eq_true rfl) (fun _ => ?_)
  refine J_aload_n C 0 dJ1_charAt_3b067_6 rfl ?_
  refine J_iload_n C 1 dJ1_charAt_3b067_7 rfl ?_
  refine J_baN C 0 i rfl hi (by omega) rfl dJ1_charAt_3b067_8 ?_
  refine J_eqi (b := (iN (T.getD i 0))) (u.2 i hi) ?_
  refine J_sipush C (v := 255) dJ1_charAt_3b067_9 rfl ?_
  refine J_iand C dJ1_charAt_3b067_12 ?_
  refine J_eqi (b := (iN (T.getD i 0))) (by_i _ hc) ?_
  refine J_i2c C (v := (iN (T.getD i 0))) dJ1_charAt_3b067_13 (by_c _ hc) ?_
  exact J_rnret (by_narc _ hc) C () dJ1_charAt_3b067_14 (Nat.le_of_ble_eq_true rfl) (Nat.le_of_ble_eq_true rfl) rfl
theorem cj_mchr (l : Launch) (K : gK) (s : Nat) {T : List Nat} (u : StT T) {i : Nat} (hi : i < T.length) (hT : T.length ≤ 2300) (hc : T.getD i 0 < 128) : Cr l K yJ0_charAt_5068e cJ0_charAt_5068e 2 (some .char) 3 0 0 [.ref s, .int (iN i)] (stW K s T u.1) (fun _ : Unit => (some (.int (iN (T.getD i 0))), stW K s T u.1)) := by
  refine Cr.of (own := RJ0) (by decide) rfl (Nat.le_of_ble_eq_true rfl) (fun Γ C Yc _ => ?_)
  refine J_aload_n C 0 dJ0_charAt_5068e_0 rfl ?_
  refine J_crV (as := []) (T := TJ0) (N := 4) C Yc 0 10 kj_J0_isLatin1_aae02 ui_J0_isLatin1_aae02 us_J0_isLatin1_aae02 um_J0_492 rfl rfl (cj_mlat l K s u) dJ0_charAt_5068e_1 rfl rfl ⟨(Nat.le_of_ble_eq_true rfl), (Nat.le_of_ble_eq_true rfl)⟩ (Nat.le_of_ble_eq_true rfl) (Nat.le_of_ble_eq_true rfl) (Nat.le_of_ble_eq_true rfl) (fun _ => ?_)
  refine J_if_eq_n C 16 (by decide) dJ0_charAt_5068e_4 rfl ?_
  refine J_aload_n C 0 dJ0_charAt_5068e_7 rfl ?_
  refine J_get C 0 0 dJ0_charAt_5068e_8 inlJ0 uf_J0_9 rfl (by decide) rfl rfl rfl ?_
  refine J_iload_n C 1 dJ0_charAt_5068e_11 rfl ?_
  refine J_crS (as := [.ref u.1.1, .int (iN i)]) C Yc kj_J1_charAt_3b067 ut_J1_charAt_3b067 um_J0_495 (Cr.right [(s, .inr (10, [.ref u.1.1, .int 0, .int 0, .int 0]))] (cj_mlch l K s u hi hT hc)) dJ0_charAt_5068e_12 rfl rfl ⟨(Nat.le_of_ble_eq_true rfl), (Nat.le_of_ble_eq_true rfl)⟩ (Nat.le_of_ble_eq_true rfl) (Nat.le_of_ble_eq_true rfl) (Nat.le_of_ble_eq_true rfl) (fun _ => ?_)
  exact J_rnret (by_narc _ hc) C () dJ0_charAt_5068e_15 (Nat.le_of_ble_eq_true rfl) (Nat.le_of_ble_eq_true rfl) rfl
