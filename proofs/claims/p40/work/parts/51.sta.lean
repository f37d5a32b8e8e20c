-- PART 51: the law's method state
def vS (S : SM) (k : Nat) : Int32 := v_X9_value (fun _ => S) (iN k)
def oS (S : SM) (o k : Nat) : Int32 := v_X9_office (fun _ => S) (iN o) (iN k)
def qS (S : SM) (o i k : Nat) : Int32 := v_X9_queue (fun _ => S) (iN o) (iN i) (iN k)
def tS (S : SM) (t k : Nat) : Int32 := v_X9_token (fun _ => S) (iN t) (iN k)
theorem vS_eq (Y : RS) {k : Nat} (hk : k < 20) : v_X9_value Y (iN k) = vS (Y 0) k := by
  have h : ¬ iN k = 20 := iN_ne' (b := 20) (by omega) (by omega) (by decide)
  unfold vS v_X9_value
  rw [if_neg h, if_neg h]
theorem oS_eq (Y : RS) (o k : Nat) : v_X9_office Y (iN o) (iN k) = oS (Y 0) o k := rfl
theorem qS_eq (Y : RS) (o i k : Nat) : v_X9_queue Y (iN o) (iN i) (iN k) = qS (Y 0) o i k := rfl
theorem tS_eq (Y : RS) (t k : Nat) : v_X9_token Y (iN t) (iN k) = tS (Y 0) t k := rfl
def s20 (S : SM) : Nat → Int64
  | 0 => 7
  | k + 1 => s20 S k * 31 + (vS S k).toInt64
def s08 (S : SM) (o : Nat) (a : Int64) : Nat → Int64
  | 0 => a
  | k + 1 => s08 S o a k * 101 + (oS S o k).toInt64
def s0Q (S : SM) (o : Nat) (a : Int64) : Nat → Int64
  | 0 => a
  | i + 1 => s0Q S o a i * 101 + (qS S o i 0).toInt64 * 10 + (qS S o i 1).toInt64
def s0O (S : SM) (M : NM) : Nat → Int64
  | 0 => s20 S 20
  | o + 1 => s0Q S o (s08 S o (s0O S M o) 8) (M 7 o)
def s05 (S : SM) (t : Nat) (a : Int64) : Nat → Int64
  | 0 => a
  | k + 1 => s05 S t a k * 1009 + (tS S t k).toInt64
def s0T (S : SM) (M : NM) : Nat → Int64
  | 0 => s0O S M (M 18 2)
  | t + 1 => s05 S t (s0T S M t) 5
/-- what the law's state says -/
def stL (S : SM) (M : NM) : Int64 := s0T S M (M 18 3)
section LSTA
variable {l : Launch} {K : gK} {Γ : gT} {Q : State → Prop} {A : Nat → Nat → Nat} {B : Nat} {Y : RS} {M : NM}
theorem ls_20  (C : Cx l K Γ RL cL_state 5 (some .long) 5) (Yc : Cy Γ 0 0) (hS : St B Y M)  (kf : J l K Γ Q 0 0 ([] ++ ro_W K A Y) 31 5 [(3, .int (iN (20))), (1, .long (s20 (Y 0) 20)), (0, .ref (A 4 0))] []) : ∀ d k, k + d = 20 → J l K Γ Q 0 0 ([] ++ ro_W K A Y) 6 5 [(3, .int (iN (k))), (1, .long (s20 (Y 0) (k))), (0, .ref (A 4 0))] [] := by
  have c10 := hS.2.1.1.c10
  have c2 := hS.2.1.1.c2
  have t3 := hS.2.1.2.1.1
  intro d
  induction d with
  | zero =>
    intro k e
    rw [show k = 20 by omega]
    refine J_iload_n C 0 dL_state_6 rfl ?_
    refine J_bipush C (v := 20) dL_state_7 rfl ?_
    refine J_icmp_ge_n C 31 (iN_nlt' (a := 20) (b := 20) (Nat.le_refl _) (by decide)) dL_state_9 rfl ?_
    refine J_sub [0, 1, 2] rfl ?_
    exact kf
  | succ d ih =>
    intro k e
    have hd : k < 20 := by omega
    refine J_iload_n C 0 dL_state_6 rfl ?_
    refine J_bipush C (v := 20) dL_state_7 rfl ?_
    refine J_icmp_ge_y C 31 (iN_ylt' (b := 20) hd (by decide)) dL_state_9 rfl ?_
    refine J_lload_n C 1 dL_state_12 rfl ?_
    refine J_ldc2 C (v := 31) uK_L_71 dL_state_13 ?_
    refine J_lmul C dL_state_16 ?_
    refine J_aload_n C 2 dL_state_17 rfl ?_
    refine J_iload_n C 0 dL_state_18 rfl ?_
    refine x_value C Yc (Nat.le_of_ble_eq_true rfl) (Nat.le_of_ble_eq_true rfl) [] (w := (vS (Y 0) k)) (vS_eq Y hd) dL_state_19 (Nat.le_of_ble_eq_true rfl) (Nat.le_of_ble_eq_true rfl) ?_
    refine J_i2l C dL_state_22 ?_
    refine J_ladd C dL_state_23 ?_
    refine J_lstore_n C (lv' := [(1, .long (((s20 (Y 0) (k)) * 31) + (Int32.toInt64 (vS (Y 0) k)))), (3, .int (iN (k))), (0, .ref (A 4 0))]) dL_state_24 (by decide) rfl ?_
    refine J_iinc C 1 (w := (iN ((k) + 1))) (lv' := [(3, .int (iN ((k) + 1))), (1, .long (((s20 (Y 0) (k)) * 31) + (Int32.toInt64 (vS (Y 0) k)))), (0, .ref (A 4 0))]) dL_state_25 rfl (iN_add _ _) (by decide) rfl ?_
    refine J_goto C 6 dL_state_28 rfl ?_
    refine J_sub [0, 1, 2] (lv' := [(3, .int (iN ((k) + 1))), (1, .long (((s20 (Y 0) (k)) * 31) + (Int32.toInt64 (vS (Y 0) k)))), (0, .ref (A 4 0))]) rfl ?_
    exact ih (k + 1) (by omega)
theorem ls_8 {o : Nat} {a : Int64} (C : Cx l K Γ RL cL_state 5 (some .long) 5) (Yc : Cy Γ 0 0) (hS : St B Y M)  (kf : J l K Γ Q 0 0 ([] ++ ro_W K A Y) 73 5 [(4, .int (iN (8))), (3, .int (iN (o))), (1, .long (s08 (Y 0) o a 8)), (0, .ref (A 4 0))] []) : ∀ d k, k + d = 8 → J l K Γ Q 0 0 ([] ++ ro_W K A Y) 45 5 [(4, .int (iN (k))), (3, .int (iN (o))), (1, .long (s08 (Y 0) o a (k))), (0, .ref (A 4 0))] [] := by
  have c10 := hS.2.1.1.c10
  have c2 := hS.2.1.1.c2
  have t3 := hS.2.1.2.1.1
  intro d
  induction d with
  | zero =>
    intro k e
    rw [show k = 8 by omega]
    refine J_iload C 0 dL_state_45 rfl ?_
    refine J_bipush C (v := 8) dL_state_47 rfl ?_
    refine J_icmp_ge_n C 73 (iN_nlt' (a := 8) (b := 8) (Nat.le_refl _) (by decide)) dL_state_49 rfl ?_
    refine J_sub [0, 1, 2, 3] rfl ?_
    exact kf
  | succ d ih =>
    intro k e
    have hd : k < 8 := by omega
    refine J_iload C 0 dL_state_45 rfl ?_
    refine J_bipush C (v := 8) dL_state_47 rfl ?_
    refine J_icmp_ge_y C 73 (iN_ylt' (b := 8) hd (by decide)) dL_state_49 rfl ?_
    refine J_lload_n C 2 dL_state_52 rfl ?_
    refine J_ldc2 C (v := 101) uK_L_76 dL_state_53 ?_
    refine J_lmul C dL_state_56 ?_
    refine J_aload_n C 3 dL_state_57 rfl ?_
    refine J_iload_n C 1 dL_state_58 rfl ?_
    refine J_iload C 0 dL_state_59 rfl ?_
    refine x_office C Yc (Nat.le_of_ble_eq_true rfl) (Nat.le_of_ble_eq_true rfl) [] (w := (oS (Y 0) o k)) (oS_eq Y o k) dL_state_61 (Nat.le_of_ble_eq_true rfl) (Nat.le_of_ble_eq_true rfl) ?_
    refine J_i2l C dL_state_64 ?_
    refine J_ladd C dL_state_65 ?_
    refine J_lstore_n C (lv' := [(1, .long (((s08 (Y 0) o a (k)) * 101) + (Int32.toInt64 (oS (Y 0) o k)))), (4, .int (iN (k))), (3, .int (iN (o))), (0, .ref (A 4 0))]) dL_state_66 (by decide) rfl ?_
    refine J_iinc C 1 (w := (iN ((k) + 1))) (lv' := [(4, .int (iN ((k) + 1))), (1, .long (((s08 (Y 0) o a (k)) * 101) + (Int32.toInt64 (oS (Y 0) o k)))), (3, .int (iN (o))), (0, .ref (A 4 0))]) dL_state_67 rfl (iN_add _ _) (by decide) rfl ?_
    refine J_goto C 45 dL_state_70 rfl ?_
    refine J_sub [0, 2, 1, 3] (lv' := [(4, .int (iN ((k) + 1))), (3, .int (iN (o))), (1, .long (((s08 (Y 0) o a (k)) * 101) + (Int32.toInt64 (oS (Y 0) o k)))), (0, .ref (A 4 0))]) rfl ?_
    exact ih (k + 1) (by omega)
theorem ls_q {o : Nat} {a : Int64} (C : Cx l K Γ RL cL_state 5 (some .long) 5) (Yc : Cy Γ 0 0) (hS : St B Y M) (ho : o < M 18 2) (kf : J l K Γ Q 0 0 ([] ++ ro_W K A Y) 123 5 [(4, .int (iN (M 7 o))), (3, .int (iN (o))), (1, .long (s0Q (Y 0) o a (M 7 o))), (0, .ref (A 4 0))] []) : ∀ d i, i + d = M 7 o → J l K Γ Q 0 0 ([] ++ ro_W K A Y) 76 5 [(4, .int (iN (i))), (3, .int (iN (o))), (1, .long (s0Q (Y 0) o a (i))), (0, .ref (A 4 0))] [] := by
  have c10 := hS.2.1.1.c10
  have c2 := hS.2.1.1.c2
  have t3 := hS.2.1.2.1.1
  have w6 := hS.2.1.1.w6 ho
  intro d
  induction d with
  | zero =>
    intro i e
    rw [show i = M 7 o by omega]
    refine J_iload C 0 dL_state_76 rfl ?_
    refine J_aload_n C 3 dL_state_78 rfl ?_
    refine J_iload_n C 1 dL_state_79 rfl ?_
    refine J_iconst C (v := 4) dL_state_80 rfl ?_
    refine x_office C Yc (Nat.le_of_ble_eq_true rfl) (Nat.le_of_ble_eq_true rfl) [] (w := (iN (M 7 o))) (hS.off4 ho) dL_state_81 (Nat.le_of_ble_eq_true rfl) (Nat.le_of_ble_eq_true rfl) ?_
    refine J_icmp_ge_n C 123 (iN_nlt' (Nat.le_refl _) (by omega)) dL_state_84 rfl ?_
    exact kf
  | succ d ih =>
    intro i e
    have hd : i < M 7 o := by omega
    refine J_iload C 0 dL_state_76 rfl ?_
    refine J_aload_n C 3 dL_state_78 rfl ?_
    refine J_iload_n C 1 dL_state_79 rfl ?_
    refine J_iconst C (v := 4) dL_state_80 rfl ?_
    refine x_office C Yc (Nat.le_of_ble_eq_true rfl) (Nat.le_of_ble_eq_true rfl) [] (w := (iN (M 7 o))) (hS.off4 ho) dL_state_81 (Nat.le_of_ble_eq_true rfl) (Nat.le_of_ble_eq_true rfl) ?_
    refine J_icmp_ge_y C 123 (iN_ylt' hd (by omega)) dL_state_84 rfl ?_
    refine J_lload_n C 2 dL_state_87 rfl ?_
    refine J_ldc2 C (v := 101) uK_L_76 dL_state_88 ?_
    refine J_lmul C dL_state_91 ?_
    refine J_aload_n C 3 dL_state_92 rfl ?_
    refine J_iload_n C 1 dL_state_93 rfl ?_
    refine J_iload C 0 dL_state_94 rfl ?_
    refine J_iconst C (v := 0) dL_state_96 rfl ?_
    refine x_queue C Yc (Nat.le_of_ble_eq_true rfl) (Nat.le_of_ble_eq_true rfl) [] (w := (qS (Y 0) o i 0)) (qS_eq Y o i 0) dL_state_97 (Nat.le_of_ble_eq_true rfl) (Nat.le_of_ble_eq_true rfl) ?_
    refine J_i2l C dL_state_100 ?_
    refine J_ldc2 C (v := 10) uK_L_86 dL_state_101 ?_
    refine J_lmul C dL_state_104 ?_
    refine J_ladd C dL_state_105 ?_
    refine J_aload_n C 3 dL_state_106 rfl ?_
    refine J_iload_n C 1 dL_state_107 rfl ?_
    refine J_iload C 0 dL_state_108 rfl ?_
    refine J_iconst C (v := 1) dL_state_110 rfl ?_
    refine x_queue C Yc (Nat.le_of_ble_eq_true rfl) (Nat.le_of_ble_eq_true rfl) [] (w := (qS (Y 0) o i 1)) (qS_eq Y o i 1) dL_state_111 (Nat.le_of_ble_eq_true rfl) (Nat.le_of_ble_eq_true rfl) ?_
    refine J_i2l C dL_state_114 ?_
    refine J_ladd C dL_state_115 ?_
    refine J_lstore_n C (lv' := [(1, .long ((((s0Q (Y 0) o a (i)) * 101) + ((Int32.toInt64 (qS (Y 0) o i 0)) * 10)) + (Int32.toInt64 (qS (Y 0) o i 1)))), (4, .int (iN (i))), (3, .int (iN (o))), (0, .ref (A 4 0))]) dL_state_116 (by decide) rfl ?_
    refine J_iinc C 1 (w := (iN ((i) + 1))) (lv' := [(4, .int (iN ((i) + 1))), (1, .long ((((s0Q (Y 0) o a (i)) * 101) + ((Int32.toInt64 (qS (Y 0) o i 0)) * 10)) + (Int32.toInt64 (qS (Y 0) o i 1)))), (3, .int (iN (o))), (0, .ref (A 4 0))]) dL_state_117 rfl (iN_add _ _) (by decide) rfl ?_
    refine J_goto C 76 dL_state_120 rfl ?_
    refine J_sub [0, 2, 1, 3] (lv' := [(4, .int (iN ((i) + 1))), (3, .int (iN (o))), (1, .long ((((s0Q (Y 0) o a (i)) * 101) + ((Int32.toInt64 (qS (Y 0) o i 0)) * 10)) + (Int32.toInt64 (qS (Y 0) o i 1)))), (0, .ref (A 4 0))]) rfl ?_
    exact ih (i + 1) (by omega)
theorem ls_o  (C : Cx l K Γ RL cL_state 5 (some .long) 5) (Yc : Cy Γ 0 0) (hS : St B Y M)  (kf : J l K Γ Q 0 0 ([] ++ ro_W K A Y) 129 5 [(3, .int (iN (M 18 2))), (1, .long (s0O (Y 0) M (M 18 2))), (0, .ref (A 4 0))] []) : ∀ d o, o + d = M 18 2 → J l K Γ Q 0 0 ([] ++ ro_W K A Y) 33 5 [(3, .int (iN (o))), (1, .long (s0O (Y 0) M (o))), (0, .ref (A 4 0))] [] := by
  have c10 := hS.2.1.1.c10
  have c2 := hS.2.1.1.c2
  have t3 := hS.2.1.2.1.1
  intro d
  induction d with
  | zero =>
    intro o e
    rw [show o = M 18 2 by omega]
    refine J_iload_n C 0 dL_state_33 rfl ?_
    refine J_aload_n C 2 dL_state_34 rfl ?_
    refine J_iconst C (v := 4) dL_state_35 rfl ?_
    refine x_value C Yc (Nat.le_of_ble_eq_true rfl) (Nat.le_of_ble_eq_true rfl) [] (w := (iN (M 18 2))) hS.val4 dL_state_36 (Nat.le_of_ble_eq_true rfl) (Nat.le_of_ble_eq_true rfl) ?_
    refine J_icmp_ge_n C 129 (iN_nlt' (Nat.le_refl _) (by omega)) dL_state_39 rfl ?_
    exact kf
  | succ d ih =>
    intro o e
    have hd : o < M 18 2 := by omega
    refine J_iload_n C 0 dL_state_33 rfl ?_
    refine J_aload_n C 2 dL_state_34 rfl ?_
    refine J_iconst C (v := 4) dL_state_35 rfl ?_
    refine x_value C Yc (Nat.le_of_ble_eq_true rfl) (Nat.le_of_ble_eq_true rfl) [] (w := (iN (M 18 2))) hS.val4 dL_state_36 (Nat.le_of_ble_eq_true rfl) (Nat.le_of_ble_eq_true rfl) ?_
    refine J_icmp_ge_y C 129 (iN_ylt' hd (by omega)) dL_state_39 rfl ?_
    refine J_iconst C (v := 0) dL_state_42 rfl ?_
    refine J_istore C (lv' := [(4, .int 0), (3, .int (iN (o))), (1, .long (s0O (Y 0) M (o))), (0, .ref (A 4 0))]) dL_state_43 (by decide) rfl ?_
    refine J_sub [0, 1, 2, 3] (lv' := [(4, .int 0), (3, .int (iN (o))), (1, .long (s0O (Y 0) M (o))), (0, .ref (A 4 0))]) rfl ?_
    refine ls_8 C Yc hS ?_ 8 0 (by omega)
    refine J_iconst C (v := 0) dL_state_73 rfl ?_
    refine J_istore C (lv' := [(4, .int 0), (3, .int (iN (o))), (1, .long (s08 (Y 0) o (s0O (Y 0) M o) 8)), (0, .ref (A 4 0))]) dL_state_74 (by decide) rfl ?_
    refine J_sub [0, 1, 2, 3] (lv' := [(4, .int 0), (3, .int (iN (o))), (1, .long (s08 (Y 0) o (s0O (Y 0) M o) 8)), (0, .ref (A 4 0))]) rfl ?_
    refine ls_q C Yc hS hd ?_ (M 7 o) 0 (by omega)
    refine J_iinc C 1 (w := (iN ((o) + 1))) (lv' := [(3, .int (iN ((o) + 1))), (4, .int (iN (M 7 o))), (1, .long (s0O (Y 0) M (o + 1))), (0, .ref (A 4 0))]) dL_state_123 rfl (iN_add _ _) (by decide) rfl ?_
    refine J_goto C 33 dL_state_126 rfl ?_
    refine J_sub [0, 2, 3] (lv' := [(3, .int (iN ((o) + 1))), (1, .long (s0O (Y 0) M (o + 1))), (0, .ref (A 4 0))]) rfl ?_
    exact ih (o + 1) (by omega)
theorem ls_5 {t : Nat} {a : Int64} (C : Cx l K Γ RL cL_state 5 (some .long) 5) (Yc : Cy Γ 0 0) (hS : St B Y M)  (kf : J l K Γ Q 0 0 ([] ++ ro_W K A Y) 171 5 [(4, .int (iN (5))), (3, .int (iN (t))), (1, .long (s05 (Y 0) t a 5)), (0, .ref (A 4 0))] []) : ∀ d k, k + d = 5 → J l K Γ Q 0 0 ([] ++ ro_W K A Y) 144 5 [(4, .int (iN (k))), (3, .int (iN (t))), (1, .long (s05 (Y 0) t a (k))), (0, .ref (A 4 0))] [] := by
  have c10 := hS.2.1.1.c10
  have c2 := hS.2.1.1.c2
  have t3 := hS.2.1.2.1.1
  intro d
  induction d with
  | zero =>
    intro k e
    rw [show k = 5 by omega]
    refine J_iload C 0 dL_state_144 rfl ?_
    refine J_iconst C (v := 5) dL_state_146 rfl ?_
    refine J_icmp_ge_n C 171 (iN_nlt' (a := 5) (b := 5) (Nat.le_refl _) (by decide)) dL_state_147 rfl ?_
    refine J_sub [0, 1, 2, 3] rfl ?_
    exact kf
  | succ d ih =>
    intro k e
    have hd : k < 5 := by omega
    refine J_iload C 0 dL_state_144 rfl ?_
    refine J_iconst C (v := 5) dL_state_146 rfl ?_
    refine J_icmp_ge_y C 171 (iN_ylt' (b := 5) hd (by decide)) dL_state_147 rfl ?_
    refine J_lload_n C 2 dL_state_150 rfl ?_
    refine J_ldc2 C (v := 1009) uK_L_88 dL_state_151 ?_
    refine J_lmul C dL_state_154 ?_
    refine J_aload_n C 3 dL_state_155 rfl ?_
    refine J_iload_n C 1 dL_state_156 rfl ?_
    refine J_iload C 0 dL_state_157 rfl ?_
    refine x_token C Yc (Nat.le_of_ble_eq_true rfl) (Nat.le_of_ble_eq_true rfl) [] (w := (tS (Y 0) t k)) (tS_eq Y t k) dL_state_159 (Nat.le_of_ble_eq_true rfl) (Nat.le_of_ble_eq_true rfl) ?_
    refine J_i2l C dL_state_162 ?_
    refine J_ladd C dL_state_163 ?_
    refine J_lstore_n C (lv' := [(1, .long (((s05 (Y 0) t a (k)) * 1009) + (Int32.toInt64 (tS (Y 0) t k)))), (4, .int (iN (k))), (3, .int (iN (t))), (0, .ref (A 4 0))]) dL_state_164 (by decide) rfl ?_
    refine J_iinc C 1 (w := (iN ((k) + 1))) (lv' := [(4, .int (iN ((k) + 1))), (1, .long (((s05 (Y 0) t a (k)) * 1009) + (Int32.toInt64 (tS (Y 0) t k)))), (3, .int (iN (t))), (0, .ref (A 4 0))]) dL_state_165 rfl (iN_add _ _) (by decide) rfl ?_
    refine J_goto C 144 dL_state_168 rfl ?_
    refine J_sub [0, 2, 1, 3] (lv' := [(4, .int (iN ((k) + 1))), (3, .int (iN (t))), (1, .long (((s05 (Y 0) t a (k)) * 1009) + (Int32.toInt64 (tS (Y 0) t k)))), (0, .ref (A 4 0))]) rfl ?_
    exact ih (k + 1) (by omega)
theorem ls_t  (C : Cx l K Γ RL cL_state 5 (some .long) 5) (Yc : Cy Γ 0 0) (hS : St B Y M)  (kf : J l K Γ Q 0 0 ([] ++ ro_W K A Y) 177 5 [(3, .int (iN (M 18 3))), (1, .long (s0T (Y 0) M (M 18 3))), (0, .ref (A 4 0))] []) : ∀ d t, t + d = M 18 3 → J l K Γ Q 0 0 ([] ++ ro_W K A Y) 131 5 [(3, .int (iN (t))), (1, .long (s0T (Y 0) M (t))), (0, .ref (A 4 0))] [] := by
  have c10 := hS.2.1.1.c10
  have c2 := hS.2.1.1.c2
  have t3 := hS.2.1.2.1.1
  intro d
  induction d with
  | zero =>
    intro t e
    rw [show t = M 18 3 by omega]
    refine J_iload_n C 0 dL_state_131 rfl ?_
    refine J_aload_n C 2 dL_state_132 rfl ?_
    refine J_bipush C (v := 6) dL_state_133 rfl ?_
    refine x_value C Yc (Nat.le_of_ble_eq_true rfl) (Nat.le_of_ble_eq_true rfl) [] (w := (iN (M 18 3))) hS.val6 dL_state_135 (Nat.le_of_ble_eq_true rfl) (Nat.le_of_ble_eq_true rfl) ?_
    refine J_icmp_ge_n C 177 (iN_nlt' (Nat.le_refl _) (by omega)) dL_state_138 rfl ?_
    exact kf
  | succ d ih =>
    intro t e
    have hd : t < M 18 3 := by omega
    refine J_iload_n C 0 dL_state_131 rfl ?_
    refine J_aload_n C 2 dL_state_132 rfl ?_
    refine J_bipush C (v := 6) dL_state_133 rfl ?_
    refine x_value C Yc (Nat.le_of_ble_eq_true rfl) (Nat.le_of_ble_eq_true rfl) [] (w := (iN (M 18 3))) hS.val6 dL_state_135 (Nat.le_of_ble_eq_true rfl) (Nat.le_of_ble_eq_true rfl) ?_
    refine J_icmp_ge_y C 177 (iN_ylt' hd (by omega)) dL_state_138 rfl ?_
    refine J_iconst C (v := 0) dL_state_141 rfl ?_
    refine J_istore C (lv' := [(4, .int 0), (3, .int (iN (t))), (1, .long (s0T (Y 0) M (t))), (0, .ref (A 4 0))]) dL_state_142 (by decide) rfl ?_
    refine J_sub [0, 1, 2, 3] (lv' := [(4, .int 0), (3, .int (iN (t))), (1, .long (s0T (Y 0) M (t))), (0, .ref (A 4 0))]) rfl ?_
    refine ls_5 C Yc hS ?_ 5 0 (by omega)
    refine J_iinc C 1 (w := (iN ((t) + 1))) (lv' := [(3, .int (iN ((t) + 1))), (4, .int (iN (5))), (1, .long (s0T (Y 0) M (t + 1))), (0, .ref (A 4 0))]) dL_state_171 rfl (iN_add _ _) (by decide) rfl ?_
    refine J_goto C 131 dL_state_174 rfl ?_
    refine J_sub [0, 2, 3] (lv' := [(3, .int (iN ((t) + 1))), (1, .long (s0T (Y 0) M (t + 1))), (0, .ref (A 4 0))]) rfl ?_
    exact ih (t + 1) (by omega)
end LSTA
theorem kd_L_state : Cd yL_state cL_state 5 (some .long) 1 := ⟨uc_L_state, un_L, ⟨by decide, by decide, by decide⟩⟩
theorem c_L_state (l : Launch) (K : gK) (A : Nat → Nat → Nat) {B : Nat} {Y : RS} {M : NM} (hS : St B Y M) : Cr l K yL_state cL_state 5 (some .long) 5 0 0 [.ref (A 4 0)] (ro_W K A Y) (fun _ : Unit => (some (.long (stL (Y 0) M)), ro_W K A Y)) := by
  refine Cr.of (own := RL) (by decide) rfl (Nat.le_of_ble_eq_true rfl) (fun Γ C Yc _ => ?_)
  refine J_ldc2 C (v := 7) uK_L_69 dL_state_0 ?_
  refine J_lstore_n C (lv' := [(1, .long 7), (0, .ref (A 4 0))]) dL_state_3 (by decide) rfl ?_
  refine J_iconst C (v := 0) dL_state_4 rfl ?_
  refine J_istore_n C (lv' := [(3, .int 0), (1, .long 7), (0, .ref (A 4 0))]) dL_state_5 (by decide) rfl ?_
  refine J_sub [0, 1, 2] (lv' := [(3, .int 0), (1, .long 7), (0, .ref (A 4 0))]) rfl ?_
  refine ls_20 C Yc hS ?_ 20 0 (by omega)
  refine J_iconst C (v := 0) dL_state_31 rfl ?_
  refine J_istore_n C (lv' := [(3, .int 0), (1, .long (s20 (Y 0) 20)), (0, .ref (A 4 0))]) dL_state_32 (by decide) rfl ?_
  refine J_sub [0, 1, 2] (lv' := [(3, .int 0), (1, .long (s20 (Y 0) 20)), (0, .ref (A 4 0))]) rfl ?_
  refine ls_o C Yc hS ?_ (M 18 2) 0 (by omega)
  refine J_iconst C (v := 0) dL_state_129 rfl ?_
  refine J_istore_n C (lv' := [(3, .int 0), (1, .long (s0O (Y 0) M (M 18 2))), (0, .ref (A 4 0))]) dL_state_130 (by decide) rfl ?_
  refine J_sub [0, 1, 2] (lv' := [(3, .int 0), (1, .long (s0O (Y 0) M (M 18 2))), (0, .ref (A 4 0))]) rfl ?_
  refine ls_t C Yc hS ?_ (M 18 3) 0 (by omega)
  refine J_lload_n C 1 dL_state_177 rfl ?_
  exact J_rlret C () dL_state_178 (Nat.le_of_ble_eq_true rfl) (Nat.le_of_ble_eq_true rfl) rfl
