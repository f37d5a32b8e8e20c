-- PART 07, go on (by gen/mkro.py)
/-! X9_ifShut -/
theorem kd_X9_ifShut : Card yX9_ifShut cX9_ifShut 4 (some .int) 3 := ⟨uc_X9_ifShut, un_X9, ⟨by decide, by decide, by decide⟩, by decide⟩
def p_X9_ifShut_L62 (Y : RS) (x1 : Int32) (x2 : Int32) (x3 : Int32) : Int32 × RS := ((p_X9_triedMinutes Y x2 x3).1, (p_X9_triedMinutes Y x2 x3).2)
theorem g_X9_ifShut_L62 {l : Launch} {K : gK} {Γ : gT} {A : Nat → Nat → Nat} (C : Cx l K Γ RX9 cX9_ifShut 4 (some .int) 7) (Y : RS) (x1 : Int32) (x2 : Int32) (x3 : Int32) : G l K Γ (ro_W K A Y) 62 4 [(0, .ref (A 4 0)), (1, .int x1), (2, .int x2), (3, .int x3)] [] (fun (z : Int32 × RS) => (some (.int z.1), ro_W K A z.2)) (p_X9_ifShut_L62 Y x1 x2 x3) := by
  unfold p_X9_ifShut_L62
  refine G_aload_n C 0 dX9_ifShut_62 rfl ?_
  refine G_iload_n C 2 dX9_ifShut_63 rfl ?_
  refine G_iload_n C 3 dX9_ifShut_64 rfl ?_
  refine G_callVi C 0 9 kd_X9_triedMinutes ui_X9_triedMinutes us_X9_triedMinutes um_X9_276 rfl rfl (c_X9_triedMinutes l K A Y x2 x3) dX9_ifShut_65 rfl rfl (Nat.le_of_ble_eq_true rfl) (Nat.le_of_ble_eq_true rfl) ?_
  exact G_iret C dX9_ifShut_68 rfl
def p_X9_ifShut_L59 (Y : RS) (x1 : Int32) (x2 : Int32) (x3 : Int32) (t0 : Int32) (t1 : Int32) : Int32 × RS := p_X9_ifShut_L62 (yU Y 1 (s_X6_shutOrOpen (Y 1) t1 t0)) x1 x2 x3
theorem g_X9_ifShut_L59 {l : Launch} {K : gK} {Γ : gT} {A : Nat → Nat → Nat} (C : Cx l K Γ RX9 cX9_ifShut 4 (some .int) 7) (Y : RS) (x1 : Int32) (x2 : Int32) (x3 : Int32) (t0 : Int32) (t1 : Int32) : G l K Γ (ro_W K A Y) 59 4 [(0, .ref (A 4 0)), (1, .int x1), (2, .int x2), (3, .int x3)] [.int t0, .int t1, .ref (A 1 0)] (fun (z : Int32 × RS) => (some (.int z.1), ro_W K A z.2)) (p_X9_ifShut_L59 Y x1 x2 x3 t0 t1) := by
  unfold p_X9_ifShut_L59
  refine G_callVv C 27 6 kd_X6_shutOrOpen ui_X6_shutOrOpen us_X6_shutOrOpen um_X9_158 rfl rfl (Ct.chunk1 (cs := ro_C K A Y) (cs' := ro_C K A (yU Y 1 (s_X6_shutOrOpen (Y 1) t1 t0))) 3 rfl (ro_u1 K A Y _) (c_X6_shutOrOpen l K (A 1) (Y 1) t1 t0)) dX9_ifShut_59 rfl rfl (Nat.le_of_ble_eq_true rfl) (Nat.le_of_ble_eq_true rfl) ?_
  refine G_sub [0, 1, 2, 3] rfl ?_
  exact g_X9_ifShut_L62 C (yU Y 1 (s_X6_shutOrOpen (Y 1) t1 t0)) x1 x2 x3
def p_X9_ifShut_L35 (Y : RS) (x1 : Int32) (x2 : Int32) (x3 : Int32) : Int32 × RS := if (v_X2_isOpen (Y 0) x1) = 0 then p_X9_ifShut_L59 Y x1 x2 x3 1 x1 else p_X9_ifShut_L59 Y x1 x2 x3 0 x1
theorem g_X9_ifShut_L35 {l : Launch} {K : gK} {Γ : gT} {A : Nat → Nat → Nat} (C : Cx l K Γ RX9 cX9_ifShut 4 (some .int) 7) (Y : RS) (x1 : Int32) (x2 : Int32) (x3 : Int32) : G l K Γ (ro_W K A Y) 35 4 [(0, .ref (A 4 0)), (1, .int x1), (2, .int x2), (3, .int x3)] [] (fun (z : Int32 × RS) => (some (.int z.1), ro_W K A z.2)) (p_X9_ifShut_L35 Y x1 x2 x3) := by
  unfold p_X9_ifShut_L35
  refine G_aload_n C 0 dX9_ifShut_35 rfl ?_
  refine G_get C 0 5 dX9_ifShut_36 inlX9 uf_X9_53 rfl (by decide) rfl rfl rfl ?_
  refine G_iload_n C 1 dX9_ifShut_39 rfl ?_
  refine G_aload_n C 0 dX9_ifShut_40 rfl ?_
  refine G_get C 0 0 dX9_ifShut_41 inlX9 uf_X9_10 rfl (by decide) rfl rfl rfl ?_
  refine G_get C 1 2 dX9_ifShut_44 inlX6 uf_X9_89 rfl (by decide) rfl rfl rfl ?_
  refine G_iload_n C 1 dX9_ifShut_47 rfl ?_
  refine G_callVi C 4 2 kd_X2_isOpen ui_X2_isOpen us_X2_isOpen um_X9_168 rfl rfl (Ct.chunk1 (cs := ro_C K A Y) (cs' := ro_C K A Y) 1 rfl rfl (c_X2_isOpen l K (A 0) (Y 0) x1)) dX9_ifShut_48 rfl rfl (Nat.le_of_ble_eq_true rfl) (Nat.le_of_ble_eq_true rfl) ?_
  refine G_if_eq C 58 dX9_ifShut_51 rfl (fun h3 => ?_) (fun h3 => ?_)
  · refine G_iconst C dX9_ifShut_58 (v := 1) rfl ?_
    refine G_sub [0, 1, 2, 3] rfl ?_
    exact g_X9_ifShut_L59 C Y x1 x2 x3 1 x1
  · refine G_iconst C dX9_ifShut_54 (v := 0) rfl ?_
    refine G_goto C 59 dX9_ifShut_55 rfl ?_
    refine G_sub [0, 1, 2, 3] rfl ?_
    exact g_X9_ifShut_L59 C Y x1 x2 x3 0 x1
def p_X9_ifShut (Y : RS) (x1 : Int32) (x2 : Int32) (x3 : Int32) : Int32 × RS := if (v_X2_has (Y 0) x1) = 0 then (-1, Y) else if (v_X9_isForesight x2 x3) = 0 then (-1, Y) else p_X9_ifShut_L35 (yU Y 1 (Y 0)) x1 x2 x3
theorem c_X9_ifShut (l : Launch) (K : gK) (A : Nat → Nat → Nat) (Y : RS) (x1 : Int32) (x2 : Int32) (x3 : Int32) : Ct l K yX9_ifShut cX9_ifShut 4 (some .int) 7 [.ref (A 4 0), .int x1, .int x2, .int x3] (ro_W K A Y) (some (.int (p_X9_ifShut Y x1 x2 x3).1), ro_W K A ((p_X9_ifShut Y x1 x2 x3).2)) := by
  refine Ct.of (own := RX9) (fun (z : Int32 × RS) => (some (.int z.1), ro_W K A z.2)) (x := p_X9_ifShut Y x1 x2 x3) (by decide) rfl (Nat.le_of_ble_eq_true rfl) (fun Γ C => ?_)
  unfold p_X9_ifShut
  refine G_aload_n C 0 dX9_ifShut_0 rfl ?_
  refine G_get C 0 0 dX9_ifShut_1 inlX9 uf_X9_10 rfl (by decide) rfl rfl rfl ?_
  refine G_get C 1 2 dX9_ifShut_4 inlX6 uf_X9_89 rfl (by decide) rfl rfl rfl ?_
  refine G_iload_n C 1 dX9_ifShut_7 rfl ?_
  refine G_callVi C 4 2 kd_X2_has ui_X2_has us_X2_has um_X9_98 rfl rfl (Ct.chunk1 (cs := ro_C K A Y) (cs' := ro_C K A Y) 1 rfl rfl (c_X2_has l K (A 0) (Y 0) x1)) dX9_ifShut_8 rfl rfl (Nat.le_of_ble_eq_true rfl) (Nat.le_of_ble_eq_true rfl) ?_
  refine G_if_eq C 22 dX9_ifShut_11 rfl (fun h1 => ?_) (fun h1 => ?_)
  · refine G_iconst C dX9_ifShut_22 (v := -1) rfl ?_
    exact G_iret C dX9_ifShut_23 rfl
  · refine G_iload_n C 2 dX9_ifShut_14 rfl ?_
    refine G_iload_n C 3 dX9_ifShut_15 rfl ?_
    refine G_callSi C kd_X9_isForesight ut_X9_isForesight um_X9_273 (c_X9_isForesight l K (ro_W K A Y) x2 x3) dX9_ifShut_16 rfl rfl (Nat.le_of_ble_eq_true rfl) (Nat.le_of_ble_eq_true rfl) ?_
    refine G_if_ne C 24 dX9_ifShut_19 rfl (fun h2 => ?_) (fun h2 => ?_)
    · refine G_iconst C dX9_ifShut_22 (v := -1) rfl ?_
      exact G_iret C dX9_ifShut_23 rfl
    · refine G_aload_n C 0 dX9_ifShut_24 rfl ?_
      refine G_get C 0 5 dX9_ifShut_25 inlX9 uf_X9_53 rfl (by decide) rfl rfl rfl ?_
      refine G_aload_n C 0 dX9_ifShut_28 rfl ?_
      refine G_get C 0 0 dX9_ifShut_29 inlX9 uf_X9_10 rfl (by decide) rfl rfl rfl ?_
      refine G_callVv C 27 6 kd_X6_copyFrom ui_X6_copyFrom us_X6_copyFrom um_X9_81 rfl rfl (c_scratch l K A Y) dX9_ifShut_32 rfl rfl (Nat.le_of_ble_eq_true rfl) (Nat.le_of_ble_eq_true rfl) ?_
      refine G_sub [0, 1, 2, 3] rfl ?_
      exact g_X9_ifShut_L35 C (yU Y 1 (Y 0)) x1 x2 x3
/-! X9_bestSpeak -/
theorem kd_X9_bestSpeak : Card yX9_bestSpeak cX9_bestSpeak 6 (some .int) 1 := ⟨uc_X9_bestSpeak, un_X9, ⟨by decide, by decide, by decide⟩, by decide⟩
def p_X9_bestSpeak_L54 (rc : RS → Int32 → Int32 → Int32 → Int32 → Int32 × RS) (Y : RS) (x1 : Int32) (x2 : Int32) (x3 : Int32) (x4 : Int32) (t0 : Int32) : Int32 × RS := if x3 < t0 then rc Y x1 x4 t0 (x4 + 1) else rc Y x1 x2 x3 (x4 + 1)
theorem g_X9_bestSpeak_L54 {l : Launch} {K : gK} {Γ : gT} {A : Nat → Nat → Nat} (C : Cx l K Γ RX9 cX9_bestSpeak 6 (some .int) 7) (rc : RS → Int32 → Int32 → Int32 → Int32 → Int32 × RS) (n : Nat) (hrc : ∀ (Y : RS) (x1 : Int32) (x2 : Int32) (x3 : Int32) (x4 : Int32), mu x4 < n → G l K Γ (ro_W K A Y) 17 6 [(0, .ref (A 4 0)), (1, .int x1), (2, .int x2), (3, .int x3), (4, .int x4)] [] (fun (z : Int32 × RS) => (some (.int z.1), ro_W K A z.2)) (rc Y x1 x2 x3 x4)) (Y : RS) (x1 : Int32) (x2 : Int32) (x3 : Int32) (x4 : Int32) (t0 : Int32) (hb : mu (x4 + 1) < n) : G l K Γ (ro_W K A Y) 54 6 [(0, .ref (A 4 0)), (1, .int x1), (2, .int x2), (3, .int x3), (4, .int x4)] [.int t0] (fun (z : Int32 × RS) => (some (.int z.1), ro_W K A z.2)) (p_X9_bestSpeak_L54 rc Y x1 x2 x3 x4 t0) := by
  unfold p_X9_bestSpeak_L54
  refine G_istore (lv' := [(5, .int t0), (0, .ref (A 4 0)), (1, .int x1), (2, .int x2), (3, .int x3), (4, .int x4)]) C dX9_bestSpeak_54 (by decide) rfl ?_
  refine G_iload C 0 dX9_bestSpeak_56 rfl ?_
  refine G_iload_n C 4 dX9_bestSpeak_58 rfl ?_
  refine G_icmp_le C 68 dX9_bestSpeak_59 rfl (fun h3 => ?_) (fun h3 => ?_)
  · refine G_iload C 5 dX9_bestSpeak_62 rfl ?_
    refine G_istore_n (lv' := [(2, .int x4), (5, .int t0), (0, .ref (A 4 0)), (1, .int x1), (3, .int x3), (4, .int x4)]) C dX9_bestSpeak_64 (by decide) rfl ?_
    refine G_iload C 1 dX9_bestSpeak_65 rfl ?_
    refine G_istore_n (lv' := [(3, .int t0), (2, .int x4), (5, .int t0), (0, .ref (A 4 0)), (1, .int x1), (4, .int x4)]) C dX9_bestSpeak_67 (by decide) rfl ?_
    refine G_iinc (lv' := [(4, .int (x4 + 1)), (3, .int t0), (2, .int x4), (5, .int t0), (0, .ref (A 4 0)), (1, .int x1)]) C 5 dX9_bestSpeak_68 rfl rfl (by decide) rfl ?_
    refine G_goto C 17 dX9_bestSpeak_71 rfl ?_
    refine G_sub [4, 5, 2, 1, 0] rfl ?_
    exact hrc Y x1 x4 t0 (x4 + 1) hb
  · refine G_iinc (lv' := [(4, .int (x4 + 1)), (5, .int t0), (0, .ref (A 4 0)), (1, .int x1), (2, .int x2), (3, .int x3)]) C 5 dX9_bestSpeak_68 rfl rfl (by decide) rfl ?_
    refine G_goto C 17 dX9_bestSpeak_71 rfl ?_
    refine G_sub [2, 3, 4, 5, 0] rfl ?_
    exact hrc Y x1 x2 x3 (x4 + 1) hb
def p_X9_bestSpeak_L48 (rc : RS → Int32 → Int32 → Int32 → Int32 → Int32 × RS) (Y : RS) (x1 : Int32) (x2 : Int32) (x3 : Int32) (x4 : Int32) : Int32 × RS := p_X9_bestSpeak_L54 rc ((p_X9_triedMinutes Y x1 0).2) x1 x2 x3 x4 ((p_X9_triedMinutes Y x1 0).1)
theorem g_X9_bestSpeak_L48 {l : Launch} {K : gK} {Γ : gT} {A : Nat → Nat → Nat} (C : Cx l K Γ RX9 cX9_bestSpeak 6 (some .int) 7) (rc : RS → Int32 → Int32 → Int32 → Int32 → Int32 × RS) (n : Nat) (hrc : ∀ (Y : RS) (x1 : Int32) (x2 : Int32) (x3 : Int32) (x4 : Int32), mu x4 < n → G l K Γ (ro_W K A Y) 17 6 [(0, .ref (A 4 0)), (1, .int x1), (2, .int x2), (3, .int x3), (4, .int x4)] [] (fun (z : Int32 × RS) => (some (.int z.1), ro_W K A z.2)) (rc Y x1 x2 x3 x4)) (Y : RS) (x1 : Int32) (x2 : Int32) (x3 : Int32) (x4 : Int32) (hb : mu (x4 + 1) < n) : G l K Γ (ro_W K A Y) 48 6 [(0, .ref (A 4 0)), (1, .int x1), (2, .int x2), (3, .int x3), (4, .int x4)] [] (fun (z : Int32 × RS) => (some (.int z.1), ro_W K A z.2)) (p_X9_bestSpeak_L48 rc Y x1 x2 x3 x4) := by
  unfold p_X9_bestSpeak_L48
  refine G_aload_n C 0 dX9_bestSpeak_48 rfl ?_
  refine G_iload_n C 1 dX9_bestSpeak_49 rfl ?_
  refine G_iconst C dX9_bestSpeak_50 (v := 0) rfl ?_
  refine G_callVi C 0 9 kd_X9_triedMinutes ui_X9_triedMinutes us_X9_triedMinutes um_X9_276 rfl rfl (c_X9_triedMinutes l K A Y x1 0) dX9_bestSpeak_51 rfl rfl (Nat.le_of_ble_eq_true rfl) (Nat.le_of_ble_eq_true rfl) ?_
  refine G_sub [0, 1, 2, 3, 4] rfl ?_
  exact g_X9_bestSpeak_L54 C _ n hrc ((p_X9_triedMinutes Y x1 0).2) x1 x2 x3 x4 ((p_X9_triedMinutes Y x1 0).1) hb
def p_X9_bestSpeak_L35 (rc : RS → Int32 → Int32 → Int32 → Int32 → Int32 × RS) (Y : RS) (x1 : Int32) (x2 : Int32) (x3 : Int32) (x4 : Int32) : Int32 × RS := p_X9_bestSpeak_L48 rc (yU Y 1 (sU (Y 1) 0 (put_ 3 (Y 1 0) 0 x4))) x1 x2 x3 x4
theorem g_X9_bestSpeak_L35 {l : Launch} {K : gK} {Γ : gT} {A : Nat → Nat → Nat} (C : Cx l K Γ RX9 cX9_bestSpeak 6 (some .int) 7) (rc : RS → Int32 → Int32 → Int32 → Int32 → Int32 × RS) (n : Nat) (hrc : ∀ (Y : RS) (x1 : Int32) (x2 : Int32) (x3 : Int32) (x4 : Int32), mu x4 < n → G l K Γ (ro_W K A Y) 17 6 [(0, .ref (A 4 0)), (1, .int x1), (2, .int x2), (3, .int x3), (4, .int x4)] [] (fun (z : Int32 × RS) => (some (.int z.1), ro_W K A z.2)) (rc Y x1 x2 x3 x4)) (Y : RS) (x1 : Int32) (x2 : Int32) (x3 : Int32) (x4 : Int32) (hb : mu (x4 + 1) < n) : G l K Γ (ro_W K A Y) 35 6 [(0, .ref (A 4 0)), (1, .int x1), (2, .int x2), (3, .int x3), (4, .int x4)] [] (fun (z : Int32 × RS) => (some (.int z.1), ro_W K A z.2)) (p_X9_bestSpeak_L35 rc Y x1 x2 x3 x4) := by
  unfold p_X9_bestSpeak_L35
  refine G_aload_n C 0 dX9_bestSpeak_35 rfl ?_
  refine G_get C 0 5 dX9_bestSpeak_36 inlX9 uf_X9_53 rfl (by decide) rfl rfl rfl ?_
  refine G_get C 27 0 dX9_bestSpeak_39 inlX6 uf_X9_203 rfl (by decide) rfl rfl rfl ?_
  refine G_iconst C dX9_bestSpeak_42 (v := 0) rfl ?_
  refine G_iload C 4 dX9_bestSpeak_43 rfl ?_
  refine G_callSv C kd_X9_put ut_X9_put um_X9_195 (Ct.to (r' := (none, ro_W K A (yU Y 1 (sU (Y 1) 0 (put_ 3 (Y 1 0) 0 x4))))) (c_put l K (ws := ro_W K A Y) (q0 := 28) (n := 3) (g := Y 1 0) (ad := (A 1 1)) (by decide) rfl 0 x4) rfl) dX9_bestSpeak_45 rfl rfl (Nat.le_of_ble_eq_true rfl) (Nat.le_of_ble_eq_true rfl) ?_
  refine G_sub [0, 1, 2, 3, 4] rfl ?_
  exact g_X9_bestSpeak_L48 C _ n hrc (yU Y 1 (sU (Y 1) 0 (put_ 3 (Y 1 0) 0 x4))) x1 x2 x3 x4 hb
def p_X9_bestSpeak_L17 : Nat → RS → Int32 → Int32 → Int32 → Int32 → Int32 × RS
  | 0, Y, _, _, _, _ => (0, Y)
  | fuel + 1, Y, x1, x2, x3, x4 => if 20 < x4 then (x2, Y) else p_X9_bestSpeak_L35 (p_X9_bestSpeak_L17 fuel) (yU Y 1 (Y 0)) x1 x2 x3 x4
theorem g_X9_bestSpeak_L17 {l : Launch} {K : gK} {Γ : gT} {A : Nat → Nat → Nat} (C : Cx l K Γ RX9 cX9_bestSpeak 6 (some .int) 7) : ∀ (n : Nat) (Y : RS) (x1 : Int32) (x2 : Int32) (x3 : Int32) (x4 : Int32), mu x4 < n → G l K Γ (ro_W K A Y) 17 6 [(0, .ref (A 4 0)), (1, .int x1), (2, .int x2), (3, .int x3), (4, .int x4)] [] (fun (z : Int32 × RS) => (some (.int z.1), ro_W K A z.2)) (p_X9_bestSpeak_L17 n Y x1 x2 x3 x4) := by
  intro n
  induction n with
  | zero =>
    intro Y x1 x2 x3 x4 hm
    exact absurd hm (Nat.not_lt_zero _)
  | succ n ih =>
    intro Y x1 x2 x3 x4 hm
    rw [p_X9_bestSpeak_L17]
    refine G_iload C 4 dX9_bestSpeak_17 rfl ?_
    refine G_bipush C dX9_bestSpeak_19 (v := 20) rfl ?_
    refine G_icmp_gt C 74 dX9_bestSpeak_21 rfl (fun h2 => ?_) (fun h2 => ?_)
    · refine G_iload_n C 2 dX9_bestSpeak_74 rfl ?_
      exact G_iret C dX9_bestSpeak_75 rfl
    · refine G_aload_n C 0 dX9_bestSpeak_24 rfl ?_
      refine G_get C 0 5 dX9_bestSpeak_25 inlX9 uf_X9_53 rfl (by decide) rfl rfl rfl ?_
      refine G_aload_n C 0 dX9_bestSpeak_28 rfl ?_
      refine G_get C 0 0 dX9_bestSpeak_29 inlX9 uf_X9_10 rfl (by decide) rfl rfl rfl ?_
      refine G_callVv C 27 6 kd_X6_copyFrom ui_X6_copyFrom us_X6_copyFrom um_X9_81 rfl rfl (c_scratch l K A Y) dX9_bestSpeak_32 rfl rfl (Nat.le_of_ble_eq_true rfl) (Nat.le_of_ble_eq_true rfl) ?_
      refine G_sub [0, 1, 2, 3, 4] rfl ?_
      exact g_X9_bestSpeak_L35 C _ n ih (yU Y 1 (Y 0)) x1 x2 x3 x4 (by have := mu_upc h2 (by decide); omega)
def p_X9_bestSpeak (Y : RS) (x1 : Int32) : Int32 × RS := if (v_X9_isForesight x1 0) = 0 then (-1, Y) else p_X9_bestSpeak_L17 (mu 1 + 1) Y x1 1 (-1) 1
theorem c_X9_bestSpeak (l : Launch) (K : gK) (A : Nat → Nat → Nat) (Y : RS) (x1 : Int32) : Ct l K yX9_bestSpeak cX9_bestSpeak 6 (some .int) 7 [.ref (A 4 0), .int x1] (ro_W K A Y) (some (.int (p_X9_bestSpeak Y x1).1), ro_W K A ((p_X9_bestSpeak Y x1).2)) := by
  refine Ct.of (own := RX9) (fun (z : Int32 × RS) => (some (.int z.1), ro_W K A z.2)) (x := p_X9_bestSpeak Y x1) (by decide) rfl (Nat.le_of_ble_eq_true rfl) (fun Γ C => ?_)
  unfold p_X9_bestSpeak
  refine G_iload_n C 1 dX9_bestSpeak_0 rfl ?_
  refine G_iconst C dX9_bestSpeak_1 (v := 0) rfl ?_
  refine G_callSi C kd_X9_isForesight ut_X9_isForesight um_X9_273 (c_X9_isForesight l K (ro_W K A Y) x1 0) dX9_bestSpeak_2 rfl rfl (Nat.le_of_ble_eq_true rfl) (Nat.le_of_ble_eq_true rfl) ?_
  refine G_if_ne C 10 dX9_bestSpeak_5 rfl (fun h1 => ?_) (fun h1 => ?_)
  · refine G_iconst C dX9_bestSpeak_8 (v := -1) rfl ?_
    exact G_iret C dX9_bestSpeak_9 rfl
  · refine G_iconst C dX9_bestSpeak_10 (v := 1) rfl ?_
    refine G_istore_n (lv' := [(2, .int 1), (0, .ref (A 4 0)), (1, .int x1)]) C dX9_bestSpeak_11 (by decide) rfl ?_
    refine G_iconst C dX9_bestSpeak_12 (v := -1) rfl ?_
    refine G_istore_n (lv' := [(3, .int (-1)), (2, .int 1), (0, .ref (A 4 0)), (1, .int x1)]) C dX9_bestSpeak_13 (by decide) rfl ?_
    refine G_iconst C dX9_bestSpeak_14 (v := 1) rfl ?_
    refine G_istore (lv' := [(4, .int 1), (3, .int (-1)), (2, .int 1), (0, .ref (A 4 0)), (1, .int x1)]) C dX9_bestSpeak_15 (by decide) rfl ?_
    refine G_sub [3, 4, 2, 1, 0] rfl ?_
    exact g_X9_bestSpeak_L17 C _ Y x1 1 (-1) 1 (Nat.lt_succ_self _)
/-! X9_leastQuota -/
theorem kd_X9_leastQuota : Card yX9_leastQuota cX9_leastQuota 3 (some .int) 0 := ⟨uc_X9_leastQuota, un_X9, ⟨by decide, by decide, by decide⟩, by decide⟩
def p_X9_leastQuota_L64 (rc : RS → Int32 → Int32 → Int32 × RS) (Y : RS) (x1 : Int32) (x2 : Int32) (t0 : Int32) : Int32 × RS := if t0 = (-2) then rc Y x1 (x2 + 1) else (x2, Y)
theorem g_X9_leastQuota_L64 {l : Launch} {K : gK} {Γ : gT} {A : Nat → Nat → Nat} (C : Cx l K Γ RX9 cX9_leastQuota 3 (some .int) 7) (rc : RS → Int32 → Int32 → Int32 × RS) (n : Nat) (hrc : ∀ (Y : RS) (x1 : Int32) (hx1 : x1.toInt < 2147483647) (x2 : Int32), mu x2 < n → G l K Γ (ro_W K A Y) 30 3 [(0, .ref (A 4 0)), (1, .int x1), (2, .int x2)] [] (fun (z : Int32 × RS) => (some (.int z.1), ro_W K A z.2)) (rc Y x1 x2)) (Y : RS) (x1 : Int32) (hx1 : x1.toInt < 2147483647) (x2 : Int32) (t0 : Int32) (hb : mu (x2 + 1) < n) : G l K Γ (ro_W K A Y) 64 3 [(0, .ref (A 4 0)), (1, .int x1), (2, .int x2)] [.int t0] (fun (z : Int32 × RS) => (some (.int z.1), ro_W K A z.2)) (p_X9_leastQuota_L64 rc Y x1 x2 t0) := by
  unfold p_X9_leastQuota_L64
  refine G_bipush C dX9_leastQuota_64 (v := -2) rfl ?_
  refine G_icmp_eq C 71 dX9_leastQuota_66 rfl (fun h3 => ?_) (fun h3 => ?_)
  · refine G_iinc (lv' := [(2, .int (x2 + 1)), (0, .ref (A 4 0)), (1, .int x1)]) C 2 dX9_leastQuota_71 rfl rfl (by decide) rfl ?_
    refine G_goto C 30 dX9_leastQuota_74 rfl ?_
    refine G_sub [1, 2, 0] rfl ?_
    exact hrc Y x1 hx1 (x2 + 1) hb
  · refine G_iload_n C 2 dX9_leastQuota_69 rfl ?_
    exact G_iret C dX9_leastQuota_70 rfl
def p_X9_leastQuota_L59 (rc : RS → Int32 → Int32 → Int32 × RS) (Y : RS) (x1 : Int32) (x2 : Int32) : Int32 × RS := p_X9_leastQuota_L64 rc ((p_X9_triedUntilDone Y x1).2) x1 x2 ((p_X9_triedUntilDone Y x1).1)
theorem g_X9_leastQuota_L59 {l : Launch} {K : gK} {Γ : gT} {A : Nat → Nat → Nat} (C : Cx l K Γ RX9 cX9_leastQuota 3 (some .int) 7) (rc : RS → Int32 → Int32 → Int32 × RS) (n : Nat) (hrc : ∀ (Y : RS) (x1 : Int32) (hx1 : x1.toInt < 2147483647) (x2 : Int32), mu x2 < n → G l K Γ (ro_W K A Y) 30 3 [(0, .ref (A 4 0)), (1, .int x1), (2, .int x2)] [] (fun (z : Int32 × RS) => (some (.int z.1), ro_W K A z.2)) (rc Y x1 x2)) (Y : RS) (x1 : Int32) (hx1 : x1.toInt < 2147483647) (x2 : Int32) (hb : mu (x2 + 1) < n) : G l K Γ (ro_W K A Y) 59 3 [(0, .ref (A 4 0)), (1, .int x1), (2, .int x2)] [] (fun (z : Int32 × RS) => (some (.int z.1), ro_W K A z.2)) (p_X9_leastQuota_L59 rc Y x1 x2) := by
  unfold p_X9_leastQuota_L59
  refine G_aload_n C 0 dX9_leastQuota_59 rfl ?_
  refine G_iload_n C 1 dX9_leastQuota_60 rfl ?_
  refine G_callVi C 0 9 kd_X9_triedUntilDone ui_X9_triedUntilDone us_X9_triedUntilDone um_X9_270 rfl rfl (c_X9_triedUntilDone l K A Y x1 hx1) dX9_leastQuota_61 rfl rfl (Nat.le_of_ble_eq_true rfl) (Nat.le_of_ble_eq_true rfl) ?_
  refine G_sub [0, 1, 2] rfl ?_
  exact g_X9_leastQuota_L64 C _ n hrc ((p_X9_triedUntilDone Y x1).2) x1 hx1 x2 ((p_X9_triedUntilDone Y x1).1) hb
def p_X9_leastQuota_L47 (rc : RS → Int32 → Int32 → Int32 × RS) (Y : RS) (x1 : Int32) (x2 : Int32) : Int32 × RS := p_X9_leastQuota_L59 rc (yU Y 1 (sU (Y 1) 0 (put_ 3 (Y 1 0) 2 x2))) x1 x2
theorem g_X9_leastQuota_L47 {l : Launch} {K : gK} {Γ : gT} {A : Nat → Nat → Nat} (C : Cx l K Γ RX9 cX9_leastQuota 3 (some .int) 7) (rc : RS → Int32 → Int32 → Int32 × RS) (n : Nat) (hrc : ∀ (Y : RS) (x1 : Int32) (hx1 : x1.toInt < 2147483647) (x2 : Int32), mu x2 < n → G l K Γ (ro_W K A Y) 30 3 [(0, .ref (A 4 0)), (1, .int x1), (2, .int x2)] [] (fun (z : Int32 × RS) => (some (.int z.1), ro_W K A z.2)) (rc Y x1 x2)) (Y : RS) (x1 : Int32) (hx1 : x1.toInt < 2147483647) (x2 : Int32) (hb : mu (x2 + 1) < n) : G l K Γ (ro_W K A Y) 47 3 [(0, .ref (A 4 0)), (1, .int x1), (2, .int x2)] [] (fun (z : Int32 × RS) => (some (.int z.1), ro_W K A z.2)) (p_X9_leastQuota_L47 rc Y x1 x2) := by
  unfold p_X9_leastQuota_L47
  refine G_aload_n C 0 dX9_leastQuota_47 rfl ?_
  refine G_get C 0 5 dX9_leastQuota_48 inlX9 uf_X9_53 rfl (by decide) rfl rfl rfl ?_
  refine G_get C 27 0 dX9_leastQuota_51 inlX6 uf_X9_203 rfl (by decide) rfl rfl rfl ?_
  refine G_iconst C dX9_leastQuota_54 (v := 2) rfl ?_
  refine G_iload_n C 2 dX9_leastQuota_55 rfl ?_
  refine G_callSv C kd_X9_put ut_X9_put um_X9_195 (Ct.to (r' := (none, ro_W K A (yU Y 1 (sU (Y 1) 0 (put_ 3 (Y 1 0) 2 x2))))) (c_put l K (ws := ro_W K A Y) (q0 := 28) (n := 3) (g := Y 1 0) (ad := (A 1 1)) (by decide) rfl 2 x2) rfl) dX9_leastQuota_56 rfl rfl (Nat.le_of_ble_eq_true rfl) (Nat.le_of_ble_eq_true rfl) ?_
  refine G_sub [0, 1, 2] rfl ?_
  exact g_X9_leastQuota_L59 C _ n hrc (yU Y 1 (sU (Y 1) 0 (put_ 3 (Y 1 0) 2 x2))) x1 hx1 x2 hb
def p_X9_leastQuota_L30 : Nat → RS → Int32 → Int32 → Int32 × RS
  | 0, Y, _, _ => (0, Y)
  | fuel + 1, Y, x1, x2 => if 60 < x2 then (-2, Y) else p_X9_leastQuota_L47 (p_X9_leastQuota_L30 fuel) (yU Y 1 (Y 0)) x1 x2
theorem g_X9_leastQuota_L30 {l : Launch} {K : gK} {Γ : gT} {A : Nat → Nat → Nat} (C : Cx l K Γ RX9 cX9_leastQuota 3 (some .int) 7) : ∀ (n : Nat) (Y : RS) (x1 : Int32) (hx1 : x1.toInt < 2147483647) (x2 : Int32), mu x2 < n → G l K Γ (ro_W K A Y) 30 3 [(0, .ref (A 4 0)), (1, .int x1), (2, .int x2)] [] (fun (z : Int32 × RS) => (some (.int z.1), ro_W K A z.2)) (p_X9_leastQuota_L30 n Y x1 x2) := by
  intro n
  induction n with
  | zero =>
    intro Y x1 hx1 x2 hm
    exact absurd hm (Nat.not_lt_zero _)
  | succ n ih =>
    intro Y x1 hx1 x2 hm
    rw [p_X9_leastQuota_L30]
    refine G_iload_n C 2 dX9_leastQuota_30 rfl ?_
    refine G_bipush C dX9_leastQuota_31 (v := 60) rfl ?_
    refine G_icmp_gt C 77 dX9_leastQuota_33 rfl (fun h2 => ?_) (fun h2 => ?_)
    · refine G_bipush C dX9_leastQuota_77 (v := -2) rfl ?_
      exact G_iret C dX9_leastQuota_79 rfl
    · refine G_aload_n C 0 dX9_leastQuota_36 rfl ?_
      refine G_get C 0 5 dX9_leastQuota_37 inlX9 uf_X9_53 rfl (by decide) rfl rfl rfl ?_
      refine G_aload_n C 0 dX9_leastQuota_40 rfl ?_
      refine G_get C 0 0 dX9_leastQuota_41 inlX9 uf_X9_10 rfl (by decide) rfl rfl rfl ?_
      refine G_callVv C 27 6 kd_X6_copyFrom ui_X6_copyFrom us_X6_copyFrom um_X9_81 rfl rfl (c_scratch l K A Y) dX9_leastQuota_44 rfl rfl (Nat.le_of_ble_eq_true rfl) (Nat.le_of_ble_eq_true rfl) ?_
      refine G_sub [0, 1, 2] rfl ?_
      exact g_X9_leastQuota_L47 C _ n ih (yU Y 1 (Y 0)) x1 hx1 x2 (by have := mu_upc h2 (by decide); omega)
def p_X9_leastQuota_L18 (Y : RS) (t0 : Int32) : Int32 × RS := if t0 = (-2) then (-2, Y) else p_X9_leastQuota_L30 (mu 1 + 1) Y t0 1
theorem g_X9_leastQuota_L18 {l : Launch} {K : gK} {Γ : gT} {A : Nat → Nat → Nat} (C : Cx l K Γ RX9 cX9_leastQuota 3 (some .int) 7) (Y : RS) (t0 : Int32) (hx1 : t0.toInt < 2147483647) : G l K Γ (ro_W K A Y) 18 3 [(0, .ref (A 4 0))] [.int t0] (fun (z : Int32 × RS) => (some (.int z.1), ro_W K A z.2)) (p_X9_leastQuota_L18 Y t0) := by
  unfold p_X9_leastQuota_L18
  refine G_istore_n (lv' := [(1, .int t0), (0, .ref (A 4 0))]) C dX9_leastQuota_18 (by decide) rfl ?_
  refine G_iload_n C 0 dX9_leastQuota_19 rfl ?_
  refine G_bipush C dX9_leastQuota_20 (v := -2) rfl ?_
  refine G_icmp_ne C 28 dX9_leastQuota_22 rfl (fun h1 => ?_) (fun h1 => ?_)
  · refine G_bipush C dX9_leastQuota_25 (v := -2) rfl ?_
    exact G_iret C dX9_leastQuota_27 rfl
  · refine G_iconst C dX9_leastQuota_28 (v := 1) rfl ?_
    refine G_istore_n (lv' := [(2, .int 1), (1, .int t0), (0, .ref (A 4 0))]) C dX9_leastQuota_29 (by decide) rfl ?_
    refine G_sub [2, 1, 0] rfl ?_
    exact g_X9_leastQuota_L30 C _ Y t0 hx1 1 (Nat.lt_succ_self _)
def p_X9_leastQuota_L11 (Y : RS) : Int32 × RS := p_X9_leastQuota_L18 ((p_X9_triedUntilDone Y 500).2) ((p_X9_triedUntilDone Y 500).1)
theorem g_X9_leastQuota_L11 {l : Launch} {K : gK} {Γ : gT} {A : Nat → Nat → Nat} (C : Cx l K Γ RX9 cX9_leastQuota 3 (some .int) 7) (Y : RS) : G l K Γ (ro_W K A Y) 11 3 [(0, .ref (A 4 0))] [] (fun (z : Int32 × RS) => (some (.int z.1), ro_W K A z.2)) (p_X9_leastQuota_L11 Y) := by
  unfold p_X9_leastQuota_L11
  refine G_aload_n C 0 dX9_leastQuota_11 rfl ?_
  refine G_sipush C dX9_leastQuota_12 (v := 500) rfl ?_
  refine G_callVi C 0 9 kd_X9_triedUntilDone ui_X9_triedUntilDone us_X9_triedUntilDone um_X9_270 rfl rfl (c_X9_triedUntilDone l K A Y 500 (by decide)) dX9_leastQuota_15 rfl rfl (Nat.le_of_ble_eq_true rfl) (Nat.le_of_ble_eq_true rfl) ?_
  refine G_sub [0] rfl ?_
  exact g_X9_leastQuota_L18 C ((p_X9_triedUntilDone Y 500).2) ((p_X9_triedUntilDone Y 500).1) (tud_lt Y)
def p_X9_leastQuota (Y : RS) : Int32 × RS := p_X9_leastQuota_L11 (yU Y 1 (Y 0))
theorem c_X9_leastQuota (l : Launch) (K : gK) (A : Nat → Nat → Nat) (Y : RS) : Ct l K yX9_leastQuota cX9_leastQuota 3 (some .int) 7 [.ref (A 4 0)] (ro_W K A Y) (some (.int (p_X9_leastQuota Y).1), ro_W K A ((p_X9_leastQuota Y).2)) := by
  refine Ct.of (own := RX9) (fun (z : Int32 × RS) => (some (.int z.1), ro_W K A z.2)) (x := p_X9_leastQuota Y) (by decide) rfl (Nat.le_of_ble_eq_true rfl) (fun Γ C => ?_)
  unfold p_X9_leastQuota
  refine G_aload_n C 0 dX9_leastQuota_0 rfl ?_
  refine G_get C 0 5 dX9_leastQuota_1 inlX9 uf_X9_53 rfl (by decide) rfl rfl rfl ?_
  refine G_aload_n C 0 dX9_leastQuota_4 rfl ?_
  refine G_get C 0 0 dX9_leastQuota_5 inlX9 uf_X9_10 rfl (by decide) rfl rfl rfl ?_
  refine G_callVv C 27 6 kd_X6_copyFrom ui_X6_copyFrom us_X6_copyFrom um_X9_81 rfl rfl (c_scratch l K A Y) dX9_leastQuota_8 rfl rfl (Nat.le_of_ble_eq_true rfl) (Nat.le_of_ble_eq_true rfl) ?_
  refine G_sub [0] rfl ?_
  exact g_X9_leastQuota_L11 C (yU Y 1 (Y 0))
/-! X9_writeSetupOffice -/
theorem kd_X9_writeSetupOffice : Card yX9_writeSetupOffice cX9_writeSetupOffice 2 none 1 := ⟨uc_X9_writeSetupOffice, un_X9, ⟨by decide, by decide, by decide⟩, by decide⟩
def s_X9_writeSetupOffice_L85 (Y : RS) (x1 : Int32) : RS := yU Y 3 (s_X7_add_p (Y 3) 59)
theorem g_X9_writeSetupOffice_L85 {l : Launch} {K : gK} {Γ : gT} {A : Nat → Nat → Nat} (C : Cx l K Γ RX9 cX9_writeSetupOffice 2 none 7) (Y : RS) (x1 : Int32) : G l K Γ (ro_W K A Y) 85 2 [(0, .ref (A 4 0)), (1, .int x1)] [] (fun z => (none, ro_W K A z)) (s_X9_writeSetupOffice_L85 Y x1) := by
  unfold s_X9_writeSetupOffice_L85
  refine G_aload_n C 0 dX9_writeSetupOffice_85 rfl ?_
  refine G_get C 0 6 dX9_writeSetupOffice_86 inlX9 uf_X9_61 rfl (by decide) rfl rfl rfl ?_
  refine G_bipush C dX9_writeSetupOffice_89 (v := 59) rfl ?_
  refine G_callVv C 49 7 kd_X7_add ui_X7_add us_X7_add um_X9_314 rfl rfl (Ct.chunk1 (cs := ro_C K A Y) (cs' := ro_C K A (yU Y 3 (s_X7_add_p (Y 3) 59))) 4 rfl (ro_u3 K A Y _) (c_X7_add_p l K (A 3) (Y 3) 59)) dX9_writeSetupOffice_91 rfl rfl (Nat.le_of_ble_eq_true rfl) (Nat.le_of_ble_eq_true rfl) ?_
  exact G_vret C dX9_writeSetupOffice_94 rfl
def s_X9_writeSetupOffice_L61 (Y : RS) (x1 : Int32) : RS := if (v_X2_isOpen (Y 0) x1) = 0 then s_X9_writeSetupOffice_L85 (yU Y 3 (s_X7_addWord_p (Y 3) 11)) x1 else s_X9_writeSetupOffice_L85 Y x1
theorem g_X9_writeSetupOffice_L61 {l : Launch} {K : gK} {Γ : gT} {A : Nat → Nat → Nat} (C : Cx l K Γ RX9 cX9_writeSetupOffice 2 none 7) (Y : RS) (x1 : Int32) : G l K Γ (ro_W K A Y) 61 2 [(0, .ref (A 4 0)), (1, .int x1)] [] (fun z => (none, ro_W K A z)) (s_X9_writeSetupOffice_L61 Y x1) := by
  unfold s_X9_writeSetupOffice_L61
  refine G_aload_n C 0 dX9_writeSetupOffice_61 rfl ?_
  refine G_get C 0 0 dX9_writeSetupOffice_62 inlX9 uf_X9_10 rfl (by decide) rfl rfl rfl ?_
  refine G_get C 1 2 dX9_writeSetupOffice_65 inlX6 uf_X9_89 rfl (by decide) rfl rfl rfl ?_
  refine G_iload_n C 1 dX9_writeSetupOffice_68 rfl ?_
  refine G_callVi C 4 2 kd_X2_isOpen ui_X2_isOpen us_X2_isOpen um_X9_168 rfl rfl (Ct.chunk1 (cs := ro_C K A Y) (cs' := ro_C K A Y) 1 rfl rfl (c_X2_isOpen l K (A 0) (Y 0) x1)) dX9_writeSetupOffice_69 rfl rfl (Nat.le_of_ble_eq_true rfl) (Nat.le_of_ble_eq_true rfl) ?_
  refine G_if_ne C 85 dX9_writeSetupOffice_72 rfl (fun h1 => ?_) (fun h1 => ?_)
  · refine G_aload_n C 0 dX9_writeSetupOffice_75 rfl ?_
    refine G_get C 0 6 dX9_writeSetupOffice_76 inlX9 uf_X9_61 rfl (by decide) rfl rfl rfl ?_
    refine G_ldcwS C 11 dX9_writeSetupOffice_79 rfl ?_
    refine G_callVv C 49 7 kd_X7_addWord ui_X7_addWord us_X7_addWord um_X9_317 rfl rfl (Ct.chunk1 (cs := ro_C K A Y) (cs' := ro_C K A (yU Y 3 (s_X7_addWord_p (Y 3) 11))) 4 rfl (ro_u3 K A Y _) (c_X7_addWord_p l K (A 3) (Y 3) (j := 11) (by decide))) dX9_writeSetupOffice_82 rfl rfl (Nat.le_of_ble_eq_true rfl) (Nat.le_of_ble_eq_true rfl) ?_
    refine G_sub [0, 1] rfl ?_
    exact g_X9_writeSetupOffice_L85 C (yU Y 3 (s_X7_addWord_p (Y 3) 11)) x1
  · refine G_sub [0, 1] rfl ?_
    exact g_X9_writeSetupOffice_L85 C Y x1
def s_X9_writeSetupOffice_L40 (Y : RS) (x1 : Int32) : RS := s_X9_writeSetupOffice_L61 (yU Y 3 (s_X7_addNumber_p (Y 3) (at_ 10 (Y 0 3) x1))) x1
theorem g_X9_writeSetupOffice_L40 {l : Launch} {K : gK} {Γ : gT} {A : Nat → Nat → Nat} (C : Cx l K Γ RX9 cX9_writeSetupOffice 2 none 7) (Y : RS) (x1 : Int32) : G l K Γ (ro_W K A Y) 40 2 [(0, .ref (A 4 0)), (1, .int x1)] [] (fun z => (none, ro_W K A z)) (s_X9_writeSetupOffice_L40 Y x1) := by
  unfold s_X9_writeSetupOffice_L40
  refine G_aload_n C 0 dX9_writeSetupOffice_40 rfl ?_
  refine G_get C 0 6 dX9_writeSetupOffice_41 inlX9 uf_X9_61 rfl (by decide) rfl rfl rfl ?_
  refine G_aload_n C 0 dX9_writeSetupOffice_44 rfl ?_
  refine G_get C 0 0 dX9_writeSetupOffice_45 inlX9 uf_X9_10 rfl (by decide) rfl rfl rfl ?_
  refine G_get C 1 2 dX9_writeSetupOffice_48 inlX6 uf_X9_89 rfl (by decide) rfl rfl rfl ?_
  refine G_get C 4 1 dX9_writeSetupOffice_51 inlX2 uf_X9_189 rfl (by decide) rfl rfl rfl ?_
  refine G_iload_n C 1 dX9_writeSetupOffice_54 rfl ?_
  refine G_callSi C kd_X9_at ut_X9_at um_X9_110 (c_at l K (ws := ro_W K A Y) (q0 := 6) (n := 10) (g := Y 0 3) (ad := (A 0 5)) (by decide) rfl x1) dX9_writeSetupOffice_55 rfl rfl (Nat.le_of_ble_eq_true rfl) (Nat.le_of_ble_eq_true rfl) ?_
  refine G_callVv C 49 7 kd_X7_addNumber ui_X7_addNumber us_X7_addNumber um_X9_311 rfl rfl (Ct.chunk1 (cs := ro_C K A Y) (cs' := ro_C K A (yU Y 3 (s_X7_addNumber_p (Y 3) (at_ 10 (Y 0 3) x1)))) 4 rfl (ro_u3 K A Y _) (c_X7_addNumber_p l K (A 3) (Y 3) (at_ 10 (Y 0 3) x1))) dX9_writeSetupOffice_58 rfl rfl (Nat.le_of_ble_eq_true rfl) (Nat.le_of_ble_eq_true rfl) ?_
  refine G_sub [0, 1] rfl ?_
  exact g_X9_writeSetupOffice_L61 C (yU Y 3 (s_X7_addNumber_p (Y 3) (at_ 10 (Y 0 3) x1))) x1
def s_X9_writeSetupOffice_L31 (Y : RS) (x1 : Int32) : RS := s_X9_writeSetupOffice_L40 (yU Y 3 (s_X7_add_p (Y 3) 32)) x1
theorem g_X9_writeSetupOffice_L31 {l : Launch} {K : gK} {Γ : gT} {A : Nat → Nat → Nat} (C : Cx l K Γ RX9 cX9_writeSetupOffice 2 none 7) (Y : RS) (x1 : Int32) : G l K Γ (ro_W K A Y) 31 2 [(0, .ref (A 4 0)), (1, .int x1)] [] (fun z => (none, ro_W K A z)) (s_X9_writeSetupOffice_L31 Y x1) := by
  unfold s_X9_writeSetupOffice_L31
  refine G_aload_n C 0 dX9_writeSetupOffice_31 rfl ?_
  refine G_get C 0 6 dX9_writeSetupOffice_32 inlX9 uf_X9_61 rfl (by decide) rfl rfl rfl ?_
  refine G_bipush C dX9_writeSetupOffice_35 (v := 32) rfl ?_
  refine G_callVv C 49 7 kd_X7_add ui_X7_add us_X7_add um_X9_314 rfl rfl (Ct.chunk1 (cs := ro_C K A Y) (cs' := ro_C K A (yU Y 3 (s_X7_add_p (Y 3) 32))) 4 rfl (ro_u3 K A Y _) (c_X7_add_p l K (A 3) (Y 3) 32)) dX9_writeSetupOffice_37 rfl rfl (Nat.le_of_ble_eq_true rfl) (Nat.le_of_ble_eq_true rfl) ?_
  refine G_sub [0, 1] rfl ?_
  exact g_X9_writeSetupOffice_L40 C (yU Y 3 (s_X7_add_p (Y 3) 32)) x1
def s_X9_writeSetupOffice_L10 (Y : RS) (x1 : Int32) : RS := s_X9_writeSetupOffice_L31 (yU Y 3 (s_X7_addNumber_p (Y 3) (at_ 10 (Y 0 2) x1))) x1
theorem g_X9_writeSetupOffice_L10 {l : Launch} {K : gK} {Γ : gT} {A : Nat → Nat → Nat} (C : Cx l K Γ RX9 cX9_writeSetupOffice 2 none 7) (Y : RS) (x1 : Int32) : G l K Γ (ro_W K A Y) 10 2 [(0, .ref (A 4 0)), (1, .int x1)] [] (fun z => (none, ro_W K A z)) (s_X9_writeSetupOffice_L10 Y x1) := by
  unfold s_X9_writeSetupOffice_L10
  refine G_aload_n C 0 dX9_writeSetupOffice_10 rfl ?_
  refine G_get C 0 6 dX9_writeSetupOffice_11 inlX9 uf_X9_61 rfl (by decide) rfl rfl rfl ?_
  refine G_aload_n C 0 dX9_writeSetupOffice_14 rfl ?_
  refine G_get C 0 0 dX9_writeSetupOffice_15 inlX9 uf_X9_10 rfl (by decide) rfl rfl rfl ?_
  refine G_get C 1 2 dX9_writeSetupOffice_18 inlX6 uf_X9_89 rfl (by decide) rfl rfl rfl ?_
  refine G_get C 4 0 dX9_writeSetupOffice_21 inlX2 uf_X9_186 rfl (by decide) rfl rfl rfl ?_
  refine G_iload_n C 1 dX9_writeSetupOffice_24 rfl ?_
  refine G_callSi C kd_X9_at ut_X9_at um_X9_110 (c_at l K (ws := ro_W K A Y) (q0 := 5) (n := 10) (g := Y 0 2) (ad := (A 0 4)) (by decide) rfl x1) dX9_writeSetupOffice_25 rfl rfl (Nat.le_of_ble_eq_true rfl) (Nat.le_of_ble_eq_true rfl) ?_
  refine G_callVv C 49 7 kd_X7_addNumber ui_X7_addNumber us_X7_addNumber um_X9_311 rfl rfl (Ct.chunk1 (cs := ro_C K A Y) (cs' := ro_C K A (yU Y 3 (s_X7_addNumber_p (Y 3) (at_ 10 (Y 0 2) x1)))) 4 rfl (ro_u3 K A Y _) (c_X7_addNumber_p l K (A 3) (Y 3) (at_ 10 (Y 0 2) x1))) dX9_writeSetupOffice_28 rfl rfl (Nat.le_of_ble_eq_true rfl) (Nat.le_of_ble_eq_true rfl) ?_
  refine G_sub [0, 1] rfl ?_
  exact g_X9_writeSetupOffice_L31 C (yU Y 3 (s_X7_addNumber_p (Y 3) (at_ 10 (Y 0 2) x1))) x1
def s_X9_writeSetupOffice (Y : RS) (x1 : Int32) : RS := s_X9_writeSetupOffice_L10 (yU Y 3 (s_X7_addWord_p (Y 3) 10)) x1
theorem c_X9_writeSetupOffice (l : Launch) (K : gK) (A : Nat → Nat → Nat) (Y : RS) (x1 : Int32) : Ct l K yX9_writeSetupOffice cX9_writeSetupOffice 2 none 7 [.ref (A 4 0), .int x1] (ro_W K A Y) (none, ro_W K A (s_X9_writeSetupOffice Y x1)) := by
  refine Ct.of (own := RX9) (fun z => (none, ro_W K A z)) (x := s_X9_writeSetupOffice Y x1) (by decide) rfl (Nat.le_of_ble_eq_true rfl) (fun Γ C => ?_)
  unfold s_X9_writeSetupOffice
  refine G_aload_n C 0 dX9_writeSetupOffice_0 rfl ?_
  refine G_get C 0 6 dX9_writeSetupOffice_1 inlX9 uf_X9_61 rfl (by decide) rfl rfl rfl ?_
  refine G_ldcwS C 10 dX9_writeSetupOffice_4 rfl ?_
  refine G_callVv C 49 7 kd_X7_addWord ui_X7_addWord us_X7_addWord um_X9_317 rfl rfl (Ct.chunk1 (cs := ro_C K A Y) (cs' := ro_C K A (yU Y 3 (s_X7_addWord_p (Y 3) 10))) 4 rfl (ro_u3 K A Y _) (c_X7_addWord_p l K (A 3) (Y 3) (j := 10) (by decide))) dX9_writeSetupOffice_7 rfl rfl (Nat.le_of_ble_eq_true rfl) (Nat.le_of_ble_eq_true rfl) ?_
  refine G_sub [0, 1] rfl ?_
  exact g_X9_writeSetupOffice_L10 C (yU Y 3 (s_X7_addWord_p (Y 3) 10)) x1
/-! X9_writeSetupLetters -/
theorem kd_X9_writeSetupLetters : Card yX9_writeSetupLetters cX9_writeSetupLetters 3 none 1 := ⟨uc_X9_writeSetupLetters, un_X9, ⟨by decide, by decide, by decide⟩, by decide⟩
def s_X9_writeSetupLetters_L94 (rc : RS → Int32 → Int32 → RS) (Y : RS) (x1 : Int32) (x2 : Int32) : RS := rc (yU Y 3 (s_X7_add_p (Y 3) 59)) x1 (x2 + 1)
theorem g_X9_writeSetupLetters_L94 {l : Launch} {K : gK} {Γ : gT} {A : Nat → Nat → Nat} (C : Cx l K Γ RX9 cX9_writeSetupLetters 3 none 7) (rc : RS → Int32 → Int32 → RS) (n : Nat) (hrc : ∀ (Y : RS) (x1 : Int32) (x2 : Int32), mu x2 < n → G l K Γ (ro_W K A Y) 2 3 [(0, .ref (A 4 0)), (1, .int x1), (2, .int x2)] [] (fun z => (none, ro_W K A z)) (rc Y x1 x2)) (Y : RS) (x1 : Int32) (x2 : Int32) (hb : mu (x2 + 1) < n) : G l K Γ (ro_W K A Y) 94 3 [(0, .ref (A 4 0)), (1, .int x1), (2, .int x2)] [] (fun z => (none, ro_W K A z)) (s_X9_writeSetupLetters_L94 rc Y x1 x2) := by
  unfold s_X9_writeSetupLetters_L94
  refine G_aload_n C 0 dX9_writeSetupLetters_94 rfl ?_
  refine G_get C 0 6 dX9_writeSetupLetters_95 inlX9 uf_X9_61 rfl (by decide) rfl rfl rfl ?_
  refine G_bipush C dX9_writeSetupLetters_98 (v := 59) rfl ?_
  refine G_callVv C 49 7 kd_X7_add ui_X7_add us_X7_add um_X9_314 rfl rfl (Ct.chunk1 (cs := ro_C K A Y) (cs' := ro_C K A (yU Y 3 (s_X7_add_p (Y 3) 59))) 4 rfl (ro_u3 K A Y _) (c_X7_add_p l K (A 3) (Y 3) 59)) dX9_writeSetupLetters_100 rfl rfl (Nat.le_of_ble_eq_true rfl) (Nat.le_of_ble_eq_true rfl) ?_
  refine G_iinc (lv' := [(2, .int (x2 + 1)), (0, .ref (A 4 0)), (1, .int x1)]) C 2 dX9_writeSetupLetters_103 rfl rfl (by decide) rfl ?_
  refine G_goto C 2 dX9_writeSetupLetters_106 rfl ?_
  refine G_sub [1, 2, 0] rfl ?_
  exact hrc (yU Y 3 (s_X7_add_p (Y 3) 59)) x1 (x2 + 1) hb
def s_X9_writeSetupLetters_L75 (rc : RS → Int32 → Int32 → RS) (Y : RS) (x1 : Int32) (x2 : Int32) : RS := s_X9_writeSetupLetters_L94 rc (yU Y 3 (s_X7_addNumber_p (Y 3) (v_X2_lengthOf (Y 0) x1 x2))) x1 x2
theorem g_X9_writeSetupLetters_L75 {l : Launch} {K : gK} {Γ : gT} {A : Nat → Nat → Nat} (C : Cx l K Γ RX9 cX9_writeSetupLetters 3 none 7) (rc : RS → Int32 → Int32 → RS) (n : Nat) (hrc : ∀ (Y : RS) (x1 : Int32) (x2 : Int32), mu x2 < n → G l K Γ (ro_W K A Y) 2 3 [(0, .ref (A 4 0)), (1, .int x1), (2, .int x2)] [] (fun z => (none, ro_W K A z)) (rc Y x1 x2)) (Y : RS) (x1 : Int32) (x2 : Int32) (hb : mu (x2 + 1) < n) : G l K Γ (ro_W K A Y) 75 3 [(0, .ref (A 4 0)), (1, .int x1), (2, .int x2)] [] (fun z => (none, ro_W K A z)) (s_X9_writeSetupLetters_L75 rc Y x1 x2) := by
  unfold s_X9_writeSetupLetters_L75
  refine G_aload_n C 0 dX9_writeSetupLetters_75 rfl ?_
  refine G_get C 0 6 dX9_writeSetupLetters_76 inlX9 uf_X9_61 rfl (by decide) rfl rfl rfl ?_
  refine G_aload_n C 0 dX9_writeSetupLetters_79 rfl ?_
  refine G_get C 0 0 dX9_writeSetupLetters_80 inlX9 uf_X9_10 rfl (by decide) rfl rfl rfl ?_
  refine G_get C 1 2 dX9_writeSetupLetters_83 inlX6 uf_X9_89 rfl (by decide) rfl rfl rfl ?_
  refine G_iload_n C 1 dX9_writeSetupLetters_86 rfl ?_
  refine G_iload_n C 2 dX9_writeSetupLetters_87 rfl ?_
  refine G_callVi C 4 2 kd_X2_lengthOf ui_X2_lengthOf us_X2_lengthOf um_X9_147 rfl rfl (Ct.chunk1 (cs := ro_C K A Y) (cs' := ro_C K A Y) 1 rfl rfl (c_X2_lengthOf l K (A 0) (Y 0) x1 x2)) dX9_writeSetupLetters_88 rfl rfl (Nat.le_of_ble_eq_true rfl) (Nat.le_of_ble_eq_true rfl) ?_
  refine G_callVv C 49 7 kd_X7_addNumber ui_X7_addNumber us_X7_addNumber um_X9_311 rfl rfl (Ct.chunk1 (cs := ro_C K A Y) (cs' := ro_C K A (yU Y 3 (s_X7_addNumber_p (Y 3) (v_X2_lengthOf (Y 0) x1 x2)))) 4 rfl (ro_u3 K A Y _) (c_X7_addNumber_p l K (A 3) (Y 3) (v_X2_lengthOf (Y 0) x1 x2))) dX9_writeSetupLetters_91 rfl rfl (Nat.le_of_ble_eq_true rfl) (Nat.le_of_ble_eq_true rfl) ?_
  refine G_sub [0, 1, 2] rfl ?_
  exact g_X9_writeSetupLetters_L94 C _ n hrc (yU Y 3 (s_X7_addNumber_p (Y 3) (v_X2_lengthOf (Y 0) x1 x2))) x1 x2 hb
def s_X9_writeSetupLetters_L66 (rc : RS → Int32 → Int32 → RS) (Y : RS) (x1 : Int32) (x2 : Int32) : RS := s_X9_writeSetupLetters_L75 rc (yU Y 3 (s_X7_add_p (Y 3) 32)) x1 x2
theorem g_X9_writeSetupLetters_L66 {l : Launch} {K : gK} {Γ : gT} {A : Nat → Nat → Nat} (C : Cx l K Γ RX9 cX9_writeSetupLetters 3 none 7) (rc : RS → Int32 → Int32 → RS) (n : Nat) (hrc : ∀ (Y : RS) (x1 : Int32) (x2 : Int32), mu x2 < n → G l K Γ (ro_W K A Y) 2 3 [(0, .ref (A 4 0)), (1, .int x1), (2, .int x2)] [] (fun z => (none, ro_W K A z)) (rc Y x1 x2)) (Y : RS) (x1 : Int32) (x2 : Int32) (hb : mu (x2 + 1) < n) : G l K Γ (ro_W K A Y) 66 3 [(0, .ref (A 4 0)), (1, .int x1), (2, .int x2)] [] (fun z => (none, ro_W K A z)) (s_X9_writeSetupLetters_L66 rc Y x1 x2) := by
  unfold s_X9_writeSetupLetters_L66
  refine G_aload_n C 0 dX9_writeSetupLetters_66 rfl ?_
  refine G_get C 0 6 dX9_writeSetupLetters_67 inlX9 uf_X9_61 rfl (by decide) rfl rfl rfl ?_
  refine G_bipush C dX9_writeSetupLetters_70 (v := 32) rfl ?_
  refine G_callVv C 49 7 kd_X7_add ui_X7_add us_X7_add um_X9_314 rfl rfl (Ct.chunk1 (cs := ro_C K A Y) (cs' := ro_C K A (yU Y 3 (s_X7_add_p (Y 3) 32))) 4 rfl (ro_u3 K A Y _) (c_X7_add_p l K (A 3) (Y 3) 32)) dX9_writeSetupLetters_72 rfl rfl (Nat.le_of_ble_eq_true rfl) (Nat.le_of_ble_eq_true rfl) ?_
  refine G_sub [0, 1, 2] rfl ?_
  exact g_X9_writeSetupLetters_L75 C _ n hrc (yU Y 3 (s_X7_add_p (Y 3) 32)) x1 x2 hb
def s_X9_writeSetupLetters_L47 (rc : RS → Int32 → Int32 → RS) (Y : RS) (x1 : Int32) (x2 : Int32) : RS := s_X9_writeSetupLetters_L66 rc (yU Y 3 (s_X7_addNumber_p (Y 3) (v_X2_toOf (Y 0) x1 x2))) x1 x2
theorem g_X9_writeSetupLetters_L47 {l : Launch} {K : gK} {Γ : gT} {A : Nat → Nat → Nat} (C : Cx l K Γ RX9 cX9_writeSetupLetters 3 none 7) (rc : RS → Int32 → Int32 → RS) (n : Nat) (hrc : ∀ (Y : RS) (x1 : Int32) (x2 : Int32), mu x2 < n → G l K Γ (ro_W K A Y) 2 3 [(0, .ref (A 4 0)), (1, .int x1), (2, .int x2)] [] (fun z => (none, ro_W K A z)) (rc Y x1 x2)) (Y : RS) (x1 : Int32) (x2 : Int32) (hb : mu (x2 + 1) < n) : G l K Γ (ro_W K A Y) 47 3 [(0, .ref (A 4 0)), (1, .int x1), (2, .int x2)] [] (fun z => (none, ro_W K A z)) (s_X9_writeSetupLetters_L47 rc Y x1 x2) := by
  unfold s_X9_writeSetupLetters_L47
  refine G_aload_n C 0 dX9_writeSetupLetters_47 rfl ?_
  refine G_get C 0 6 dX9_writeSetupLetters_48 inlX9 uf_X9_61 rfl (by decide) rfl rfl rfl ?_
  refine G_aload_n C 0 dX9_writeSetupLetters_51 rfl ?_
  refine G_get C 0 0 dX9_writeSetupLetters_52 inlX9 uf_X9_10 rfl (by decide) rfl rfl rfl ?_
  refine G_get C 1 2 dX9_writeSetupLetters_55 inlX6 uf_X9_89 rfl (by decide) rfl rfl rfl ?_
  refine G_iload_n C 1 dX9_writeSetupLetters_58 rfl ?_
  refine G_iload_n C 2 dX9_writeSetupLetters_59 rfl ?_
  refine G_callVi C 4 2 kd_X2_toOf ui_X2_toOf us_X2_toOf um_X9_246 rfl rfl (Ct.chunk1 (cs := ro_C K A Y) (cs' := ro_C K A Y) 1 rfl rfl (c_X2_toOf l K (A 0) (Y 0) x1 x2)) dX9_writeSetupLetters_60 rfl rfl (Nat.le_of_ble_eq_true rfl) (Nat.le_of_ble_eq_true rfl) ?_
  refine G_callVv C 49 7 kd_X7_addNumber ui_X7_addNumber us_X7_addNumber um_X9_311 rfl rfl (Ct.chunk1 (cs := ro_C K A Y) (cs' := ro_C K A (yU Y 3 (s_X7_addNumber_p (Y 3) (v_X2_toOf (Y 0) x1 x2)))) 4 rfl (ro_u3 K A Y _) (c_X7_addNumber_p l K (A 3) (Y 3) (v_X2_toOf (Y 0) x1 x2))) dX9_writeSetupLetters_63 rfl rfl (Nat.le_of_ble_eq_true rfl) (Nat.le_of_ble_eq_true rfl) ?_
  refine G_sub [0, 1, 2] rfl ?_
  exact g_X9_writeSetupLetters_L66 C _ n hrc (yU Y 3 (s_X7_addNumber_p (Y 3) (v_X2_toOf (Y 0) x1 x2))) x1 x2 hb
def s_X9_writeSetupLetters_L38 (rc : RS → Int32 → Int32 → RS) (Y : RS) (x1 : Int32) (x2 : Int32) : RS := s_X9_writeSetupLetters_L47 rc (yU Y 3 (s_X7_add_p (Y 3) 32)) x1 x2
theorem g_X9_writeSetupLetters_L38 {l : Launch} {K : gK} {Γ : gT} {A : Nat → Nat → Nat} (C : Cx l K Γ RX9 cX9_writeSetupLetters 3 none 7) (rc : RS → Int32 → Int32 → RS) (n : Nat) (hrc : ∀ (Y : RS) (x1 : Int32) (x2 : Int32), mu x2 < n → G l K Γ (ro_W K A Y) 2 3 [(0, .ref (A 4 0)), (1, .int x1), (2, .int x2)] [] (fun z => (none, ro_W K A z)) (rc Y x1 x2)) (Y : RS) (x1 : Int32) (x2 : Int32) (hb : mu (x2 + 1) < n) : G l K Γ (ro_W K A Y) 38 3 [(0, .ref (A 4 0)), (1, .int x1), (2, .int x2)] [] (fun z => (none, ro_W K A z)) (s_X9_writeSetupLetters_L38 rc Y x1 x2) := by
  unfold s_X9_writeSetupLetters_L38
  refine G_aload_n C 0 dX9_writeSetupLetters_38 rfl ?_
  refine G_get C 0 6 dX9_writeSetupLetters_39 inlX9 uf_X9_61 rfl (by decide) rfl rfl rfl ?_
  refine G_bipush C dX9_writeSetupLetters_42 (v := 32) rfl ?_
  refine G_callVv C 49 7 kd_X7_add ui_X7_add us_X7_add um_X9_314 rfl rfl (Ct.chunk1 (cs := ro_C K A Y) (cs' := ro_C K A (yU Y 3 (s_X7_add_p (Y 3) 32))) 4 rfl (ro_u3 K A Y _) (c_X7_add_p l K (A 3) (Y 3) 32)) dX9_writeSetupLetters_44 rfl rfl (Nat.le_of_ble_eq_true rfl) (Nat.le_of_ble_eq_true rfl) ?_
  refine G_sub [0, 1, 2] rfl ?_
  exact g_X9_writeSetupLetters_L47 C _ n hrc (yU Y 3 (s_X7_add_p (Y 3) 32)) x1 x2 hb
def s_X9_writeSetupLetters_L30 (rc : RS → Int32 → Int32 → RS) (Y : RS) (x1 : Int32) (x2 : Int32) : RS := s_X9_writeSetupLetters_L38 rc (yU Y 3 (s_X7_addNumber_p (Y 3) x1)) x1 x2
theorem g_X9_writeSetupLetters_L30 {l : Launch} {K : gK} {Γ : gT} {A : Nat → Nat → Nat} (C : Cx l K Γ RX9 cX9_writeSetupLetters 3 none 7) (rc : RS → Int32 → Int32 → RS) (n : Nat) (hrc : ∀ (Y : RS) (x1 : Int32) (x2 : Int32), mu x2 < n → G l K Γ (ro_W K A Y) 2 3 [(0, .ref (A 4 0)), (1, .int x1), (2, .int x2)] [] (fun z => (none, ro_W K A z)) (rc Y x1 x2)) (Y : RS) (x1 : Int32) (x2 : Int32) (hb : mu (x2 + 1) < n) : G l K Γ (ro_W K A Y) 30 3 [(0, .ref (A 4 0)), (1, .int x1), (2, .int x2)] [] (fun z => (none, ro_W K A z)) (s_X9_writeSetupLetters_L30 rc Y x1 x2) := by
  unfold s_X9_writeSetupLetters_L30
  refine G_aload_n C 0 dX9_writeSetupLetters_30 rfl ?_
  refine G_get C 0 6 dX9_writeSetupLetters_31 inlX9 uf_X9_61 rfl (by decide) rfl rfl rfl ?_
  refine G_iload_n C 1 dX9_writeSetupLetters_34 rfl ?_
  refine G_callVv C 49 7 kd_X7_addNumber ui_X7_addNumber us_X7_addNumber um_X9_311 rfl rfl (Ct.chunk1 (cs := ro_C K A Y) (cs' := ro_C K A (yU Y 3 (s_X7_addNumber_p (Y 3) x1))) 4 rfl (ro_u3 K A Y _) (c_X7_addNumber_p l K (A 3) (Y 3) x1)) dX9_writeSetupLetters_35 rfl rfl (Nat.le_of_ble_eq_true rfl) (Nat.le_of_ble_eq_true rfl) ?_
  refine G_sub [0, 1, 2] rfl ?_
  exact g_X9_writeSetupLetters_L38 C _ n hrc (yU Y 3 (s_X7_addNumber_p (Y 3) x1)) x1 x2 hb
def s_X9_writeSetupLetters_L2 : Nat → RS → Int32 → Int32 → RS
  | 0, Y, _, _ => Y
  | fuel + 1, Y, x1, x2 => if x2 < (at_ 10 (Y 0 7) x1) then s_X9_writeSetupLetters_L30 (s_X9_writeSetupLetters_L2 fuel) (yU Y 3 (s_X7_addWord_p (Y 3) 12)) x1 x2 else Y
theorem g_X9_writeSetupLetters_L2 {l : Launch} {K : gK} {Γ : gT} {A : Nat → Nat → Nat} (C : Cx l K Γ RX9 cX9_writeSetupLetters 3 none 7) : ∀ (n : Nat) (Y : RS) (x1 : Int32) (x2 : Int32), mu x2 < n → G l K Γ (ro_W K A Y) 2 3 [(0, .ref (A 4 0)), (1, .int x1), (2, .int x2)] [] (fun z => (none, ro_W K A z)) (s_X9_writeSetupLetters_L2 n Y x1 x2) := by
  intro n
  induction n with
  | zero =>
    intro Y x1 x2 hm
    exact absurd hm (Nat.not_lt_zero _)
  | succ n ih =>
    intro Y x1 x2 hm
    rw [s_X9_writeSetupLetters_L2]
    refine G_iload_n C 2 dX9_writeSetupLetters_2 rfl ?_
    refine G_aload_n C 0 dX9_writeSetupLetters_3 rfl ?_
    refine G_get C 0 0 dX9_writeSetupLetters_4 inlX9 uf_X9_10 rfl (by decide) rfl rfl rfl ?_
    refine G_get C 1 2 dX9_writeSetupLetters_7 inlX6 uf_X9_89 rfl (by decide) rfl rfl rfl ?_
    refine G_get C 4 5 dX9_writeSetupLetters_10 inlX2 uf_X9_106 rfl (by decide) rfl rfl rfl ?_
    refine G_iload_n C 1 dX9_writeSetupLetters_13 rfl ?_
    refine G_callSi C kd_X9_at ut_X9_at um_X9_110 (c_at l K (ws := ro_W K A Y) (q0 := 10) (n := 10) (g := Y 0 7) (ad := (A 0 9)) (by decide) rfl x1) dX9_writeSetupLetters_14 rfl rfl (Nat.le_of_ble_eq_true rfl) (Nat.le_of_ble_eq_true rfl) ?_
    refine G_icmp_ge C 109 dX9_writeSetupLetters_17 rfl (fun h1 => ?_) (fun h1 => ?_)
    · refine G_aload_n C 0 dX9_writeSetupLetters_20 rfl ?_
      refine G_get C 0 6 dX9_writeSetupLetters_21 inlX9 uf_X9_61 rfl (by decide) rfl rfl rfl ?_
      refine G_ldcwS C 12 dX9_writeSetupLetters_24 rfl ?_
      refine G_callVv C 49 7 kd_X7_addWord ui_X7_addWord us_X7_addWord um_X9_317 rfl rfl (Ct.chunk1 (cs := ro_C K A Y) (cs' := ro_C K A (yU Y 3 (s_X7_addWord_p (Y 3) 12))) 4 rfl (ro_u3 K A Y _) (c_X7_addWord_p l K (A 3) (Y 3) (j := 12) (by decide))) dX9_writeSetupLetters_27 rfl rfl (Nat.le_of_ble_eq_true rfl) (Nat.le_of_ble_eq_true rfl) ?_
      refine G_sub [0, 1, 2] rfl ?_
      exact g_X9_writeSetupLetters_L30 C _ n ih (yU Y 3 (s_X7_addWord_p (Y 3) 12)) x1 x2 (by have := mu_up h1; omega)
    · exact G_vret C dX9_writeSetupLetters_109 rfl
def s_X9_writeSetupLetters (Y : RS) (x1 : Int32) : RS := s_X9_writeSetupLetters_L2 (mu 0 + 1) Y x1 0
theorem c_X9_writeSetupLetters (l : Launch) (K : gK) (A : Nat → Nat → Nat) (Y : RS) (x1 : Int32) : Ct l K yX9_writeSetupLetters cX9_writeSetupLetters 3 none 7 [.ref (A 4 0), .int x1] (ro_W K A Y) (none, ro_W K A (s_X9_writeSetupLetters Y x1)) := by
  refine Ct.of (own := RX9) (fun z => (none, ro_W K A z)) (x := s_X9_writeSetupLetters Y x1) (by decide) rfl (Nat.le_of_ble_eq_true rfl) (fun Γ C => ?_)
  unfold s_X9_writeSetupLetters
  refine G_iconst C dX9_writeSetupLetters_0 (v := 0) rfl ?_
  refine G_istore_n (lv' := [(2, .int 0), (0, .ref (A 4 0)), (1, .int x1)]) C dX9_writeSetupLetters_1 (by decide) rfl ?_
  refine G_sub [1, 2, 0] rfl ?_
  exact g_X9_writeSetupLetters_L2 C _ Y x1 0 (Nat.lt_succ_self _)
