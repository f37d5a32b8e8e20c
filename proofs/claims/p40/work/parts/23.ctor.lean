-- PART 23: RingOffices() and RingOfficesModel()
theorem kd_X9_init : Card yX9_init cX9_init 1 none 0 := ⟨uc_X9_init, un_X9, ⟨by decide, by decide, by decide⟩, by decide⟩
def Y1 : RS := yF (fun _ => zS) 0 (-2)
def Y2 : RS := yU Y1 0 (s_X6_beginAsNew zS)
def roA (a q5 : Nat) (f5 : Nat → Nat) (q16 : Nat) (f16 : Nat × (Nat → Nat → Nat)) (q27 : Nat) (f27 : (Nat × Nat) × (Nat → Nat → Nat)) (q38 : Nat) (f38 : (Nat × (Nat → Nat)) × (Nat → Nat)) (q74 : Nat) (f74 : Nat → Nat) : Nat → Nat → Nat := fun i => match i with
  | 0 => aU q5 f5
  | 1 => f38.2
  | 2 => pt_A q38 f38.1
  | 3 => aU q74 f74
  | 4 => fun j => match j with
    | 0 => a
    | 1 => q16
    | 2 => f16.1
    | 3 => q27
    | 4 => f27.1.1
    | _ => f27.1.2
  | 5 => f16.2 0
  | 6 => f16.2 1
  | 7 => f16.2 2
  | 8 => f16.2 3
  | 9 => f16.2 4
  | 10 => f16.2 5
  | 11 => f16.2 6
  | 12 => f16.2 7
  | 13 => f27.2 0
  | _ => f27.2 1
theorem ro_perm (c s0 h hs sl ss pc s1 tx : va_W) : (c ++ s0 ++ (h ++ hs) ++ (sl ++ ss) ++ (pc ++ s1) ++ tx).Perm (c ++ (s0 ++ (pc ++ (s1 ++ (tx ++ (h ++ (sl ++ (hs ++ ss)))))))) := by
  have e1 : c ++ s0 ++ (h ++ hs) ++ (sl ++ ss) ++ (pc ++ s1) ++ tx = c ++ (s0 ++ ((h ++ (hs ++ (sl ++ ss))) ++ (pc ++ (s1 ++ tx)))) := by simp only [List.append_assoc]
  have e2 : c ++ (s0 ++ (pc ++ (s1 ++ (tx ++ (h ++ (sl ++ (hs ++ ss))))))) = c ++ (s0 ++ ((pc ++ (s1 ++ tx)) ++ (h ++ (sl ++ (hs ++ ss))))) := by simp only [List.append_assoc]
  rw [e1, e2]
  refine List.Perm.append_left _ (List.Perm.append_left _ ?_)
  exact List.perm_append_comm.trans (List.Perm.append_left _ (List.Perm.append_left _ (List.perm_append_comm_assoc _ _ _)))
set_option maxHeartbeats 4000000 in
theorem g_X9_48 {l : Launch} {K : gK} {Γ : gT} {Q : State → Prop} {a q5 q16 q27 q38 : Nat} {f38 : (Nat × (Nat → Nat)) × (Nat → Nat)} (C : Cx l K Γ RX9 cX9_init 1 none 4) (Y : Cy Γ 275 6513) (Z : Ci Γ) (U : va_W) (kf : ∀ q74 f74, J l K Γ Q 275 6513 ([(a, .inr (9, [.ref q5, .ref q16, .ref q27, .ref q38, .ref (f38.1.2 0), .ref (f38.2 0), .ref q74, .int (-2)]))] ++ pa_W K (pt_A q38 f38.1) f38.2 zS (fun _ => 0, 0, zS) ++ U ++ tx_W K (aU q74 f74) 1024 zS) 93 1 [(0, .ref a)] []) : J l K Γ Q 273 5487 ([(a, .inr (9, [.ref q5, .ref q16, .ref q27, .ref q38, .null, .null, .null, .int 0]))] ++ pa_W K (pt_A q38 f38.1) f38.2 zS (fun _ => 0, 0, zS) ++ U) 48 1 [(0, .ref a)] [] := by
  refine J_aload_n C 0 dX9_init_48 rfl ?_
  refine J_aload_n C 0 dX9_init_49 rfl ?_
  refine J_get C 0 3 dX9_init_50 inlX9 uf_X9_33 rfl (by decide) rfl rfl rfl ?_
  refine J_get C 1 0 dX9_init_53 inlX4 uf_X9_37 rfl (by decide) rfl rfl rfl ?_
  refine J_get C 2 0 dX9_init_56 inlX3 uf_X9_41 rfl (by decide) rfl rfl rfl ?_
  refine J_putF C Z 0 4 tyX9 (.object "RingOffices$Text") ([(a, .inr (9, [.ref q5, .ref q16, .ref q27, .ref q38, .ref (f38.1.2 0), .null, .null, .int 0]))] ++ pa_W K (pt_A q38 f38.1) f38.2 zS (fun _ => 0, 0, zS) ++ U) dX9_init_59 inlX9 uf_X9_47 tyX9_ok nmX9 rfl (by decide) rfl rfl rfl rfl rfl rfl rfl (Nat.le_of_ble_eq_true rfl) rfl ?_
  refine J_aload_n C 0 dX9_init_62 rfl ?_
  refine J_aload_n C 0 dX9_init_63 rfl ?_
  refine J_get C 0 3 dX9_init_64 inlX9 uf_X9_33 rfl (by decide) rfl rfl rfl ?_
  refine J_get C 1 1 dX9_init_67 inlX4 uf_X9_50 rfl (by decide) rfl rfl rfl ?_
  refine J_putF C Z 0 5 tyX9 (.object "RingOffices$State") ([(a, .inr (9, [.ref q5, .ref q16, .ref q27, .ref q38, .ref (f38.1.2 0), .ref (f38.2 0), .null, .int 0]))] ++ pa_W K (pt_A q38 f38.1) f38.2 zS (fun _ => 0, 0, zS) ++ U) dX9_init_70 inlX9 uf_X9_53 tyX9_ok nmX9 rfl (by decide) rfl rfl rfl rfl rfl rfl rfl (Nat.le_of_ble_eq_true rfl) rfl ?_
  refine J_aload_n C 0 dX9_init_73 rfl ?_
  refine J_new C Y 7 [.null, .int 0] tyX7 dX9_init_74 inlX7 tyX7_ok ul_X9_56 ua_X7 un_X7 rfl (fun j hj => by rcases (show j = 0 ∨ j = 1 by omega) with rfl | rfl <;> rfl) (Nat.le_of_ble_eq_true rfl) (Nat.le_of_ble_eq_true rfl) (fun q74 => ?_)
  refine J_dup C dX9_init_77 rfl ?_
  refine J_sipush C dX9_init_78 (v := 1024) rfl ?_
  refine J_callI (host := "") C Y kd_X7_init rfl ui_X7_init um_X9_58 (Ca.right _ (c_X7_init l K q74 (n := 1024) 1024 (by decide) rfl (by decide))) dX9_init_81 rfl rfl (by decide) (Nat.le_of_ble_eq_true rfl) (Nat.le_of_ble_eq_true rfl) (Nat.le_of_ble_eq_true rfl) (fun f74 => ?_)
  refine J_putF C Z 0 6 tyX9 (.object "RingOffices$Text") ([(a, .inr (9, [.ref q5, .ref q16, .ref q27, .ref q38, .ref (f38.1.2 0), .ref (f38.2 0), .ref q74, .int 0]))] ++ pa_W K (pt_A q38 f38.1) f38.2 zS (fun _ => 0, 0, zS) ++ U ++ tx_W K (aU q74 f74) 1024 zS) dX9_init_84 inlX9 uf_X9_61 tyX9_ok nmX9 rfl (by decide) rfl rfl rfl rfl rfl rfl rfl (Nat.le_of_ble_eq_true rfl) rfl ?_
  refine J_aload_n C 0 dX9_init_87 rfl ?_
  refine J_bipush C dX9_init_88 (v := -2) rfl ?_
  refine J_put (ws' := [(a, .inr (9, [.ref q5, .ref q16, .ref q27, .ref q38, .ref (f38.1.2 0), .ref (f38.2 0), .ref q74, .int (-2)]))] ++ pa_W K (pt_A q38 f38.1) f38.2 zS (fun _ => 0, 0, zS) ++ U ++ tx_W K (aU q74 f74) 1024 zS) C 0 7 tyX9 (.int) dX9_init_90 inlX9 uf_X9_64 tyX9_ok nmX9 rfl (by decide) rfl rfl rfl rfl rfl rfl (Nat.le_of_ble_eq_true rfl) rfl ?_
  exact kf q74 f74
theorem ro_perm0 (c s0 h sl pa : va_W) : (c ++ s0 ++ h ++ sl ++ pa).Perm (c ++ pa ++ (s0 ++ (h ++ sl))) := by
  have e1 : c ++ s0 ++ h ++ sl ++ pa = c ++ ((s0 ++ (h ++ sl)) ++ pa) := by simp only [List.append_assoc]
  have e2 : c ++ pa ++ (s0 ++ (h ++ sl)) = c ++ (pa ++ (s0 ++ (h ++ sl))) := by simp only [List.append_assoc]
  rw [e1, e2]
  exact List.Perm.append_left _ List.perm_append_comm
theorem ro_perm1 (c s0 h hs sl ss pc s1 tx : va_W) : (c ++ (pc ++ s1) ++ (s0 ++ ((h ++ hs) ++ (sl ++ ss))) ++ tx).Perm (c ++ (s0 ++ (pc ++ (s1 ++ (tx ++ (h ++ (sl ++ (hs ++ ss)))))))) := by
  refine List.Perm.trans ?_ (ro_perm c s0 h hs sl ss pc s1 tx)
  refine List.Perm.append_right _ ?_
  have e1 : c ++ (pc ++ s1) ++ (s0 ++ ((h ++ hs) ++ (sl ++ ss))) = c ++ ((pc ++ s1) ++ (s0 ++ ((h ++ hs) ++ (sl ++ ss)))) := by simp only [List.append_assoc]
  have e2 : c ++ s0 ++ (h ++ hs) ++ (sl ++ ss) ++ (pc ++ s1) = c ++ ((s0 ++ ((h ++ hs) ++ (sl ++ ss))) ++ (pc ++ s1)) := by simp only [List.append_assoc]
  rw [e1, e2]
  exact List.Perm.append_left _ List.perm_append_comm
theorem ro_Y1 (K : gK) (A : Nat → Nat → Nat) : ro_W K A Y1 = [(A 4 0, .inr (9, [.ref (A 0 0), .ref (A 4 1), .ref (A 4 3), .ref (A 2 3), .ref (A 2 0), .ref (A 1 0), .ref (A 3 0), .int (-2)]))] ++ (st_W K (A 0) zS ++ (pc_W K (A 2) (A 1) zS (fun _ => 0) 0 ++ (st_W K (A 1) zS ++ (tx_W K (A 3) 1024 zS ++ ([(A 4 1, .inr (0, [.ref (A 4 2), .int 0, .int 0])), (A 4 2, .inl (K.2 3, 8, .inr (.inr (.inr (.inr (fun i => some (A (5 + i) 0)))))))] ++ ([(A 4 3, .inr (5, [.ref (A 4 4), .ref (A 4 5)])), (A 4 4, .inl (K.2 3, 2, .inr (.inr (.inr (.inr (fun i => some (A (13 + i) 0))))))), (A 4 5, .inl (K.2 2, 2, .inl (fun _ => 0)))] ++ (((List.range 10).map (fun i => st_W K (A (5 + i)) zS)).flatten))))))) := rfl

theorem ro_st (K : gK) (A B D : Nat → Nat → Nat) (h1 : ∀ j, j < 8 → A (5 + j) = B j) (h2 : ∀ j, j < 2 → A (13 + j) = D j) : ((List.range 10).map (fun i => st_W K (A (5 + i)) zS)).flatten = hS K B 8 ++ hS K D 2 := by
  unfold hS
  rw [show List.range 10 = List.range 8 ++ (List.range 2).map (fun i => 8 + i) from rfl, List.map_append, List.flatten_append, List.map_map]
  congr 1
  · congr 1
    refine List.map_congr_left (fun j hj => ?_)
    rw [h1 j (List.mem_range.mp hj)]
  · congr 1
    refine List.map_congr_left (fun j hj => ?_)
    show st_W K (A (5 + (8 + j))) zS = _
    rw [show 5 + (8 + j) = 13 + j by omega, h2 j (List.mem_range.mp hj)]
theorem g_X9_93 {l : Launch} {K : gK} {Γ : gT} {Q : State → Prop} {CM CS cs ss : Nat} (C : Cx l K Γ RX9 cX9_init 1 none 4) (Y : Cy Γ CM CS) (hc : cs ≤ CM) (hs : ss ≤ CS) (A : Nat → Nat → Nat) (kf : J l K Γ Q cs ss (ro_W K A Y2) 100 1 [(0, .ref (A 4 0))] []) : J l K Γ Q cs ss (ro_W K A Y1) 93 1 [(0, .ref (A 4 0))] [] := by
  refine J_aload_n C 0 dX9_init_93 rfl ?_
  refine J_get C 0 0 dX9_init_94 inlX9 uf_X9_10 rfl (by decide) rfl rfl rfl ?_
  refine J_callV (ws' := ro_W K A Y2) (v := none) (rest := []) C Y hc hs 1 6 kd_X6_beginAsNew ui_X6_beginAsNew us_X6_beginAsNew um_X9_68 rfl rfl (Ct.chunk1 (cs := ro_C K A Y1) (cs' := ro_C K A Y2) 1 rfl (ro_u0 K A Y1 _) (c_X6_beginAsNew l K (A 0) (Y1 0))) dX9_init_97 rfl rfl (by decide) (Nat.le_of_ble_eq_true rfl) ?_
  exact kf
def xW (D : va_G) (u v : va_W) : Prop := u.map (fun q => q.1) = v.map (fun q => q.1) ∧ ∀ H, va_P D classes u H → va_P D classes v H
theorem xW.rf {D : va_G} {u : va_W} : xW D u u := ⟨rfl, fun _ h => h⟩
theorem xW.app {D : va_G} {u v u' v' : va_W} (h1 : xW D u u') (h2 : xW D v v') : xW D (u ++ v) (u' ++ v') := by
  refine ⟨by rw [List.map_append, List.map_append, h1.1, h2.1], fun H h => ?_⟩
  rw [va_P_iff] at h ⊢
  intro q hq
  rcases List.mem_append.mp hq with g | g
  · exact va_P_iff.mp (h1.2 H (va_P_iff.mpr fun q hq => h q (List.mem_append_left _ hq))) q g
  · exact va_P_iff.mp (h2.2 H (va_P_iff.mpr fun q hq => h q (List.mem_append_right _ hq))) q g
theorem xW.arr {D : va_G} {r n : Nat} {cA : ClassId} {g g' : Nat → Option Nat} (h : ∀ i, i < n → g i = g' i) : xW D [(r, .inl (cA, n, .inr (.inr (.inr (.inr g)))))] [(r, .inl (cA, n, .inr (.inr (.inr (.inr g')))))] := by
  refine ⟨rfl, fun H hP => ?_⟩
  intro i q hi
  have hi0 : i < 1 := (List.getElem?_eq_some_iff.mp hi).1
  rw [show i = 0 by omega] at hi
  cases hi
  have h1 : H[r]? = some (vp_cell cA (n, .inr (.inr (.inr (.inr g))))) := hP 0 _ rfl
  show H[r]? = some (vp_cell cA (n, .inr (.inr (.inr (.inr g')))))
  rw [h1, vp_cell_q, vp_cell_q, arrV_cong (fun i hi => by rw [h i hi])]
theorem J_xW {l : Launch} {K : gK} {Γ : gT} {Q : State → Prop} {cs ss pc nL : Nat} {lv : List (Nat × Value)} {st : List Value} {u v : va_W} (h : xW K.1 u v) (k : J l K Γ Q cs ss v pc nL lv st) : J l K Γ Q cs ss u pc nL lv st := by
  obtain ⟨p, e, R, s, m, args, below, meth, cm, A⟩ := Γ
  intro H locs ls hP hD hS hl
  refine k H locs ls (h.2 H hP) ?_ hS hl
  rw [va_D_iff] at hD ⊢
  rw [← h.1]
  refine ⟨hD.1, fun q hq => ?_⟩
  have hm : q.1 ∈ u.map (fun q => q.1) := by
    rw [h.1]
    exact List.mem_map.mpr ⟨q, hq, rfl⟩
  obtain ⟨x, hx, e⟩ := List.mem_map.mp hm
  rw [← e]
  exact hD.2 x hx
set_option maxHeartbeats 4000000 in
theorem c_X9_init (l : Launch) (K : gK) (a : Nat) : Ca l K yX9_init cX9_init 1 4 275 6513 [.ref a] [(a, .inr (9, [.null, .null, .null, .null, .null, .null, .null, .int 0]))] (fun u : {A : Nat → Nat → Nat // A 4 0 = a} => ro_W K u.1 Y2) := by
  refine Ca.of (own := RX9) (by decide) rfl rfl (Nat.le_of_ble_eq_true rfl) (fun Γ C Y Z => ?_)
  refine J_aload_n C 0 dX9_init_0 rfl ?_
  refine J_obj C dX9_init_1 um_X9_1 (by decide) (Nat.le_of_ble_eq_true rfl) ?_
  refine J_aload_n C 0 dX9_init_4 rfl ?_
  refine J_new C Y 6 [.null, .null, .null, .null, .null, .int 0, .int 0] tyX6 dX9_init_5 inlX6 tyX6_ok ul_X9_7 ua_X6 un_X6 rfl (fun j hj => by rcases (show j = 0 ∨ j = 1 ∨ j = 2 ∨ j = 3 ∨ j = 4 ∨ j = 5 ∨ j = 6 by omega) with rfl | rfl | rfl | rfl | rfl | rfl | rfl <;> rfl) (Nat.le_of_ble_eq_true rfl) (Nat.le_of_ble_eq_true rfl) (fun q5 => ?_)
  refine J_dup C dX9_init_8 rfl ?_
  refine J_callIN (host := RX9) C Y kd_X6_init rfl ui_X6_init nw_0 (Ca.right _ (c_X6_init l K q5)) dX9_init_9 rfl rfl (by decide) (Nat.le_of_ble_eq_true rfl) (Nat.le_of_ble_eq_true rfl) (Nat.le_of_ble_eq_true rfl) (fun f5 => ?_)
  refine J_putF C Z 0 0 tyX9 (.object "RingOffices$State") ([(a, .inr (9, [.ref q5, .null, .null, .null, .null, .null, .null, .int 0]))] ++ st_W K (aU q5 f5) zS) dX9_init_12 inlX9 uf_X9_10 tyX9_ok nmX9 rfl (by decide) rfl rfl rfl rfl rfl rfl rfl (Nat.le_of_ble_eq_true rfl) rfl ?_
  refine J_aload_n C 0 dX9_init_15 rfl ?_
  refine J_new C Y 0 [.null, .int 0, .int 0] tyX0 dX9_init_16 inlX0 tyX0_ok ul_X9_16 ua_X0 un_X0 rfl (fun j hj => by rcases (show j = 0 ∨ j = 1 ∨ j = 2 by omega) with rfl | rfl | rfl <;> rfl) (Nat.le_of_ble_eq_true rfl) (Nat.le_of_ble_eq_true rfl) (fun q16 => ?_)
  refine J_dup C dX9_init_19 rfl ?_
  refine J_callI (host := "") C Y kd_X0_init rfl ui_X0_init um_X9_18 (Ca.right _ (c_X0_init l K q16)) dX9_init_20 rfl rfl (by decide) (Nat.le_of_ble_eq_true rfl) (Nat.le_of_ble_eq_true rfl) (Nat.le_of_ble_eq_true rfl) (fun f16 => ?_)
  refine J_putF C Z 0 1 tyX9 (.object "RingOffices$History") ([(a, .inr (9, [.ref q5, .ref q16, .null, .null, .null, .null, .null, .int 0]))] ++ st_W K (aU q5 f5) zS ++ hi_I K q16 f16.1 f16.2) dX9_init_23 inlX9 uf_X9_19 tyX9_ok nmX9 rfl (by decide) rfl rfl rfl rfl rfl rfl rfl (Nat.le_of_ble_eq_true rfl) rfl ?_
  refine J_aload_n C 0 dX9_init_26 rfl ?_
  refine J_new C Y 5 [.null, .null] tyX5 dX9_init_27 inlX5 tyX5_ok ul_X9_23 ua_X5 un_X5 rfl (fun j hj => by rcases (show j = 0 ∨ j = 1 by omega) with rfl | rfl <;> rfl) (Nat.le_of_ble_eq_true rfl) (Nat.le_of_ble_eq_true rfl) (fun q27 => ?_)
  refine J_dup C dX9_init_30 rfl ?_
  refine J_callI (host := "") C Y kd_X5_init rfl ui_X5_init um_X9_25 (Ca.right _ (c_X5_init l K q27)) dX9_init_31 rfl rfl (by decide) (Nat.le_of_ble_eq_true rfl) (Nat.le_of_ble_eq_true rfl) (Nat.le_of_ble_eq_true rfl) (fun f27 => ?_)
  refine J_putF C Z 0 2 tyX9 (.object "RingOffices$Slots") ([(a, .inr (9, [.ref q5, .ref q16, .ref q27, .null, .null, .null, .null, .int 0]))] ++ st_W K (aU q5 f5) zS ++ hi_I K q16 f16.1 f16.2 ++ sl_I K q27 f27.1.1 f27.1.2 f27.2) dX9_init_34 inlX9 uf_X9_26 tyX9_ok nmX9 rfl (by decide) rfl rfl rfl rfl rfl rfl rfl (Nat.le_of_ble_eq_true rfl) rfl ?_
  refine J_aload_n C 0 dX9_init_37 rfl ?_
  refine J_new C Y 4 [.null, .null, .int 0] tyX4 dX9_init_38 inlX4 tyX4_ok ul_X9_30 ua_X4 un_X4 rfl (fun j hj => by rcases (show j = 0 ∨ j = 1 ∨ j = 2 by omega) with rfl | rfl | rfl <;> rfl) (Nat.le_of_ble_eq_true rfl) (Nat.le_of_ble_eq_true rfl) (fun q38 => ?_)
  refine J_dup C dX9_init_41 rfl ?_
  refine J_callIN (host := RX9) C Y kd_X4_init rfl ui_X4_init nw_6 (Ca.right _ (c_X4_init l K q38)) dX9_init_42 rfl rfl (by decide) (Nat.le_of_ble_eq_true rfl) (Nat.le_of_ble_eq_true rfl) (Nat.le_of_ble_eq_true rfl) (fun f38 => ?_)
  refine J_putF C Z 0 3 tyX9 (.object "RingOffices$SetupParser") ([(a, .inr (9, [.ref q5, .ref q16, .ref q27, .ref q38, .null, .null, .null, .int 0]))] ++ st_W K (aU q5 f5) zS ++ hi_I K q16 f16.1 f16.2 ++ sl_I K q27 f27.1.1 f27.1.2 f27.2 ++ pa_W K (pt_A q38 f38.1) f38.2 zS (fun _ => 0, 0, zS)) dX9_init_45 inlX9 uf_X9_33 tyX9_ok nmX9 rfl (by decide) rfl rfl rfl rfl rfl rfl rfl (Nat.le_of_ble_eq_true rfl) rfl ?_
  refine J_perm (ro_perm0 _ _ _ _ _) ?_
  refine g_X9_48 C Y Z _ (fun q74 f74 => ?_)
  have e := ro_Y1 K (roA a q5 f5 q16 f16 q27 f27 q38 f38 q74 f74)
  rw [ro_st K (roA a q5 f5 q16 f16 q27 f27 q38 f38 q74 f74) f16.2 f27.2 (fun j hj => by rcases (show j = 0 ∨ j = 1 ∨ j = 2 ∨ j = 3 ∨ j = 4 ∨ j = 5 ∨ j = 6 ∨ j = 7 by omega) with rfl | rfl | rfl | rfl | rfl | rfl | rfl | rfl <;> rfl) (fun j hj => by rcases (show j = 0 ∨ j = 1 by omega) with rfl | rfl <;> rfl)] at e
  refine J_perm (ro_perm1 _ _ (hX0' K q16 f16.1 0 (fun i => some (f16.2 i 0))) (hS K f16.2 8) (hX5' K q27 f27.1.1 f27.1.2 (fun i => some (f27.2 i 0))) (hS K f27.2 2) (pc_W K (pt_A q38 f38.1) f38.2 zS (fun _ => 0) 0) (st_W K f38.2 zS) _) ?_
  refine J_xW (v := ro_W K (roA a q5 f5 q16 f16 q27 f27 q38 f38 q74 f74) Y1) ?_ (g_X9_93 C Y (Nat.le_of_ble_eq_true rfl) (Nat.le_of_ble_eq_true rfl) (roA a q5 f5 q16 f16 q27 f27 q38 f38 q74 f74) (J_vret C ⟨(roA a q5 f5 q16 f16 q27 f27 q38 f38 q74 f74), rfl⟩ dX9_init_100 (Nat.le_of_ble_eq_true rfl) (Nat.le_of_ble_eq_true rfl) rfl))
  rw [e]
  refine xW.app (xW.rf (u := [_])) (xW.app (xW.rf (u := st_W K (aU q5 f5) zS)) (xW.app (xW.rf (u := pc_W K (pt_A q38 f38.1) f38.2 zS (fun _ => 0) 0)) (xW.app (xW.rf (u := st_W K f38.2 zS)) (xW.app (xW.rf (u := tx_W K (aU q74 f74) 1024 zS)) (xW.app ?_ (xW.app ?_ xW.rf))))))
  · exact xW.app (u := [_]) (v := [_]) xW.rf (xW.arr (fun i hi => by rcases (show i = 0 ∨ i = 1 ∨ i = 2 ∨ i = 3 ∨ i = 4 ∨ i = 5 ∨ i = 6 ∨ i = 7 by omega) with rfl | rfl | rfl | rfl | rfl | rfl | rfl | rfl <;> rfl))
  · exact xW.app (u := [_]) (v := [_, _]) xW.rf (xW.app (u := [_]) (v := [_]) (xW.arr (fun i hi => by rcases (show i = 0 ∨ i = 1 by omega) with rfl | rfl <;> rfl)) xW.rf)
