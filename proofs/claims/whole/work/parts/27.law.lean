-- PART 27: the loop of the law, and the claim (behind YOUR PART: the skeleton of the page, as it stands)
/-! THE CLAIM OUT OF ONE WALK OF THE LAW'S BODY. Your part is whole_start (and what it stands on); all else here is the same for every law, but numbers. -/
def R_law : String := "RingOfficesLaw"
def lw_P (b : Addr) (xs : List Int32) (args : Array Value) (s : State) : Prop := args = #[.ref b] ∧ s.IntsAt b xs ∧ xs.length ≤ 3072 ∧ (Jvm.Cond.and given_1 narrow_1).before args s = true
/-- what a walk over the start with the record d0 says of its end, said of the start itself -/
theorem lw_closed {s t : State} {o : Outcome} {d0 : Drawn} {L : List Loc} {k n : Nat} (hd0 : s.drawn.sameBut d0 lw_cs) (hv : ∃ v, o = .returned v) (hW : (s.setDrawn d0).WarmedH t.vm) (hs : (s.setDrawn d0).sameButNew ({ t with vm := s.vm } : State) L k n) : State.butDraws s t lw_cs (fun t1 => Framed s o t1 L k n) := by
  have h2 : t.drawn = d0 := congrArg State.drawn hs.1
  refine ⟨⟨hv, hW, State.sameButNew.setDrawn hs s.drawn⟩, ?_, by decide⟩
  rw [h2]
  exact hd0
def lw_Q (_ : Array Value) (s : State) (o : Outcome) (t : State) : Prop := o = .returned (some (.int 1)) ∧ State.butDraws s t lw_cs (fun t1 => Framed s o t1 [] 600000 7302250)
def lw_Z (below : List Frame) (a : Array Value) (s : State) : State → Prop := fun t => ∃ o, t.status = .running ∧ Ended t below o ∧ lw_Q a s o t
/-- the law's own end, with 1 on the stack, nothing written that was there before, its room as the claim has it; d0: the record of draws at this point (at the entry s.drawn: begin with 'refine W.base ?_' and 'have hd0 := Drawn.sameBut.refl s.drawn lw_cs') -/
theorem lw_ret {p : Program} {l : Launch} {e : Env} {s : State} {m : MethodId} {below : List Frame} {meth : Method} {c : Code} {b : Nat} {d0 : Drawn} (hd0 : s.drawn.sameBut d0 lw_cs) (hx : p.tables.exec = Jvm.exec) (hb : c.code = code) (hr : meth.sig.returnType = ret) (hlocks : meth.locks = false) {pc : Nat} {H : Heap} {ls : Array Slot} (hdg : decode code pc = .ok (.ireturn, 1)) : W p l e room_1 (s.setDrawn d0) m #[Value.ref b] below meth c H [] 600000 7302250 (lw_Z below #[Value.ref b] s) (F0 m pc ls [.int 1]) := by
  intro T hT X
  obtain ⟨fs, hret, hrun, hended, hW, hframe⟩ := X.leave (v := some (.int 1)) (hlocks := hlocks) (fun h => by rw [hr] at h; cases h)
  have hmeth' : T.vm.method? m = some meth := X.method'
  refine ⟨T.setFrames fs, ?_, .returned (some (.int 1)), hrun, hended, rfl, lw_closed hd0 ⟨_, rfl⟩ hW hframe⟩
  jvm_step X.here [X.here.top, hx, hb, hdg, hmeth', hr, ret, narrow_b1]
  (try refine ⟨rfl, ?_⟩); (try refine ⟨rfl, ?_⟩)
  first | (intro acts; rw [hret _ acts rfl rfl rfl]) | rw [hret _ _ rfl rfl rfl]
  exact Steps.refl _
/-- what holds at the law's entry: the machine, the code, the tables' words (any of lw_tbl by 'hts w (by decide +kernel)'), the script of L ints xs at the cell b, what the Statement gives of the start (any of its parts by flat_of_before) -/
def lw_At (p : Program) (s : State) (m : MethodId) (meth : Method) (c : Code) (b L : Nat) (xs : Nat → Int32) : Prop :=
  p.tables.exec = Jvm.exec ∧ c.code = code ∧ meth.sig.returnType = ret ∧ c.maxLocals = 8 ∧ s.vm.findClass R_law = some m.cls ∧ (∀ w ∈ lw_tbl, w.before #[Value.ref b] s = true) ∧ va_X b L xs s s.heap ∧ b < s.heap.size ∧ meth.locks = false ∧ (Jvm.Cond.and given_1 narrow_1).before #[Value.ref b] s = true
section LOOP
variable {l : Launch} {K : gK} {Γ : gT} {Q : State → Prop} {cs ss CM CS : Nat} {rt : Option FieldType} {A : Nat → Nat → Nat} {b' : Nat → Nat} {b L : Nat} {xs : Nat → Int32}
theorem lw_gt {i L : Nat} (hL : L ≤ 3072) (hi : i ≤ 4000) : (iN L - 6 < iN i) ↔ ¬ i + 6 ≤ L := by
  by_cases h : 6 ≤ L
  · rw [show iN L - 6 = iN (L - 6) from iN_sub h, iN_lt (by omega) (by omega)]
    omega
  · refine ⟨fun _ => by omega, fun _ => ?_⟩
    have h1 : (iN L - 6) < 0 := by
      rcases (show L = 0 ∨ L = 1 ∨ L = 2 ∨ L = 3 ∨ L = 4 ∨ L = 5 by omega) with rfl | rfl | rfl | rfl | rfl | rfl <;> decide
    exact Int32.lt_of_lt_of_le h1 (Int32.not_lt.mp (iN_neg (by omega)))
theorem lw_sw (v : Int32) : (v.toInt < 0 ∨ 36 < v.toInt) ∨ ∃ k : Nat, k < 37 ∧ v.toInt = 0 + (k : Int) := by
  by_cases h : v.toInt < 0 ∨ 36 < v.toInt
  · exact Or.inl h
  · exact Or.inr ⟨v.toInt.toNat, by omega, by omega⟩
/-- one turn of the loop -/
theorem lw_step {i B : Nat} {Y : RS} {X : SM} (C : Cx l K Γ RL cL_law 8 rt 14) (Yc : Cy Γ CM CS) (h1 : cs ≤ CM) (h2 : ss ≤ CS) (Xx : Lx Γ b L xs) (hL : L ≤ 3072) (hi : i + 6 ≤ L) (hB1 : 1 ≤ B) (hB : B < 10 ^ 9) (hT : Top B Y X) (kf : ∀ Y' X', Top (B + 100) Y' X' → J l K Γ Q cs ss (ro_W K A Y' ++ mo_W K b' X') 1205 8 (lv4 i (b' 0) (A 4 0) b) []) : J l K Γ Q cs ss (ro_W K A Y ++ mo_W K b' X) 27 8 (lv4 i (b' 0) (A 4 0) b) [] := by
  refine J_aload_n C 3 dL_law_27 rfl ?_
  refine J_iload_n C 0 dL_law_28 rfl ?_
  refine J_sld C Xx i rfl (by omega) hL dL_law_29 ?_
  refine J_bipush C dL_law_30 (v := 63) rfl ?_
  refine J_iand C dL_law_32 ?_
  rcases lw_sw (xs i &&& 63) with h | ⟨k, hk, hv⟩
  · exact J_tswOut C 1205 dL_law_33 h rfl (kf _ _ (hT.mono (by omega)))
  · match k, hk, hv with
    | 0, _, hv => exact J_tswIn C 196 0 dL_law_33 rfl hv (by decide) rfl rfl (lw_c0 C Yc h1 h2 Xx hL hi hB1 hB hT kf)
    | 1, _, hv => exact J_tswIn C 259 1 dL_law_33 rfl hv (by decide) rfl rfl (lw_c1 C Yc h1 h2 Xx hL hi hB1 hB hT kf)
    | 2, _, hv => exact J_tswIn C 282 2 dL_law_33 rfl hv (by decide) rfl rfl (lw_c2 C Yc h1 h2 Xx hL hi hB1 hB hT kf)
    | 3, _, hv => exact J_tswIn C 295 3 dL_law_33 rfl hv (by decide) rfl rfl (lw_c3 C Yc h1 h2 Xx hL hi hB1 hB hT kf)
    | 4, _, hv => exact J_tswIn C 308 4 dL_law_33 rfl hv (by decide) rfl rfl (lw_c4 C Yc h1 h2 Xx hL hi hB1 hB hT kf)
    | 5, _, hv => exact J_tswIn C 351 5 dL_law_33 rfl hv (by decide) rfl rfl (lw_c5 C Yc h1 h2 Xx hL hi hB1 hB hT kf)
    | 6, _, hv => exact J_tswIn C 384 6 dL_law_33 rfl hv (by decide) rfl rfl (lw_c6 C Yc h1 h2 Xx hL hi hB1 hB hT kf)
    | 7, _, hv => exact J_tswIn C 417 7 dL_law_33 rfl hv (by decide) rfl rfl (lw_c7 C Yc h1 h2 Xx hL hi hB1 hB hT kf)
    | 8, _, hv => exact J_tswIn C 440 8 dL_law_33 rfl hv (by decide) rfl rfl (lw_c8 C Yc h1 h2 Xx hL hi hB1 hB hT kf)
    | 9, _, hv => exact J_tswIn C 463 9 dL_law_33 rfl hv (by decide) rfl rfl (lw_c9 C Yc h1 h2 Xx hL hi hB1 hB hT kf)
    | 10, _, hv => exact J_tswIn C 486 10 dL_law_33 rfl hv (by decide) rfl rfl (lw_c10 C Yc h1 h2 Xx hL hi hB1 hB hT kf)
    | 11, _, hv => exact J_tswIn C 529 11 dL_law_33 rfl hv (by decide) rfl rfl (lw_c11 C Yc h1 h2 Xx hL hi hB1 hB hT kf)
    | 12, _, hv => exact J_tswIn C 562 12 dL_law_33 rfl hv (by decide) rfl rfl (lw_c12 C Yc h1 h2 Xx hL hi hB1 hB hT kf)
    | 13, _, hv => exact J_tswIn C 585 13 dL_law_33 rfl hv (by decide) rfl rfl (lw_c13 C Yc h1 h2 Xx hL hi hB1 hB hT kf)
    | 14, _, hv => exact J_tswIn C 608 14 dL_law_33 rfl hv (by decide) rfl rfl (lw_c14 C Yc h1 h2 Xx hL hi hB1 hB hT kf)
    | 15, _, hv => exact J_tswIn C 621 15 dL_law_33 rfl hv (by decide) rfl rfl (lw_c15 C Yc h1 h2 Xx hL hi hB1 hB hT kf)
    | 16, _, hv => exact J_tswIn C 644 16 dL_law_33 rfl hv (by decide) rfl rfl (lw_c16 C Yc h1 h2 Xx hL hi hB1 hB hT kf)
    | 17, _, hv => exact J_tswIn C 677 17 dL_law_33 rfl hv (by decide) rfl rfl (lw_c17 C Yc h1 h2 Xx hL hi hB1 hB hT kf)
    | 18, _, hv => exact J_tswIn C 720 18 dL_law_33 rfl hv (by decide) rfl rfl (lw_c18 C Yc h1 h2 Xx hL hi hB1 hB hT kf)
    | 19, _, hv => exact J_tswIn C 753 19 dL_law_33 rfl hv (by decide) rfl rfl (lw_c19 C Yc h1 h2 Xx hL hi hB1 hB hT kf)
    | 20, _, hv => exact J_tswIn C 766 20 dL_law_33 rfl hv (by decide) rfl rfl (lw_c20 C Yc h1 h2 Xx hL hi hB1 hB hT kf)
    | 21, _, hv => exact J_tswIn C 779 21 dL_law_33 rfl hv (by decide) rfl rfl (lw_c21 C Yc h1 h2 Xx hL hi hB1 hB hT kf)
    | 22, _, hv => exact J_tswIn C 792 22 dL_law_33 rfl hv (by decide) rfl rfl (lw_c22 C Yc h1 h2 Xx hL hi hB1 hB hT kf)
    | 23, _, hv => exact J_tswIn C 815 23 dL_law_33 rfl hv (by decide) rfl rfl (lw_c23 C Yc h1 h2 Xx hL hi hB1 hB hT kf)
    | 24, _, hv => exact J_tswIn C 838 24 dL_law_33 rfl hv (by decide) rfl rfl (lw_c24 C Yc h1 h2 Xx hL hi hB1 hB hT kf)
    | 25, _, hv => exact J_tswIn C 851 25 dL_law_33 rfl hv (by decide) rfl rfl (lw_c25 C Yc h1 h2 Xx hL hi hB1 hB hT kf)
    | 26, _, hv => exact J_tswIn C 884 26 dL_law_33 rfl hv (by decide) rfl rfl (lw_c26 C Yc h1 h2 Xx hL hi hB1 hB hT kf)
    | 27, _, hv => exact J_tswIn C 937 27 dL_law_33 rfl hv (by decide) rfl rfl (lw_c27 C Yc h1 h2 Xx hL hi hB1 hB hT kf)
    | 28, _, hv => exact J_tswIn C 980 28 dL_law_33 rfl hv (by decide) rfl rfl (lw_c28 C Yc h1 h2 Xx hL hi hB1 hB hT kf)
    | 29, _, hv => exact J_tswIn C 1003 29 dL_law_33 rfl hv (by decide) rfl rfl (lw_c29 C Yc h1 h2 Xx hL hi hB1 hB hT kf)
    | 30, _, hv => exact J_tswIn C 1016 30 dL_law_33 rfl hv (by decide) rfl rfl (lw_c30 C Yc h1 h2 Xx hL hi hB1 hB hT kf)
    | 31, _, hv => exact J_tswIn C 1049 31 dL_law_33 rfl hv (by decide) rfl rfl (lw_c31 C Yc h1 h2 Xx hL hi hB1 hB hT kf)
    | 32, _, hv => exact J_tswIn C 1092 32 dL_law_33 rfl hv (by decide) rfl rfl (lw_c32 C Yc h1 h2 Xx hL hi hB1 hB hT kf)
    | 33, _, hv => exact J_tswIn C 1133 33 dL_law_33 rfl hv (by decide) rfl rfl (lw_c33 C Yc h1 h2 Xx hL hi hB1 hB hT kf)
    | 34, _, hv => exact J_tswIn C 1146 34 dL_law_33 rfl hv (by decide) rfl rfl (lw_c34 C Yc h1 h2 Xx hL hi hB1 hB hT kf)
    | 35, _, hv => exact J_tswIn C 1169 35 dL_law_33 rfl hv (by decide) rfl rfl (lw_c35 C Yc h1 h2 Xx hL hi hB1 hB hT kf)
    | 36, _, hv => exact J_tswIn C 1182 36 dL_law_33 rfl hv (by decide) rfl rfl (lw_c36 C Yc h1 h2 Xx hL hi hB1 hB hT kf)
    | k + 37, h, _ => exact absurd h (by omega)
theorem lw_loop (C : Cx l K Γ RL cL_law 8 rt 14) (Yc : Cy Γ CM CS) (h1 : cs ≤ CM) (h2 : ss ≤ CS) (Xx : Lx Γ b L xs) (hL : L ≤ 3072) (kf : ∀ i Y X, J l K Γ Q cs ss (ro_W K A Y ++ mo_W K b' X) 1211 8 (lv4 i (b' 0) (A 4 0) b) []) : ∀ n i B Y X, L < i + n → i ≤ L → 1 ≤ B → B ≤ 1 + 100 * i → Top B Y X → J l K Γ Q cs ss (ro_W K A Y ++ mo_W K b' X) 18 8 (lv4 i (b' 0) (A 4 0) b) [] := by
  intro n
  induction n with
  | zero =>
    intro i B Y X e hi
    exact absurd e (by omega)
  | succ n ih =>
    intro i B Y X e hi hB1 hB hT
    refine J_iload_n C 0 dL_law_18 rfl ?_
    refine J_aload_n C 3 dL_law_19 rfl ?_
    refine J_slen C Xx dL_law_20 ?_
    refine J_bipush C dL_law_21 (v := 6) rfl ?_
    refine J_isub C dL_law_23 ?_
    by_cases h : i + 6 ≤ L
    · refine J_icmp_gt_n C 1211 (fun z => (lw_gt hL (by omega)).mp z h) dL_law_24 rfl ?_
      refine lw_step C Yc h1 h2 Xx hL h hB1 (by omega) hT (fun Y' X' hT' => ?_)
      refine J_iinc C 0 dL_law_1205 rfl (w := iN (i + 6)) (iN_add i 6) (by decide) (lv' := lv4 (i + 6) (b' 0) (A 4 0) b) rfl ?_
      refine J_goto C 18 dL_law_1208 rfl ?_
      exact ih (i + 6) (B + 100) Y' X' (by omega) (by omega) (by omega) (by omega) hT'
    · refine J_icmp_gt_y C 1211 ((lw_gt hL (by omega)).mpr h) dL_law_24 rfl ?_
      exact kf i Y X
end LOOP
theorem J_lret {p : Program} {l : Launch} {e : Env} {s : State} {m : MethodId} {below : List Frame} {meth : Method} {c : Code} {b : Nat} {K : gK} {ws : va_W} {lv : List (Nat × Value)} {cs ss pc : Nat} (hx : p.tables.exec = Jvm.exec) (hb : c.code = code) (hr : meth.sig.returnType = ret) (hlocks : meth.locks = false) (hc : cs ≤ 600000) (hs : ss ≤ 7302250) (hdg : decode code pc = .ok (.ireturn, 1)) : J l K (p, e, room_1, s, m, #[Value.ref b], below, meth, c, fun q => s.heap.size ≤ q) (lw_Z below #[Value.ref b] s) cs ss ws pc 8 lv [.int 1] := by
  intro H locs ls hP hD hS hl
  refine va_forget (fun q hq => hS.2.2 q hq) ?_
  refine W.widen hc hs ?_
  refine W.base ?_
  exact lw_ret (Drawn.sameBut.refl s.drawn lw_cs) hx hb hr hlocks hdg
set_option maxHeartbeats 4000000 in
/-- YOUR PART: from the entry, for every script of at most 3072 ints, the law comes to its end with true -/
theorem whole_start {p : Program} {e : Env} {s : State} {m : MethodId} {below : List Frame} {meth : Method} {c : Code} (l : Launch) (hflags : l.flags = flags0) {b L : Nat} {xs : Nat → Int32} (hL : L ≤ 3072) (C0 : lw_At p s m meth c b L xs) : W p l e room_1 s m #[Value.ref b] below meth c s.heap [] 0 0 (lw_Z below #[Value.ref b] s) (entryFrame m ([Value.ref b] : List Value).toArray 8) := by
  obtain ⟨hx, hb, hr, hml, hown, hts, hX, hbl, hlocks, hgv⟩ := C0
  have hA : ∀ q : Nat, s.heap.size ≤ q → (fun q : Nat => s.heap.size ≤ q) q := fun _ h => h
  have hbA : ¬ (fun q : Nat => s.heap.size ≤ q) b := Nat.not_le.mpr hbl
  obtain ⟨K, hK, hao⟩ := k_start (A := fun q => s.heap.size ≤ q) hgv hts (fun a h => Nat.not_le.mpr h)
  obtain ⟨r1, r2, r3, r4, g1, g2, g3, g4, hTop⟩ := t_start
  have hS : va_S (fun q : Nat => s.heap.size ≤ q) s.heap s.heap [] := va_S.rf
  have hP : va_P K.1 classes [] s.heap := fun k q h => by simp at h
  have hD : va_D (fun q : Nat => s.heap.size ≤ q) [] := ⟨fun i j p q h => by simp at h, fun k q h => by simp at h⟩
  have hl := lv_entry ([.ref b]) (n := 8) (Nat.le_of_ble_eq_true rfl)
  rw [lg_entry_eq]
  have C : Cx l K (p, e, room_1, s, m, #[Value.ref b], below, meth, c, fun q => s.heap.size ≤ q) RL cL_law 8 ret 14 := ⟨hx, hb, hml, hown, fun w hw => hts w (wsL_law_in w hw), hr, hlocks, hK, hA, Nat.le_refl _, Nat.le_of_ble_eq_true rfl⟩
  have Y : Cy (p, e, room_1, s, m, #[Value.ref b], below, meth, c, fun q => s.heap.size ≤ q) 600000 7302250 := ⟨Nat.le_refl _, Nat.le_refl _, hao⟩
  have Xx : Lx (p, e, room_1, s, m, #[Value.ref b], below, meth, c, fun q => s.heap.size ≤ q) b L xs := ⟨hX, hbl, hbA⟩
  have main : J l K (p, e, room_1, s, m, #[Value.ref b], below, meth, c, fun q => s.heap.size ≤ q) (lw_Z below #[Value.ref b] s) 0 0 [] 0 8 [(0, .ref b)] [] := by
    refine J_new C Y 9 [.null, .null, .null, .null, .null, .null, .null, .int 0] tyX9 dL_law_0 inlX9 tyX9_ok ul_L_7 ua_X9 un_X9 rfl (fun j hj => by rcases (show j = 0 ∨ j = 1 ∨ j = 2 ∨ j = 3 ∨ j = 4 ∨ j = 5 ∨ j = 6 ∨ j = 7 by omega) with rfl | rfl | rfl | rfl | rfl | rfl | rfl | rfl <;> rfl) (Nat.le_of_ble_eq_true rfl) (Nat.le_of_ble_eq_true rfl) (fun q1 => ?_)
    refine J_dup C dL_law_3 rfl ?_
    refine J_callI (host := "") C Y kd_X9_init rfl ui_X9_init um_L_9 (c_X9_init l K q1) dL_law_4 rfl rfl (by decide) (Nat.le_of_ble_eq_true rfl) (Nat.le_of_ble_eq_true rfl) (Nat.le_of_ble_eq_true rfl) (fun u => ?_)
    obtain ⟨A, hA4⟩ := u
    subst hA4
    refine J_astore_n C (lv' := [(1, .ref (A 4 0)), (0, .ref b)]) dL_law_7 (by decide) rfl ?_
    refine J_new C Y 10 [.null, .null, .null, .null, .null, .null, .int 0, .null, .int 0, .int 0, .int 0, .int 0, .int 0, .int 0, .int 0, .int 0, .null, .int 0] tyX10 dL_law_8 inlX10 tyX10_ok ul_L_10 ua_X10 un_X10 rfl (fun j hj => by rcases (show j = 0 ∨ j = 1 ∨ j = 2 ∨ j = 3 ∨ j = 4 ∨ j = 5 ∨ j = 6 ∨ j = 7 ∨ j = 8 ∨ j = 9 ∨ j = 10 ∨ j = 11 ∨ j = 12 ∨ j = 13 ∨ j = 14 ∨ j = 15 ∨ j = 16 ∨ j = 17 by omega) with rfl | rfl | rfl | rfl | rfl | rfl | rfl | rfl | rfl | rfl | rfl | rfl | rfl | rfl | rfl | rfl | rfl | rfl <;> rfl) (Nat.le_of_ble_eq_true rfl) (Nat.le_of_ble_eq_true rfl) (fun q2 => ?_)
    refine J_dup C dL_law_11 rfl ?_
    refine J_callI (host := "") C Y kd_X10_init rfl ui_X10_init um_L_12 (Ca.right _ (c_X10_init l K q2 r1 r2 r3 r4 g1 g2 g3 g4)) dL_law_12 rfl rfl (by decide) (Nat.le_of_ble_eq_true rfl) (Nat.le_of_ble_eq_true rfl) (Nat.le_of_ble_eq_true rfl) (fun f => ?_)
    refine J_astore_n C (lv' := [(2, .ref q2), (1, .ref (A 4 0)), (0, .ref b)]) dL_law_15 (by decide) rfl ?_
    refine J_iconst C dL_law_16 (v := 0) rfl ?_
    refine J_istore_n C (lv' := lv4 0 (aU q2 f 0) (A 4 0) b) dL_law_17 (by decide) rfl ?_
    exact lw_loop C Y (Nat.le_of_ble_eq_true rfl) (Nat.le_of_ble_eq_true rfl) Xx hL (fun i Y0 X0 => J_iconst C dL_law_1211 (v := 1) rfl (J_lret hx hb hr hlocks (Nat.le_of_ble_eq_true rfl) (Nat.le_of_ble_eq_true rfl) dL_law_1212)) (L + 1) 0 1 Y2 (sU X1 0 r4.2) (by omega) (Nat.zero_le _) (Nat.le_refl _) (by decide) hTop
  exact main s.heap [] _ hP hD hS hl
-- ===== YOUR PART ENDS =====
set_option maxHeartbeats 4000000 in
theorem lw_walk (l : Launch) (hflags : l.flags = flags0) (b : Addr) (xs : List Int32) : MetFree l x (headSpec (Jvm.Cond.code x code maxLocals ret :: tables_1) room_1) (lw_P b xs) (fun _ _ _ _ _ => True) lw_Q := by
  refine MetFree.of_bodyS (code := code) (maxLocals := maxLocals) (ret := ret) (by decide) ?_ ?_
  · intro args s m h hn
    obtain ⟨meth, c, h1, h2, h3, h4, h5, h6, -, -⟩ := Cond.code_spec hn (atoms_spec (ws := Jvm.Cond.code x code maxLocals ret :: tables_1) h _ List.mem_cons_self)
    exact ⟨meth, c, h1, h2, h3, h4, h5, h6⟩
  · intro p e s m args below meth c s₁ B hml0 hP _
    obtain ⟨rfl, hx, hbd, hgv⟩ := hP
    obtain ⟨scr, harrAt, hlist, hof, hsmall⟩ := hx
    obtain ⟨hcb, hkn, -, -⟩ := State.arrayAt?_spec harrAt
    have hown : s.vm.findClass R_law = some m.cls := findClass_of_methodNamed B.named
    have hts0 : ∀ c ∈ (Jvm.Cond.code x code maxLocals ret :: tables_1), c.before #[Value.ref b] s = true := atoms_spec (ws := Jvm.Cond.code x code maxLocals ret :: tables_1) B.pre
    have hts : ∀ w ∈ lw_tbl, w.before #[Value.ref b] s = true := k2_hts_sels lw_privs (fun w hw => hts0 w (List.mem_cons_of_mem _ hw)) lw_privs_ok
    have hml : c.maxLocals = 8 := B.maxLocals_eq (hts0 _ List.mem_cons_self)
    have X₀ : Stand p l e room_1 s m #[Value.ref b] below meth c s₁ [] 0 0 := Stand.of_body B
    have hh0 : s₁.heap = s.heap := by rw [B.state]; rfl
    have hsz : scr.slots.size = xs.length := by rw [← Array.length_toList, hlist, List.length_map]
    have hval : ∀ j : Nat, j < xs.length → scr.slots[j]? = some (.int (xs.getD j 0)) := fun j hj => by
      rw [← Array.getElem?_toList, hlist]
      simp [hj]
    have hbl : b < s.heap.size := (Array.getElem?_eq_some_iff.mp hcb).1
    have hX : va_X b xs.length (fun j => xs.getD j 0) s s.heap := ⟨scr, hcb, hof, hkn, hsz, hval⟩
    have K : W p l e room_1 s m #[Value.ref b] below meth c s₁.heap [] 0 0 (lw_Z below #[Value.ref b] s) (entryFrame m ([Value.ref b] : List Value).toArray 8) := by
      rw [hh0]
      exact whole_start l hflags hbd ⟨B.exec, B.bytes, B.returns, hml, hown, hts, hX, hbl, B.notSynchronized, hgv⟩
    obtain ⟨t, a1, o, b1, b2, b3⟩ := K s₁ rfl X₀
    exact ⟨t, o, a1, b1, b2, b3⟩
theorem lw_pre_spec {args : Array Value} {s : State} (h : (Jvm.Cond.and given_1 narrow_1).before args s = true) (hr : rest_1_c.before args s = true) : ∃ (b : Addr) (xs : List Int32), lw_P b xs args s := by
  have hs := flat_of_before _ h
  have hq := flat_of_before _ hr
  have hc : (Cond.count 1).before args s = true := hs _ (by decide +kernel)
  have harr : (Cond.arrayOf (.arg 0) .int).before args s = true := hs _ (by decide +kernel)
  have hle : (Cond.le (.length (.arg 0)) (.int 3072)).before args s = true := hs _ (by decide +kernel)
  have hlen : (Cond.isInt (.length (.arg 0))).before args s = true := hq _ (by decide +kernel)
  have hall : (Cond.all (.arg 0) (.isInt (.elem (.arg 0) (.index 0)))).before args s = true := hq _ (by decide +kernel)
  obtain ⟨b, xs, hb, hx⟩ := State.ints_of_pre rfl harr hlen hall
  have hsm : xs.length < 2 ^ 31 := hx.choose_spec.2.2.2
  have hev : (Term.length (.arg 0)).eval args s none [] s = some (.int xs.length.toInt32) := hx.length_eval hb
  have hv := Cond.le_ints hev (show (Term.int 3072).eval args s none [] s = some (.int 3072) from rfl)
  have hd : xs.length.toInt32 ≤ 3072 := by
    simpa [Cond.before, Cond.holds, hv] using hle
  have hN : xs.length ≤ 3072 := (Int32.ofNat_le_ofNat hsm (by decide)).mp (show Int32.ofNat xs.length ≤ Int32.ofNat 3072 from hd)
  exact ⟨b, xs, Cond.one_arg hc (show args[0]? = some (.ref b) from hb), hx, hN, h⟩
theorem lw_comes (l : Launch) (hflags : l.flags = flags0) : Comes l x (Jvm.Cond.code x code maxLocals ret :: tables_1) room_1 (fun tb e args s => Calls_1 tb e args s ∧ rest_1 tb e args s ∧ Pre_1 tb e args s)
    (fun _ _ args s o t => lw_Q args s o t) := by
  intro p e ha hc hk s m args below hf hfit hheap happ hpre
  obtain ⟨b, xs, hP⟩ := lw_pre_spec hpre.2.2 hpre.2.1
  obtain ⟨k, o, h1, h2, h3, hQ⟩ := lw_walk l hflags b xs p e ha hc hk s m args below hf ((Spec.applies_iff_loose hf).mp happ).1 hP trivial
  exact ⟨k, o, h1, h2, h3, hQ⟩
theorem lw_frame {s t : State} {o : Outcome} {args : Array Value} (h : State.butDraws s t lw_cs (fun t1 => Framed s o t1 [] 600000 7302250)) :
    State.butDraws s t [Jvm.Choice.named "NaN.bits"] (fun t1 => Framed s o t1 (fieldLocs frame_1_writes args s ++ arrayLocs frame_1_arrays args s ++ staticLocs frame_1_statics s) 600000 7302250) := h
theorem lw_limb (L : Cond) (hL : ∀ (args : Array Value) (s t : State), L.after args s (.returned (some (.int 1))) t = true) :
    ArmFor flags0 classFile x code maxLocals ret World_1 tables_1 room_1 Calls_1 rest_1 Pre_1
      (fun tb e a s o t => postC L tb e a s o t ∧ State.butDraws s t [Jvm.Choice.named "NaN.bits"] (fun t1 => Framed s o t1 (fieldLocs frame_1_writes a s ++ arrayLocs frame_1_arrays a s ++ staticLocs frame_1_statics s) 600000 7302250)) := by
  intro l hflags _ _ p e ha hc hk s m args below hf hfit hheap happ hpre
  obtain ⟨k, o, h1, h2, h3, rfl, hF⟩ := lw_comes l hflags p e ha hc hk s m args below hf hfit hheap happ hpre
  exact ⟨k, _, h1, h2, h3, hL args s _, lw_frame hF⟩
theorem i_vc : Claimed_1_1 ∧ Claimed_1_2 := ⟨lw_limb limb_1_1 (fun args s t => by simp [limb_1_1, Cond.after, Cond.holds, Cond.value]), lw_limb limb_1_2 (fun args s t => Cond.after_iff.mpr (by
  first | (rw [show limb_1_2 = Cond.eq .result (.int 1) from rfl, Cond.eq_ints (x := 1) (y := 1) rfl rfl]; simp; done) | (simp [limb_1_2, Cond.value, Term.eval]; done)))⟩
