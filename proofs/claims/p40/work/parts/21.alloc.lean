-- PART 21: the judgement J: like G, but with room for new cells and any end; contracts Ca of constructors
def J (l : Launch) (K : gK) (Γ : gT) (Q : State → Prop) (cs ss : Nat) (ws : va_W) (pc nL : Nat) (lv : List (Nat × Value)) (st : List Value) : Prop := match Γ with
  | (p, e, R, s, m, args, below, meth, c, A) => ∀ (H : Heap) (locs : List Loc) (ls : Array Slot), va_P K.1 classes ws H → va_D A ws → va_S A s.heap H locs → lv_has ls nL lv → W p l e R s m args below meth c H locs cs ss Q (F0 m pc ls st)
def Cy (Γ : gT) (CM SM : Nat) : Prop := match Γ with
  | (p, e, R, s, m, args, below, meth, c, A) => CM ≤ R.cells ∧ SM ≤ R.slots ∧ va_AO RX6 s
def Ci (Γ : gT) : Prop := match Γ with
  | (p, e, R, s, m, args, below, meth, c, A) => meth.name = "<init>"
def Qa {S : Type} (K : gK) (A : Nat → Prop) (Wr : S → va_W) : Array Value → State → Outcome → State → Prop := va_Qv (fun _ : S => True) (fun u t => va_P K.1 classes (Wr u) t.heap ∧ va_D A (Wr u)) A
def Jq {S : Type} (K : gK) (Γ : gT) (Wr : S → va_W) (nc ns : Nat) : State → Prop := match Γ with
  | (p, e, R, s, m, args, below, meth, c, A) => MQ below (Qa K A Wr) args s nc ns A
def Ca {S : Type} (l : Launch) (K : gK) (y : MethodName) (cc : ByteArray) (maxL : Nat) (h nc ns : Nat) (as : List Value) (ws : va_W) (Wr : S → va_W) : Prop :=
  ∀ sz : Nat, Met l y (.code y cc maxL none :: wsL_law) ({ frames := h, cells := nc, slots := ns, locals := 30 * h }) (va_Pc as (fun U => U.heap.size = sz ∧ va_P K.1 classes ws U.heap ∧ (KS K (va_A ws sz) U U.heap ∧ va_AO RX6 U) ∧ va_D (fun _ => True) ws)) (Qa K (va_A ws sz) Wr) nc ns (va_A ws sz)
theorem Ca.of {S : Type} {l : Launch} {K : gK} {y : MethodName} {cc : ByteArray} {maxL h nc ns : Nat} {as : List Value} {ws : va_W} {Wr : S → va_W} {own : String} (hy : plainName y.cls = true) (hyn : y.name = "<init>") (ho : y.cls = own) (hlen : (lg_sl as).length ≤ maxL)
    (body : ∀ Γ : gT, Cx l K Γ own cc maxL none h → Cy Γ nc ns → Ci Γ → J l K Γ (Jq K Γ Wr nc ns) 0 0 ws 0 maxL (lv_args 0 as) []) : Ca l K y cc maxL h nc ns as ws Wr := by
  intro sz
  refine Met.ofW (cc := cc) (maxL := maxL) (ret := none) hy rfl ?_
  intro p e s m args below meth c s₁ B hml hv
  obtain ⟨rfl, hsz, hP, ⟨hK, hao⟩, hD0⟩ := hv
  have hts := atoms_spec (ws := .code y cc maxL none :: wsL_law) B.pre
  have hown : s.vm.findClass own = some m.cls := ho ▸ findClass_of_methodNamed B.named
  have hin : meth.name = "<init>" := (name_of_methodNamed B.named B.method).1.trans hyn
  subst hsz
  have hD := hD0.self (sz := s.heap.size)
  have hA : ∀ q : Nat, s.heap.size ≤ q → va_A ws s.heap.size q := fun q h => Or.inr h
  have hS : va_S (va_A ws s.heap.size) s.heap s.heap [] := va_S.rf
  have hl := lv_entry as (n := maxL) hlen
  rw [lg_entry_eq]
  exact body (p, e, _, s, m, as.toArray, below, meth, c, va_A ws s.heap.size) ⟨B.exec, B.bytes, hml, hown, fun w hw => hts w (List.mem_cons_of_mem _ hw), B.returns, B.notSynchronized, hK, hA, Nat.le_refl _, Nat.le_refl _⟩ ⟨Nat.le_refl _, Nat.le_refl _, hao⟩ hin s.heap [] _ hP hD hS hl
theorem Ca.perm {S S2 : Type} {l : Launch} {K : gK} {y : MethodName} {cc : ByteArray} {maxL h nc ns : Nat} {as : List Value} {wc wr ws : va_W} {W1 : S → va_W} {W2 : S2 → va_W} (up : S → S2) (hp : ws.Perm (wc ++ wr)) (hp' : ∀ u, (W1 u ++ wr).Perm (W2 (up u))) (ct : Ca l K y cc maxL h nc ns as wc W1) : Ca l K y cc maxL h nc ns as ws W2 := by
  intro sz p e ha hc hk s m args below hf happ hPre _
  obtain ⟨rfl, hsz, hPw, ⟨hKS, hao⟩, hDw⟩ := hPre
  have hPb := va_P_perm hp hPw
  have hDb := va_D_perm hp hDw
  have hsub : ∀ q, va_A wc sz q → va_A ws sz q := fun q hq => va_A_perm hp.symm (va_A_left hq)
  have hPc : va_P K.1 classes wc s.heap := va_P_iff.mpr fun q hq => va_P_iff.mp hPb q (List.mem_append_left _ hq)
  have hDb' := va_D_iff.mp hDb
  rw [List.map_append] at hDb'
  have hDc : va_D (fun _ => True) wc := va_D_iff.mpr ⟨(List.nodup_append.mp hDb'.1).1, fun _ _ => trivial⟩
  obtain ⟨n, o, h1, h2, h3, ⟨⟨u, hr1, hpo, hP1, hD1⟩, hF1, hF2⟩, L, hFr, hL⟩ := ct sz p e ha hc hk s m _ below hf happ ⟨rfl, hsz, hPc, ⟨⟨hKS.1, hKS.2.narrow hsub⟩, hao⟩, hDc⟩ trivial
  have hrest : ∀ q ∈ wr, q.1 < s.heap.size ∧ ¬ va_A wc sz q.1 := by
    intro q hq
    have hl := (va_P_iff.mp hPb q (List.mem_append_right _ hq)).lt
    refine ⟨hl, fun z => ?_⟩
    rcases z with ⟨k, e2, z⟩ | z
    · exact (List.nodup_append.mp hDb'.1).2.2 q.1 (List.mem_map.mpr ⟨(q.1, e2), List.mem_of_getElem? z, rfl⟩) q.1 (List.mem_map.mpr ⟨q, hq, rfl⟩) rfl
    · omega
  refine ⟨n, o, h1, h2, h3, ⟨⟨up u, hr1, trivial, ?_, ?_⟩, hF1, fun q g1 g2 => hF2 q g1 (fun z => g2 (hsub q z))⟩, L, hFr, fun q hq => hsub _ (hL q hq)⟩
  · refine va_P_perm (hp' u) (va_P_iff.mpr fun q hq => ?_)
    rcases List.mem_append.mp hq with hq | hq
    · exact va_P_iff.mp hP1 q hq
    · obtain ⟨g1, g2⟩ := hrest q hq
      exact (va_P_iff.mp hPb q (List.mem_append_right _ hq)).kept (hF2 q.1 g1 g2)
  · refine va_D_perm (hp' u) (va_D_iff.mpr ⟨?_, fun q hq => ?_⟩)
    · rw [List.map_append, List.nodup_append]
      refine ⟨(va_D_iff.mp hD1).1, (List.nodup_append.mp hDb'.1).2.1, fun a ha b hb hab => ?_⟩
      obtain ⟨q1, hq1, rfl⟩ := List.mem_map.mp ha
      obtain ⟨q2, hq2, rfl⟩ := List.mem_map.mp hb
      exact (hrest q2 hq2).2 (hab ▸ (va_D_iff.mp hD1).2 q1 hq1)
    · rcases List.mem_append.mp hq with hq | hq
      · exact hsub _ ((va_D_iff.mp hD1).2 q hq)
      · obtain ⟨i, hi⟩ := List.getElem?_of_mem (hp.mem_iff.mpr (List.mem_append_right wc hq))
        exact Or.inl ⟨i, q.2, hi⟩
theorem Ca.right {S : Type} {l : Launch} {K : gK} {y : MethodName} {cc : ByteArray} {maxL h nc ns : Nat} {as : List Value} {wc : va_W} {W1 : S → va_W} (u : va_W) (ct : Ca l K y cc maxL h nc ns as wc W1) : Ca l K y cc maxL h nc ns as (u ++ wc) (fun f => u ++ W1 f) := Ca.perm id List.perm_append_comm (fun _ => List.perm_append_comm) ct
section JR
variable {l : Launch} {K : gK} {Γ : gT} {Q : State → Prop} {cs ss : Nat} {own : String} {cc : ByteArray} {nL : Nat} {ret : Option FieldType} {h : Nat} {ws : va_W} {pc : Nat} {lv : List (Nat × Value)} {st : List Value}
theorem J_iconst (C : Cx l K Γ own cc nL ret h) {n : Int} {v : Int32} (hdg : decode cc pc = .ok (.iconst n, 1)) (hv : Int32.ofInt n = v) (k : J l K Γ Q cs ss ws (pc + 1) nL lv (.int v :: st)) : J l K Γ Q cs ss ws pc nL lv (st) := by
  obtain ⟨p, e, R, s, m, args, below, meth, c, A⟩ := Γ
  obtain ⟨hx, hb, hml, hown, hts, hr, hlk, hK, hA, hf1, hf2⟩ := C
  intro H locs ls hP hD hS hl
  exact lv_iconst hx hb hdg hv (k H locs ls hP hD hS hl)
theorem J_bipush (C : Cx l K Γ own cc nL ret h) {n : Int} {v : Int32} (hdg : decode cc pc = .ok (.bipush n, 2)) (hv : (Int8.ofInt n).toInt32 = v) (k : J l K Γ Q cs ss ws (pc + 2) nL lv (.int v :: st)) : J l K Γ Q cs ss ws pc nL lv (st) := by
  obtain ⟨p, e, R, s, m, args, below, meth, c, A⟩ := Γ
  obtain ⟨hx, hb, hml, hown, hts, hr, hlk, hK, hA, hf1, hf2⟩ := C
  intro H locs ls hP hD hS hl
  exact lv_bipush hx hb hdg hv (k H locs ls hP hD hS hl)
theorem J_sipush (C : Cx l K Γ own cc nL ret h) {n : Int} {v : Int32} (hdg : decode cc pc = .ok (.sipush n, 3)) (hv : (Int16.ofInt n).toInt32 = v) (k : J l K Γ Q cs ss ws (pc + 3) nL lv (.int v :: st)) : J l K Γ Q cs ss ws pc nL lv (st) := by
  obtain ⟨p, e, R, s, m, args, below, meth, c, A⟩ := Γ
  obtain ⟨hx, hb, hml, hown, hts, hr, hlk, hK, hA, hf1, hf2⟩ := C
  intro H locs ls hP hD hS hl
  exact lv_sipush hx hb hdg hv (k H locs ls hP hD hS hl)
theorem J_iload_n (C : Cx l K Γ own cc nL ret h) (q : Nat) {n : Fin 4} {v : Int32} (hdg : decode cc pc = .ok (.iload_n n, 1)) (hk : lv[q]? = some ((n : Nat), .int v)) (k : J l K Γ Q cs ss ws (pc + 1) nL lv (.int v :: st)) : J l K Γ Q cs ss ws pc nL lv (st) := by
  obtain ⟨p, e, R, s, m, args, below, meth, c, A⟩ := Γ
  obtain ⟨hx, hb, hml, hown, hts, hr, hlk, hK, hA, hf1, hf2⟩ := C
  intro H locs ls hP hD hS hl
  exact lv_iload_n hx hb hdg rfl (lv_at hl q hk) (k H locs ls hP hD hS hl)
theorem J_istore_n (C : Cx l K Γ own cc nL ret h) {n : Fin 4} {v : Int32} {lv' : List (Nat × Value)} (hdg : decode cc pc = .ok (.istore_n n, 1)) (hn : (n : Nat) < nL) (hl' : ((n : Nat), Value.int v) :: lv.filter (fun q => !(q.1 == (n : Nat)) && !(q.1 + 1 == (n : Nat) && q.2.category == 2)) = lv') (k : J l K Γ Q cs ss ws (pc + 1) nL lv' st) : J l K Γ Q cs ss ws pc nL lv (.int v :: st) := by
  obtain ⟨p, e, R, s, m, args, below, meth, c, A⟩ := Γ
  obtain ⟨hx, hb, hml, hown, hts, hr, hlk, hK, hA, hf1, hf2⟩ := C
  intro H locs ls hP hD hS hl
  exact lv_istore_n hx hb hdg rfl hl hn hl' (fun ls' hl2 => k H locs ls' hP hD hS hl2)
theorem J_aload_n (C : Cx l K Γ own cc nL ret h) (q : Nat) {n : Fin 4} {v : Nat} (hdg : decode cc pc = .ok (.aload_n n, 1)) (hk : lv[q]? = some ((n : Nat), .ref v)) (k : J l K Γ Q cs ss ws (pc + 1) nL lv (.ref v :: st)) : J l K Γ Q cs ss ws pc nL lv (st) := by
  obtain ⟨p, e, R, s, m, args, below, meth, c, A⟩ := Γ
  obtain ⟨hx, hb, hml, hown, hts, hr, hlk, hK, hA, hf1, hf2⟩ := C
  intro H locs ls hP hD hS hl
  exact lv_aload_n hx hb hdg rfl (lv_at hl q hk) (k H locs ls hP hD hS hl)
theorem J_astore_n (C : Cx l K Γ own cc nL ret h) {n : Fin 4} {v : Nat} {lv' : List (Nat × Value)} (hdg : decode cc pc = .ok (.astore_n n, 1)) (hn : (n : Nat) < nL) (hl' : ((n : Nat), Value.ref v) :: lv.filter (fun q => !(q.1 == (n : Nat)) && !(q.1 + 1 == (n : Nat) && q.2.category == 2)) = lv') (k : J l K Γ Q cs ss ws (pc + 1) nL lv' st) : J l K Γ Q cs ss ws pc nL lv (.ref v :: st) := by
  obtain ⟨p, e, R, s, m, args, below, meth, c, A⟩ := Γ
  obtain ⟨hx, hb, hml, hown, hts, hr, hlk, hK, hA, hf1, hf2⟩ := C
  intro H locs ls hP hD hS hl
  exact lv_astore_n hx hb hdg rfl hl hn hl' (fun ls' hl2 => k H locs ls' hP hD hS hl2)
theorem J_iinc (C : Cx l K Γ own cc nL ret h) (q : Nat) {i : Nat} {n : Int} {v w : Int32} {lv' : List (Nat × Value)} (hdg : decode cc pc = .ok (.iinc i n, 3)) (hk : lv[q]? = some (i, .int v)) (hv : v + Int32.ofInt n = w) (hn : i < nL) (hl' : (i, Value.int w) :: lv.filter (fun q => !(q.1 == i) && !(q.1 + 1 == i && q.2.category == 2)) = lv') (k : J l K Γ Q cs ss ws (pc + 3) nL lv' st) : J l K Γ Q cs ss ws pc nL lv st := by
  obtain ⟨p, e, R, s, m, args, below, meth, c, A⟩ := Γ
  obtain ⟨hx, hb, hml, hown, hts, hr, hlk, hK, hA, hf1, hf2⟩ := C
  intro H locs ls hP hD hS hl
  exact lv_iinc hx hb hdg hl hk hv hn hl' (fun ls' hl2 => k H locs ls' hP hD hS hl2)
theorem J_iadd (C : Cx l K Γ own cc nL ret h) {a b : Int32} (hdg : decode cc pc = .ok (.iadd, 1)) (k : J l K Γ Q cs ss ws (pc + 1) nL lv (.int (a + b) :: st)) : J l K Γ Q cs ss ws pc nL lv (.int b :: .int a :: st) := by
  obtain ⟨p, e, R, s, m, args, below, meth, c, A⟩ := Γ
  obtain ⟨hx, hb, hml, hown, hts, hr, hlk, hK, hA, hf1, hf2⟩ := C
  intro H locs ls hP hD hS hl
  exact lv_iadd hx hb hdg (k H locs ls hP hD hS hl)
theorem J_isub (C : Cx l K Γ own cc nL ret h) {a b : Int32} (hdg : decode cc pc = .ok (.isub, 1)) (k : J l K Γ Q cs ss ws (pc + 1) nL lv (.int (a - b) :: st)) : J l K Γ Q cs ss ws pc nL lv (.int b :: .int a :: st) := by
  obtain ⟨p, e, R, s, m, args, below, meth, c, A⟩ := Γ
  obtain ⟨hx, hb, hml, hown, hts, hr, hlk, hK, hA, hf1, hf2⟩ := C
  intro H locs ls hP hD hS hl
  exact lv_isub hx hb hdg (k H locs ls hP hD hS hl)
theorem J_iand (C : Cx l K Γ own cc nL ret h) {a b : Int32} (hdg : decode cc pc = .ok (.iand, 1)) (k : J l K Γ Q cs ss ws (pc + 1) nL lv (.int (a &&& b) :: st)) : J l K Γ Q cs ss ws pc nL lv (.int b :: .int a :: st) := by
  obtain ⟨p, e, R, s, m, args, below, meth, c, A⟩ := Γ
  obtain ⟨hx, hb, hml, hown, hts, hr, hlk, hK, hA, hf1, hf2⟩ := C
  intro H locs ls hP hD hS hl
  exact lv_iand hx hb hdg (k H locs ls hP hD hS hl)
theorem J_dup (C : Cx l K Γ own cc nL ret h) {v : Value} (hdg : decode cc pc = .ok (.dup, 1)) (hv : v.category = 1) (k : J l K Γ Q cs ss ws (pc + 1) nL lv (v :: v :: st)) : J l K Γ Q cs ss ws pc nL lv (v :: st) := by
  obtain ⟨p, e, R, s, m, args, below, meth, c, A⟩ := Γ
  obtain ⟨hx, hb, hml, hown, hts, hr, hlk, hK, hA, hf1, hf2⟩ := C
  intro H locs ls hP hD hS hl
  exact lv_dup hx hb hdg hv (k H locs ls hP hD hS hl)
theorem J_pop (C : Cx l K Γ own cc nL ret h) {v : Value} (hdg : decode cc pc = .ok (.pop, 1)) (hv : v.category = 1) (k : J l K Γ Q cs ss ws (pc + 1) nL lv (st)) : J l K Γ Q cs ss ws pc nL lv (v :: st) := by
  obtain ⟨p, e, R, s, m, args, below, meth, c, A⟩ := Γ
  obtain ⟨hx, hb, hml, hown, hts, hr, hlk, hK, hA, hf1, hf2⟩ := C
  intro H locs ls hP hD hS hl
  exact lv_pop hx hb hdg hv (k H locs ls hP hD hS hl)
theorem J_goto (C : Cx l K Γ own cc nL ret h) {off : Int} (tgt : Nat) (hdg : decode cc pc = .ok (.goto off, 3)) (ht : (pc : Int) + off = (tgt : Int)) (k : J l K Γ Q cs ss ws tgt nL lv st) : J l K Γ Q cs ss ws pc nL lv st := by
  obtain ⟨p, e, R, s, m, args, below, meth, c, A⟩ := Γ
  obtain ⟨hx, hb, hml, hown, hts, hr, hlk, hK, hA, hf1, hf2⟩ := C
  intro H locs ls hP hD hS hl
  exact lv_goto hx hb hdg ht (k H locs ls hP hD hS hl)
theorem J_if_le_y (C : Cx l K Γ own cc nL ret h) {a : Int32} {off : Int} (tgt : Nat) (h0 : 0 < a) (hdg : decode cc pc = .ok (.ifCond .le off, 3)) (ht : (pc : Int) + off = (tgt : Int)) (k : J l K Γ Q cs ss ws (pc + 3) nL lv st) : J l K Γ Q cs ss ws pc nL lv (.int a :: st) := by
  obtain ⟨p, e, R, s, m, args, below, meth, c, A⟩ := Γ
  obtain ⟨hx, hb, hml, hown, hts, hr, hlk, hK, hA, hf1, hf2⟩ := C
  intro H locs ls hP hD hS hl
  refine lv_if_le (tgt := tgt) hx hb hdg ht (fun h1 => ?_) (fun h1 => ?_) <;> first | exact absurd h0 h1 | exact absurd h1 h0 | exact absurd h0 (Int32.not_lt.mpr h1) | exact absurd (Int32.not_le.mp h1) h0 | exact k H locs ls hP hD hS hl
theorem J_if_le_n (C : Cx l K Γ own cc nL ret h) {a : Int32} {off : Int} (tgt : Nat) (h0 : ¬ (0 < a)) (hdg : decode cc pc = .ok (.ifCond .le off, 3)) (ht : (pc : Int) + off = (tgt : Int)) (k : J l K Γ Q cs ss ws tgt nL lv st) : J l K Γ Q cs ss ws pc nL lv (.int a :: st) := by
  obtain ⟨p, e, R, s, m, args, below, meth, c, A⟩ := Γ
  obtain ⟨hx, hb, hml, hown, hts, hr, hlk, hK, hA, hf1, hf2⟩ := C
  intro H locs ls hP hD hS hl
  refine lv_if_le (tgt := tgt) hx hb hdg ht (fun h1 => ?_) (fun h1 => ?_) <;> first | exact absurd h0 h1 | exact absurd h1 h0 | exact absurd h0 (Int32.not_lt.mpr h1) | exact absurd (Int32.not_le.mp h1) h0 | exact k H locs ls hP hD hS hl
theorem J_if_eq_y (C : Cx l K Γ own cc nL ret h) {a : Int32} {off : Int} (tgt : Nat) (h0 : a = 0) (hdg : decode cc pc = .ok (.ifCond .eq off, 3)) (ht : (pc : Int) + off = (tgt : Int)) (k : J l K Γ Q cs ss ws tgt nL lv st) : J l K Γ Q cs ss ws pc nL lv (.int a :: st) := by
  obtain ⟨p, e, R, s, m, args, below, meth, c, A⟩ := Γ
  obtain ⟨hx, hb, hml, hown, hts, hr, hlk, hK, hA, hf1, hf2⟩ := C
  intro H locs ls hP hD hS hl
  refine lv_if_eq (tgt := tgt) hx hb hdg ht (fun h1 => ?_) (fun h1 => ?_) <;> first | exact absurd h0 h1 | exact absurd h1 h0 | exact absurd h0 (Int32.not_lt.mpr h1) | exact absurd (Int32.not_le.mp h1) h0 | exact k H locs ls hP hD hS hl
theorem J_if_eq_n (C : Cx l K Γ own cc nL ret h) {a : Int32} {off : Int} (tgt : Nat) (h0 : ¬ (a = 0)) (hdg : decode cc pc = .ok (.ifCond .eq off, 3)) (ht : (pc : Int) + off = (tgt : Int)) (k : J l K Γ Q cs ss ws (pc + 3) nL lv st) : J l K Γ Q cs ss ws pc nL lv (.int a :: st) := by
  obtain ⟨p, e, R, s, m, args, below, meth, c, A⟩ := Γ
  obtain ⟨hx, hb, hml, hown, hts, hr, hlk, hK, hA, hf1, hf2⟩ := C
  intro H locs ls hP hD hS hl
  refine lv_if_eq (tgt := tgt) hx hb hdg ht (fun h1 => ?_) (fun h1 => ?_) <;> first | exact absurd h0 h1 | exact absurd h1 h0 | exact absurd h0 (Int32.not_lt.mpr h1) | exact absurd (Int32.not_le.mp h1) h0 | exact k H locs ls hP hD hS hl
theorem J_if_ne_y (C : Cx l K Γ own cc nL ret h) {a : Int32} {off : Int} (tgt : Nat) (h0 : a = 0) (hdg : decode cc pc = .ok (.ifCond .ne off, 3)) (ht : (pc : Int) + off = (tgt : Int)) (k : J l K Γ Q cs ss ws (pc + 3) nL lv st) : J l K Γ Q cs ss ws pc nL lv (.int a :: st) := by
  obtain ⟨p, e, R, s, m, args, below, meth, c, A⟩ := Γ
  obtain ⟨hx, hb, hml, hown, hts, hr, hlk, hK, hA, hf1, hf2⟩ := C
  intro H locs ls hP hD hS hl
  refine lv_if_ne (tgt := tgt) hx hb hdg ht (fun h1 => ?_) (fun h1 => ?_) <;> first | exact absurd h0 h1 | exact absurd h1 h0 | exact absurd h0 (Int32.not_lt.mpr h1) | exact absurd (Int32.not_le.mp h1) h0 | exact k H locs ls hP hD hS hl
theorem J_if_ne_n (C : Cx l K Γ own cc nL ret h) {a : Int32} {off : Int} (tgt : Nat) (h0 : ¬ (a = 0)) (hdg : decode cc pc = .ok (.ifCond .ne off, 3)) (ht : (pc : Int) + off = (tgt : Int)) (k : J l K Γ Q cs ss ws tgt nL lv st) : J l K Γ Q cs ss ws pc nL lv (.int a :: st) := by
  obtain ⟨p, e, R, s, m, args, below, meth, c, A⟩ := Γ
  obtain ⟨hx, hb, hml, hown, hts, hr, hlk, hK, hA, hf1, hf2⟩ := C
  intro H locs ls hP hD hS hl
  refine lv_if_ne (tgt := tgt) hx hb hdg ht (fun h1 => ?_) (fun h1 => ?_) <;> first | exact absurd h0 h1 | exact absurd h1 h0 | exact absurd h0 (Int32.not_lt.mpr h1) | exact absurd (Int32.not_le.mp h1) h0 | exact k H locs ls hP hD hS hl
theorem J_icmp_ge_y (C : Cx l K Γ own cc nL ret h) {a b : Int32} {off : Int} (tgt : Nat) (h0 : a < b) (hdg : decode cc pc = .ok (.if_icmp .ge off, 3)) (ht : (pc : Int) + off = (tgt : Int)) (k : J l K Γ Q cs ss ws (pc + 3) nL lv st) : J l K Γ Q cs ss ws pc nL lv (.int b :: .int a :: st) := by
  obtain ⟨p, e, R, s, m, args, below, meth, c, A⟩ := Γ
  obtain ⟨hx, hb, hml, hown, hts, hr, hlk, hK, hA, hf1, hf2⟩ := C
  intro H locs ls hP hD hS hl
  refine lv_icmp_ge (tgt := tgt) hx hb hdg ht (fun h1 => ?_) (fun h1 => ?_) <;> first | exact absurd h0 h1 | exact absurd h1 h0 | exact absurd h0 (Int32.not_lt.mpr h1) | exact absurd (Int32.not_le.mp h1) h0 | exact k H locs ls hP hD hS hl
theorem J_icmp_ge_n (C : Cx l K Γ own cc nL ret h) {a b : Int32} {off : Int} (tgt : Nat) (h0 : ¬ (a < b)) (hdg : decode cc pc = .ok (.if_icmp .ge off, 3)) (ht : (pc : Int) + off = (tgt : Int)) (k : J l K Γ Q cs ss ws tgt nL lv st) : J l K Γ Q cs ss ws pc nL lv (.int b :: .int a :: st) := by
  obtain ⟨p, e, R, s, m, args, below, meth, c, A⟩ := Γ
  obtain ⟨hx, hb, hml, hown, hts, hr, hlk, hK, hA, hf1, hf2⟩ := C
  intro H locs ls hP hD hS hl
  refine lv_icmp_ge (tgt := tgt) hx hb hdg ht (fun h1 => ?_) (fun h1 => ?_) <;> first | exact absurd h0 h1 | exact absurd h1 h0 | exact absurd h0 (Int32.not_lt.mpr h1) | exact absurd (Int32.not_le.mp h1) h0 | exact k H locs ls hP hD hS hl
theorem J_icmp_gt_y (C : Cx l K Γ own cc nL ret h) {a b : Int32} {off : Int} (tgt : Nat) (h0 : b < a) (hdg : decode cc pc = .ok (.if_icmp .gt off, 3)) (ht : (pc : Int) + off = (tgt : Int)) (k : J l K Γ Q cs ss ws tgt nL lv st) : J l K Γ Q cs ss ws pc nL lv (.int b :: .int a :: st) := by
  obtain ⟨p, e, R, s, m, args, below, meth, c, A⟩ := Γ
  obtain ⟨hx, hb, hml, hown, hts, hr, hlk, hK, hA, hf1, hf2⟩ := C
  intro H locs ls hP hD hS hl
  refine lv_icmp_gt (tgt := tgt) hx hb hdg ht (fun h1 => ?_) (fun h1 => ?_) <;> first | exact absurd h0 h1 | exact absurd h1 h0 | exact absurd h0 (Int32.not_lt.mpr h1) | exact absurd (Int32.not_le.mp h1) h0 | exact k H locs ls hP hD hS hl
theorem J_icmp_gt_n (C : Cx l K Γ own cc nL ret h) {a b : Int32} {off : Int} (tgt : Nat) (h0 : ¬ (b < a)) (hdg : decode cc pc = .ok (.if_icmp .gt off, 3)) (ht : (pc : Int) + off = (tgt : Int)) (k : J l K Γ Q cs ss ws (pc + 3) nL lv st) : J l K Γ Q cs ss ws pc nL lv (.int b :: .int a :: st) := by
  obtain ⟨p, e, R, s, m, args, below, meth, c, A⟩ := Γ
  obtain ⟨hx, hb, hml, hown, hts, hr, hlk, hK, hA, hf1, hf2⟩ := C
  intro H locs ls hP hD hS hl
  refine lv_icmp_gt (tgt := tgt) hx hb hdg ht (fun h1 => ?_) (fun h1 => ?_) <;> first | exact absurd h0 h1 | exact absurd h1 h0 | exact absurd h0 (Int32.not_lt.mpr h1) | exact absurd (Int32.not_le.mp h1) h0 | exact k H locs ls hP hD hS hl
theorem J_icmp_eq_y (C : Cx l K Γ own cc nL ret h) {a b : Int32} {off : Int} (tgt : Nat) (h0 : a = b) (hdg : decode cc pc = .ok (.if_icmp .eq off, 3)) (ht : (pc : Int) + off = (tgt : Int)) (k : J l K Γ Q cs ss ws tgt nL lv st) : J l K Γ Q cs ss ws pc nL lv (.int b :: .int a :: st) := by
  obtain ⟨p, e, R, s, m, args, below, meth, c, A⟩ := Γ
  obtain ⟨hx, hb, hml, hown, hts, hr, hlk, hK, hA, hf1, hf2⟩ := C
  intro H locs ls hP hD hS hl
  refine lv_icmp_eq (tgt := tgt) hx hb hdg ht (fun h1 => ?_) (fun h1 => ?_) <;> first | exact absurd h0 h1 | exact absurd h1 h0 | exact absurd h0 (Int32.not_lt.mpr h1) | exact absurd (Int32.not_le.mp h1) h0 | exact k H locs ls hP hD hS hl
theorem J_icmp_eq_n (C : Cx l K Γ own cc nL ret h) {a b : Int32} {off : Int} (tgt : Nat) (h0 : ¬ (a = b)) (hdg : decode cc pc = .ok (.if_icmp .eq off, 3)) (ht : (pc : Int) + off = (tgt : Int)) (k : J l K Γ Q cs ss ws (pc + 3) nL lv st) : J l K Γ Q cs ss ws pc nL lv (.int b :: .int a :: st) := by
  obtain ⟨p, e, R, s, m, args, below, meth, c, A⟩ := Γ
  obtain ⟨hx, hb, hml, hown, hts, hr, hlk, hK, hA, hf1, hf2⟩ := C
  intro H locs ls hP hD hS hl
  refine lv_icmp_eq (tgt := tgt) hx hb hdg ht (fun h1 => ?_) (fun h1 => ?_) <;> first | exact absurd h0 h1 | exact absurd h1 h0 | exact absurd h0 (Int32.not_lt.mpr h1) | exact absurd (Int32.not_le.mp h1) h0 | exact k H locs ls hP hD hS hl
theorem J_get (C : Cx l K Γ own cc nL ret h) (q0 k : Nat) {ci index N a : Nat} {fs : List Value} {CN ref : String} {T : u_T} {v : Value} (hdg : decode cc pc = .ok (.getfield index, 3)) (hin : ∀ w ∈ u_ws CN T N, w ∈ wsL_law) (hu : Cond.fieldLink own index ref (T k).2.1 (T k).2.2.1 ∈ wsL_law) (href : ref = (T k).1) (hk : k < N) (he : ws[q0]? = some (a, .inr (ci, fs))) (hc : classes[ci]? = some (CN, T, N)) (hv : fs[k]? = some v) (kk : J l K Γ Q cs ss ws (pc + 3) nL lv (v :: st)) : J l K Γ Q cs ss ws pc nL lv (.ref a :: st) := by
  obtain ⟨p, e, R, s, m, args, below, meth, c, A⟩ := Γ
  obtain ⟨hx, hb, hml, hown, hts, hr, hlk, hK, hA, hf1, hf2⟩ := C
  subst href
  intro H locs ls hP hD hS hl
  exact va_get (C := CN) (T := T) (N := N) hx hb hts hin hown hK.1.1 hP q0 he hc k hk (hts _ hu) (fun _ h9 => h9) hv hdg (kk H locs ls hP hD hS hl)
theorem J_put (C : Cx l K Γ own cc nL ret h) (q0 k : Nat) (ty0 : Nat → FieldType) (ty : FieldType) {ci index N a : Nat} {fs : List Value} {CN ref : String} {T : u_T} {v : Value} {ws' : va_W} (hdg : decode cc pc = .ok (.putfield index, 3)) (hin : ∀ w ∈ u_ws CN T N, w ∈ wsL_law) (hu : Cond.fieldLink own index ref (T k).2.1 (T k).2.2.1 ∈ wsL_law) (hty : ∀ k, k < N → parseFieldDescriptor (T k).2.2.1 = some (ty0 k)) (hnm : ∀ a, a < N → ∀ b, b < N → a ≠ b → (T a).2.1 ≠ (T b).2.1) (href : ref = (T k).1) (hk : k < N) (hfin : (T k).2.2.2 = false) (hd : parseFieldDescriptor (T k).2.2.1 = some ty) (he : ws[q0]? = some (a, .inr (ci, fs))) (hc : classes[ci]? = some (CN, T, N)) (hn : narrow ty v = v) (hfit : fits ty v = true) (hlen : k < fs.length) (hw : ws.set q0 (a, .inr (ci, fs.set k v)) = ws') (kk : J l K Γ Q cs ss ws' (pc + 3) nL lv st) : J l K Γ Q cs ss ws pc nL lv (v :: .ref a :: st) := by
  obtain ⟨p, e, R, s, m, args, below, meth, c, A⟩ := Γ
  obtain ⟨hx, hb, hml, hown, hts, hr, hlk, hK, hA, hf1, hf2⟩ := C
  subst href
  subst hw
  intro H locs ls hP hD hS hl
  exact va_put (C := CN) (T := T) (N := N) (ty := ty) hx hb hts hin ty0 hty hnm hown hK.1.1 hP hD hS q0 he hc k hk (hts _ hu) (fun _ h9 => h9) hfin hd hn hfit hlen hdg (fun H1 locs1 hP hD hS => kk H1 locs1 ls hP hD hS hl)
theorem J_iast (C : Cx l K Γ own cc nL ret h) (q0 : Nat) {a n : Nat} {f : Nat → Int32} {i v : Int32} {ws' : va_W} (hdg : decode cc pc = .ok (.iastore, 1)) (ha : ws[q0]? = some (a, .inl (K.2 0, n, .inl f))) (hin : vp_in i n) (hw : ws.set q0 (a, .inl (K.2 0, n, .inl (upd f i.toNatClampNeg v))) = ws') (k : J l K Γ Q cs ss ws' (pc + 1) nL lv st) : J l K Γ Q cs ss ws pc nL lv (.int v :: .int i :: .ref a :: st) := by
  obtain ⟨p, e, R, s, m, args, below, meth, c, A⟩ := Γ
  obtain ⟨hx, hb, hml, hown, hts, hr, hlk, hK, hA, hf1, hf2⟩ := C
  subst hw
  intro H locs ls hP hD hS hl
  exact va_iast hx hb hK.1.1 hP hD hS q0 0 ha rfl hin hdg (fun H1 locs1 hP hD hS => k H1 locs1 ls hP hD hS hl)
theorem J_tswIn (C : Cx l K Γ own cc nL ret h) {dflt lo hi : Int} {offs : Array Int} {len : Nat} {a v : Int32} {off : Int} (tgt j : Nat) (hdg : decode cc pc = .ok (.tableswitch dflt lo hi offs, len)) (ha : a = v) (hv : v.toInt = lo + (j : Int)) (hj : lo + (j : Int) ≤ hi) (ho : offs[j]? = some off) (ht : (pc : Int) + off = (tgt : Int)) (k : J l K Γ Q cs ss ws tgt nL lv st) : J l K Γ Q cs ss ws pc nL lv (.int a :: st) := by
  obtain ⟨p, e, R, s, m, args, below, meth, c, A⟩ := Γ
  obtain ⟨hx, hb, hml, hown, hts, hr, hlk, hK, hA, hf1, hf2⟩ := C
  intro H locs ls hP hD hS hl
  subst ha
  exact lv_tableIn hx hb hdg (by omega) (by omega) (by rw [hv, show (lo + (j : Int) - lo).toNat = j by omega]; exact ho) ht (k H locs ls hP hD hS hl)
theorem J_tswOut (C : Cx l K Γ own cc nL ret h) {dflt lo hi : Int} {offs : Array Int} {len : Nat} {a : Int32} (tgt : Nat) (hdg : decode cc pc = .ok (.tableswitch dflt lo hi offs, len)) (ha : a.toInt < lo ∨ hi < a.toInt) (ht : (pc : Int) + dflt = (tgt : Int)) (k : J l K Γ Q cs ss ws tgt nL lv st) : J l K Γ Q cs ss ws pc nL lv (.int a :: st) := by
  obtain ⟨p, e, R, s, m, args, below, meth, c, A⟩ := Γ
  obtain ⟨hx, hb, hml, hown, hts, hr, hlk, hK, hA, hf1, hf2⟩ := C
  intro H locs ls hP hD hS hl
  exact lv_tableOut hx hb hdg ha ht (k H locs ls hP hD hS hl)
theorem J_perm {ws' : va_W} (hp : ws.Perm ws') (k : J l K Γ Q cs ss ws' pc nL lv st) : J l K Γ Q cs ss ws pc nL lv st := by
  obtain ⟨p, e, R, s, m, args, below, meth, c, A⟩ := Γ
  intro H locs ls hP hD hS hl
  exact k H locs ls (va_P_perm hp hP) (va_D_perm hp hD) hS hl
theorem J_widen {k n : Nat} (hk : cs ≤ k) (hn : ss ≤ n) (kk : J l K Γ Q k n ws pc nL lv st) : J l K Γ Q cs ss ws pc nL lv st := by
  obtain ⟨p, e, R, s, m, args, below, meth, c, A⟩ := Γ
  intro H locs ls hP hD hS hl
  exact W.widen hk hn (kk H locs ls hP hD hS hl)
theorem J_obj (C : Cx l K Γ own cc nL ret h) {idx a : Nat} (hdg : decode cc pc = .ok (.invokespecial idx, 3)) (hu : Cond.methodLink own idx objectInit ∈ wsL_law) (hh : 1 ≤ h) (hrest : (st.map fun v => v.category).sum ≤ 8) (k : J l K Γ Q cs ss ws (pc + 3) nL lv st) : J l K Γ Q cs ss ws pc nL lv (.ref a :: st) := by
  obtain ⟨p, e, R, s, m, args, below, meth, c, A⟩ := Γ
  obtain ⟨hx, hb, hml, hown, hts, hr, hlk, hK, hA, hf1, hf2⟩ := C
  intro H locs ls hP hD hS hl
  refine W.objInit (g := F0 m pc ls (.ref a :: st)) (rest := st) hx hb hown (hts _ hu) (hts _ ui_Jobj) (hts _ uc_Jobj) rfl (by rw [hml]; exact hl.1) rfl hdg (by omega) ?_ ?_
  · show 2 * 0 + (st.map fun v => v.category).sum + 12 ≤ R.locals
    omega
  · exact W.eq (g2 := F0 m (pc + 3) ls st) rfl (k H locs ls hP hD hS hl)
theorem J_new (C : Cx l K Γ own cc nL ret h) {CM SM : Nat} (Y : Cy Γ CM SM) {CN : String} {T : u_T} {N index : Nat} (ci : Nat) (fs : List Value) (ty : Nat → FieldType) (hdg : decode cc pc = .ok (.new index, 3)) (hin : ∀ w ∈ u_ws CN T N, w ∈ wsL_law) (hty : ∀ k, k < N → parseFieldDescriptor (T k).2.2.1 = some (ty k)) (hu : Cond.classLink own index CN ∈ wsL_law) (hi : Cond.instantiable CN N ∈ wsL_law) (hn : Cond.initialized CN ∈ wsL_law) (hc : classes[ci]? = some (CN, T, N)) (hfs : ∀ j, j < N → defaultValue (ty j) = vp_V fs j) (h1 : cs + 1 ≤ CM) (h2 : ss + N ≤ SM)
    (kk : ∀ q : Nat, J l K Γ Q (cs + 1) (ss + N) (ws ++ [(q, .inr (ci, fs))]) (pc + 3) nL lv (.ref q :: st)) : J l K Γ Q cs ss ws pc nL lv st := by
  obtain ⟨p, e, R, s, m, args, below, meth, c, A⟩ := Γ
  obtain ⟨hx, hb, hml, hown, hts, hr, hlk, hK, hA, hf1, hf2⟩ := C
  obtain ⟨y1, y2, y3⟩ := Y
  intro H locs ls hP hD hS hl
  exact va_new (ci := ci) (fs := fs) (C := CN) (T := T) (N := N) hx hb hts hin ty hty hown (hts _ hu) (hts _ hi) (hts _ hn) hK.1.1 hP hD hS hA hc hfs (Nat.le_trans h1 y1) (Nat.le_trans h2 y2) hdg (fun q H1 hP hD hS => kk q H1 locs ls hP hD hS hl)
theorem arr_id {U : State} {cA cB : ClassId} {ty : FieldType} (h1 : va_RA U cA ty) (h2 : va_RA U cB ty) : cA = cB := by
  cases ty with
  | object C =>
    obtain ⟨_, _, _, _, _, g1⟩ := h1
    obtain ⟨_, _, _, _, _, g2⟩ := h2
    exact Option.some.inj (g1.symm.trans g2)
  | _ => exact Option.some.inj (h1.symm.trans h2)
theorem J_newa (C : Cx l K Γ own cc nL ret h) {CM SM : Nat} (Y : Cy Γ CM SM) {atype : ArrayType} {ty : FieldType} {cA : ClassId} (t0 : Nat) {n : Int32} (N : Nat) (a0 : vp_A) (hdg : decode cc pc = .ok (.newarray atype, 2)) (harr : Cond.arrayClass (newarray.typeOf atype) ∈ wsL_law) (hty : newarray.typeOf atype = ty) (ht : (tys K)[t0]? = some (cA, ty)) (ha : ∀ cA : ClassId, vp_cell cA a0 = arrV cA N (fun _ => defaultValue ty)) (hn : ¬ n < 0) (hN : n.toNatClampNeg = N) (hbytes : N * componentBytes ty ≤ 536870912) (h1 : cs + 1 ≤ CM) (h2 : ss + N ≤ SM)
    (kk : ∀ q : Nat, J l K Γ Q (cs + 1) (ss + N) (ws ++ [(q, .inl (cA, a0))]) (pc + 2) nL lv (.ref q :: st)) : J l K Γ Q cs ss ws pc nL lv (.int n :: st) := by
  obtain ⟨p, e, R, s, m, args, below, meth, c, A⟩ := Γ
  obtain ⟨hx, hb, hml, hown, hts, hr, hlk, hK, hA, hf1, hf2⟩ := C
  obtain ⟨y1, y2, y3⟩ := Y
  intro H locs ls hP hD hS hl
  refine va_newa (a0 := a0) hx hb (hts _ harr) hty hK.1.1 hP hD hS hA ha hn hN hbytes (Nat.le_trans h1 y1) (Nat.le_trans h2 y2) hdg (fun q cB H1 hKB hP hD hS => ?_)
  have e1 : cB = cA := arr_id (hKB.2 (tys K).length (cB, ty) (by rw [List.getElem?_append_right (Nat.le_refl _)]; simp)).2 (hK.1.1.2 t0 _ ht).2
  subst e1
  exact kk q H1 locs ls hP hD hS hl
theorem J_newq (C : Cx l K Γ own cc nL ret h) {CM SM : Nat} (Y : Cy Γ CM SM) {index : Nat} {n : Int32} (N : Nat) (hdg : decode cc pc = .ok (.anewarray index, 3)) (hu : Cond.classLink own index RX6 ∈ wsL_law) (hn : ¬ n < 0) (hN : n.toNatClampNeg = N) (hbytes : N * 4 ≤ 536870912) (h1 : cs + 1 ≤ CM) (h2 : ss + N ≤ SM)
    (kk : ∀ q : Nat, J l K Γ Q (cs + 1) (ss + N) (ws ++ [(q, .inl (K.2 3, N, .inr (.inr (.inr (.inr (fun _ => none))))))]) (pc + 3) nL lv (.ref q :: st)) : J l K Γ Q cs ss ws pc nL lv (.int n :: st) := by
  obtain ⟨p, e, R, s, m, args, below, meth, c, A⟩ := Γ
  obtain ⟨hx, hb, hml, hown, hts, hr, hlk, hK, hA, hf1, hf2⟩ := C
  obtain ⟨y1, y2, y3⟩ := Y
  intro H locs ls hP hD hS hl
  refine va_newq (C := RX6) hx hb hown (hts _ hu) y3 hK.1.1 hP hD hS hA hn hN hbytes (Nat.le_trans h1 y1) (Nat.le_trans h2 y2) hdg (fun q cB H1 hKB hP hD hS => ?_)
  have e1 : cB = K.2 3 := arr_id (hKB.2 (tys K).length (cB, .object RX6) (by rw [List.getElem?_append_right (Nat.le_refl _)]; simp)).2 (hK.1.1.2 3 _ rfl).2
  subst e1
  exact kk q H1 locs ls hP hD hS hl
theorem J_putF (C : Cx l K Γ own cc nL ret h) (Z : Ci Γ) (q0 k : Nat) (ty0 : Nat → FieldType) (ty : FieldType) {ci index N a : Nat} {fs : List Value} {CN ref : String} {T : u_T} {v : Value} (ws' : va_W) (hdg : decode cc pc = .ok (.putfield index, 3)) (hin : ∀ w ∈ u_ws CN T N, w ∈ wsL_law) (hu : Cond.fieldLink own index ref (T k).2.1 (T k).2.2.1 ∈ wsL_law) (hty : ∀ k, k < N → parseFieldDescriptor (T k).2.2.1 = some (ty0 k)) (hnm : ∀ a, a < N → ∀ b, b < N → a ≠ b → (T a).2.1 ≠ (T b).2.1) (href : ref = (T k).1) (hk : k < N) (hfin : (T k).2.2.2 = true) (hdecl : (T k).1 = own) (hd : parseFieldDescriptor (T k).2.2.1 = some ty) (he : ws[q0]? = some (a, .inr (ci, fs))) (hc : classes[ci]? = some (CN, T, N)) (hn : narrow ty v = v) (hfit : fits ty v = true) (hlen : k < fs.length) (hw : ws.set q0 (a, .inr (ci, fs.set k v)) = ws') (kk : J l K Γ Q cs ss ws' (pc + 3) nL lv st) : J l K Γ Q cs ss ws pc nL lv (v :: .ref a :: st) := by
  obtain ⟨p, e, R, s, m, args, below, meth, c, A⟩ := Γ
  obtain ⟨hx, hb, hml, hown, hts, hr, hlk, hK, hA, hf1, hf2⟩ := C
  subst href
  subst hw
  intro H locs ls hP hD hS hl
  exact va_putF (C := CN) (T := T) (N := N) (ty := ty) hx hb hts hin ty0 hty hnm hown hK.1.1 hP hD hS q0 he hc k hk (hts _ hu) (fun _ h9 => h9) hfin Z hdecl hd hn hfit hlen hdg (fun H1 locs1 hP hD hS => kk H1 locs1 ls hP hD hS hl)
theorem J_astq (C : Cx l K Γ own cc nL ret h) (q0 qk : Nat) {a n v : Nat} {vs : List Value} {f : Nat → Option Nat} {i : Int32} (ws' : va_W) (hdg : decode cc pc = .ok (.aastore, 1)) (ha : ws[q0]? = some (a, .inl (K.2 3, n, .inr (.inr (.inr (.inr f)))))) (hv : ws[qk]? = some (v, .inr (6, vs))) (hin : vp_in i n) (hw : ws.set q0 (a, .inl (K.2 3, n, .inr (.inr (.inr (.inr (va_up f i.toNatClampNeg (some v))))))) = ws') (kk : J l K Γ Q cs ss ws' (pc + 1) nL lv st) : J l K Γ Q cs ss ws pc nL lv (.ref v :: .int i :: .ref a :: st) := by
  obtain ⟨p, e, R, s, m, args, below, meth, c, A⟩ := Γ
  obtain ⟨hx, hb, hml, hown, hts, hr, hlk, hK, hA, hf1, hf2⟩ := C
  subst hw
  intro H locs ls hP hD hS hl
  exact va_astq (r := (RX6, TX6, 7)) hx hb hK.1.1 hP hD hS q0 3 qk 6 ha rfl hv rfl hin hdg (fun H1 locs1 hP hD hS => kk H1 locs1 ls hP hD hS hl)
theorem g_callW {p : Program} {l : Launch} {e : Env} {R : Room} {s : State} {m : MethodId} {args : Array Value} {below : List Frame} {meth : Method} {c : Code} {H : Heap} {locs : List Loc} {Q : State → Prop} {pc : Nat} {ls : Array Slot} {rest st0 : List Value} {a : Array Value} {A0 A1 : Nat → Prop} {H0 : Heap} {free : Addr → Prop} {K : gK} {r : gR} {cs ss : Nat}
    (hr : va_Run p l e R s m args below meth c H locs cs ss 0 0 (F0 m pc ls st0) rest (Qr K A1 r a) free) (hS : va_S A0 H0 H locs) (hA : ∀ q, q < H.size → A1 q → A0 q) (hf : ∀ q, free q → A0 q)
    (kk : ∀ (t : State) (H1 : Heap) (locs1 : List Loc), t.heap = H1 → va_P K.1 classes r.2 t.heap → va_D A1 r.2 → (∀ q : Nat, q < H.size → ¬ A1 q → H1[q]? = H[q]?) → va_S A0 H0 H1 locs1 → W p l e R s m args below meth c H1 locs1 cs ss Q (F0 m (pc + 3) ls (r.1.toList ++ rest))) : W p l e R s m args below meth c H locs cs ss Q (F0 m pc ls st0) := by
  intro T hT X
  obtain ⟨v, st₀, t, T', L, h0, X', hL, e1, e2, ⟨⟨hv, hp, hd⟩, hz, hk⟩, st⟩ := hr T hT X
  have hv2 : v = r.1 := by cases hv; rfl
  subst hv2
  rw [h0] at hz hk
  obtain ⟨t2, a1, b1⟩ := kk t T'.heap (locs ++ L) e1.symm hp hd (fun q h1 h2 => by rw [e1]; exact hk q h1 h2)
    ⟨Nat.le_trans hS.1 (by rw [e1]; exact hz), fun q h1 h2 => by rw [e1, hk q (Nat.lt_of_lt_of_le h1 hS.1) (fun z => h2 (hA q (Nat.lt_of_lt_of_le h1 hS.1) z))]; exact hS.2.1 q h1 h2, fun q hq => by
      rcases List.mem_append.mp hq with h | h
      · exact hS.2.2 q h
      · exact hf _ (hL q h)⟩ T' rfl X'
  exact ⟨t2, st t2 a1, b1⟩
theorem J_callS (C : Cx l K Γ own cc nL ret h) {CM SM : Nat} (Y : Cy Γ CM SM) (h1 : cs ≤ CM) (h2 : ss ≤ SM) {y : MethodName} {bytes : ByteArray} {maxL h' index n : Nat} {rt : Option FieldType} {as rest : List Value} {v : Option Value} {ws' : va_W} (hcard : Card y bytes maxL rt n) (hstt : Cond.static y ∈ wsL_law) (hu : Cond.methodLink own index y ∈ wsL_law) (ct : Ct l K y bytes maxL rt h' as ws (v, ws')) (hdg : decode cc pc = .ok (.invokestatic index, 3)) (hst : st = as.reverse ++ rest) (hn : as.length = n) (hh : h' + 1 ≤ h) (hrest : (rest.map fun v => v.category).sum ≤ 8) (kk : J l K Γ Q cs ss ws' (pc + 3) nL lv (v.toList ++ rest)) : J l K Γ Q cs ss ws pc nL lv st := by
  obtain ⟨p, e, R, s, m, args, below, meth, c, A⟩ := Γ
  obtain ⟨hx, hb, hml, hown, hts, hr, hlk, hK, hA, hf1, hf2⟩ := C
  obtain ⟨y1, y2, y3⟩ := Y
  subst hst
  intro H locs ls hP hD hS hl
  have hM := ct H.size
  have hcd := hcard
  obtain ⟨hc1, hc2, hc3, hc4⟩ := hcd
  have hF : ∀ q, va_A ws H.size q → A q := va_free hD hS hA (List.range ws.length) (g_range ws)
  have hfb : FrameBlind (va_Pc (as) (fun U => U.heap.size = H.size ∧ va_P K.1 classes ws U.heap ∧ KS K (va_A ws H.size) U U.heap ∧ va_D (fun _ => True) ws)) := fun a U g mk q => by
    obtain ⟨q0, q1, q2, q3, q4⟩ := q
    exact ⟨q0, q1, q2, ⟨q3.1.calling, q3.2.calling⟩, q4⟩
  have hpre : ∀ U : State, U.heap = H → s.WarmedH U.vm → va_Pc (as) (fun U => U.heap.size = H.size ∧ va_P K.1 classes ws U.heap ∧ KS K (va_A ws H.size) U U.heap ∧ va_D (fun _ => True) ws) (as).toArray U := fun U hU hW => ⟨rfl, by rw [hU], by rw [hU]; exact hP, ⟨hK.1.warm hW, by rw [hU]; exact ((hK.2.kept hS.2.1).narrow hF).warm hW⟩, hD.weaken (fun _ _ _ _ => trivial)⟩
  have hroom : h' + 1 ≤ R.frames ∧ 8 + (maxL + 11) + 30 * h' ≤ R.locals := ⟨by omega, by omega⟩
  refine g_callW (va_runS (As := as) (rest := rest) ⟨hx, hb, hml, hown, hts⟩ hM ⟨callB_of n hts (good_Card hcard) rfl rfl rfl (hts _ hc2) (hts _ hu) hc3 hroom, hts _ hstt⟩ ⟨hfb, hpre⟩ rfl hn hl.1 rfl (lv_room hrest) hdg ⟨Nat.le_trans h1 y1, Nat.le_trans h2 y2⟩) hS (fun q _ h => hF q h) hF (fun t H1 locs1 ht hP1 hD1 hk1 hS1 => kk H1 locs1 ls (by rw [← ht]; exact hP1) (hD1.weaken (fun _ q _ hq => hF q.1 hq)) hS1 hl)
theorem J_callV (C : Cx l K Γ own cc nL ret h) {CM SM : Nat} (Y : Cy Γ CM SM) (h1 : cs ≤ CM) (h2 : ss ≤ SM) {y : MethodName} {bytes : ByteArray} {maxL h' index n : Nat} {rt : Option FieldType} {as rest : List Value} {v : Option Value} {ws' : va_W} {b : Nat} {fs : List Value} {T : u_T} {N : Nat} (q0 ci : Nat) (hcard : Card y bytes maxL rt n) (hins : Cond.instanceMethod y ∈ wsL_law) (hsel : Cond.selects y.cls y y ∈ wsL_law) (hu : Cond.methodLink own index y ∈ wsL_law) (hc : classes[ci]? = some (y.cls, T, N)) (he : ws[q0]? = some (b, .inr (ci, fs))) (ct : Ct l K y bytes maxL rt h' (.ref b :: as) ws (v, ws')) (hdg : decode cc pc = .ok (.invokevirtual index, 3)) (hst : st = as.reverse ++ .ref b :: rest) (hn : as.length = n) (hh : h' + 1 ≤ h) (hrest : (rest.map fun v => v.category).sum ≤ 8) (kk : J l K Γ Q cs ss ws' (pc + 3) nL lv (v.toList ++ rest)) : J l K Γ Q cs ss ws pc nL lv st := by
  obtain ⟨p, e, R, s, m, args, below, meth, c, A⟩ := Γ
  obtain ⟨hx, hb, hml, hown, hts, hr, hlk, hK, hA, hf1, hf2⟩ := C
  obtain ⟨y1, y2, y3⟩ := Y
  subst hst
  intro H locs ls hP hD hS hl
  have hM := ct H.size
  have hcd := hcard
  obtain ⟨hc1, hc2, hc3, hc4⟩ := hcd
  have hF : ∀ q, va_A ws H.size q → A q := va_free hD hS hA (List.range ws.length) (g_range ws)
  have hfb : FrameBlind (va_Pc (.ref b :: as) (fun U => U.heap.size = H.size ∧ va_P K.1 classes ws U.heap ∧ KS K (va_A ws H.size) U U.heap ∧ va_D (fun _ => True) ws)) := fun a U g mk q => by
    obtain ⟨q0, q1, q2, q3, q4⟩ := q
    exact ⟨q0, q1, q2, ⟨q3.1.calling, q3.2.calling⟩, q4⟩
  have hpre : ∀ U : State, U.heap = H → s.WarmedH U.vm → va_Pc (.ref b :: as) (fun U => U.heap.size = H.size ∧ va_P K.1 classes ws U.heap ∧ KS K (va_A ws H.size) U U.heap ∧ va_D (fun _ => True) ws) (.ref b :: as).toArray U := fun U hU hW => ⟨rfl, by rw [hU], by rw [hU]; exact hP, ⟨hK.1.warm hW, by rw [hU]; exact ((hK.2.kept hS.2.1).narrow hF).warm hW⟩, hD.weaken (fun _ _ _ _ => trivial)⟩
  have hroom : h' + 1 ≤ R.frames ∧ 8 + (maxL + 11) + 30 * h' ≤ R.locals := ⟨by omega, by omega⟩
  refine g_callW (va_runV (As := as) (rest := rest) ⟨hx, hb, hml, hown, hts⟩ hM ⟨callB_of n hts (good_Card hcard) rfl rfl rfl (hts _ hc2) (hts _ hu) hc3 hroom, hts _ hins, hts _ hsel⟩ ⟨hfb, va_recv hK.1.1 hP (ci := ci) (q0 := q0) hc he, hpre⟩ rfl hn hl.1 rfl (lv_room hrest) hdg ⟨Nat.le_trans h1 y1, Nat.le_trans h2 y2⟩) hS (fun q _ h => hF q h) hF (fun t H1 locs1 ht hP1 hD1 hk1 hS1 => kk H1 locs1 ls (by rw [← ht]; exact hP1) (hD1.weaken (fun _ q _ hq => hF q.1 hq)) hS1 hl)
theorem J_callI {S : Type} (C : Cx l K Γ own cc nL ret h) {CM SM : Nat} (Y : Cy Γ CM SM) {y : MethodName} {bytes : ByteArray} {maxL h' nc ns index n : Nat} {as rest : List Value} {Wr : S → va_W} {b : Nat} {host : String} (hcard : Card y bytes maxL none n) (hyn : y.name = "<init>") (hins : Cond.instanceMethod y ∈ wsL_law) (hu : Cond.methodLink own index y ∈ wsL_law) (ct : Ca l K y bytes maxL h' nc ns (.ref b :: as) ws Wr) (hdg : decode cc pc = .ok (.invokespecial index, 3)) (hst : st = as.reverse ++ .ref b :: rest) (hn : as.length = n) (hh : h' + 1 ≤ h) (hrest : (rest.map fun v => v.category).sum ≤ 8) (h1 : cs + nc ≤ CM) (h2 : ss + ns ≤ SM) (kk : ∀ u : S, J l K Γ Q (cs + nc) (ss + ns) (Wr u) (pc + 3) nL lv rest) : J l K Γ Q cs ss ws pc nL lv st := by
  obtain ⟨p, e, R, s, m, args, below, meth, c, A⟩ := Γ
  obtain ⟨hx, hb, hml, hown, hts, hr, hlk, hK, hA, hf1, hf2⟩ := C
  obtain ⟨y1, y2, y3⟩ := Y
  subst hst
  intro H locs ls hP hD hS hl
  have hM := ct H.size
  have hcd := hcard
  obtain ⟨hc1, hc2, hc3, hc4⟩ := hcd
  have hF : ∀ q, va_A ws H.size q → A q := va_free hD hS hA (List.range ws.length) (g_range ws)
  have hfb : FrameBlind (va_Pc (.ref b :: as) (fun U => U.heap.size = H.size ∧ va_P K.1 classes ws U.heap ∧ (KS K (va_A ws H.size) U U.heap ∧ va_AO RX6 U) ∧ va_D (fun _ => True) ws)) := fun a U g mk q => by
    obtain ⟨q0, q1, q2, ⟨q3, q5⟩, q4⟩ := q
    exact ⟨q0, q1, q2, ⟨⟨q3.1.calling, q3.2.calling⟩, va_AO.moved (u := U) (U := U.calling g mk a) (Vm.Alike.refl U.vm) q5⟩, q4⟩
  have hpre : ∀ U : State, U.heap = H → s.WarmedH U.vm → va_Pc (.ref b :: as) (fun U => U.heap.size = H.size ∧ va_P K.1 classes ws U.heap ∧ (KS K (va_A ws H.size) U U.heap ∧ va_AO RX6 U) ∧ va_D (fun _ => True) ws) (.ref b :: as).toArray U := fun U hU hW => ⟨rfl, by rw [hU], by rw [hU]; exact hP, ⟨⟨hK.1.warm hW, by rw [hU]; exact ((hK.2.kept hS.2.1).narrow hF).warm hW⟩, va_AO.moved hW.alike y3⟩, hD.weaken (fun _ _ _ _ => trivial)⟩
  have hroom : h' + 1 ≤ R.frames ∧ 8 + (maxL + 11) + 30 * h' ≤ R.locals := ⟨by omega, by omega⟩
  refine va_callv (va_runI (As := as) (rest := rest) ⟨hx, hb, hml, hown, hts⟩ hM ⟨callB_of n hts (good_Card hcard) rfl rfl rfl (hts _ hc2) (hts _ hu) hc3 hroom, hyn, hts _ hins⟩ ⟨hfb, hpre⟩ rfl hn hl.1 rfl (lv_room hrest) hdg ⟨Nat.le_trans h1 y1, Nat.le_trans h2 y2⟩) hS (fun q _ h => hF q h) hF (fun u t H1 locs1 ht hvm _ hB hz hk1 hS1 => kk u H1 locs1 ls (by rw [← ht]; exact hB.1) (hB.2.weaken (fun _ q _ hq => hF q.1 hq)) hS1 hl)
theorem J_callIN {S : Type} (C : Cx l K Γ own cc nL ret h) {CM SM : Nat} (Y : Cy Γ CM SM) {y : MethodName} {bytes : ByteArray} {maxL h' nc ns index n : Nat} {as rest : List Value} {Wr : S → va_W} {b : Nat} {host : String} (hcard : Card y bytes maxL none n) (hyn : y.name = "<init>") (hins : Cond.instanceMethod y ∈ wsL_law) (hu : Cond.methodLinkNest own index y host ∈ nestW) (ct : Ca l K y bytes maxL h' nc ns (.ref b :: as) ws Wr) (hdg : decode cc pc = .ok (.invokespecial index, 3)) (hst : st = as.reverse ++ .ref b :: rest) (hn : as.length = n) (hh : h' + 1 ≤ h) (hrest : (rest.map fun v => v.category).sum ≤ 8) (h1 : cs + nc ≤ CM) (h2 : ss + ns ≤ SM) (kk : ∀ u : S, J l K Γ Q (cs + nc) (ss + ns) (Wr u) (pc + 3) nL lv rest) : J l K Γ Q cs ss ws pc nL lv st := by
  obtain ⟨p, e, R, s, m, args, below, meth, c, A⟩ := Γ
  obtain ⟨hx, hb, hml, hown, hts, hr, hlk, hK, hA, hf1, hf2⟩ := C
  obtain ⟨y1, y2, y3⟩ := Y
  subst hst
  intro H locs ls hP hD hS hl
  have hM := ct H.size
  have hcd := hcard
  obtain ⟨hc1, hc2, hc3, hc4⟩ := hcd
  have hF : ∀ q, va_A ws H.size q → A q := va_free hD hS hA (List.range ws.length) (g_range ws)
  have hfb : FrameBlind (va_Pc (.ref b :: as) (fun U => U.heap.size = H.size ∧ va_P K.1 classes ws U.heap ∧ (KS K (va_A ws H.size) U U.heap ∧ va_AO RX6 U) ∧ va_D (fun _ => True) ws)) := fun a U g mk q => by
    obtain ⟨q0, q1, q2, ⟨q3, q5⟩, q4⟩ := q
    exact ⟨q0, q1, q2, ⟨⟨q3.1.calling, q3.2.calling⟩, va_AO.moved (u := U) (U := U.calling g mk a) (Vm.Alike.refl U.vm) q5⟩, q4⟩
  have hpre : ∀ U : State, U.heap = H → s.WarmedH U.vm → va_Pc (.ref b :: as) (fun U => U.heap.size = H.size ∧ va_P K.1 classes ws U.heap ∧ (KS K (va_A ws H.size) U U.heap ∧ va_AO RX6 U) ∧ va_D (fun _ => True) ws) (.ref b :: as).toArray U := fun U hU hW => ⟨rfl, by rw [hU], by rw [hU]; exact hP, ⟨⟨hK.1.warm hW, by rw [hU]; exact ((hK.2.kept hS.2.1).narrow hF).warm hW⟩, va_AO.moved hW.alike y3⟩, hD.weaken (fun _ _ _ _ => trivial)⟩
  have hroom : h' + 1 ≤ R.frames ∧ 8 + (maxL + 11) + 30 * h' ≤ R.locals := ⟨by omega, by omega⟩
  refine va_callv (va_runIN (As := as) (rest := rest) ⟨hx, hb, hml, hown, hts⟩ hM ⟨va_cnB n hts (good_Card hcard) rfl rfl rfl (hK.1.2 _ hu) (hts _ hc2) hc3 hroom, hyn, hts _ hins⟩ ⟨hfb, hpre⟩ rfl hn hl.1 rfl (lv_room hrest) hdg ⟨Nat.le_trans h1 y1, Nat.le_trans h2 y2⟩) hS (fun q _ h => hF q h) hF (fun u t H1 locs1 ht hvm _ hB hz hk1 hS1 => kk u H1 locs1 ls (by rw [← ht]; exact hB.1) (hB.2.weaken (fun _ q _ hq => hF q.1 hq)) hS1 hl)
theorem J_vret {S : Type} {Wr : S → va_W} {nc ns : Nat} (C : Cx l K Γ own cc nL none h) (u : S) (hdg : decode cc pc = .ok (.return_, 1)) (h1 : cs ≤ nc) (h2 : ss ≤ ns) (hw : Wr u = ws) : J l K Γ (Jq K Γ Wr nc ns) cs ss ws pc nL lv [] := by
  refine J_widen h1 h2 ?_
  subst hw
  obtain ⟨p, e, R, s, m, args, below, meth, c, A⟩ := Γ
  obtain ⟨hx, hb, hml, hown, hts, hr, hlk, hK, hA, hf1, hf2⟩ := C
  intro H locs ls hP hD hS hl
  exact W.vret hx hb hr (fun t ht hW => ⟨⟨u, rfl, trivial, by rw [ht]; exact hP, hD⟩, hS.F ht⟩) hS.2.2 hdg
end JR
