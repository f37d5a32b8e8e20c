-- PART 03: this proof's own judgement G over the kit's W (a world as one list, no allocation), its rows, and contracts Ct
def jrem (a b : Int32) : Int32 := a - a / b * b
abbrev gK : Type := va_G × (Nat → ClassId)
abbrev gT : Type := Program × Env × Room × State × MethodId × Array Value × List Frame × Method × Code × (Nat → Prop)
abbrev classes : List vw_C := [(RX0, TX0, 3), (RX1, TX1, 5), (RX2, TX2, 9), (RX3, TX3, 5), (RX4, TX4, 3), (RX5, TX5, 2), (RX6, TX6, 7), (RX7, TX7, 2), (RX8, TX8, 7), (RX9, TX9, 8), (RJ0, TJ0, 4), (RJ4, TJ4, 4)]
abbrev tys (K : gK) : List (ClassId × FieldType) := [(K.2 0, .int), (K.2 1, .byte), (K.2 2, .boolean), (K.2 3, .object "RingOffices$State")]
def nestW : List Cond := [.methodLinkNest RX9 9 yX6_init RX9, .methodLinkNest RX6 20 yX2_init RX9, .methodLinkNest RX6 27 yX8_init RX9, .methodLinkNest RX6 34 yX1_init RX9, .methodLinkNest RX0 17 yX6_init RX9, .methodLinkNest RX5 21 yX6_init RX9, .methodLinkNest RX9 32 yX4_init RX9, .methodLinkNest RX4 11 yX3_init RX9, .methodLinkNest RX4 20 yX6_init RX9, .methodLinkNest RX6 60 yX9_put RX9, .methodLinkNest RX2 44 yX9_put RX9, .methodLinkNest RX8 38 yX9_put RX9, .methodLinkNest RX4 56 yX9_mostOfRule RX9, .methodLinkNest RX4 125 yX9_isWithin RX9, .methodLinkNest RX4 70 yX9_put RX9, .methodLinkNest RX2 48 yX9_at RX9, .methodLinkNest RX4 96 yX9_at RX9, .methodLinkNest RX4 106 yX9_raise RX9, .methodLinkNest RX6 39 yX9_copyRow RX9, .methodLinkNest RX2 36 yX9_copyRow RX9, .methodLinkNest RX8 27 yX9_copyRow RX9, .methodLinkNest RX1 21 yX9_copyRow RX9, .methodLinkNest RX8 49 yX9_at RX9, .methodLinkNest RX6 96 yX9_at RX9, .methodLinkNest RX6 103 yX9_raise RX9, .methodLinkNest RX1 32 yX9_put RX9, .methodLinkNest RX2 56 yX9_takeOut RX9, .methodLinkNest RX8 46 yX9_takeOut RX9]
def isNest : Cond → Bool
  | .methodLinkNest .. => true
  | _ => false
theorem nestW_all : nestW.all isNest = true := by decide +kernel
def KK (K : gK) (U : State) : Prop := va_K K.1 classes (tys K) U ∧ ∀ w ∈ nestW, va_Nw w U
theorem nest_warm {s U : State} (hW : s.WarmedH U.vm) (h : ∀ w ∈ nestW, va_Nw w s) : ∀ w ∈ nestW, va_Nw w U := by
  intro w hw
  have h1 := List.all_eq_true.mp nestW_all w hw
  have h2 := h w hw
  cases w <;> first | exact va_Nw.warmM hW h2 | (exact absurd h1 (by simp [isNest]))
theorem nest_same {s U : State} (e : s.vm = U.vm) (h : ∀ w ∈ nestW, va_Nw w s) : ∀ w ∈ nestW, va_Nw w U := by
  intro w hw
  have h1 := List.all_eq_true.mp nestW_all w hw
  have h2 := h w hw
  cases w <;> first | exact va_Nw.same rfl e h2 | (exact absurd h1 (by simp [isNest]))
theorem KK.warm {K : gK} {s U : State} (hW : s.WarmedH U.vm) (h : KK K s) : KK K U := ⟨va_K.moved hW.alike h.1, nest_warm hW h.2⟩
theorem KK.calling {K : gK} {U : State} {g : JFrame} {mk : MethodId} {a : Array Value} (h : KK K U) : KK K (U.calling g mk a) := ⟨va_K.moved (u := U) (U := U.calling g mk a) (Vm.Alike.refl U.vm) h.1, nest_same (s := U) (U := U.calling g mk a) rfl h.2⟩
def strT : List (String × Nat × String) := [(RX3, 73, "speak"), (RX3, 75, "quiet"), (RX3, 77, "quota"), (RX3, 79, "office"), (RX3, 81, "shut"), (RX3, 83, "letter"), (RX3, 85, "token"), (RX9, 315, "speak "), (RX9, 321, " quiet "), (RX9, 323, " quota "), (RX9, 336, "office "), (RX9, 338, " shut"), (RX9, 340, "letter "), (RX9, 334, "token ")]
/-- the law's own constants: which String each is -/
def strL : List (Nat × String × Nat) := [(29, "speak ", 7), (37, " quiet ", 8), (42, " quota ", 9), (48, "office ", 10), (50, " shut;", 14), (52, ";", 15), (54, "letter ", 12), (56, "token ", 13)]
def slen : List Nat := [5, 5, 5, 6, 4, 6, 5, 6, 7, 7, 7, 5, 7, 6, 6, 1]
def sbyt : List (List Int32) := [[115, 112, 101, 97, 107], [113, 117, 105, 101, 116], [113, 117, 111, 116, 97], [111, 102, 102, 105, 99, 101], [115, 104, 117, 116], [108, 101, 116, 116, 101, 114], [116, 111, 107, 101, 110], [115, 112, 101, 97, 107, 32], [32, 113, 117, 105, 101, 116, 32], [32, 113, 117, 111, 116, 97, 32], [111, 102, 102, 105, 99, 101, 32], [32, 115, 104, 117, 116], [108, 101, 116, 116, 101, 114, 32], [116, 111, 107, 101, 110, 32], [32, 115, 104, 117, 116, 59], [59]]
/-- the JDK's two tables of digits -/
def dg1 (j : Nat) : Int32 := Int32.ofNat (48 + j % 10)
def dg10 (j : Nat) : Int32 := Int32.ofNat (48 + j / 10)
def DIG (K : gK) (A : Nat → Prop) (U : State) (H : Heap) : Prop := va_Z "java/lang/Integer" "DigitOnes" "[B" (.ref (K.2 300)) A U H ∧ va_T .byte (K.2 300) 100 (fun j => .int (dg1 j)) A U H ∧ va_Z "java/lang/Integer" "DigitTens" "[B" (.ref (K.2 301)) A U H ∧ va_T .byte (K.2 301) 100 (fun j => .int (dg10 j)) A U H ∧ va_Nw (.castable "[B" "java/lang/Cloneable") U
theorem DIG.warm {K : gK} {A : Nat → Prop} {s U : State} {H : Heap} (hW : s.WarmedH U.vm) (h : DIG K A s H) : DIG K A U H := ⟨h.1.moved hW.alike, h.2.1.moved hW.alike, h.2.2.1.moved hW.alike, h.2.2.2.1.moved hW.alike, va_Nw.warmC hW h.2.2.2.2⟩
theorem DIG.calling {K : gK} {A : Nat → Prop} {U : State} {H : Heap} {g : JFrame} {mk : MethodId} {a : Array Value} (h : DIG K A U H) : DIG K A (U.calling g mk a) H := ⟨h.1.moved (u := U) (U := U.calling g mk a) (Vm.Alike.refl U.vm), h.2.1.moved (u := U) (U := U.calling g mk a) (Vm.Alike.refl U.vm), h.2.2.1.moved (u := U) (U := U.calling g mk a) (Vm.Alike.refl U.vm), h.2.2.2.1.moved (u := U) (U := U.calling g mk a) (Vm.Alike.refl U.vm), va_Nw.same (u := U) (U := U.calling g mk a) rfl rfl h.2.2.2.2⟩
theorem DIG.kept {K : gK} {A : Nat → Prop} {U : State} {H H1 : Heap} (h : DIG K A U H) (hq : ∀ a : Nat, a < H.size → ¬ A a → H1[a]? = H[a]?) : DIG K A U H1 := ⟨h.1.kept hq, h.2.1.kept hq, h.2.2.1.kept hq, h.2.2.2.1.kept hq, h.2.2.2.2⟩
theorem DIG.narrow {K : gK} {A B : Nat → Prop} {U : State} {H : Heap} (h : DIG K A U H) (hAB : ∀ q, B q → A q) : DIG K B U H := ⟨h.1.narrow hAB, h.2.1.narrow hAB, h.2.2.1.narrow hAB, h.2.2.2.1.narrow hAB, h.2.2.2.2⟩
def STR (K : gK) (A : Nat → Prop) (U : State) (H : Heap) : Prop := vk_S 16 slen sbyt (fun i => K.2 (100 + i)) (fun i => K.2 (200 + i)) A U H ∧ (∀ (i : Nat) (q : String × Nat × String), strT[i]? = some q → vk_R q.1 q.2.1 q.2.2 (K.2 (100 + i)) U) ∧ (∀ q ∈ strL, vk_R RL q.1 q.2.1 (K.2 (100 + q.2.2)) U) ∧ va_Z "java/lang/String" "COMPACT_STRINGS" "Z" (.int 1) A U H ∧ va_Zq "jdk/internal/util/Preconditions" "SIOOBE_FORMATTER" "Ljava/util/function/BiFunction;" A U H ∧ DIG K A U H
theorem STR.warm {K : gK} {A : Nat → Prop} {s U : State} {H : Heap} (hW : s.WarmedH U.vm) (h : STR K A s H) : STR K A U H := ⟨h.1.moved hW.alike, fun i q hq => (h.2.1 i q hq).warm hW, fun q hq => (h.2.2.1 q hq).warm hW, h.2.2.2.1.moved hW.alike, h.2.2.2.2.1.moved hW.alike, h.2.2.2.2.2.warm hW⟩
theorem STR.kept {K : gK} {A : Nat → Prop} {U : State} {H H1 : Heap} (h : STR K A U H) (hq : ∀ a : Nat, a < H.size → ¬ A a → H1[a]? = H[a]?) : STR K A U H1 := ⟨h.1.kept hq, h.2.1, h.2.2.1, h.2.2.2.1.kept hq, h.2.2.2.2.1.kept hq, h.2.2.2.2.2.kept hq⟩
theorem STR.narrow {K : gK} {A B : Nat → Prop} {U : State} {H : Heap} (h : STR K A U H) (hAB : ∀ q, B q → A q) : STR K B U H := ⟨h.1.narrow hAB, h.2.1, h.2.2.1, h.2.2.2.1.narrow hAB, h.2.2.2.2.1.narrow hAB, h.2.2.2.2.2.narrow hAB⟩
theorem STR.calling {K : gK} {A : Nat → Prop} {U : State} {H : Heap} {g : JFrame} {mk : MethodId} {a : Array Value} (h : STR K A U H) : STR K A (U.calling g mk a) H := ⟨h.1.moved (u := U) (U := U.calling g mk a) (Vm.Alike.refl U.vm), fun i q hq => (h.2.1 i q hq).same (u := U) (U := U.calling g mk a) rfl, fun q hq => (h.2.2.1 q hq).same (u := U) (U := U.calling g mk a) rfl, h.2.2.2.1.moved (u := U) (U := U.calling g mk a) (Vm.Alike.refl U.vm), h.2.2.2.2.1.moved (u := U) (U := U.calling g mk a) (Vm.Alike.refl U.vm), h.2.2.2.2.2.calling⟩
def KS (K : gK) (A : Nat → Prop) (U : State) (H : Heap) : Prop := KK K U ∧ STR K A U H
abbrev gR : Type := Option Value × va_W
def Qr (K : gK) (A : Nat → Prop) (r : gR) : Array Value → State → Outcome → State → Prop := fun _ st oc t => (oc = .returned r.1 ∧ va_P K.1 classes r.2 t.heap ∧ va_D A r.2) ∧ va_F A st t
def Cx (l : Launch) (K : gK) (Γ : gT) (own : String) (cc : ByteArray) (nL : Nat) (ret : Option FieldType) (h : Nat) : Prop := match Γ with
  | (p, e, R, s, m, args, below, meth, c, A) => p.tables.exec = Jvm.exec ∧ c.code = cc ∧ c.maxLocals = nL ∧ s.vm.findClass own = some m.cls ∧ (∀ w ∈ wsL_law, w.before args s = true) ∧ meth.sig.returnType = ret ∧ meth.locks = false ∧ KS K A s s.heap ∧ (∀ q, s.heap.size ≤ q → A q) ∧ h ≤ R.frames ∧ 30 * h ≤ R.locals
def G {α : Type} (l : Launch) (K : gK) (Γ : gT) (ws : va_W) (pc nL : Nat) (lv : List (Nat × Value)) (st : List Value) (κ : α → gR) (x : α) : Prop := match Γ with
  | (p, e, R, s, m, args, below, meth, c, A) => ∀ (H : Heap) (locs : List Loc) (ls : Array Slot), va_P K.1 classes ws H → va_D A ws → va_S A s.heap H locs → lv_has ls nL lv → W p l e R s m args below meth c H locs 0 0 (MQ below (Qr K A (κ x)) args s 0 0 A) (F0 m pc ls st)
def Ct (l : Launch) (K : gK) (y : MethodName) (cc : ByteArray) (maxL : Nat) (ret : Option FieldType) (h : Nat) (as : List Value) (ws : va_W) (r : gR) : Prop :=
  ∀ sz : Nat, Met l y (.code y cc maxL ret :: wsL_law) ({ frames := h, cells := 0, slots := 0, locals := 30 * h }) (va_Pc as (fun U => U.heap.size = sz ∧ va_P K.1 classes ws U.heap ∧ KS K (va_A ws sz) U U.heap ∧ va_D (fun _ => True) ws)) (Qr K (va_A ws sz) r) 0 0 (va_A ws sz)
theorem Ct.of {α : Type} {l : Launch} {K : gK} {y : MethodName} {cc : ByteArray} {maxL : Nat} {ret : Option FieldType} {h : Nat} {as : List Value} {ws : va_W} {own : String} (κ : α → gR) {x : α} (hy : plainName y.cls = true) (ho : y.cls = own) (hlen : (lg_sl as).length ≤ maxL)
    (body : ∀ Γ : gT, Cx l K Γ own cc maxL ret h → G l K Γ ws 0 maxL (lv_args 0 as) [] κ x) : Ct l K y cc maxL ret h as ws (κ x) := by
  intro sz
  refine Met.ofW (cc := cc) (maxL := maxL) (ret := ret) hy rfl ?_
  intro p e s m args below meth c s₁ B hml hv
  obtain ⟨rfl, hsz, hP, hK, hD0⟩ := hv
  have hts := atoms_spec (ws := .code y cc maxL ret :: wsL_law) B.pre
  have hown : s.vm.findClass own = some m.cls := ho ▸ findClass_of_methodNamed B.named
  subst hsz
  have hD := hD0.self (sz := s.heap.size)
  have hA : ∀ q : Nat, s.heap.size ≤ q → va_A ws s.heap.size q := fun q h => Or.inr h
  have hS : va_S (va_A ws s.heap.size) s.heap s.heap [] := va_S.rf
  have hl := lv_entry as (n := maxL) hlen
  rw [lg_entry_eq]
  exact body (p, e, _, s, m, as.toArray, below, meth, c, va_A ws s.heap.size) ⟨B.exec, B.bytes, hml, hown, fun w hw => hts w (List.mem_cons_of_mem _ hw), B.returns, B.notSynchronized, hK, hA, Nat.le_refl _, Nat.le_refl _⟩ s.heap [] _ hP hD hS hl
theorem g_range {α : Type} (ws : List α) : (List.range ws.length).map (fun i => ws[i]?) = ws.map some := by
  apply List.ext_getElem
  · simp
  · intro i h1 h2
    simp at h1
    simp [h1]
theorem g_call {p : Program} {l : Launch} {e : Env} {R : Room} {s : State} {m : MethodId} {args : Array Value} {below : List Frame} {meth : Method} {c : Code} {H : Heap} {locs : List Loc} {Q : State → Prop} {pc : Nat} {ls : Array Slot} {rest st0 : List Value} {a : Array Value} {A0 A1 : Nat → Prop} {H0 : Heap} {free : Addr → Prop} {K : gK} {r : gR}
    (hr : va_Run p l e R s m args below meth c H locs 0 0 0 0 (F0 m pc ls st0) rest (Qr K A1 r a) free) (hS : va_S A0 H0 H locs) (hA : ∀ q, q < H.size → A1 q → A0 q) (hf : ∀ q, free q → A0 q)
    (kk : ∀ (t : State) (H1 : Heap) (locs1 : List Loc), t.heap = H1 → va_P K.1 classes r.2 t.heap → va_D A1 r.2 → (∀ q : Nat, q < H.size → ¬ A1 q → H1[q]? = H[q]?) → va_S A0 H0 H1 locs1 → W p l e R s m args below meth c H1 locs1 0 0 Q (F0 m (pc + 3) ls (r.1.toList ++ rest))) : W p l e R s m args below meth c H locs 0 0 Q (F0 m pc ls st0) := by
  intro T hT X
  obtain ⟨v, st₀, t, T', L, h0, X', hL, e1, e2, ⟨⟨hv, hp, hd⟩, hz, hk⟩, st⟩ := hr T hT X
  have hv2 : v = r.1 := by cases hv; rfl
  subst hv2
  rw [h0] at hz hk
  obtain ⟨t2, a1, b1⟩ := kk t T'.heap (locs ++ L) e1.symm hp hd (fun q h1 h2 => by rw [e1]; exact hk q h1 h2)
    ⟨Nat.le_trans hS.1 (by rw [e1]; exact hz), fun q h1 h2 => by rw [e1, hk q (Nat.lt_of_lt_of_le h1 hS.1) (fun z => h2 (hA q (Nat.lt_of_lt_of_le h1 hS.1) z))]; exact hS.2.1 q h1 h2, fun q hq => by
      rcases List.mem_append.mp hq with h | h
      · exact hS.2.2 q h
      · exact hf _ (hL q h)⟩ T' rfl X'
  exact ⟨t2, st t2 a1, b1⟩
section GR
variable {α : Type} {l : Launch} {K : gK} {Γ : gT} {own : String} {cc : ByteArray} {nL : Nat} {ret : Option FieldType} {h : Nat} {ws : va_W} {pc : Nat} {lv : List (Nat × Value)} {st : List Value} {κ : α → gR} {x : α}
theorem G_iconst (C : Cx l K Γ own cc nL ret h) {n : Int} {v : Int32} (hdg : decode cc pc = .ok (.iconst n, 1)) (hv : Int32.ofInt n = v) (k : G l K Γ ws (pc + 1) nL lv (.int v :: st) κ x) : G l K Γ ws pc nL lv (st) κ x := by
  obtain ⟨p, e, R, s, m, args, below, meth, c, A⟩ := Γ
  obtain ⟨hx, hb, hml, hown, hts, hr, hlk, hK, hA, hf1, hf2⟩ := C
  intro H locs ls hP hD hS hl
  exact lv_iconst hx hb hdg hv (k H locs ls hP hD hS hl)
theorem G_bipush (C : Cx l K Γ own cc nL ret h) {n : Int} {v : Int32} (hdg : decode cc pc = .ok (.bipush n, 2)) (hv : (Int8.ofInt n).toInt32 = v) (k : G l K Γ ws (pc + 2) nL lv (.int v :: st) κ x) : G l K Γ ws pc nL lv (st) κ x := by
  obtain ⟨p, e, R, s, m, args, below, meth, c, A⟩ := Γ
  obtain ⟨hx, hb, hml, hown, hts, hr, hlk, hK, hA, hf1, hf2⟩ := C
  intro H locs ls hP hD hS hl
  exact lv_bipush hx hb hdg hv (k H locs ls hP hD hS hl)
theorem G_sipush (C : Cx l K Γ own cc nL ret h) {n : Int} {v : Int32} (hdg : decode cc pc = .ok (.sipush n, 3)) (hv : (Int16.ofInt n).toInt32 = v) (k : G l K Γ ws (pc + 3) nL lv (.int v :: st) κ x) : G l K Γ ws pc nL lv (st) κ x := by
  obtain ⟨p, e, R, s, m, args, below, meth, c, A⟩ := Γ
  obtain ⟨hx, hb, hml, hown, hts, hr, hlk, hK, hA, hf1, hf2⟩ := C
  intro H locs ls hP hD hS hl
  exact lv_sipush hx hb hdg hv (k H locs ls hP hD hS hl)
theorem G_ldc (C : Cx l K Γ own cc nL ret h) {index : Nat} {v : Int32} (hdg : decode cc pc = .ok (.ldc index, 2)) (hu : Cond.constant own index v ∈ wsL_law) (k : G l K Γ ws (pc + 2) nL lv (.int v :: st) κ x) : G l K Γ ws pc nL lv (st) κ x := by
  obtain ⟨p, e, R, s, m, args, below, meth, c, A⟩ := Γ
  obtain ⟨hx, hb, hml, hown, hts, hr, hlk, hK, hA, hf1, hf2⟩ := C
  intro H locs ls hP hD hS hl
  exact lv_ldc hx hb hown (hts _ hu) hdg (k H locs ls hP hD hS hl)
theorem G_ldcw (C : Cx l K Γ own cc nL ret h) {index : Nat} {v : Int32} (hdg : decode cc pc = .ok (.ldc_w index, 3)) (hu : Cond.constant own index v ∈ wsL_law) (k : G l K Γ ws (pc + 3) nL lv (.int v :: st) κ x) : G l K Γ ws pc nL lv (st) κ x := by
  obtain ⟨p, e, R, s, m, args, below, meth, c, A⟩ := Γ
  obtain ⟨hx, hb, hml, hown, hts, hr, hlk, hK, hA, hf1, hf2⟩ := C
  intro H locs ls hP hD hS hl
  exact lv_ldcw hx hb hown (hts _ hu) hdg (k H locs ls hP hD hS hl)
theorem G_iload_n (C : Cx l K Γ own cc nL ret h) (q : Nat) {n : Fin 4} {v : Int32} (hdg : decode cc pc = .ok (.iload_n n, 1)) (hk : lv[q]? = some ((n : Nat), .int v)) (k : G l K Γ ws (pc + 1) nL lv (.int v :: st) κ x) : G l K Γ ws pc nL lv (st) κ x := by
  obtain ⟨p, e, R, s, m, args, below, meth, c, A⟩ := Γ
  obtain ⟨hx, hb, hml, hown, hts, hr, hlk, hK, hA, hf1, hf2⟩ := C
  intro H locs ls hP hD hS hl
  exact lv_iload_n hx hb hdg rfl (lv_at hl q hk) (k H locs ls hP hD hS hl)
theorem G_iload (C : Cx l K Γ own cc nL ret h) (q : Nat) {i : Nat} {v : Int32} (hdg : decode cc pc = .ok (.iload i, 2)) (hk : lv[q]? = some (i, .int v)) (k : G l K Γ ws (pc + 2) nL lv (.int v :: st) κ x) : G l K Γ ws pc nL lv (st) κ x := by
  obtain ⟨p, e, R, s, m, args, below, meth, c, A⟩ := Γ
  obtain ⟨hx, hb, hml, hown, hts, hr, hlk, hK, hA, hf1, hf2⟩ := C
  intro H locs ls hP hD hS hl
  exact lv_iload hx hb hdg (lv_at hl q hk) (k H locs ls hP hD hS hl)
theorem G_istore_n (C : Cx l K Γ own cc nL ret h) {n : Fin 4} {v : Int32} {lv' : List (Nat × Value)} (hdg : decode cc pc = .ok (.istore_n n, 1)) (hn : (n : Nat) < nL) (hl' : ((n : Nat), Value.int v) :: lv.filter (fun q => !(q.1 == (n : Nat)) && !(q.1 + 1 == (n : Nat) && q.2.category == 2)) = lv') (k : G l K Γ ws (pc + 1) nL lv' st κ x) : G l K Γ ws pc nL lv (.int v :: st) κ x := by
  obtain ⟨p, e, R, s, m, args, below, meth, c, A⟩ := Γ
  obtain ⟨hx, hb, hml, hown, hts, hr, hlk, hK, hA, hf1, hf2⟩ := C
  intro H locs ls hP hD hS hl
  exact lv_istore_n hx hb hdg rfl hl hn hl' (fun ls' hl2 => k H locs ls' hP hD hS hl2)
theorem G_istore (C : Cx l K Γ own cc nL ret h) {i : Nat} {v : Int32} {lv' : List (Nat × Value)} (hdg : decode cc pc = .ok (.istore i, 2)) (hn : i < nL) (hl' : (i, Value.int v) :: lv.filter (fun q => !(q.1 == i) && !(q.1 + 1 == i && q.2.category == 2)) = lv') (k : G l K Γ ws (pc + 2) nL lv' st κ x) : G l K Γ ws pc nL lv (.int v :: st) κ x := by
  obtain ⟨p, e, R, s, m, args, below, meth, c, A⟩ := Γ
  obtain ⟨hx, hb, hml, hown, hts, hr, hlk, hK, hA, hf1, hf2⟩ := C
  intro H locs ls hP hD hS hl
  exact lv_istore hx hb hdg hl hn hl' (fun ls' hl2 => k H locs ls' hP hD hS hl2)
theorem G_aload_n (C : Cx l K Γ own cc nL ret h) (q : Nat) {n : Fin 4} {v : Nat} (hdg : decode cc pc = .ok (.aload_n n, 1)) (hk : lv[q]? = some ((n : Nat), .ref v)) (k : G l K Γ ws (pc + 1) nL lv (.ref v :: st) κ x) : G l K Γ ws pc nL lv (st) κ x := by
  obtain ⟨p, e, R, s, m, args, below, meth, c, A⟩ := Γ
  obtain ⟨hx, hb, hml, hown, hts, hr, hlk, hK, hA, hf1, hf2⟩ := C
  intro H locs ls hP hD hS hl
  exact lv_aload_n hx hb hdg rfl (lv_at hl q hk) (k H locs ls hP hD hS hl)
theorem G_aload (C : Cx l K Γ own cc nL ret h) (q : Nat) {i : Nat} {v : Nat} (hdg : decode cc pc = .ok (.aload i, 2)) (hk : lv[q]? = some (i, .ref v)) (k : G l K Γ ws (pc + 2) nL lv (.ref v :: st) κ x) : G l K Γ ws pc nL lv (st) κ x := by
  obtain ⟨p, e, R, s, m, args, below, meth, c, A⟩ := Γ
  obtain ⟨hx, hb, hml, hown, hts, hr, hlk, hK, hA, hf1, hf2⟩ := C
  intro H locs ls hP hD hS hl
  exact lv_aload hx hb hdg (lv_at hl q hk) (k H locs ls hP hD hS hl)
theorem G_astore_n (C : Cx l K Γ own cc nL ret h) {n : Fin 4} {v : Nat} {lv' : List (Nat × Value)} (hdg : decode cc pc = .ok (.astore_n n, 1)) (hn : (n : Nat) < nL) (hl' : ((n : Nat), Value.ref v) :: lv.filter (fun q => !(q.1 == (n : Nat)) && !(q.1 + 1 == (n : Nat) && q.2.category == 2)) = lv') (k : G l K Γ ws (pc + 1) nL lv' st κ x) : G l K Γ ws pc nL lv (.ref v :: st) κ x := by
  obtain ⟨p, e, R, s, m, args, below, meth, c, A⟩ := Γ
  obtain ⟨hx, hb, hml, hown, hts, hr, hlk, hK, hA, hf1, hf2⟩ := C
  intro H locs ls hP hD hS hl
  exact lv_astore_n hx hb hdg rfl hl hn hl' (fun ls' hl2 => k H locs ls' hP hD hS hl2)
theorem G_astore (C : Cx l K Γ own cc nL ret h) {i : Nat} {v : Nat} {lv' : List (Nat × Value)} (hdg : decode cc pc = .ok (.astore i, 2)) (hn : i < nL) (hl' : (i, Value.ref v) :: lv.filter (fun q => !(q.1 == i) && !(q.1 + 1 == i && q.2.category == 2)) = lv') (k : G l K Γ ws (pc + 2) nL lv' st κ x) : G l K Γ ws pc nL lv (.ref v :: st) κ x := by
  obtain ⟨p, e, R, s, m, args, below, meth, c, A⟩ := Γ
  obtain ⟨hx, hb, hml, hown, hts, hr, hlk, hK, hA, hf1, hf2⟩ := C
  intro H locs ls hP hD hS hl
  exact lv_astore hx hb hdg hl hn hl' (fun ls' hl2 => k H locs ls' hP hD hS hl2)
theorem G_iinc (C : Cx l K Γ own cc nL ret h) (q : Nat) {i : Nat} {n : Int} {v w : Int32} {lv' : List (Nat × Value)} (hdg : decode cc pc = .ok (.iinc i n, 3)) (hk : lv[q]? = some (i, .int v)) (hv : v + Int32.ofInt n = w) (hn : i < nL) (hl' : (i, Value.int w) :: lv.filter (fun q => !(q.1 == i) && !(q.1 + 1 == i && q.2.category == 2)) = lv') (k : G l K Γ ws (pc + 3) nL lv' st κ x) : G l K Γ ws pc nL lv st κ x := by
  obtain ⟨p, e, R, s, m, args, below, meth, c, A⟩ := Γ
  obtain ⟨hx, hb, hml, hown, hts, hr, hlk, hK, hA, hf1, hf2⟩ := C
  intro H locs ls hP hD hS hl
  exact lv_iinc hx hb hdg hl hk hv hn hl' (fun ls' hl2 => k H locs ls' hP hD hS hl2)
theorem G_iadd (C : Cx l K Γ own cc nL ret h) {a b : Int32} (hdg : decode cc pc = .ok (.iadd, 1)) (k : G l K Γ ws (pc + 1) nL lv (.int (a + b) :: st) κ x) : G l K Γ ws pc nL lv (.int b :: .int a :: st) κ x := by
  obtain ⟨p, e, R, s, m, args, below, meth, c, A⟩ := Γ
  obtain ⟨hx, hb, hml, hown, hts, hr, hlk, hK, hA, hf1, hf2⟩ := C
  intro H locs ls hP hD hS hl
  exact lv_iadd hx hb hdg (k H locs ls hP hD hS hl)
theorem G_isub (C : Cx l K Γ own cc nL ret h) {a b : Int32} (hdg : decode cc pc = .ok (.isub, 1)) (k : G l K Γ ws (pc + 1) nL lv (.int (a - b) :: st) κ x) : G l K Γ ws pc nL lv (.int b :: .int a :: st) κ x := by
  obtain ⟨p, e, R, s, m, args, below, meth, c, A⟩ := Γ
  obtain ⟨hx, hb, hml, hown, hts, hr, hlk, hK, hA, hf1, hf2⟩ := C
  intro H locs ls hP hD hS hl
  exact lv_isub hx hb hdg (k H locs ls hP hD hS hl)
theorem G_imul (C : Cx l K Γ own cc nL ret h) {a b : Int32} (hdg : decode cc pc = .ok (.imul, 1)) (k : G l K Γ ws (pc + 1) nL lv (.int (a * b) :: st) κ x) : G l K Γ ws pc nL lv (.int b :: .int a :: st) κ x := by
  obtain ⟨p, e, R, s, m, args, below, meth, c, A⟩ := Γ
  obtain ⟨hx, hb, hml, hown, hts, hr, hlk, hK, hA, hf1, hf2⟩ := C
  intro H locs ls hP hD hS hl
  exact lv_imul hx hb hdg (k H locs ls hP hD hS hl)
theorem G_iand (C : Cx l K Γ own cc nL ret h) {a b : Int32} (hdg : decode cc pc = .ok (.iand, 1)) (k : G l K Γ ws (pc + 1) nL lv (.int (a &&& b) :: st) κ x) : G l K Γ ws pc nL lv (.int b :: .int a :: st) κ x := by
  obtain ⟨p, e, R, s, m, args, below, meth, c, A⟩ := Γ
  obtain ⟨hx, hb, hml, hown, hts, hr, hlk, hK, hA, hf1, hf2⟩ := C
  intro H locs ls hP hD hS hl
  exact lv_iand hx hb hdg (k H locs ls hP hD hS hl)
theorem G_idiv (C : Cx l K Γ own cc nL ret h) {a b : Int32} (hdg : decode cc pc = .ok (.idiv, 1)) (hne : ¬ b = 0) (k : G l K Γ ws (pc + 1) nL lv (.int (a / b) :: st) κ x) : G l K Γ ws pc nL lv (.int b :: .int a :: st) κ x := by
  obtain ⟨p, e, R, s, m, args, below, meth, c, A⟩ := Γ
  obtain ⟨hx, hb, hml, hown, hts, hr, hlk, hK, hA, hf1, hf2⟩ := C
  intro H locs ls hP hD hS hl
  exact lv_idiv hx hb hdg hne (k H locs ls hP hD hS hl)
theorem G_irem (C : Cx l K Γ own cc nL ret h) {a b : Int32} (hdg : decode cc pc = .ok (.irem, 1)) (hne : ¬ b = 0) (k : G l K Γ ws (pc + 1) nL lv (.int (jrem a b) :: st) κ x) : G l K Γ ws pc nL lv (.int b :: .int a :: st) κ x := by
  obtain ⟨p, e, R, s, m, args, below, meth, c, A⟩ := Γ
  obtain ⟨hx, hb, hml, hown, hts, hr, hlk, hK, hA, hf1, hf2⟩ := C
  intro H locs ls hP hD hS hl
  exact lv_irem hx hb hdg hne (k H locs ls hP hD hS hl)
theorem G_dup (C : Cx l K Γ own cc nL ret h) {v : Value} (hdg : decode cc pc = .ok (.dup, 1)) (hv : v.category = 1) (k : G l K Γ ws (pc + 1) nL lv (v :: v :: st) κ x) : G l K Γ ws pc nL lv (v :: st) κ x := by
  obtain ⟨p, e, R, s, m, args, below, meth, c, A⟩ := Γ
  obtain ⟨hx, hb, hml, hown, hts, hr, hlk, hK, hA, hf1, hf2⟩ := C
  intro H locs ls hP hD hS hl
  exact lv_dup hx hb hdg hv (k H locs ls hP hD hS hl)
theorem G_pop (C : Cx l K Γ own cc nL ret h) {v : Value} (hdg : decode cc pc = .ok (.pop, 1)) (hv : v.category = 1) (k : G l K Γ ws (pc + 1) nL lv (st) κ x) : G l K Γ ws pc nL lv (v :: st) κ x := by
  obtain ⟨p, e, R, s, m, args, below, meth, c, A⟩ := Γ
  obtain ⟨hx, hb, hml, hown, hts, hr, hlk, hK, hA, hf1, hf2⟩ := C
  intro H locs ls hP hD hS hl
  exact lv_pop hx hb hdg hv (k H locs ls hP hD hS hl)
theorem G_dup2 (C : Cx l K Γ own cc nL ret h) {v w : Value} (hdg : decode cc pc = .ok (.dup2, 1)) (hv : v.category = 1) (hw : w.category = 1) (k : G l K Γ ws (pc + 1) nL lv (v :: w :: v :: w :: st) κ x) : G l K Γ ws pc nL lv (v :: w :: st) κ x := by
  obtain ⟨p, e, R, s, m, args, below, meth, c, A⟩ := Γ
  obtain ⟨hx, hb, hml, hown, hts, hr, hlk, hK, hA, hf1, hf2⟩ := C
  intro H locs ls hP hD hS hl
  exact lv_dup2_11 hx hb hdg hv hw (k H locs ls hP hD hS hl)
theorem G_i2b (C : Cx l K Γ own cc nL ret h) {a v : Int32} (hdg : decode cc pc = .ok (.i2b, 1)) (hv : a.toInt8.toInt32 = v) (k : G l K Γ ws (pc + 1) nL lv (.int v :: st) κ x) : G l K Γ ws pc nL lv (.int a :: st) κ x := by
  obtain ⟨p, e, R, s, m, args, below, meth, c, A⟩ := Γ
  obtain ⟨hx, hb, hml, hown, hts, hr, hlk, hK, hA, hf1, hf2⟩ := C
  intro H locs ls hP hD hS hl
  exact lv_i2b hx hb hdg hv (k H locs ls hP hD hS hl)
theorem G_iushr (C : Cx l K Γ own cc nL ret h) {a b v : Int32} (hdg : decode cc pc = .ok (.iushr, 1)) (hv : (a.toUInt32 >>> (b.toUInt32 &&& Int32.toUInt32 31)).toInt32 = v) (k : G l K Γ ws (pc + 1) nL lv (.int v :: st) κ x) : G l K Γ ws pc nL lv (.int b :: .int a :: st) κ x := by
  obtain ⟨p, e, R, s, m, args, below, meth, c, A⟩ := Γ
  obtain ⟨hx, hb, hml, hown, hts, hr, hlk, hK, hA, hf1, hf2⟩ := C
  intro H locs ls hP hD hS hl
  exact lv_iushr hx hb hdg hv (k H locs ls hP hD hS hl)
theorem G_aconst_null (C : Cx l K Γ own cc nL ret h)  (hdg : decode cc pc = .ok (.aconst_null, 1)) (k : G l K Γ ws (pc + 1) nL lv (.null :: st) κ x) : G l K Γ ws pc nL lv (st) κ x := by
  obtain ⟨p, e, R, s, m, args, below, meth, c, A⟩ := Γ
  obtain ⟨hx, hb, hml, hown, hts, hr, hlk, hK, hA, hf1, hf2⟩ := C
  intro H locs ls hP hD hS hl
  exact lv_null hx hb hdg (k H locs ls hP hD hS hl)
theorem G_goto (C : Cx l K Γ own cc nL ret h) {off : Int} (tgt : Nat) (hdg : decode cc pc = .ok (.goto off, 3)) (ht : (pc : Int) + off = (tgt : Int)) (k : G l K Γ ws tgt nL lv st κ x) : G l K Γ ws pc nL lv st κ x := by
  obtain ⟨p, e, R, s, m, args, below, meth, c, A⟩ := Γ
  obtain ⟨hx, hb, hml, hown, hts, hr, hlk, hK, hA, hf1, hf2⟩ := C
  intro H locs ls hP hD hS hl
  exact lv_goto hx hb hdg ht (k H locs ls hP hD hS hl)
theorem G_if_eq (C : Cx l K Γ own cc nL ret h) {a : Int32} {off : Int} (tgt : Nat) {y : α} (hdg : decode cc pc = .ok (.ifCond .eq off, 3)) (ht : (pc : Int) + off = (tgt : Int)) (ky : a = 0 → G l K Γ ws tgt nL lv st κ x) (kn : ¬ (a = 0) → G l K Γ ws (pc + 3) nL lv st κ y) : G l K Γ ws pc nL lv (.int a :: st) κ (if a = 0 then x else y) := by
  obtain ⟨p, e, R, s, m, args, below, meth, c, A⟩ := Γ
  obtain ⟨hx, hb, hml, hown, hts, hr, hlk, hK, hA, hf1, hf2⟩ := C
  intro H locs ls hP hD hS hl
  refine lv_if_eq (tgt := tgt) hx hb hdg ht (fun h1 => ?_) (fun h1 => ?_)
  · rw [if_pos (h1)]
    exact ky (h1) H locs ls hP hD hS hl
  · rw [if_neg (h1)]
    exact kn (h1) H locs ls hP hD hS hl
theorem G_icmp_eq (C : Cx l K Γ own cc nL ret h) {a b : Int32} {off : Int} (tgt : Nat) {y : α} (hdg : decode cc pc = .ok (.if_icmp .eq off, 3)) (ht : (pc : Int) + off = (tgt : Int)) (ky : a = b → G l K Γ ws tgt nL lv st κ x) (kn : ¬ (a = b) → G l K Γ ws (pc + 3) nL lv st κ y) : G l K Γ ws pc nL lv (.int b :: .int a :: st) κ (if a = b then x else y) := by
  obtain ⟨p, e, R, s, m, args, below, meth, c, A⟩ := Γ
  obtain ⟨hx, hb, hml, hown, hts, hr, hlk, hK, hA, hf1, hf2⟩ := C
  intro H locs ls hP hD hS hl
  refine lv_icmp_eq (tgt := tgt) hx hb hdg ht (fun h1 => ?_) (fun h1 => ?_)
  · rw [if_pos (h1)]
    exact ky (h1) H locs ls hP hD hS hl
  · rw [if_neg (h1)]
    exact kn (h1) H locs ls hP hD hS hl
theorem G_if_ne (C : Cx l K Γ own cc nL ret h) {a : Int32} {off : Int} (tgt : Nat) {y : α} (hdg : decode cc pc = .ok (.ifCond .ne off, 3)) (ht : (pc : Int) + off = (tgt : Int)) (ky : a = 0 → G l K Γ ws (pc + 3) nL lv st κ x) (kn : ¬ (a = 0) → G l K Γ ws tgt nL lv st κ y) : G l K Γ ws pc nL lv (.int a :: st) κ (if a = 0 then x else y) := by
  obtain ⟨p, e, R, s, m, args, below, meth, c, A⟩ := Γ
  obtain ⟨hx, hb, hml, hown, hts, hr, hlk, hK, hA, hf1, hf2⟩ := C
  intro H locs ls hP hD hS hl
  refine lv_if_ne (tgt := tgt) hx hb hdg ht (fun h1 => ?_) (fun h1 => ?_)
  · rw [if_neg (h1)]
    exact kn (h1) H locs ls hP hD hS hl
  · rw [if_pos (h1)]
    exact ky (h1) H locs ls hP hD hS hl
theorem G_icmp_ne (C : Cx l K Γ own cc nL ret h) {a b : Int32} {off : Int} (tgt : Nat) {y : α} (hdg : decode cc pc = .ok (.if_icmp .ne off, 3)) (ht : (pc : Int) + off = (tgt : Int)) (ky : a = b → G l K Γ ws (pc + 3) nL lv st κ x) (kn : ¬ (a = b) → G l K Γ ws tgt nL lv st κ y) : G l K Γ ws pc nL lv (.int b :: .int a :: st) κ (if a = b then x else y) := by
  obtain ⟨p, e, R, s, m, args, below, meth, c, A⟩ := Γ
  obtain ⟨hx, hb, hml, hown, hts, hr, hlk, hK, hA, hf1, hf2⟩ := C
  intro H locs ls hP hD hS hl
  refine lv_icmp_ne (tgt := tgt) hx hb hdg ht (fun h1 => ?_) (fun h1 => ?_)
  · rw [if_neg (h1)]
    exact kn (h1) H locs ls hP hD hS hl
  · rw [if_pos (h1)]
    exact ky (h1) H locs ls hP hD hS hl
theorem G_if_lt (C : Cx l K Γ own cc nL ret h) {a : Int32} {off : Int} (tgt : Nat) {y : α} (hdg : decode cc pc = .ok (.ifCond .lt off, 3)) (ht : (pc : Int) + off = (tgt : Int)) (ky : a < 0 → G l K Γ ws tgt nL lv st κ x) (kn : ¬ (a < 0) → G l K Γ ws (pc + 3) nL lv st κ y) : G l K Γ ws pc nL lv (.int a :: st) κ (if a < 0 then x else y) := by
  obtain ⟨p, e, R, s, m, args, below, meth, c, A⟩ := Γ
  obtain ⟨hx, hb, hml, hown, hts, hr, hlk, hK, hA, hf1, hf2⟩ := C
  intro H locs ls hP hD hS hl
  refine lv_if_lt (tgt := tgt) hx hb hdg ht (fun h1 => ?_) (fun h1 => ?_)
  · rw [if_pos (h1)]
    exact ky (h1) H locs ls hP hD hS hl
  · rw [if_neg (h1)]
    exact kn (h1) H locs ls hP hD hS hl
theorem G_icmp_lt (C : Cx l K Γ own cc nL ret h) {a b : Int32} {off : Int} (tgt : Nat) {y : α} (hdg : decode cc pc = .ok (.if_icmp .lt off, 3)) (ht : (pc : Int) + off = (tgt : Int)) (ky : a < b → G l K Γ ws tgt nL lv st κ x) (kn : ¬ (a < b) → G l K Γ ws (pc + 3) nL lv st κ y) : G l K Γ ws pc nL lv (.int b :: .int a :: st) κ (if a < b then x else y) := by
  obtain ⟨p, e, R, s, m, args, below, meth, c, A⟩ := Γ
  obtain ⟨hx, hb, hml, hown, hts, hr, hlk, hK, hA, hf1, hf2⟩ := C
  intro H locs ls hP hD hS hl
  refine lv_icmp_lt (tgt := tgt) hx hb hdg ht (fun h1 => ?_) (fun h1 => ?_)
  · rw [if_pos (h1)]
    exact ky (h1) H locs ls hP hD hS hl
  · rw [if_neg (h1)]
    exact kn (h1) H locs ls hP hD hS hl
theorem G_if_ge (C : Cx l K Γ own cc nL ret h) {a : Int32} {off : Int} (tgt : Nat) {y : α} (hdg : decode cc pc = .ok (.ifCond .ge off, 3)) (ht : (pc : Int) + off = (tgt : Int)) (ky : a < 0 → G l K Γ ws (pc + 3) nL lv st κ x) (kn : ¬ (a < 0) → G l K Γ ws tgt nL lv st κ y) : G l K Γ ws pc nL lv (.int a :: st) κ (if a < 0 then x else y) := by
  obtain ⟨p, e, R, s, m, args, below, meth, c, A⟩ := Γ
  obtain ⟨hx, hb, hml, hown, hts, hr, hlk, hK, hA, hf1, hf2⟩ := C
  intro H locs ls hP hD hS hl
  refine lv_if_ge (tgt := tgt) hx hb hdg ht (fun h1 => ?_) (fun h1 => ?_)
  · rw [if_neg (Int32.not_lt.mpr h1)]
    exact kn (Int32.not_lt.mpr h1) H locs ls hP hD hS hl
  · rw [if_pos (Int32.not_le.mp h1)]
    exact ky (Int32.not_le.mp h1) H locs ls hP hD hS hl
theorem G_icmp_ge (C : Cx l K Γ own cc nL ret h) {a b : Int32} {off : Int} (tgt : Nat) {y : α} (hdg : decode cc pc = .ok (.if_icmp .ge off, 3)) (ht : (pc : Int) + off = (tgt : Int)) (ky : a < b → G l K Γ ws (pc + 3) nL lv st κ x) (kn : ¬ (a < b) → G l K Γ ws tgt nL lv st κ y) : G l K Γ ws pc nL lv (.int b :: .int a :: st) κ (if a < b then x else y) := by
  obtain ⟨p, e, R, s, m, args, below, meth, c, A⟩ := Γ
  obtain ⟨hx, hb, hml, hown, hts, hr, hlk, hK, hA, hf1, hf2⟩ := C
  intro H locs ls hP hD hS hl
  refine lv_icmp_ge (tgt := tgt) hx hb hdg ht (fun h1 => ?_) (fun h1 => ?_)
  · rw [if_neg (Int32.not_lt.mpr h1)]
    exact kn (Int32.not_lt.mpr h1) H locs ls hP hD hS hl
  · rw [if_pos (Int32.not_le.mp h1)]
    exact ky (Int32.not_le.mp h1) H locs ls hP hD hS hl
theorem G_if_gt (C : Cx l K Γ own cc nL ret h) {a : Int32} {off : Int} (tgt : Nat) {y : α} (hdg : decode cc pc = .ok (.ifCond .gt off, 3)) (ht : (pc : Int) + off = (tgt : Int)) (ky : 0 < a → G l K Γ ws tgt nL lv st κ x) (kn : ¬ (0 < a) → G l K Γ ws (pc + 3) nL lv st κ y) : G l K Γ ws pc nL lv (.int a :: st) κ (if 0 < a then x else y) := by
  obtain ⟨p, e, R, s, m, args, below, meth, c, A⟩ := Γ
  obtain ⟨hx, hb, hml, hown, hts, hr, hlk, hK, hA, hf1, hf2⟩ := C
  intro H locs ls hP hD hS hl
  refine lv_if_gt (tgt := tgt) hx hb hdg ht (fun h1 => ?_) (fun h1 => ?_)
  · rw [if_pos (h1)]
    exact ky (h1) H locs ls hP hD hS hl
  · rw [if_neg (h1)]
    exact kn (h1) H locs ls hP hD hS hl
theorem G_icmp_gt (C : Cx l K Γ own cc nL ret h) {a b : Int32} {off : Int} (tgt : Nat) {y : α} (hdg : decode cc pc = .ok (.if_icmp .gt off, 3)) (ht : (pc : Int) + off = (tgt : Int)) (ky : b < a → G l K Γ ws tgt nL lv st κ x) (kn : ¬ (b < a) → G l K Γ ws (pc + 3) nL lv st κ y) : G l K Γ ws pc nL lv (.int b :: .int a :: st) κ (if b < a then x else y) := by
  obtain ⟨p, e, R, s, m, args, below, meth, c, A⟩ := Γ
  obtain ⟨hx, hb, hml, hown, hts, hr, hlk, hK, hA, hf1, hf2⟩ := C
  intro H locs ls hP hD hS hl
  refine lv_icmp_gt (tgt := tgt) hx hb hdg ht (fun h1 => ?_) (fun h1 => ?_)
  · rw [if_pos (h1)]
    exact ky (h1) H locs ls hP hD hS hl
  · rw [if_neg (h1)]
    exact kn (h1) H locs ls hP hD hS hl
theorem G_if_le (C : Cx l K Γ own cc nL ret h) {a : Int32} {off : Int} (tgt : Nat) {y : α} (hdg : decode cc pc = .ok (.ifCond .le off, 3)) (ht : (pc : Int) + off = (tgt : Int)) (ky : 0 < a → G l K Γ ws (pc + 3) nL lv st κ x) (kn : ¬ (0 < a) → G l K Γ ws tgt nL lv st κ y) : G l K Γ ws pc nL lv (.int a :: st) κ (if 0 < a then x else y) := by
  obtain ⟨p, e, R, s, m, args, below, meth, c, A⟩ := Γ
  obtain ⟨hx, hb, hml, hown, hts, hr, hlk, hK, hA, hf1, hf2⟩ := C
  intro H locs ls hP hD hS hl
  refine lv_if_le (tgt := tgt) hx hb hdg ht (fun h1 => ?_) (fun h1 => ?_)
  · rw [if_neg (Int32.not_lt.mpr h1)]
    exact kn (Int32.not_lt.mpr h1) H locs ls hP hD hS hl
  · rw [if_pos (Int32.not_le.mp h1)]
    exact ky (Int32.not_le.mp h1) H locs ls hP hD hS hl
theorem G_icmp_le (C : Cx l K Γ own cc nL ret h) {a b : Int32} {off : Int} (tgt : Nat) {y : α} (hdg : decode cc pc = .ok (.if_icmp .le off, 3)) (ht : (pc : Int) + off = (tgt : Int)) (ky : b < a → G l K Γ ws (pc + 3) nL lv st κ x) (kn : ¬ (b < a) → G l K Γ ws tgt nL lv st κ y) : G l K Γ ws pc nL lv (.int b :: .int a :: st) κ (if b < a then x else y) := by
  obtain ⟨p, e, R, s, m, args, below, meth, c, A⟩ := Γ
  obtain ⟨hx, hb, hml, hown, hts, hr, hlk, hK, hA, hf1, hf2⟩ := C
  intro H locs ls hP hD hS hl
  refine lv_icmp_le (tgt := tgt) hx hb hdg ht (fun h1 => ?_) (fun h1 => ?_)
  · rw [if_neg (Int32.not_lt.mpr h1)]
    exact kn (Int32.not_lt.mpr h1) H locs ls hP hD hS hl
  · rw [if_pos (Int32.not_le.mp h1)]
    exact ky (Int32.not_le.mp h1) H locs ls hP hD hS hl
theorem G_if_eq_y (C : Cx l K Γ own cc nL ret h) {a : Int32} {off : Int} (tgt : Nat) (h0 : a = 0) (hdg : decode cc pc = .ok (.ifCond .eq off, 3)) (ht : (pc : Int) + off = (tgt : Int)) (k : G l K Γ ws tgt nL lv st κ x) : G l K Γ ws pc nL lv (.int a :: st) κ x := by
  have z := G_if_eq (x := x) (y := x) C tgt hdg ht (fun _ => k) (fun q => absurd h0 q)
  rwa [ite_self] at z
theorem G_if_eq_n (C : Cx l K Γ own cc nL ret h) {a : Int32} {off : Int} (tgt : Nat) (h0 : ¬ (a = 0)) (hdg : decode cc pc = .ok (.ifCond .eq off, 3)) (ht : (pc : Int) + off = (tgt : Int)) (k : G l K Γ ws (pc + 3) nL lv st κ x) : G l K Γ ws pc nL lv (.int a :: st) κ x := by
  have z := G_if_eq (x := x) (y := x) C tgt hdg ht (fun q => absurd q h0) (fun _ => k)
  rwa [ite_self] at z
theorem G_icmp_eq_y (C : Cx l K Γ own cc nL ret h) {a b : Int32} {off : Int} (tgt : Nat) (h0 : a = b) (hdg : decode cc pc = .ok (.if_icmp .eq off, 3)) (ht : (pc : Int) + off = (tgt : Int)) (k : G l K Γ ws tgt nL lv st κ x) : G l K Γ ws pc nL lv (.int b :: .int a :: st) κ x := by
  have z := G_icmp_eq (x := x) (y := x) C tgt hdg ht (fun _ => k) (fun q => absurd h0 q)
  rwa [ite_self] at z
theorem G_icmp_eq_n (C : Cx l K Γ own cc nL ret h) {a b : Int32} {off : Int} (tgt : Nat) (h0 : ¬ (a = b)) (hdg : decode cc pc = .ok (.if_icmp .eq off, 3)) (ht : (pc : Int) + off = (tgt : Int)) (k : G l K Γ ws (pc + 3) nL lv st κ x) : G l K Γ ws pc nL lv (.int b :: .int a :: st) κ x := by
  have z := G_icmp_eq (x := x) (y := x) C tgt hdg ht (fun q => absurd q h0) (fun _ => k)
  rwa [ite_self] at z
theorem G_if_ne_y (C : Cx l K Γ own cc nL ret h) {a : Int32} {off : Int} (tgt : Nat) (h0 : a = 0) (hdg : decode cc pc = .ok (.ifCond .ne off, 3)) (ht : (pc : Int) + off = (tgt : Int)) (k : G l K Γ ws (pc + 3) nL lv st κ x) : G l K Γ ws pc nL lv (.int a :: st) κ x := by
  have z := G_if_ne (x := x) (y := x) C tgt hdg ht (fun _ => k) (fun q => absurd h0 q)
  rwa [ite_self] at z
theorem G_if_ne_n (C : Cx l K Γ own cc nL ret h) {a : Int32} {off : Int} (tgt : Nat) (h0 : ¬ (a = 0)) (hdg : decode cc pc = .ok (.ifCond .ne off, 3)) (ht : (pc : Int) + off = (tgt : Int)) (k : G l K Γ ws tgt nL lv st κ x) : G l K Γ ws pc nL lv (.int a :: st) κ x := by
  have z := G_if_ne (x := x) (y := x) C tgt hdg ht (fun q => absurd q h0) (fun _ => k)
  rwa [ite_self] at z
theorem G_icmp_ne_y (C : Cx l K Γ own cc nL ret h) {a b : Int32} {off : Int} (tgt : Nat) (h0 : a = b) (hdg : decode cc pc = .ok (.if_icmp .ne off, 3)) (ht : (pc : Int) + off = (tgt : Int)) (k : G l K Γ ws (pc + 3) nL lv st κ x) : G l K Γ ws pc nL lv (.int b :: .int a :: st) κ x := by
  have z := G_icmp_ne (x := x) (y := x) C tgt hdg ht (fun _ => k) (fun q => absurd h0 q)
  rwa [ite_self] at z
theorem G_icmp_ne_n (C : Cx l K Γ own cc nL ret h) {a b : Int32} {off : Int} (tgt : Nat) (h0 : ¬ (a = b)) (hdg : decode cc pc = .ok (.if_icmp .ne off, 3)) (ht : (pc : Int) + off = (tgt : Int)) (k : G l K Γ ws tgt nL lv st κ x) : G l K Γ ws pc nL lv (.int b :: .int a :: st) κ x := by
  have z := G_icmp_ne (x := x) (y := x) C tgt hdg ht (fun q => absurd q h0) (fun _ => k)
  rwa [ite_self] at z
theorem G_if_lt_y (C : Cx l K Γ own cc nL ret h) {a : Int32} {off : Int} (tgt : Nat) (h0 : a < 0) (hdg : decode cc pc = .ok (.ifCond .lt off, 3)) (ht : (pc : Int) + off = (tgt : Int)) (k : G l K Γ ws tgt nL lv st κ x) : G l K Γ ws pc nL lv (.int a :: st) κ x := by
  have z := G_if_lt (x := x) (y := x) C tgt hdg ht (fun _ => k) (fun q => absurd h0 q)
  rwa [ite_self] at z
theorem G_if_lt_n (C : Cx l K Γ own cc nL ret h) {a : Int32} {off : Int} (tgt : Nat) (h0 : ¬ (a < 0)) (hdg : decode cc pc = .ok (.ifCond .lt off, 3)) (ht : (pc : Int) + off = (tgt : Int)) (k : G l K Γ ws (pc + 3) nL lv st κ x) : G l K Γ ws pc nL lv (.int a :: st) κ x := by
  have z := G_if_lt (x := x) (y := x) C tgt hdg ht (fun q => absurd q h0) (fun _ => k)
  rwa [ite_self] at z
theorem G_icmp_lt_y (C : Cx l K Γ own cc nL ret h) {a b : Int32} {off : Int} (tgt : Nat) (h0 : a < b) (hdg : decode cc pc = .ok (.if_icmp .lt off, 3)) (ht : (pc : Int) + off = (tgt : Int)) (k : G l K Γ ws tgt nL lv st κ x) : G l K Γ ws pc nL lv (.int b :: .int a :: st) κ x := by
  have z := G_icmp_lt (x := x) (y := x) C tgt hdg ht (fun _ => k) (fun q => absurd h0 q)
  rwa [ite_self] at z
theorem G_icmp_lt_n (C : Cx l K Γ own cc nL ret h) {a b : Int32} {off : Int} (tgt : Nat) (h0 : ¬ (a < b)) (hdg : decode cc pc = .ok (.if_icmp .lt off, 3)) (ht : (pc : Int) + off = (tgt : Int)) (k : G l K Γ ws (pc + 3) nL lv st κ x) : G l K Γ ws pc nL lv (.int b :: .int a :: st) κ x := by
  have z := G_icmp_lt (x := x) (y := x) C tgt hdg ht (fun q => absurd q h0) (fun _ => k)
  rwa [ite_self] at z
theorem G_if_ge_y (C : Cx l K Γ own cc nL ret h) {a : Int32} {off : Int} (tgt : Nat) (h0 : a < 0) (hdg : decode cc pc = .ok (.ifCond .ge off, 3)) (ht : (pc : Int) + off = (tgt : Int)) (k : G l K Γ ws (pc + 3) nL lv st κ x) : G l K Γ ws pc nL lv (.int a :: st) κ x := by
  have z := G_if_ge (x := x) (y := x) C tgt hdg ht (fun _ => k) (fun q => absurd h0 q)
  rwa [ite_self] at z
theorem G_if_ge_n (C : Cx l K Γ own cc nL ret h) {a : Int32} {off : Int} (tgt : Nat) (h0 : ¬ (a < 0)) (hdg : decode cc pc = .ok (.ifCond .ge off, 3)) (ht : (pc : Int) + off = (tgt : Int)) (k : G l K Γ ws tgt nL lv st κ x) : G l K Γ ws pc nL lv (.int a :: st) κ x := by
  have z := G_if_ge (x := x) (y := x) C tgt hdg ht (fun q => absurd q h0) (fun _ => k)
  rwa [ite_self] at z
theorem G_icmp_ge_y (C : Cx l K Γ own cc nL ret h) {a b : Int32} {off : Int} (tgt : Nat) (h0 : a < b) (hdg : decode cc pc = .ok (.if_icmp .ge off, 3)) (ht : (pc : Int) + off = (tgt : Int)) (k : G l K Γ ws (pc + 3) nL lv st κ x) : G l K Γ ws pc nL lv (.int b :: .int a :: st) κ x := by
  have z := G_icmp_ge (x := x) (y := x) C tgt hdg ht (fun _ => k) (fun q => absurd h0 q)
  rwa [ite_self] at z
theorem G_icmp_ge_n (C : Cx l K Γ own cc nL ret h) {a b : Int32} {off : Int} (tgt : Nat) (h0 : ¬ (a < b)) (hdg : decode cc pc = .ok (.if_icmp .ge off, 3)) (ht : (pc : Int) + off = (tgt : Int)) (k : G l K Γ ws tgt nL lv st κ x) : G l K Γ ws pc nL lv (.int b :: .int a :: st) κ x := by
  have z := G_icmp_ge (x := x) (y := x) C tgt hdg ht (fun q => absurd q h0) (fun _ => k)
  rwa [ite_self] at z
theorem G_if_gt_y (C : Cx l K Γ own cc nL ret h) {a : Int32} {off : Int} (tgt : Nat) (h0 : 0 < a) (hdg : decode cc pc = .ok (.ifCond .gt off, 3)) (ht : (pc : Int) + off = (tgt : Int)) (k : G l K Γ ws tgt nL lv st κ x) : G l K Γ ws pc nL lv (.int a :: st) κ x := by
  have z := G_if_gt (x := x) (y := x) C tgt hdg ht (fun _ => k) (fun q => absurd h0 q)
  rwa [ite_self] at z
theorem G_if_gt_n (C : Cx l K Γ own cc nL ret h) {a : Int32} {off : Int} (tgt : Nat) (h0 : ¬ (0 < a)) (hdg : decode cc pc = .ok (.ifCond .gt off, 3)) (ht : (pc : Int) + off = (tgt : Int)) (k : G l K Γ ws (pc + 3) nL lv st κ x) : G l K Γ ws pc nL lv (.int a :: st) κ x := by
  have z := G_if_gt (x := x) (y := x) C tgt hdg ht (fun q => absurd q h0) (fun _ => k)
  rwa [ite_self] at z
theorem G_icmp_gt_y (C : Cx l K Γ own cc nL ret h) {a b : Int32} {off : Int} (tgt : Nat) (h0 : b < a) (hdg : decode cc pc = .ok (.if_icmp .gt off, 3)) (ht : (pc : Int) + off = (tgt : Int)) (k : G l K Γ ws tgt nL lv st κ x) : G l K Γ ws pc nL lv (.int b :: .int a :: st) κ x := by
  have z := G_icmp_gt (x := x) (y := x) C tgt hdg ht (fun _ => k) (fun q => absurd h0 q)
  rwa [ite_self] at z
theorem G_icmp_gt_n (C : Cx l K Γ own cc nL ret h) {a b : Int32} {off : Int} (tgt : Nat) (h0 : ¬ (b < a)) (hdg : decode cc pc = .ok (.if_icmp .gt off, 3)) (ht : (pc : Int) + off = (tgt : Int)) (k : G l K Γ ws (pc + 3) nL lv st κ x) : G l K Γ ws pc nL lv (.int b :: .int a :: st) κ x := by
  have z := G_icmp_gt (x := x) (y := x) C tgt hdg ht (fun q => absurd q h0) (fun _ => k)
  rwa [ite_self] at z
theorem G_if_le_y (C : Cx l K Γ own cc nL ret h) {a : Int32} {off : Int} (tgt : Nat) (h0 : 0 < a) (hdg : decode cc pc = .ok (.ifCond .le off, 3)) (ht : (pc : Int) + off = (tgt : Int)) (k : G l K Γ ws (pc + 3) nL lv st κ x) : G l K Γ ws pc nL lv (.int a :: st) κ x := by
  have z := G_if_le (x := x) (y := x) C tgt hdg ht (fun _ => k) (fun q => absurd h0 q)
  rwa [ite_self] at z
theorem G_if_le_n (C : Cx l K Γ own cc nL ret h) {a : Int32} {off : Int} (tgt : Nat) (h0 : ¬ (0 < a)) (hdg : decode cc pc = .ok (.ifCond .le off, 3)) (ht : (pc : Int) + off = (tgt : Int)) (k : G l K Γ ws tgt nL lv st κ x) : G l K Γ ws pc nL lv (.int a :: st) κ x := by
  have z := G_if_le (x := x) (y := x) C tgt hdg ht (fun q => absurd q h0) (fun _ => k)
  rwa [ite_self] at z
theorem G_icmp_le_y (C : Cx l K Γ own cc nL ret h) {a b : Int32} {off : Int} (tgt : Nat) (h0 : b < a) (hdg : decode cc pc = .ok (.if_icmp .le off, 3)) (ht : (pc : Int) + off = (tgt : Int)) (k : G l K Γ ws (pc + 3) nL lv st κ x) : G l K Γ ws pc nL lv (.int b :: .int a :: st) κ x := by
  have z := G_icmp_le (x := x) (y := x) C tgt hdg ht (fun _ => k) (fun q => absurd h0 q)
  rwa [ite_self] at z
theorem G_icmp_le_n (C : Cx l K Γ own cc nL ret h) {a b : Int32} {off : Int} (tgt : Nat) (h0 : ¬ (b < a)) (hdg : decode cc pc = .ok (.if_icmp .le off, 3)) (ht : (pc : Int) + off = (tgt : Int)) (k : G l K Γ ws tgt nL lv st κ x) : G l K Γ ws pc nL lv (.int b :: .int a :: st) κ x := by
  have z := G_icmp_le (x := x) (y := x) C tgt hdg ht (fun q => absurd q h0) (fun _ => k)
  rwa [ite_self] at z
theorem G_iret (C : Cx l K Γ own cc nL (some .int) h) {v : Int32} (hdg : decode cc pc = .ok (.ireturn, 1)) (hr' : κ x = (some (.int v), ws)) : G l K Γ ws pc nL lv [.int v] κ x := by
  obtain ⟨p, e, R, s, m, args, below, meth, c, A⟩ := Γ
  obtain ⟨hx, hb, hml, hown, hts, hr, hlk, hK, hA, hf1, hf2⟩ := C
  intro H locs ls hP hD hS hl
  exact W.iret hx hb hr (fun t ht hW => ⟨⟨by rw [hr'], by rw [hr', ht]; exact hP, by rw [hr']; exact hD⟩, hS.F ht⟩) hS.2.2 hdg
theorem G_zret (C : Cx l K Γ own cc nL (some .boolean) h) {v : Int32} (hdg : decode cc pc = .ok (.ireturn, 1)) (hn : narrow .boolean (.int v) = .int v) (hr' : κ x = (some (.int v), ws)) : G l K Γ ws pc nL lv [.int v] κ x := by
  obtain ⟨p, e, R, s, m, args, below, meth, c, A⟩ := Γ
  obtain ⟨hx, hb, hml, hown, hts, hr, hlk, hK, hA, hf1, hf2⟩ := C
  intro H locs ls hP hD hS hl
  exact W.zret hx hb hr hn (fun t ht hW => ⟨⟨by rw [hr'], by rw [hr', ht]; exact hP, by rw [hr']; exact hD⟩, hS.F ht⟩) hS.2.2 hdg
theorem G_vret (C : Cx l K Γ own cc nL none h) (hdg : decode cc pc = .ok (.return_, 1)) (hr' : κ x = (none, ws)) : G l K Γ ws pc nL lv [] κ x := by
  obtain ⟨p, e, R, s, m, args, below, meth, c, A⟩ := Γ
  obtain ⟨hx, hb, hml, hown, hts, hr, hlk, hK, hA, hf1, hf2⟩ := C
  intro H locs ls hP hD hS hl
  exact W.vret hx hb hr (fun t ht hW => ⟨⟨by rw [hr'], by rw [hr', ht]; exact hP, by rw [hr']; exact hD⟩, hS.F ht⟩) hS.2.2 hdg
theorem G_get (C : Cx l K Γ own cc nL ret h) (q0 k : Nat) {ci index N a : Nat} {fs : List Value} {CN ref : String} {T : u_T} {v : Value} (hdg : decode cc pc = .ok (.getfield index, 3)) (hin : ∀ w ∈ u_ws CN T N, w ∈ wsL_law) (hu : Cond.fieldLink own index ref (T k).2.1 (T k).2.2.1 ∈ wsL_law) (href : ref = (T k).1) (hk : k < N) (he : ws[q0]? = some (a, .inr (ci, fs))) (hc : classes[ci]? = some (CN, T, N)) (hv : fs[k]? = some v) (kk : G l K Γ ws (pc + 3) nL lv (v :: st) κ x) : G l K Γ ws pc nL lv (.ref a :: st) κ x := by
  obtain ⟨p, e, R, s, m, args, below, meth, c, A⟩ := Γ
  obtain ⟨hx, hb, hml, hown, hts, hr, hlk, hK, hA, hf1, hf2⟩ := C
  subst href
  intro H locs ls hP hD hS hl
  exact va_get (C := CN) (T := T) (N := N) hx hb hts hin hown hK.1.1 hP q0 he hc k hk (hts _ hu) (fun _ h9 => h9) hv hdg (kk H locs ls hP hD hS hl)
theorem G_put (C : Cx l K Γ own cc nL ret h) (q0 k : Nat) (ty0 : Nat → FieldType) (ty : FieldType) {ci index N a : Nat} {fs : List Value} {CN ref : String} {T : u_T} {v : Value} {ws' : va_W} (hdg : decode cc pc = .ok (.putfield index, 3)) (hin : ∀ w ∈ u_ws CN T N, w ∈ wsL_law) (hu : Cond.fieldLink own index ref (T k).2.1 (T k).2.2.1 ∈ wsL_law) (hty : ∀ k, k < N → parseFieldDescriptor (T k).2.2.1 = some (ty0 k)) (hnm : ∀ a, a < N → ∀ b, b < N → a ≠ b → (T a).2.1 ≠ (T b).2.1) (href : ref = (T k).1) (hk : k < N) (hfin : (T k).2.2.2 = false) (hd : parseFieldDescriptor (T k).2.2.1 = some ty) (he : ws[q0]? = some (a, .inr (ci, fs))) (hc : classes[ci]? = some (CN, T, N)) (hn : narrow ty v = v) (hfit : fits ty v = true) (hlen : k < fs.length) (hw : ws.set q0 (a, .inr (ci, fs.set k v)) = ws') (kk : G l K Γ ws' (pc + 3) nL lv st κ x) : G l K Γ ws pc nL lv (v :: .ref a :: st) κ x := by
  obtain ⟨p, e, R, s, m, args, below, meth, c, A⟩ := Γ
  obtain ⟨hx, hb, hml, hown, hts, hr, hlk, hK, hA, hf1, hf2⟩ := C
  subst href
  subst hw
  intro H locs ls hP hD hS hl
  exact va_put (C := CN) (T := T) (N := N) (ty := ty) hx hb hts hin ty0 hty hnm hown hK.1.1 hP hD hS q0 he hc k hk (hts _ hu) (fun _ h9 => h9) hfin hd hn hfit hlen hdg (fun H1 locs1 hP hD hS => kk H1 locs1 ls hP hD hS hl)
theorem G_iald (C : Cx l K Γ own cc nL ret h) (q0 : Nat) {a n : Nat} {f : Nat → Int32} {i : Int32} (hdg : decode cc pc = .ok (.iaload, 1)) (ha : ws[q0]? = some (a, .inl (K.2 0, n, .inl f))) (hin : vp_in i n) (k : G l K Γ ws (pc + 1) nL lv (.int (f i.toNatClampNeg) :: st) κ x) : G l K Γ ws pc nL lv (.int i :: .ref a :: st) κ x := by
  obtain ⟨p, e, R, s, m, args, below, meth, c, A⟩ := Γ
  obtain ⟨hx, hb, hml, hown, hts, hr, hlk, hK, hA, hf1, hf2⟩ := C
  intro H locs ls hP hD hS hl
  exact va_iald hx hb hK.1.1 hP q0 0 ha rfl hin hdg (k H locs ls hP hD hS hl)
theorem G_bald (C : Cx l K Γ own cc nL ret h) (q0 : Nat) {a n : Nat} {f : Nat → Int32} {i : Int32} (hdg : decode cc pc = .ok (.baload, 1)) (ha : ws[q0]? = some (a, .inl (K.2 1, n, .inl f))) (hin : vp_in i n) (k : G l K Γ ws (pc + 1) nL lv (.int (f i.toNatClampNeg) :: st) κ x) : G l K Γ ws pc nL lv (.int i :: .ref a :: st) κ x := by
  obtain ⟨p, e, R, s, m, args, below, meth, c, A⟩ := Γ
  obtain ⟨hx, hb, hml, hown, hts, hr, hlk, hK, hA, hf1, hf2⟩ := C
  intro H locs ls hP hD hS hl
  exact va_bald hx hb hK.1.1 hP q0 1 ha rfl hin hdg (k H locs ls hP hD hS hl)
theorem G_zald (C : Cx l K Γ own cc nL ret h) (q0 : Nat) {a n : Nat} {f : Nat → Int32} {i : Int32} (hdg : decode cc pc = .ok (.baload, 1)) (ha : ws[q0]? = some (a, .inl (K.2 2, n, .inl f))) (hin : vp_in i n) (k : G l K Γ ws (pc + 1) nL lv (.int (f i.toNatClampNeg) :: st) κ x) : G l K Γ ws pc nL lv (.int i :: .ref a :: st) κ x := by
  obtain ⟨p, e, R, s, m, args, below, meth, c, A⟩ := Γ
  obtain ⟨hx, hb, hml, hown, hts, hr, hlk, hK, hA, hf1, hf2⟩ := C
  intro H locs ls hP hD hS hl
  exact va_zald hx hb hK.1.1 hP q0 2 ha rfl hin hdg (k H locs ls hP hD hS hl)
theorem G_iast (C : Cx l K Γ own cc nL ret h) (q0 : Nat) {a n : Nat} {f : Nat → Int32} {i v : Int32} {ws' : va_W} (hdg : decode cc pc = .ok (.iastore, 1)) (ha : ws[q0]? = some (a, .inl (K.2 0, n, .inl f))) (hin : vp_in i n) (hw : ws.set q0 (a, .inl (K.2 0, n, .inl (upd f i.toNatClampNeg v))) = ws') (k : G l K Γ ws' (pc + 1) nL lv st κ x) : G l K Γ ws pc nL lv (.int v :: .int i :: .ref a :: st) κ x := by
  obtain ⟨p, e, R, s, m, args, below, meth, c, A⟩ := Γ
  obtain ⟨hx, hb, hml, hown, hts, hr, hlk, hK, hA, hf1, hf2⟩ := C
  subst hw
  intro H locs ls hP hD hS hl
  exact va_iast hx hb hK.1.1 hP hD hS q0 0 ha rfl hin hdg (fun H1 locs1 hP hD hS => k H1 locs1 ls hP hD hS hl)
theorem G_bast (C : Cx l K Γ own cc nL ret h) (q0 : Nat) {a n : Nat} {f : Nat → Int32} {i v : Int32} {ws' : va_W} (hdg : decode cc pc = .ok (.bastore, 1)) (ha : ws[q0]? = some (a, .inl (K.2 1, n, .inl f))) (hin : vp_in i n) (hw : ws.set q0 (a, .inl (K.2 1, n, .inl (upd f i.toNatClampNeg (vp_nar .byte v)))) = ws') (k : G l K Γ ws' (pc + 1) nL lv st κ x) : G l K Γ ws pc nL lv (.int v :: .int i :: .ref a :: st) κ x := by
  obtain ⟨p, e, R, s, m, args, below, meth, c, A⟩ := Γ
  obtain ⟨hx, hb, hml, hown, hts, hr, hlk, hK, hA, hf1, hf2⟩ := C
  subst hw
  intro H locs ls hP hD hS hl
  exact va_bast hx hb hK.1.1 hP hD hS q0 1 ha rfl hin hdg (fun H1 locs1 hP hD hS => k H1 locs1 ls hP hD hS hl)
theorem G_zast (C : Cx l K Γ own cc nL ret h) (q0 : Nat) {a n : Nat} {f : Nat → Int32} {i v : Int32} {ws' : va_W} (hdg : decode cc pc = .ok (.bastore, 1)) (ha : ws[q0]? = some (a, .inl (K.2 2, n, .inl f))) (hin : vp_in i n) (hw : ws.set q0 (a, .inl (K.2 2, n, .inl (upd f i.toNatClampNeg (vp_nar .boolean v)))) = ws') (k : G l K Γ ws' (pc + 1) nL lv st κ x) : G l K Γ ws pc nL lv (.int v :: .int i :: .ref a :: st) κ x := by
  obtain ⟨p, e, R, s, m, args, below, meth, c, A⟩ := Γ
  obtain ⟨hx, hb, hml, hown, hts, hr, hlk, hK, hA, hf1, hf2⟩ := C
  subst hw
  intro H locs ls hP hD hS hl
  exact va_zast hx hb hK.1.1 hP hD hS q0 2 ha rfl hin hdg (fun H1 locs1 hP hD hS => k H1 locs1 ls hP hD hS hl)
theorem G_alen (C : Cx l K Γ own cc nL ret h) (q0 t0 : Nat) {a : Nat} {cA : ClassId} {y : vp_A} {ty : FieldType} {v : Int32} (hdg : decode cc pc = .ok (.arraylength, 1)) (ha : ws[q0]? = some (a, .inl (cA, y))) (ht : (tys K)[t0]? = some (cA, ty)) (hv : Int32.ofNat y.1 = v) (k : G l K Γ ws (pc + 1) nL lv (.int v :: st) κ x) : G l K Γ ws pc nL lv (.ref a :: st) κ x := by
  obtain ⟨p, e, R, s, m, args, below, meth, c, A⟩ := Γ
  obtain ⟨hx, hb, hml, hown, hts, hr, hlk, hK, hA, hf1, hf2⟩ := C
  intro H locs ls hP hD hS hl
  exact va_alen hx hb hK.1.1 hP q0 t0 ha ht hv hdg (k H locs ls hP hD hS hl)
def Card (y : MethodName) (bytes : ByteArray) (maxL : Nat) (rt : Option FieldType) (n : Nat) : Prop := Cond.code y bytes maxL rt ∈ wsL_law ∧ Cond.initialized y.cls ∈ wsL_law ∧ (y.cls ≠ "java/lang/invoke/MethodHandle" ∧ y.cls ≠ "java/lang/invoke/VarHandle" ∧ (parseMethodDescriptor y.desc).map (fun d => d.parameters.length) = some n) ∧ maxL ≤ 11
theorem good_mem {w : Cond} (hw : w ∈ wsL_law) : (w.onTables && w.keeps) = true ∨ ∃ ty, w = .arrayClass ty := good_of_word (List.all_eq_true.mp u_good w hw)
theorem good_Card {y : MethodName} {bytes : ByteArray} {maxL n : Nat} {rt : Option FieldType} (hc : Card y bytes maxL rt n) : GoodIn wsL_law (.code y bytes maxL rt :: wsL_law) := by
  intro w hw
  rcases List.mem_cons.mp hw with rfl | hw
  · exact ⟨hc.1, good_mem hc.1⟩
  · exact ⟨hw, good_mem hw⟩
theorem G_callS (C : Cx l K Γ own cc nL ret h) {y : MethodName} {bytes : ByteArray} {maxL h' index n : Nat} {rt : Option FieldType} {as rest : List Value} {v : Option Value} {ws' : va_W} (hcard : Card y bytes maxL rt n) (hstt : Cond.static y ∈ wsL_law) (hu : Cond.methodLink own index y ∈ wsL_law) (ct : Ct l K y bytes maxL rt h' as ws (v, ws')) (hdg : decode cc pc = .ok (.invokestatic index, 3)) (hst : st = as.reverse ++ rest) (hn : as.length = n) (hh : h' + 1 ≤ h) (hrest : (rest.map fun v => v.category).sum ≤ 8) (kk : G l K Γ ws' (pc + 3) nL lv (v.toList ++ rest) κ x) : G l K Γ ws pc nL lv st κ x := by
  obtain ⟨p, e, R, s, m, args, below, meth, c, A⟩ := Γ
  obtain ⟨hx, hb, hml, hown, hts, hr, hlk, hK, hA, hf1, hf2⟩ := C
  subst hst
  intro H locs ls hP hD hS hl
  have hM := ct H.size
  have hcd := hcard
  obtain ⟨hc1, hc2, hc3, hc4⟩ := hcd
  have hF : ∀ q, va_A ws H.size q → A q := va_free hD hS hA (List.range ws.length) (g_range ws)
  have hfb : FrameBlind (va_Pc (as) (fun U => U.heap.size = H.size ∧ va_P K.1 classes ws U.heap ∧ KS K (va_A ws H.size) U U.heap ∧ va_D (fun _ => True) ws)) := fun a U g mk q => by
    obtain ⟨q0, q1, q2, q3, q4⟩ := q
    exact ⟨q0, q1, q2, ⟨q3.1.calling, q3.2.calling⟩, q4⟩
  have hpre : ∀ U : State, U.heap = H → s.WarmedH U.vm → va_Pc (as) (fun U => U.heap.size = H.size ∧ va_P K.1 classes ws U.heap ∧ KS K (va_A ws H.size) U U.heap ∧ va_D (fun _ => True) ws) (as).toArray U := fun U hU hW => ⟨rfl, by rw [hU], by rw [hU]; exact hP, ⟨hK.1.warm hW, by rw [hU]; exact ((hK.2.kept hS.2.1).narrow hF).warm hW⟩, hD.weaken (fun _ _ _ _ => trivial)⟩
  have hroom : h' + 1 ≤ R.frames ∧ 8 + (maxL + 11) + 30 * h' ≤ R.locals := ⟨by omega, by omega⟩
  refine g_call (va_runS (As := as) (rest := rest) ⟨hx, hb, hml, hown, hts⟩ hM ⟨callB_of n hts (good_Card hcard) rfl rfl rfl (hts _ hc2) (hts _ hu) hc3 hroom, hts _ hstt⟩ ⟨hfb, hpre⟩ rfl hn hl.1 rfl (lv_room hrest) hdg ⟨Nat.zero_le _, Nat.zero_le _⟩) hS (fun q _ h => hF q h) hF (fun t H1 locs1 ht hP1 hD1 hk1 hS1 => kk H1 locs1 ls (by rw [← ht]; exact hP1) (hD1.weaken (fun _ q _ hq => hF q.1 hq)) hS1 hl)
theorem G_callSN (C : Cx l K Γ own cc nL ret h) {y : MethodName} {bytes : ByteArray} {maxL h' index n : Nat} {rt : Option FieldType} {as rest : List Value} {v : Option Value} {ws' : va_W} {host : String} (hcard : Card y bytes maxL rt n) (hstt : Cond.static y ∈ wsL_law) (hu : Cond.methodLinkNest own index y host ∈ nestW) (ct : Ct l K y bytes maxL rt h' as ws (v, ws')) (hdg : decode cc pc = .ok (.invokestatic index, 3)) (hst : st = as.reverse ++ rest) (hn : as.length = n) (hh : h' + 1 ≤ h) (hrest : (rest.map fun v => v.category).sum ≤ 8) (kk : G l K Γ ws' (pc + 3) nL lv (v.toList ++ rest) κ x) : G l K Γ ws pc nL lv st κ x := by
  obtain ⟨p, e, R, s, m, args, below, meth, c, A⟩ := Γ
  obtain ⟨hx, hb, hml, hown, hts, hr, hlk, hK, hA, hf1, hf2⟩ := C
  subst hst
  intro H locs ls hP hD hS hl
  have hM := ct H.size
  have hcd := hcard
  obtain ⟨hc1, hc2, hc3, hc4⟩ := hcd
  have hF : ∀ q, va_A ws H.size q → A q := va_free hD hS hA (List.range ws.length) (g_range ws)
  have hfb : FrameBlind (va_Pc (as) (fun U => U.heap.size = H.size ∧ va_P K.1 classes ws U.heap ∧ KS K (va_A ws H.size) U U.heap ∧ va_D (fun _ => True) ws)) := fun a U g mk q => by
    obtain ⟨q0, q1, q2, q3, q4⟩ := q
    exact ⟨q0, q1, q2, ⟨q3.1.calling, q3.2.calling⟩, q4⟩
  have hpre : ∀ U : State, U.heap = H → s.WarmedH U.vm → va_Pc (as) (fun U => U.heap.size = H.size ∧ va_P K.1 classes ws U.heap ∧ KS K (va_A ws H.size) U U.heap ∧ va_D (fun _ => True) ws) (as).toArray U := fun U hU hW => ⟨rfl, by rw [hU], by rw [hU]; exact hP, ⟨hK.1.warm hW, by rw [hU]; exact ((hK.2.kept hS.2.1).narrow hF).warm hW⟩, hD.weaken (fun _ _ _ _ => trivial)⟩
  have hroom : h' + 1 ≤ R.frames ∧ 8 + (maxL + 11) + 30 * h' ≤ R.locals := ⟨by omega, by omega⟩
  refine g_call (va_runSN (As := as) (rest := rest) ⟨hx, hb, hml, hown, hts⟩ hM ⟨va_cnB n hts (good_Card hcard) rfl rfl rfl (hK.1.2 _ hu) (hts _ hc2) hc3 hroom, hts _ hstt, trivial⟩ ⟨hfb, hpre⟩ rfl hn hl.1 rfl (lv_room hrest) hdg ⟨Nat.zero_le _, Nat.zero_le _⟩) hS (fun q _ h => hF q h) hF (fun t H1 locs1 ht hP1 hD1 hk1 hS1 => kk H1 locs1 ls (by rw [← ht]; exact hP1) (hD1.weaken (fun _ q _ hq => hF q.1 hq)) hS1 hl)
theorem G_callV (C : Cx l K Γ own cc nL ret h) {y : MethodName} {bytes : ByteArray} {maxL h' index n : Nat} {rt : Option FieldType} {as rest : List Value} {v : Option Value} {ws' : va_W} {b : Nat} {fs : List Value} {T : u_T} {N : Nat} (q0 ci : Nat) (hcard : Card y bytes maxL rt n) (hins : Cond.instanceMethod y ∈ wsL_law) (hsel : Cond.selects y.cls y y ∈ wsL_law) (hu : Cond.methodLink own index y ∈ wsL_law) (hc : classes[ci]? = some (y.cls, T, N)) (he : ws[q0]? = some (b, .inr (ci, fs))) (ct : Ct l K y bytes maxL rt h' (.ref b :: as) ws (v, ws')) (hdg : decode cc pc = .ok (.invokevirtual index, 3)) (hst : st = as.reverse ++ .ref b :: rest) (hn : as.length = n) (hh : h' + 1 ≤ h) (hrest : (rest.map fun v => v.category).sum ≤ 8) (kk : G l K Γ ws' (pc + 3) nL lv (v.toList ++ rest) κ x) : G l K Γ ws pc nL lv st κ x := by
  obtain ⟨p, e, R, s, m, args, below, meth, c, A⟩ := Γ
  obtain ⟨hx, hb, hml, hown, hts, hr, hlk, hK, hA, hf1, hf2⟩ := C
  subst hst
  intro H locs ls hP hD hS hl
  have hM := ct H.size
  have hcd := hcard
  obtain ⟨hc1, hc2, hc3, hc4⟩ := hcd
  have hF : ∀ q, va_A ws H.size q → A q := va_free hD hS hA (List.range ws.length) (g_range ws)
  have hfb : FrameBlind (va_Pc (.ref b :: as) (fun U => U.heap.size = H.size ∧ va_P K.1 classes ws U.heap ∧ KS K (va_A ws H.size) U U.heap ∧ va_D (fun _ => True) ws)) := fun a U g mk q => by
    obtain ⟨q0, q1, q2, q3, q4⟩ := q
    exact ⟨q0, q1, q2, ⟨q3.1.calling, q3.2.calling⟩, q4⟩
  have hpre : ∀ U : State, U.heap = H → s.WarmedH U.vm → va_Pc (.ref b :: as) (fun U => U.heap.size = H.size ∧ va_P K.1 classes ws U.heap ∧ KS K (va_A ws H.size) U U.heap ∧ va_D (fun _ => True) ws) (.ref b :: as).toArray U := fun U hU hW => ⟨rfl, by rw [hU], by rw [hU]; exact hP, ⟨hK.1.warm hW, by rw [hU]; exact ((hK.2.kept hS.2.1).narrow hF).warm hW⟩, hD.weaken (fun _ _ _ _ => trivial)⟩
  have hroom : h' + 1 ≤ R.frames ∧ 8 + (maxL + 11) + 30 * h' ≤ R.locals := ⟨by omega, by omega⟩
  refine g_call (va_runV (As := as) (rest := rest) ⟨hx, hb, hml, hown, hts⟩ hM ⟨callB_of n hts (good_Card hcard) rfl rfl rfl (hts _ hc2) (hts _ hu) hc3 hroom, hts _ hins, hts _ hsel⟩ ⟨hfb, va_recv hK.1.1 hP (ci := ci) (q0 := q0) hc he, hpre⟩ rfl hn hl.1 rfl (lv_room hrest) hdg ⟨Nat.zero_le _, Nat.zero_le _⟩) hS (fun q _ h => hF q h) hF (fun t H1 locs1 ht hP1 hD1 hk1 hS1 => kk H1 locs1 ls (by rw [← ht]; exact hP1) (hD1.weaken (fun _ q _ hq => hF q.1 hq)) hS1 hl)
theorem G_callSi (C : Cx l K Γ own cc nL ret h) {y : MethodName} {bytes : ByteArray} {maxL h' index n : Nat} {rt : Option FieldType} {as rest : List Value} {w : Int32} {ws' : va_W} (hcard : Card y bytes maxL rt n) (hstt : Cond.static y ∈ wsL_law) (hu : Cond.methodLink own index y ∈ wsL_law) (ct : Ct l K y bytes maxL rt h' as ws (some (.int w), ws')) (hdg : decode cc pc = .ok (.invokestatic index, 3)) (hst : st = as.reverse ++ rest) (hn : as.length = n) (hh : h' + 1 ≤ h) (hrest : (rest.map fun v => v.category).sum ≤ 8) (kk : G l K Γ ws' (pc + 3) nL lv (.int w :: rest) κ x) : G l K Γ ws pc nL lv st κ x :=
  G_callS C hcard hstt hu ct hdg hst hn hh hrest kk
theorem G_callSv (C : Cx l K Γ own cc nL ret h) {y : MethodName} {bytes : ByteArray} {maxL h' index n : Nat} {rt : Option FieldType} {as rest : List Value} {ws' : va_W} (hcard : Card y bytes maxL rt n) (hstt : Cond.static y ∈ wsL_law) (hu : Cond.methodLink own index y ∈ wsL_law) (ct : Ct l K y bytes maxL rt h' as ws (none, ws')) (hdg : decode cc pc = .ok (.invokestatic index, 3)) (hst : st = as.reverse ++ rest) (hn : as.length = n) (hh : h' + 1 ≤ h) (hrest : (rest.map fun v => v.category).sum ≤ 8) (kk : G l K Γ ws' (pc + 3) nL lv (rest) κ x) : G l K Γ ws pc nL lv st κ x :=
  G_callS C hcard hstt hu ct hdg hst hn hh hrest kk
theorem G_callSNi (C : Cx l K Γ own cc nL ret h) {y : MethodName} {bytes : ByteArray} {maxL h' index n : Nat} {rt : Option FieldType} {as rest : List Value} {w : Int32} {ws' : va_W} {host : String} (hcard : Card y bytes maxL rt n) (hstt : Cond.static y ∈ wsL_law) (hu : Cond.methodLinkNest own index y host ∈ nestW) (ct : Ct l K y bytes maxL rt h' as ws (some (.int w), ws')) (hdg : decode cc pc = .ok (.invokestatic index, 3)) (hst : st = as.reverse ++ rest) (hn : as.length = n) (hh : h' + 1 ≤ h) (hrest : (rest.map fun v => v.category).sum ≤ 8) (kk : G l K Γ ws' (pc + 3) nL lv (.int w :: rest) κ x) : G l K Γ ws pc nL lv st κ x :=
  G_callSN C hcard hstt hu ct hdg hst hn hh hrest kk
theorem G_callSNv (C : Cx l K Γ own cc nL ret h) {y : MethodName} {bytes : ByteArray} {maxL h' index n : Nat} {rt : Option FieldType} {as rest : List Value} {ws' : va_W} {host : String} (hcard : Card y bytes maxL rt n) (hstt : Cond.static y ∈ wsL_law) (hu : Cond.methodLinkNest own index y host ∈ nestW) (ct : Ct l K y bytes maxL rt h' as ws (none, ws')) (hdg : decode cc pc = .ok (.invokestatic index, 3)) (hst : st = as.reverse ++ rest) (hn : as.length = n) (hh : h' + 1 ≤ h) (hrest : (rest.map fun v => v.category).sum ≤ 8) (kk : G l K Γ ws' (pc + 3) nL lv (rest) κ x) : G l K Γ ws pc nL lv st κ x :=
  G_callSN C hcard hstt hu ct hdg hst hn hh hrest kk
theorem G_callVi (C : Cx l K Γ own cc nL ret h) {y : MethodName} {bytes : ByteArray} {maxL h' index n : Nat} {rt : Option FieldType} {as rest : List Value} {w : Int32} {ws' : va_W} {b : Nat} {fs : List Value} {T : u_T} {N : Nat} (q0 ci : Nat) (hcard : Card y bytes maxL rt n) (hins : Cond.instanceMethod y ∈ wsL_law) (hsel : Cond.selects y.cls y y ∈ wsL_law) (hu : Cond.methodLink own index y ∈ wsL_law) (hc : classes[ci]? = some (y.cls, T, N)) (he : ws[q0]? = some (b, .inr (ci, fs))) (ct : Ct l K y bytes maxL rt h' (.ref b :: as) ws (some (.int w), ws')) (hdg : decode cc pc = .ok (.invokevirtual index, 3)) (hst : st = as.reverse ++ .ref b :: rest) (hn : as.length = n) (hh : h' + 1 ≤ h) (hrest : (rest.map fun v => v.category).sum ≤ 8) (kk : G l K Γ ws' (pc + 3) nL lv (.int w :: rest) κ x) : G l K Γ ws pc nL lv st κ x :=
  G_callV C q0 ci hcard hins hsel hu hc he ct hdg hst hn hh hrest kk
theorem G_callVv (C : Cx l K Γ own cc nL ret h) {y : MethodName} {bytes : ByteArray} {maxL h' index n : Nat} {rt : Option FieldType} {as rest : List Value} {ws' : va_W} {b : Nat} {fs : List Value} {T : u_T} {N : Nat} (q0 ci : Nat) (hcard : Card y bytes maxL rt n) (hins : Cond.instanceMethod y ∈ wsL_law) (hsel : Cond.selects y.cls y y ∈ wsL_law) (hu : Cond.methodLink own index y ∈ wsL_law) (hc : classes[ci]? = some (y.cls, T, N)) (he : ws[q0]? = some (b, .inr (ci, fs))) (ct : Ct l K y bytes maxL rt h' (.ref b :: as) ws (none, ws')) (hdg : decode cc pc = .ok (.invokevirtual index, 3)) (hst : st = as.reverse ++ .ref b :: rest) (hn : as.length = n) (hh : h' + 1 ≤ h) (hrest : (rest.map fun v => v.category).sum ≤ 8) (kk : G l K Γ ws' (pc + 3) nL lv (rest) κ x) : G l K Γ ws pc nL lv st κ x :=
  G_callV C q0 ci hcard hins hsel hu hc he ct hdg hst hn hh hrest kk
theorem G_sub (ks : List Nat) {lv' : List (Nat × Value)} (hl' : lv_pick lv ks = lv') (k : G l K Γ ws pc nL lv' st κ x) : G l K Γ ws pc nL lv st κ x := by
  obtain ⟨p, e, R, s, m, args, below, meth, c, A⟩ := Γ
  intro H locs ls hP hD hS hl
  exact k H locs ls hP hD hS (lv_sub hl ks hl')
theorem G_conv {ws' : va_W} (h1 : ∀ H, va_P K.1 classes ws H → va_P K.1 classes ws' H) (h2 : ∀ A, va_D A ws → va_D A ws') (k : G l K Γ ws' pc nL lv st κ x) : G l K Γ ws pc nL lv st κ x := by
  obtain ⟨p, e, R, s, m, args, below, meth, c, A⟩ := Γ
  intro H locs ls hP hD hS hl
  exact k H locs ls (h1 H hP) (h2 A hD) hS hl
theorem G_ite {c : Prop} [Decidable c] {y : α} (ky : c → G l K Γ ws pc nL lv st κ x) (kn : ¬ c → G l K Γ ws pc nL lv st κ y) : G l K Γ ws pc nL lv st κ (if c then x else y) := by
  by_cases h : c
  · rw [if_pos h]
    exact ky h
  · rw [if_neg h]
    exact kn h
theorem G_tswIn (C : Cx l K Γ own cc nL ret h) {dflt lo hi : Int} {offs : Array Int} {len : Nat} {a v : Int32} {off : Int} (tgt j : Nat) (hdg : decode cc pc = .ok (.tableswitch dflt lo hi offs, len)) (ha : a = v) (hv : v.toInt = lo + (j : Int)) (hj : lo + (j : Int) ≤ hi) (ho : offs[j]? = some off) (ht : (pc : Int) + off = (tgt : Int)) (k : G l K Γ ws tgt nL lv st κ x) : G l K Γ ws pc nL lv (.int a :: st) κ x := by
  obtain ⟨p, e, R, s, m, args, below, meth, c, A⟩ := Γ
  obtain ⟨hx, hb, hml, hown, hts, hr, hlk, hK, hA, hf1, hf2⟩ := C
  intro H locs ls hP hD hS hl
  subst ha
  exact lv_tableIn hx hb hdg (by omega) (by omega) (by rw [hv, show (lo + (j : Int) - lo).toNat = j by omega]; exact ho) ht (k H locs ls hP hD hS hl)
theorem G_tswOut (C : Cx l K Γ own cc nL ret h) {dflt lo hi : Int} {offs : Array Int} {len : Nat} {a : Int32} (tgt : Nat) (hdg : decode cc pc = .ok (.tableswitch dflt lo hi offs, len)) (ha : a.toInt < lo ∨ hi < a.toInt) (ht : (pc : Int) + dflt = (tgt : Int)) (k : G l K Γ ws tgt nL lv st κ x) : G l K Γ ws pc nL lv (.int a :: st) κ x := by
  obtain ⟨p, e, R, s, m, args, below, meth, c, A⟩ := Γ
  obtain ⟨hx, hb, hml, hown, hts, hr, hlk, hK, hA, hf1, hf2⟩ := C
  intro H locs ls hP hD hS hl
  exact lv_tableOut hx hb hdg ha ht (k H locs ls hP hD hS hl)
end GR
theorem Ct.to {l : Launch} {K : gK} {y : MethodName} {cc : ByteArray} {maxL : Nat} {ret : Option FieldType} {h : Nat} {as : List Value} {ws : va_W} {r r' : gR} (ct : Ct l K y cc maxL ret h as ws r) (e : r = r') : Ct l K y cc maxL ret h as ws r' := e ▸ ct
theorem Ct.from {l : Launch} {K : gK} {y : MethodName} {cc : ByteArray} {maxL : Nat} {ret : Option FieldType} {h : Nat} {as : List Value} {ws ws' : va_W} {r : gR} (ct : Ct l K y cc maxL ret h as ws r) (e : ws = ws') : Ct l K y cc maxL ret h as ws' r := e ▸ ct
theorem i32_ne {x v : Int32} {n : Int} (h : ¬ x = v) (hv : v.toInt = n) : ¬ x.toInt = n := fun q => h (Int32.toInt_inj.mp (by rw [hv]; exact q))
theorem g_same {α : Type} {ws : List α} {q : Nat} {x : α} (h : ws[q]? = some x) : ws.set q x = ws := by
  apply List.ext_getElem?
  intro i
  by_cases hi : i = q
  · subst hi
    rw [List.getElem?_set_self (List.getElem?_eq_some_iff.mp h).1, h]
  · rw [List.getElem?_set_ne (Ne.symm hi)]
def mu (i : Int32) : Nat := (2147483647 - i.toInt).toNat
theorem toInt_lt (x : Int32) : x.toInt < 2147483648 := by
  have := Int32.toInt_lt x
  omega
theorem toInt_ge (x : Int32) : -2147483648 ≤ x.toInt := by
  have := Int32.le_toInt x
  omega
theorem toInt_add1 {i : Int32} (h : i.toInt < 2147483647) : (i + 1).toInt = i.toInt + 1 := by
  have h2 := toInt_ge i
  rw [Int32.toInt_add, show (1 : Int32).toInt = 1 from rfl, Int.bmod_eq_of_le (by omega) (by omega)]
theorem mu_up {i b : Int32} (h : i < b) : mu (i + 1) < mu i := by
  have h1 := Int32.lt_iff_toInt_lt.mp h
  have h2 := toInt_lt b
  have h3 := toInt_ge i
  unfold mu
  rw [toInt_add1 (by omega)]
  omega
theorem g_in_of {i : Int32} {n : Nat} (hn : n < 2147483648) (h0 : ¬ i < 0) (h1 : i < Int32.ofNat n) : vp_in i n := by
  rintro (h | h)
  · exact h0 h
  · have h2 := Int32.lt_iff_toInt_lt.mp h1
    rw [Int32.toInt_ofNat_of_lt (by omega)] at h2
    have h3 : ¬ i.toInt < 0 := fun q => h0 (Int32.lt_iff_toInt_lt.mpr q)
    have h4 : i.toNatClampNeg = i.toInt.toNat := rfl
    omega
