-- PART 41: the contract Cr (any answer, any new cells) and the rows of its calls
def Qz {S : Type} (K : gK) (A : Nat → Prop) (Wr : S → gR) : Array Value → State → Outcome → State → Prop := fun _ st oc t => (∃ u : S, oc = .returned (Wr u).1 ∧ va_P K.1 classes (Wr u).2 t.heap ∧ va_D A (Wr u).2) ∧ va_F A st t
def Jz {S : Type} (K : gK) (Γ : gT) (Wr : S → gR) (nc ns : Nat) : State → Prop := match Γ with
  | (p, e, R, s, m, args, below, meth, c, A) => MQ below (Qz K A Wr) args s nc ns A
def Pz (K : gK) (ws : va_W) (sz : Nat) (U : State) : Prop := U.heap.size = sz ∧ va_P K.1 classes ws U.heap ∧ (KS K (va_A ws sz) U U.heap ∧ va_AO RX6 U) ∧ va_D (fun _ => True) ws
def Cr {S : Type} (l : Launch) (K : gK) (y : MethodName) (cc : ByteArray) (maxL : Nat) (ret : Option FieldType) (h nc ns : Nat) (as : List Value) (ws : va_W) (Wr : S → gR) : Prop :=
  ∀ sz : Nat, Met l y (.code y cc maxL ret :: wsL_law) ({ frames := h, cells := nc, slots := ns, locals := 30 * h }) (va_Pc as (Pz K ws sz)) (Qz K (va_A ws sz) Wr) nc ns (va_A ws sz)
theorem Cr.of {S : Type} {l : Launch} {K : gK} {y : MethodName} {cc : ByteArray} {maxL h nc ns : Nat} {ret : Option FieldType} {as : List Value} {ws : va_W} {Wr : S → gR} {own : String} (hy : plainName y.cls = true) (ho : y.cls = own) (hlen : (lg_sl as).length ≤ maxL)
    (body : ∀ Γ : gT, Cx l K Γ own cc maxL ret h → Cy Γ nc ns → (y.name = "<init>" → Ci Γ) → J l K Γ (Jz K Γ Wr nc ns) 0 0 ws 0 maxL (lv_args 0 as) []) : Cr l K y cc maxL ret h nc ns as ws Wr := by
  intro sz
  refine Met.ofW (cc := cc) (maxL := maxL) (ret := ret) hy rfl ?_
  intro p e s m args below meth c s₁ B hml hv
  obtain ⟨rfl, hsz, hP, ⟨hK, hao⟩, hD0⟩ := hv
  have hts := atoms_spec (ws := .code y cc maxL ret :: wsL_law) B.pre
  have hown : s.vm.findClass own = some m.cls := ho ▸ findClass_of_methodNamed B.named
  have hin : y.name = "<init>" → meth.name = "<init>" := fun hyn => (name_of_methodNamed B.named B.method).1.trans hyn
  subst hsz
  have hD := hD0.self (sz := s.heap.size)
  have hA : ∀ q : Nat, s.heap.size ≤ q → va_A ws s.heap.size q := fun q h => Or.inr h
  have hS : va_S (va_A ws s.heap.size) s.heap s.heap [] := va_S.rf
  have hl := lv_entry as (n := maxL) hlen
  rw [lg_entry_eq]
  exact body (p, e, _, s, m, as.toArray, below, meth, c, va_A ws s.heap.size) ⟨B.exec, B.bytes, hml, hown, fun w hw => hts w (List.mem_cons_of_mem _ hw), B.returns, B.notSynchronized, hK, hA, Nat.le_refl _, Nat.le_refl _⟩ ⟨Nat.le_refl _, Nat.le_refl _, hao⟩ hin s.heap [] _ hP hD hS hl
theorem Cr.perm {S S2 : Type} {l : Launch} {K : gK} {y : MethodName} {cc : ByteArray} {maxL h nc ns : Nat} {ret : Option FieldType} {as : List Value} {wc wr ws : va_W} {W1 : S → gR} {W2 : S2 → gR} (hp : ws.Perm (wc ++ wr)) (hp' : ∀ u, ∃ u2, (W2 u2).1 = (W1 u).1 ∧ ((W1 u).2 ++ wr).Perm (W2 u2).2) (ct : Cr l K y cc maxL ret h nc ns as wc W1) : Cr l K y cc maxL ret h nc ns as ws W2 := by
  intro sz p e ha hc hk s m args below hf happ hPre _
  obtain ⟨rfl, hsz, hPw, ⟨hKS, hao⟩, hDw⟩ := hPre
  have hPb := va_P_perm hp hPw
  have hDb := va_D_perm hp hDw
  have hsub : ∀ q, va_A wc sz q → va_A ws sz q := fun q hq => va_A_perm hp.symm (va_A_left hq)
  have hPc : va_P K.1 classes wc s.heap := va_P_iff.mpr fun q hq => va_P_iff.mp hPb q (List.mem_append_left _ hq)
  have hDb' := va_D_iff.mp hDb
  rw [List.map_append] at hDb'
  have hDc : va_D (fun _ => True) wc := va_D_iff.mpr ⟨(List.nodup_append.mp hDb'.1).1, fun _ _ => trivial⟩
  obtain ⟨n, o, h1, h2, h3, ⟨⟨u, hr1, hP1, hD1⟩, hF1, hF2⟩, L, hFr, hL⟩ := ct sz p e ha hc hk s m _ below hf happ ⟨rfl, hsz, hPc, ⟨⟨hKS.1, hKS.2.narrow hsub⟩, hao⟩, hDc⟩ trivial
  obtain ⟨u2, er, hpu⟩ := hp' u
  have hrest : ∀ q ∈ wr, q.1 < s.heap.size ∧ ¬ va_A wc sz q.1 := by
    intro q hq
    have hl := (va_P_iff.mp hPb q (List.mem_append_right _ hq)).lt
    refine ⟨hl, fun z => ?_⟩
    rcases z with ⟨k, e2, z⟩ | z
    · exact (List.nodup_append.mp hDb'.1).2.2 q.1 (List.mem_map.mpr ⟨(q.1, e2), List.mem_of_getElem? z, rfl⟩) q.1 (List.mem_map.mpr ⟨q, hq, rfl⟩) rfl
    · omega
  refine ⟨n, o, h1, h2, h3, ⟨⟨u2, hr1.trans (by rw [er]), ?_, ?_⟩, hF1, fun q g1 g2 => hF2 q g1 (fun z => g2 (hsub q z))⟩, L, hFr, fun q hq => hsub _ (hL q hq)⟩
  · refine va_P_perm hpu (va_P_iff.mpr fun q hq => ?_)
    rcases List.mem_append.mp hq with hq | hq
    · exact va_P_iff.mp hP1 q hq
    · obtain ⟨g1, g2⟩ := hrest q hq
      exact (va_P_iff.mp hPb q (List.mem_append_right _ hq)).kept (hF2 q.1 g1 g2)
  · refine va_D_perm hpu (va_D_iff.mpr ⟨?_, fun q hq => ?_⟩)
    · rw [List.map_append, List.nodup_append]
      refine ⟨(va_D_iff.mp hD1).1, (List.nodup_append.mp hDb'.1).2.1, fun a ha b hb hab => ?_⟩
      obtain ⟨q1, hq1, rfl⟩ := List.mem_map.mp ha
      obtain ⟨q2, hq2, rfl⟩ := List.mem_map.mp hb
      exact (hrest q2 hq2).2 (hab ▸ (va_D_iff.mp hD1).2 q1 hq1)
    · rcases List.mem_append.mp hq with hq | hq
      · exact hsub _ ((va_D_iff.mp hD1).2 q hq)
      · obtain ⟨i, hi⟩ := List.getElem?_of_mem (hp.mem_iff.mpr (List.mem_append_right wc hq))
        exact Or.inl ⟨i, q.2, hi⟩
section CRW
variable {S S2 : Type} {l : Launch} {K : gK} {y : MethodName} {cc : ByteArray} {maxL h nc ns : Nat} {ret : Option FieldType} {as : List Value} {wc : va_W} {W1 : S → gR} {W2 : S2 → gR}
theorem Cr.to (up : ∀ u, ∃ u2, W2 u2 = W1 u) (ct : Cr l K y cc maxL ret h nc ns as wc W1) : Cr l K y cc maxL ret h nc ns as wc W2 := Cr.perm (wr := []) (by rw [List.append_nil]) (fun u => by
  obtain ⟨u2, e⟩ := up u
  exact ⟨u2, by rw [e], by rw [List.append_nil, e]⟩) ct
theorem Cr.left (v : va_W) (ct : Cr l K y cc maxL ret h nc ns as wc W1) : Cr l K y cc maxL ret h nc ns as (wc ++ v) (fun u => ((W1 u).1, (W1 u).2 ++ v)) := Cr.perm (W1 := W1) (List.Perm.refl _) (fun u => ⟨u, rfl, List.Perm.refl _⟩) ct
theorem Cr.right (v : va_W) (ct : Cr l K y cc maxL ret h nc ns as wc W1) : Cr l K y cc maxL ret h nc ns as (v ++ wc) (fun u => ((W1 u).1, v ++ (W1 u).2)) := Cr.perm (W1 := W1) List.perm_append_comm (fun u => ⟨u, rfl, List.perm_append_comm⟩) ct
theorem Cr.mid (a v : va_W) (ct : Cr l K y cc maxL ret h nc ns as wc W1) : Cr l K y cc maxL ret h nc ns as (a ++ wc ++ v) (fun u => ((W1 u).1, a ++ (W1 u).2 ++ v)) := Cr.perm (W1 := W1) (perm_mid a wc v) (fun u => ⟨u, rfl, (perm_mid a (W1 u).2 v).symm⟩) ct
end CRW
theorem g_callR {S : Type} {p : Program} {l : Launch} {e : Env} {R : Room} {s : State} {m : MethodId} {args : Array Value} {below : List Frame} {meth : Method} {c : Code} {H : Heap} {locs : List Loc} {Q : State → Prop} {pc : Nat} {ls : Array Slot} {rest st0 : List Value} {a : Array Value} {A0 A1 : Nat → Prop} {H0 : Heap} {free : Addr → Prop} {K : gK} {Wr : S → gR} {cs ss nc ns : Nat}
    (hr : va_Run p l e R s m args below meth c H locs cs ss nc ns (F0 m pc ls st0) rest (Qz K A1 Wr a) free) (hS : va_S A0 H0 H locs) (hA : ∀ q, q < H.size → A1 q → A0 q) (hf : ∀ q, free q → A0 q)
    (kk : ∀ (u : S) (t : State) (H1 : Heap) (locs1 : List Loc), t.heap = H1 → va_P K.1 classes (Wr u).2 t.heap → va_D A1 (Wr u).2 → va_S A0 H0 H1 locs1 → W p l e R s m args below meth c H1 locs1 (cs + nc) (ss + ns) Q (F0 m (pc + 3) ls ((Wr u).1.toList ++ rest))) : W p l e R s m args below meth c H locs cs ss Q (F0 m pc ls st0) := by
  intro T hT X
  obtain ⟨v, st₀, t, T', L, h0, X', hL, e1, e2, ⟨⟨u, hv, hp, hd⟩, hz, hk⟩, st⟩ := hr T hT X
  have hv2 : v = (Wr u).1 := by cases hv; rfl
  subst hv2
  rw [h0] at hz hk
  obtain ⟨t2, a1, b1⟩ := kk u t T'.heap (locs ++ L) e1.symm hp hd
    ⟨Nat.le_trans hS.1 (by rw [e1]; exact hz), fun q h1 h2 => by rw [e1, hk q (Nat.lt_of_lt_of_le h1 hS.1) (fun z => h2 (hA q (Nat.lt_of_lt_of_le h1 hS.1) z))]; exact hS.2.1 q h1 h2, fun q hq => by
      rcases List.mem_append.mp hq with h | h
      · exact hS.2.2 q h
      · exact hf _ (hL q h)⟩ T' rfl X'
  exact ⟨t2, st t2 a1, b1⟩
theorem Pz.blind {as : List Value} {K : gK} {ws : va_W} {sz : Nat} : FrameBlind (va_Pc as (Pz K ws sz)) := fun a U g mk q => by
  obtain ⟨q0, q1, q2, ⟨q3, q5⟩, q4⟩ := q
  exact ⟨q0, q1, q2, ⟨⟨q3.1.calling, q3.2.calling⟩, va_AO.moved (u := U) (U := U.calling g mk a) (Vm.Alike.refl U.vm) q5⟩, q4⟩
theorem Pz.at_ {as : List Value} {K : gK} {ws : va_W} {s : State} {A : Nat → Prop} {H : Heap} {locs : List Loc} (hK : KS K A s s.heap) (y3 : va_AO RX6 s) (hP : va_P K.1 classes ws H) (hD : va_D A ws) (hS : va_S A s.heap H locs) (hF : ∀ q, va_A ws H.size q → A q) : ∀ U : State, U.heap = H → s.WarmedH U.vm → va_Pc as (Pz K ws H.size) as.toArray U := fun U hU hW => ⟨rfl, by rw [hU], by rw [hU]; exact hP, ⟨⟨hK.1.warm hW, by rw [hU]; exact ((hK.2.kept hS.2.1).narrow hF).warm hW⟩, va_AO.moved hW.alike y3⟩, hD.weaken (fun _ _ _ _ => trivial)⟩
def Cd (y : MethodName) (bytes : ByteArray) (maxL : Nat) (rt : Option FieldType) (n : Nat) : Prop := Cond.code y bytes maxL rt ∈ wsL_law ∧ Cond.initialized y.cls ∈ wsL_law ∧ (y.cls ≠ "java/lang/invoke/MethodHandle" ∧ y.cls ≠ "java/lang/invoke/VarHandle" ∧ (parseMethodDescriptor y.desc).map (fun d => d.parameters.length) = some n)
theorem Cd.good {y : MethodName} {bytes : ByteArray} {maxL n : Nat} {rt : Option FieldType} (hc : Cd y bytes maxL rt n) : GoodIn wsL_law (.code y bytes maxL rt :: wsL_law) := by
  intro w hw
  rcases List.mem_cons.mp hw with rfl | hw
  · exact ⟨hc.1, good_mem hc.1⟩
  · exact ⟨hw, good_mem hw⟩
section JCR
variable {S : Type} {l : Launch} {K : gK} {Γ : gT} {Q : State → Prop} {cs ss nc ns CM SM : Nat} {own : String} {cc : ByteArray} {nL : Nat} {ret : Option FieldType} {h : Nat} {ws : va_W} {pc : Nat} {lv : List (Nat × Value)} {st : List Value} {y : MethodName} {bytes : ByteArray} {maxL h' index n : Nat} {rt : Option FieldType} {as rest : List Value} {Wr : S → gR} {b : Nat}
theorem J_crS (C : Cx l K Γ own cc nL ret h) (Y : Cy Γ CM SM)  (hcard : Cd y bytes maxL rt n) (hstt : Cond.static y ∈ wsL_law) (hu : Cond.methodLink own index y ∈ wsL_law) (ct : Cr l K y bytes maxL rt h' nc ns as ws Wr) (hdg : decode cc pc = .ok (.invokestatic index, 3)) (hst : st = as.reverse ++ rest) (hn : as.length = n) (hroom : h' + 1 ≤ h ∧ maxL + 19 + 30 * h' ≤ 30 * h) (hrest : (rest.map fun v => v.category).sum ≤ 8) (h1 : cs + nc ≤ CM) (h2 : ss + ns ≤ SM) (kk : ∀ u : S, J l K Γ Q (cs + nc) (ss + ns) (Wr u).2 (pc + 3) nL lv ((Wr u).1.toList ++ rest)) : J l K Γ Q cs ss ws pc nL lv st := by
  obtain ⟨p, e, R, s, m, args, below, meth, c, A⟩ := Γ
  obtain ⟨hx, hb, hml, hown, hts, hr, hlk, hK, hA, hf1, hf2⟩ := C
  obtain ⟨y1, y2, y3⟩ := Y
  subst hst
  intro H locs ls hP hD hS hl
  have hM := ct H.size
  have hcd := hcard
  obtain ⟨hc1, hc2, hc3⟩ := hcd
  have hF : ∀ q, va_A ws H.size q → A q := va_free hD hS hA (List.range ws.length) (g_range ws)
  have hrm : h' + 1 ≤ R.frames ∧ 8 + (maxL + 11) + 30 * h' ≤ R.locals := ⟨by omega, by omega⟩
  refine g_callR (va_runS (As := as) (rest := rest) ⟨hx, hb, hml, hown, hts⟩ hM ⟨callB_of n hts (Cd.good hcard) rfl rfl rfl (hts _ hc2) (hts _ hu) hc3 hrm, hts _ hstt⟩ ⟨Pz.blind, Pz.at_ hK y3 hP hD hS hF⟩ rfl hn hl.1 rfl (lv_room hrest) hdg ⟨Nat.le_trans h1 y1, Nat.le_trans h2 y2⟩) hS (fun q _ h => hF q h) hF (fun u t H1 locs1 ht hP1 hD1 hS1 => kk u H1 locs1 ls (by rw [← ht]; exact hP1) (hD1.weaken (fun _ q _ hq => hF q.1 hq)) hS1 hl)
theorem J_crV (C : Cx l K Γ own cc nL ret h) (Y : Cy Γ CM SM) (q0 ci : Nat) {T : u_T} {N : Nat} {fs : List Value} (hcard : Cd y bytes maxL rt n) (hins : Cond.instanceMethod y ∈ wsL_law) (hsel : Cond.selects y.cls y y ∈ wsL_law) (hu : Cond.methodLink own index y ∈ wsL_law) (hc : classes[ci]? = some (y.cls, T, N)) (he : ws[q0]? = some (b, .inr (ci, fs))) (ct : Cr l K y bytes maxL rt h' nc ns (.ref b :: as) ws Wr) (hdg : decode cc pc = .ok (.invokevirtual index, 3)) (hst : st = as.reverse ++ .ref b :: rest) (hn : as.length = n) (hroom : h' + 1 ≤ h ∧ maxL + 19 + 30 * h' ≤ 30 * h) (hrest : (rest.map fun v => v.category).sum ≤ 8) (h1 : cs + nc ≤ CM) (h2 : ss + ns ≤ SM) (kk : ∀ u : S, J l K Γ Q (cs + nc) (ss + ns) (Wr u).2 (pc + 3) nL lv ((Wr u).1.toList ++ rest)) : J l K Γ Q cs ss ws pc nL lv st := by
  obtain ⟨p, e, R, s, m, args, below, meth, c, A⟩ := Γ
  obtain ⟨hx, hb, hml, hown, hts, hr, hlk, hK, hA, hf1, hf2⟩ := C
  obtain ⟨y1, y2, y3⟩ := Y
  subst hst
  intro H locs ls hP hD hS hl
  have hM := ct H.size
  have hcd := hcard
  obtain ⟨hc1, hc2, hc3⟩ := hcd
  have hF : ∀ q, va_A ws H.size q → A q := va_free hD hS hA (List.range ws.length) (g_range ws)
  have hrm : h' + 1 ≤ R.frames ∧ 8 + (maxL + 11) + 30 * h' ≤ R.locals := ⟨by omega, by omega⟩
  refine g_callR (va_runV (As := as) (rest := rest) ⟨hx, hb, hml, hown, hts⟩ hM ⟨callB_of n hts (Cd.good hcard) rfl rfl rfl (hts _ hc2) (hts _ hu) hc3 hrm, hts _ hins, hts _ hsel⟩ ⟨Pz.blind, va_recv hK.1.1 hP (ci := ci) (q0 := q0) hc he, Pz.at_ hK y3 hP hD hS hF⟩ rfl hn hl.1 rfl (lv_room hrest) hdg ⟨Nat.le_trans h1 y1, Nat.le_trans h2 y2⟩) hS (fun q _ h => hF q h) hF (fun u t H1 locs1 ht hP1 hD1 hS1 => kk u H1 locs1 ls (by rw [← ht]; exact hP1) (hD1.weaken (fun _ q _ hq => hF q.1 hq)) hS1 hl)
theorem J_crVS (C : Cx l K Γ own cc nL ret h) (Y : Cy Γ CM SM) {j : Nat} (hj : j < 16) (hyS : y.cls = "java/lang/String") (hcard : Cd y bytes maxL rt n) (hins : Cond.instanceMethod y ∈ wsL_law) (hsel : Cond.selects y.cls y y ∈ wsL_law) (hu : Cond.methodLink own index y ∈ wsL_law) (ct : Cr l K y bytes maxL rt h' nc ns (.ref (K.2 (100 + j)) :: as) ws Wr) (hdg : decode cc pc = .ok (.invokevirtual index, 3)) (hst : st = as.reverse ++ .ref (K.2 (100 + j)) :: rest) (hn : as.length = n) (hroom : h' + 1 ≤ h ∧ maxL + 19 + 30 * h' ≤ 30 * h) (hrest : (rest.map fun v => v.category).sum ≤ 8) (h1 : cs + nc ≤ CM) (h2 : ss + ns ≤ SM) (kk : ∀ u : S, J l K Γ Q (cs + nc) (ss + ns) (Wr u).2 (pc + 3) nL lv ((Wr u).1.toList ++ rest)) : J l K Γ Q cs ss ws pc nL lv st := by
  obtain ⟨p, e, R, s, m, args, below, meth, c, A⟩ := Γ
  obtain ⟨hx, hb, hml, hown, hts, hr, hlk, hK, hA, hf1, hf2⟩ := C
  obtain ⟨y1, y2, y3⟩ := Y
  subst hst
  intro H locs ls hP hD hS hl
  have hM := ct H.size
  have hcd := hcard
  obtain ⟨hc1, hc2, hc3⟩ := hcd
  have hF : ∀ q, va_A ws H.size q → A q := va_free hD hS hA (List.range ws.length) (g_range ws)
  have hrm : h' + 1 ≤ R.frames ∧ 8 + (maxL + 11) + 30 * h' ≤ R.locals := ⟨by omega, by omega⟩
  refine g_callR (va_runV (As := as) (rest := rest) ⟨hx, hb, hml, hown, hts⟩ hM ⟨callB_of n hts (Cd.good hcard) rfl rfl rfl (hts _ hc2) (hts _ hu) hc3 hrm, hts _ hins, hts _ hsel⟩ ⟨Pz.blind, hyS.symm ▸ vk_recv (adK := fun i => K.2 (100 + i)) (i := j) hK.2.1 hj hS, Pz.at_ hK y3 hP hD hS hF⟩ rfl hn hl.1 rfl (lv_room hrest) hdg ⟨Nat.le_trans h1 y1, Nat.le_trans h2 y2⟩) hS (fun q _ h => hF q h) hF (fun u t H1 locs1 ht hP1 hD1 hS1 => kk u H1 locs1 ls (by rw [← ht]; exact hP1) (hD1.weaken (fun _ q _ hq => hF q.1 hq)) hS1 hl)
theorem J_crI (C : Cx l K Γ own cc nL ret h) (Y : Cy Γ CM SM)  (hcard : Cd y bytes maxL none n) (hyn : y.name = "<init>") (hins : Cond.instanceMethod y ∈ wsL_law) (hu : Cond.methodLink own index y ∈ wsL_law) (ct : Cr l K y bytes maxL none h' nc ns (.ref b :: as) ws Wr) (hdg : decode cc pc = .ok (.invokespecial index, 3)) (hst : st = as.reverse ++ .ref b :: rest) (hn : as.length = n) (hroom : h' + 1 ≤ h ∧ maxL + 19 + 30 * h' ≤ 30 * h) (hrest : (rest.map fun v => v.category).sum ≤ 8) (h1 : cs + nc ≤ CM) (h2 : ss + ns ≤ SM) (kk : ∀ u : S, J l K Γ Q (cs + nc) (ss + ns) (Wr u).2 (pc + 3) nL lv ((Wr u).1.toList ++ rest)) : J l K Γ Q cs ss ws pc nL lv st := by
  obtain ⟨p, e, R, s, m, args, below, meth, c, A⟩ := Γ
  obtain ⟨hx, hb, hml, hown, hts, hr, hlk, hK, hA, hf1, hf2⟩ := C
  obtain ⟨y1, y2, y3⟩ := Y
  subst hst
  intro H locs ls hP hD hS hl
  have hM := ct H.size
  have hcd := hcard
  obtain ⟨hc1, hc2, hc3⟩ := hcd
  have hF : ∀ q, va_A ws H.size q → A q := va_free hD hS hA (List.range ws.length) (g_range ws)
  have hrm : h' + 1 ≤ R.frames ∧ 8 + (maxL + 11) + 30 * h' ≤ R.locals := ⟨by omega, by omega⟩
  refine g_callR (va_runI (As := as) (rest := rest) ⟨hx, hb, hml, hown, hts⟩ hM ⟨callB_of n hts (Cd.good hcard) rfl rfl rfl (hts _ hc2) (hts _ hu) hc3 hrm, hyn, hts _ hins⟩ ⟨Pz.blind, Pz.at_ hK y3 hP hD hS hF⟩ rfl hn hl.1 rfl (lv_room hrest) hdg ⟨Nat.le_trans h1 y1, Nat.le_trans h2 y2⟩) hS (fun q _ h => hF q h) hF (fun u t H1 locs1 ht hP1 hD1 hS1 => kk u H1 locs1 ls (by rw [← ht]; exact hP1) (hD1.weaken (fun _ q _ hq => hF q.1 hq)) hS1 hl)
theorem J_crU (C : Cx l K Γ own cc nL ret h) (Y : Cy Γ CM SM) (q0 ci : Nat) {C0 owner : String} {x : MethodName} {T : u_T} {N : Nat} {fs : List Value} (hcard : Cd y bytes maxL rt n) (hyx : y = ⟨owner, x.name, x.desc⟩) (hxo : owner ≠ "java/lang/invoke/MethodHandle" ∧ owner ≠ "java/lang/invoke/VarHandle" ∧ (parseMethodDescriptor x.desc).map (fun d => d.parameters.length) = some n) (hsame : Cond.sameMethod x.cls owner x.name x.desc ∈ wsL_law) (hins : Cond.instanceMethod y ∈ wsL_law) (hsel : Cond.selects C0 x y ∈ wsL_law) (hu : Cond.methodLink own index x ∈ wsL_law) (hc : classes[ci]? = some (C0, T, N)) (he : ws[q0]? = some (b, .inr (ci, fs))) (ct : Cr l K y bytes maxL rt h' nc ns (.ref b :: as) ws Wr) (hdg : decode cc pc = .ok (.invokevirtual index, 3)) (hst : st = as.reverse ++ .ref b :: rest) (hn : as.length = n) (hroom : h' + 1 ≤ h ∧ maxL + 19 + 30 * h' ≤ 30 * h) (hrest : (rest.map fun v => v.category).sum ≤ 8) (h1 : cs + nc ≤ CM) (h2 : ss + ns ≤ SM) (kk : ∀ u : S, J l K Γ Q (cs + nc) (ss + ns) (Wr u).2 (pc + 3) nL lv ((Wr u).1.toList ++ rest)) : J l K Γ Q cs ss ws pc nL lv st := by
  obtain ⟨p, e, R, s, m, args, below, meth, c, A⟩ := Γ
  obtain ⟨hx, hb, hml, hown, hts, hr, hlk, hK, hA, hf1, hf2⟩ := C
  obtain ⟨y1, y2, y3⟩ := Y
  subst hst
  intro H locs ls hP hD hS hl
  have hM := ct H.size
  have hcd := hcard
  obtain ⟨hc1, hc2, hc3⟩ := hcd
  have hF : ∀ q, va_A ws H.size q → A q := va_free hD hS hA (List.range ws.length) (g_range ws)
  have hrm : h' + 1 ≤ R.frames ∧ 8 + (maxL + 11) + 30 * h' ≤ R.locals := ⟨by omega, by omega⟩
  refine g_callR (va_runU (As := as) (rest := rest) ⟨hx, hb, hml, hown, hts⟩ hM (va_cwU (C := C0) (owner := owner) (x := x) n hts (fun w hw => by
    unfold va_wsU at hw
    simp only [List.cons_append, List.nil_append, List.mem_cons] at hw
    rcases hw with rfl | rfl | rfl | rfl | rfl | hw
    · exact ⟨hu, good_mem hu⟩
    · exact ⟨hsame, good_mem hsame⟩
    · exact ⟨hsel, good_mem hsel⟩
    · exact ⟨hins, good_mem hins⟩
    · exact ⟨hc2, good_mem hc2⟩
    · exact Cd.good hcard w (List.mem_cons.mpr hw)) rfl rfl rfl hyx hxo hrm) ⟨Pz.blind, va_recv hK.1.1 hP (ci := ci) (q0 := q0) hc he, Pz.at_ hK y3 hP hD hS hF⟩ rfl hn hl.1 rfl (lv_room hrest) hdg ⟨Nat.le_trans h1 y1, Nat.le_trans h2 y2⟩) hS (fun q _ h => hF q h) hF (fun u t H1 locs1 ht hP1 hD1 hS1 => kk u H1 locs1 ls (by rw [← ht]; exact hP1) (hD1.weaken (fun _ q _ hq => hF q.1 hq)) hS1 hl)
theorem J_crSU (C : Cx l K Γ own cc nL ret h) (Y : Cy Γ CM SM) (q0 ci : Nat) {C0 : String} {T : u_T} {N : Nat} {fs : List Value} (hcard : Cd y bytes maxL rt n) (hno : y.name ≠ "<init>") (hsame : Cond.sameMethod y.cls y.cls y.name y.desc ∈ wsL_law) (hsup : Cond.superclass own y.cls ∈ wsL_law) (hins : Cond.instanceMethod y ∈ wsL_law) (hu : Cond.methodLink own index y ∈ wsL_law) (hc : classes[ci]? = some (C0, T, N)) (he : ws[q0]? = some (b, .inr (ci, fs))) (ct : Cr l K y bytes maxL rt h' nc ns (.ref b :: as) ws Wr) (hdg : decode cc pc = .ok (.invokespecial index, 3)) (hst : st = as.reverse ++ .ref b :: rest) (hn : as.length = n) (hroom : h' + 1 ≤ h ∧ maxL + 19 + 30 * h' ≤ 30 * h) (hrest : (rest.map fun v => v.category).sum ≤ 8) (h1 : cs + nc ≤ CM) (h2 : ss + ns ≤ SM) (kk : ∀ u : S, J l K Γ Q (cs + nc) (ss + ns) (Wr u).2 (pc + 3) nL lv ((Wr u).1.toList ++ rest)) : J l K Γ Q cs ss ws pc nL lv st := by
  obtain ⟨p, e, R, s, m, args, below, meth, c, A⟩ := Γ
  obtain ⟨hx, hb, hml, hown, hts, hr, hlk, hK, hA, hf1, hf2⟩ := C
  obtain ⟨y1, y2, y3⟩ := Y
  subst hst
  intro H locs ls hP hD hS hl
  have hM := ct H.size
  have hcd := hcard
  obtain ⟨hc1, hc2, hc3⟩ := hcd
  have hF : ∀ q, va_A ws H.size q → A q := va_free hD hS hA (List.range ws.length) (g_range ws)
  have hrm : h' + 1 ≤ R.frames ∧ 8 + (maxL + 11) + 30 * h' ≤ R.locals := ⟨by omega, by omega⟩
  refine g_callR (va_runSU (As := as) (rest := rest) (C := C0) (hK.1.1.1 ci _ hc).2 ⟨hx, hb, hml, hown, hts⟩ hM (va_cwSU n hts (fun w hw => by
    unfold va_wsSU at hw
    simp only [List.cons_append, List.nil_append, List.mem_cons] at hw
    rcases hw with rfl | rfl | rfl | rfl | rfl | hw
    · exact ⟨hu, good_mem hu⟩
    · exact ⟨hsame, good_mem hsame⟩
    · exact ⟨hsup, good_mem hsup⟩
    · exact ⟨hins, good_mem hins⟩
    · exact ⟨hc2, good_mem hc2⟩
    · exact Cd.good hcard w (List.mem_cons.mpr hw)) rfl rfl rfl ⟨hno, hc3.2.2⟩ hrm) ⟨Pz.blind, va_recv hK.1.1 hP (ci := ci) (q0 := q0) hc he, Pz.at_ hK y3 hP hD hS hF⟩ rfl hn hl.1 rfl (lv_room hrest) hdg ⟨Nat.le_trans h1 y1, Nat.le_trans h2 y2⟩) hS (fun q _ h => hF q h) hF (fun u t H1 locs1 ht hP1 hD1 hS1 => kk u H1 locs1 ls (by rw [← ht]; exact hP1) (hD1.weaken (fun _ q _ hq => hF q.1 hq)) hS1 hl)
theorem J_riret {Wr : S → gR} {a : Int32} (C : Cx l K Γ own cc nL (some .int) h) (u : S) (hdg : decode cc pc = .ok (.ireturn, 1)) (h1 : cs ≤ nc) (h2 : ss ≤ ns) (hw : Wr u = (some (.int a), ws)) : J l K Γ (Jz K Γ Wr nc ns) cs ss ws pc nL lv [.int a] := by
  refine J_widen h1 h2 ?_
  obtain ⟨p, e, R, s, m, args, below, meth, c, A⟩ := Γ
  obtain ⟨hx, hb, hml, hown, hts, hr, hlk, hK, hA, hf1, hf2⟩ := C
  intro H locs ls hP hD hS hl
  exact W.iret hx hb hr (fun t ht hW => ⟨⟨u, by rw [hw], by rw [hw, ht]; exact hP, by rw [hw]; exact hD⟩, hS.F ht⟩) hS.2.2 hdg
theorem J_rnret {Wr : S → gR} {ty : FieldType} {a : Int32} (hn : narrow ty (.int a) = .int a) (C : Cx l K Γ own cc nL (some ty) h) (u : S) (hdg : decode cc pc = .ok (.ireturn, 1)) (h1 : cs ≤ nc) (h2 : ss ≤ ns) (hw : Wr u = (some (.int a), ws)) : J l K Γ (Jz K Γ Wr nc ns) cs ss ws pc nL lv [.int a] := by
  refine J_widen h1 h2 ?_
  obtain ⟨p, e, R, s, m, args, below, meth, c, A⟩ := Γ
  obtain ⟨hx, hb, hml, hown, hts, hr, hlk, hK, hA, hf1, hf2⟩ := C
  intro H locs ls hP hD hS hl
  exact W.zret hx hb hr hn (fun t ht hW => ⟨⟨u, by rw [hw], by rw [hw, ht]; exact hP, by rw [hw]; exact hD⟩, hS.F ht⟩) hS.2.2 hdg
theorem J_rlret {Wr : S → gR} {a : Int64} (C : Cx l K Γ own cc nL (some .long) h) (u : S) (hdg : decode cc pc = .ok (.lreturn, 1)) (h1 : cs ≤ nc) (h2 : ss ≤ ns) (hw : Wr u = (some (.long a), ws)) : J l K Γ (Jz K Γ Wr nc ns) cs ss ws pc nL lv [.long a] := by
  refine J_widen h1 h2 ?_
  obtain ⟨p, e, R, s, m, args, below, meth, c, A⟩ := Γ
  obtain ⟨hx, hb, hml, hown, hts, hr, hlk, hK, hA, hf1, hf2⟩ := C
  intro H locs ls hP hD hS hl
  exact W.lret hx hb hr (fun t ht hW => ⟨⟨u, by rw [hw], by rw [hw, ht]; exact hP, by rw [hw]; exact hD⟩, hS.F ht⟩) hS.2.2 hdg
theorem J_rvret {Wr : S → gR}  (C : Cx l K Γ own cc nL none h) (u : S) (hdg : decode cc pc = .ok (.return_, 1)) (h1 : cs ≤ nc) (h2 : ss ≤ ns) (hw : Wr u = (none, ws)) : J l K Γ (Jz K Γ Wr nc ns) cs ss ws pc nL lv [] := by
  refine J_widen h1 h2 ?_
  obtain ⟨p, e, R, s, m, args, below, meth, c, A⟩ := Γ
  obtain ⟨hx, hb, hml, hown, hts, hr, hlk, hK, hA, hf1, hf2⟩ := C
  intro H locs ls hP hD hS hl
  exact W.vret hx hb hr (fun t ht hW => ⟨⟨u, by rw [hw], by rw [hw, ht]; exact hP, by rw [hw]; exact hD⟩, hS.F ht⟩) hS.2.2 hdg
theorem J_raret {Wr : S → gR} {ty : FieldType} {a : Nat} (hty : (∃ n, ty = .object n) ∨ ∃ t, ty = .array t) (C : Cx l K Γ own cc nL (some ty) h) (u : S) (hdg : decode cc pc = .ok (.areturn, 1)) (h1 : cs ≤ nc) (h2 : ss ≤ ns) (hw : Wr u = (some (.ref a), ws)) : J l K Γ (Jz K Γ Wr nc ns) cs ss ws pc nL lv [.ref a] := by
  refine J_widen h1 h2 ?_
  obtain ⟨p, e, R, s, m, args, below, meth, c, A⟩ := Γ
  obtain ⟨hx, hb, hml, hown, hts, hr, hlk, hK, hA, hf1, hf2⟩ := C
  intro H locs ls hP hD hS hl
  exact W.aret (v := .ref a) hx hb hr hty (Or.inr ⟨_, rfl⟩) (fun t ht hW => ⟨⟨u, by rw [hw], by rw [hw, ht]; exact hP, by rw [hw]; exact hD⟩, hS.F ht⟩) hS.2.2 hdg
end JCR
