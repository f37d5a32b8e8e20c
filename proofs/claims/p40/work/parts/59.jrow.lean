-- PART 59: rows that the JDK's own methods want
theorem Ct.cr {l : Launch} {K : gK} {y : MethodName} {cc : ByteArray} {maxL h : Nat} {ret : Option FieldType} {as : List Value} {ws : va_W} {r : gR} (ct : Ct l K y cc maxL ret h as ws r) : Cr l K y cc maxL ret h 0 0 as ws (fun _ : Unit => r) := by
  intro sz p e ha hc hk s m args below hf happ hPre _
  obtain ⟨e0, hsz, hPw, ⟨hKS, hao⟩, hDw⟩ := hPre
  obtain ⟨n, o, h1, h2, h3, ⟨⟨hr1, hP1, hD1⟩, hF⟩, L, hFr, hL⟩ := ct sz p e ha hc hk s m args below hf happ ⟨e0, hsz, hPw, hKS, hDw⟩ trivial
  exact ⟨n, o, h1, h2, h3, ⟨⟨(), hr1, hP1, hD1⟩, hF⟩, L, hFr, hL⟩
theorem Ca.cr {S : Type} {l : Launch} {K : gK} {y : MethodName} {cc : ByteArray} {maxL h nc ns : Nat} {as : List Value} {ws : va_W} {W1 : S → va_W} (ct : Ca l K y cc maxL h nc ns as ws W1) : Cr l K y cc maxL none h nc ns as ws (fun u => ((none, W1 u) : gR)) := by
  intro sz p e ha hc hk s m args below hf happ hPre _
  obtain ⟨n, o, h1, h2, h3, ⟨⟨u, hr1, -, hP1, hD1⟩, hF⟩, L, hFr, hL⟩ := ct sz p e ha hc hk s m args below hf happ hPre trivial
  exact ⟨n, o, h1, h2, h3, ⟨⟨u, hr1, hP1, hD1⟩, hF⟩, L, hFr, hL⟩
section JJ
variable {S : Type} {l : Launch} {K : gK} {Γ : gT} {Q : State → Prop} {cs ss nc ns CM SM : Nat} {own : String} {cc : ByteArray} {nL : Nat} {ret : Option FieldType} {h : Nat} {ws ws2 : va_W} {pc : Nat} {lv : List (Nat × Value)} {st : List Value} {y : MethodName} {bytes : ByteArray} {maxL h' index n : Nat} {rt : Option FieldType} {as rest : List Value} {Wr : S → gR} {b : Nat}
theorem J_crO (C : Cx l K Γ own cc nL ret h) (Y : Cy Γ CM SM) (q0 ci : Nat) {C0 owner : String} {x : MethodName} {T : u_T} {N : Nat} {fs : List Value} {b0 : ByteArray} {m0 : Nat} {r0 : Option FieldType} (hcard : Cd y bytes maxL rt n) (h0 : Cond.code ⟨owner, x.name, x.desc⟩ b0 m0 r0 ∈ wsL_law) (hxo : owner ≠ "java/lang/invoke/MethodHandle" ∧ owner ≠ "java/lang/invoke/VarHandle" ∧ (parseMethodDescriptor x.desc).map (fun d => d.parameters.length) = some n) (hsame : Cond.sameMethod x.cls owner x.name x.desc ∈ wsL_law) (hino : Cond.instanceMethod ⟨owner, x.name, x.desc⟩ ∈ wsL_law) (hins : Cond.instanceMethod y ∈ wsL_law) (hsel : Cond.selects C0 x y ∈ wsL_law) (hu : Cond.methodLink own index x ∈ wsL_law) (hc : classes[ci]? = some (C0, T, N)) (he : ws[q0]? = some (b, .inr (ci, fs))) (ct : Cr l K y bytes maxL rt h' nc ns (.ref b :: as) ws Wr) (hdg : decode cc pc = .ok (.invokevirtual index, 3)) (hst : st = as.reverse ++ .ref b :: rest) (hn : as.length = n) (hroom : h' + 1 ≤ h ∧ maxL + 19 + 30 * h' ≤ 30 * h) (hrest : (rest.map fun v => v.category).sum ≤ 8) (h1 : cs + nc ≤ CM) (h2 : ss + ns ≤ SM) (kk : ∀ u : S, J l K Γ Q (cs + nc) (ss + ns) (Wr u).2 (pc + 3) nL lv ((Wr u).1.toList ++ rest)) : J l K Γ Q cs ss ws pc nL lv st := by
  obtain ⟨p, e, R, s, m, args, below, meth, c, A⟩ := Γ
  obtain ⟨hx, hb, hml, hown, hts, hr, hlk, hK, hA, hf1, hf2⟩ := C
  obtain ⟨y1, y2, y3⟩ := Y
  subst hst
  intro H locs ls hP hD hS hl
  have hM := ct H.size
  have hcd := hcard
  obtain ⟨hc1, hc2, hc3⟩ := hcd
  have hF : ∀ q, va_A ws H.size q → A q := va_free hD hS hA (List.range ws.length) (g_range ws)
  have hrm : h' + 1 ≤ R.frames ∧ 8 + (maxL + 11) + 30 * h' ≤ R.locals := ⟨by omega, by omega⟩
  refine g_callR (va_runU (As := as) (rest := rest) ⟨hx, hb, hml, hown, hts⟩ hM (va_cwO (C := C0) (owner := owner) (x := x) n hts (fun w hw => by
    unfold va_wsO at hw
    simp only [List.cons_append, List.nil_append, List.mem_cons] at hw
    rcases hw with rfl | rfl | rfl | rfl | rfl | rfl | hw
    · exact ⟨hu, good_mem hu⟩
    · exact ⟨hsame, good_mem hsame⟩
    · exact ⟨hino, good_mem hino⟩
    · exact ⟨hsel, good_mem hsel⟩
    · exact ⟨hins, good_mem hins⟩
    · exact ⟨hc2, good_mem hc2⟩
    · exact Cd.good hcard w (List.mem_cons.mpr hw)) rfl rfl rfl h0 hxo hrm) ⟨Pz.blind, va_recv hK.1.1 hP (ci := ci) (q0 := q0) hc he, Pz.at_ hK y3 hP hD hS hF⟩ rfl hn hl.1 rfl (lv_room hrest) hdg ⟨Nat.le_trans h1 y1, Nat.le_trans h2 y2⟩) hS (fun q _ h => hF q h) hF (fun u t H1 locs1 ht hP1 hD1 hS1 => kk u H1 locs1 ls (by rw [← ht]; exact hP1) (hD1.weaken (fun _ q _ hq => hF q.1 hq)) hS1 hl)
theorem J_copyb (C : Cx l K Γ own cc nL ret h) (q0 q1 : Nat) {a0 a1 n0 n1 : Nat} {f g : Nat → Int32} {spv dpv nv : Int32} (sp dp k : Nat) (hsp : spv = iN sp) (hdp : dpv = iN dp) (hk : nv = iN k) (hdg : decode cc pc = .ok (.invokestatic index, 3)) (hu : Cond.methodLink own index arraycopyName ∈ wsL_law) (hh : 1 ≤ h) (ha0 : ws[q0]? = some (cB K a0 n0 f)) (ha1 : ws[q1]? = some (cB K a1 n1 g)) (h4 : sp + k ≤ n0) (h5 : dp + k ≤ n1) (h6 : n0 < 100000 ∧ n1 < 100000) (hfit : ∀ i, i < k → fits .byte (.int (f (sp + i))) = true) (hw : ws.set q1 (cB K a1 n1 (va_cpy f g sp dp k)) = ws2) (hrest : (st.map fun v => v.category).sum ≤ 8) (kk : J l K Γ Q cs ss ws2 (pc + 3) nL lv st) : J l K Γ Q cs ss ws pc nL lv (.int nv :: .int dpv :: .ref a1 :: .int spv :: .ref a0 :: st) := by
  obtain ⟨p, e, R, s, m, args, below, meth, c, A⟩ := Γ
  obtain ⟨hx, hb, hml, hown, hts, hr, hlk, hK, hA, hf1, hf2⟩ := C
  subst hsp; subst hdp; subst hk
  have e1 : (iN sp).toNatClampNeg = sp := iN_nat (by omega)
  have e2 : (iN dp).toNatClampNeg = dp := iN_nat (by omega)
  have e3 : (iN k).toNatClampNeg = k := iN_nat (by omega)
  subst hw
  intro H locs ls hP hD hS hl
  refine va_copyi hx hb (hml.trans hl.1.symm) hown (hts _ hu) (hts _ uv_Jcopy) (hts _ ut_Jcopy) (hts _ un_System) hK.1.1 hP hD hS q0 q1 1 1 ha0 ha1 rfl rfl rfl (iN_neg (by omega)) (iN_neg (by omega)) (iN_neg (by omega)) (by rw [e1, e3]; exact h4) (by rw [e2, e3]; exact h5) (by rw [e1, e3]; exact hfit) (by omega) (by show _ + (7 + 11) ≤ R.locals; omega) hdg (fun H1 locs1 hP hD hS => ?_)
  rw [e1, e2, e3] at hP hD
  exact kk H1 locs1 ls hP hD hS hl
theorem J_copyt (C : Cx l K Γ own cc nL ret h) (q1 : Nat) {j a1 n1 : Nat} {g : Nat → Int32} {spv dpv nv : Int32} (hj : j < 16) (dp k : Nat) (hsp : spv = iN 0) (hdp : dpv = iN dp) (hk : nv = iN k) (hdg : decode cc pc = .ok (.invokestatic index, 3)) (hu : Cond.methodLink own index arraycopyName ∈ wsL_law) (hh : 1 ≤ h) (ha1 : ws[q1]? = some (cB K a1 n1 g)) (h4 : k ≤ slen.getD j 0) (h5 : dp + k ≤ n1) (h6 : n1 < 100000 ∧ k < 100000) (hfit : ∀ i, i < k → fits .byte (.int ((sbyt.getD j []).getD i 0)) = true) (hw : ws.set q1 (cB K a1 n1 (va_cpy (fun i => (sbyt.getD j []).getD i 0) g 0 dp k)) = ws2) (hrest : (st.map fun v => v.category).sum ≤ 8) (kk : J l K Γ Q cs ss ws2 (pc + 3) nL lv st) : J l K Γ Q cs ss ws pc nL lv (.int nv :: .int dpv :: .ref a1 :: .int spv :: .ref (K.2 (200 + j)) :: st) := by
  obtain ⟨p, e, R, s, m, args, below, meth, c, A⟩ := Γ
  obtain ⟨hx, hb, hml, hown, hts, hr, hlk, hK, hA, hf1, hf2⟩ := C
  subst hsp; subst hdp; subst hk
  have e1 : (iN 0).toNatClampNeg = 0 := iN_nat (by omega)
  have e2 : (iN dp).toNatClampNeg = dp := iN_nat (by omega)
  have e3 : (iN k).toNatClampNeg = k := iN_nat (by omega)
  subst hw
  intro H locs ls hP hD hS hl
  refine vk_copyt hx hb (hml.trans hl.1.symm) hown (hts _ hu) (hts _ uv_Jcopy) (hts _ ut_Jcopy) (hts _ un_System) hK.1.1 hP hD hS (f := fun i => (sbyt.getD j []).getD i 0) (hK.2.1.1 j hj).2.2.2 q1 1 ha1 rfl (iN_neg (by omega)) (iN_neg (by omega)) (iN_neg (by omega)) (by rw [e1, e3]; omega) (by rw [e2, e3]; exact h5) (by rw [e1, e3]; intro i hi; rw [Nat.zero_add]; exact hfit i hi) (by omega) (by show _ + (7 + 11) ≤ R.locals; omega) hdg (fun H1 locs1 hP hD hS => ?_)
  rw [e1, e2, e3] at hP hD
  exact kk H1 locs1 ls hP hD hS hl
theorem J_max (C : Cx l K Γ own cc nL ret h) (Y : Cy Γ CM SM) (h1 : cs ≤ CM) (h2 : ss ≤ SM) {u v : Int32} (hdg : decode cc pc = .ok (.invokestatic index, 3)) (hu : Cond.methodLink own index Lib.Math.max.name ∈ wsL_law) (hh : 1 ≤ h) (hrest : (st.map fun v => v.category).sum ≤ 8) (k : J l K Γ Q cs ss ws (pc + 3) nL lv (.int (if u < v then v else u) :: st)) : J l K Γ Q cs ss ws pc nL lv (.int v :: .int u :: st) := by
  obtain ⟨p, e, R, s, m, args, below, meth, c, A⟩ := Γ
  obtain ⟨hx, hb, hml, hown, hts, hr, hlk, hK, hA, hf1, hf2⟩ := C
  intro H locs ls hP hD hS hl
  exact va_mmax hx hb (hml.trans hl.1.symm) hown (hts _ hu) (hts _ ut_Lib.Math.max.name) (hts _ un_Math) (hts _ uc_Lib.Math.max.name) (by omega) (by omega) (Nat.le_trans h1 Y.1) (Nat.le_trans h2 Y.2.1) hdg (k H locs ls hP hD hS hl)
theorem J_cloneb (C : Cx l K Γ RJ7 cc nL ret h) (Y : Cy Γ CM SM) (q0 : Nat) {a0 n0 : Nat} {f : Nat → Int32} (hdg : decode cc pc = .ok (.invokevirtual 310, 3)) (hh : 1 ≤ h) (ha : ws[q0]? = some (cB K a0 n0 f)) (hfit : ∀ i, i < n0 → fits .byte (.int (f i)) = true) (h1 : cs + 1 ≤ CM) (h2 : ss + n0 ≤ SM) (hrest : (st.map fun v => v.category).sum ≤ 8) (kk : ∀ q : Nat, J l K Γ Q (cs + 1) (ss + n0) (cB K q n0 f :: ws) (pc + 3) nL lv (.ref q :: st)) : J l K Γ Q cs ss ws pc nL lv (.ref a0 :: st) := by
  have k2 : ∀ q : Nat, J l K Γ Q (cs + 1) (ss + n0) (ws ++ [cB K q n0 f]) (pc + 3) nL lv (.ref q :: st) := fun q => J_perm List.perm_append_comm (kk q)
  obtain ⟨p, e, R, s, m, args, below, meth, c, A⟩ := Γ
  obtain ⟨hx, hb, hml, hown, hts, hr, hlk, hK, hA, hf1, hf2⟩ := C
  obtain ⟨y1, y2, y3⟩ := Y
  intro H locs ls hP hD hS hl
  have hn : s.vm.findClass "[B" = some (K.2 1) := (hK.1.1.2 1 _ rfl).2
  refine va_clone (x := (n0, .inl f)) hx hb (hml.trans hl.1.symm) hown (hts _ um_J7_310) (hts _ uq_AB_Object_clone_0502) (hts _ uv_rObject_clone_0502) (hts _ ui_rObject_clone_0502) (hts _ us_AB_rAB_clone_0502) hK.2.2.2.2.2.2.2.2.2.2 hK.1.1 hP hD hS hA q0 1 ha rfl hn ?_ (by omega) (by omega) (Nat.le_trans h1 y1) (Nat.le_trans h2 y2) hdg (fun q H1 _ hP hD hS => k2 q H1 locs ls hP hD hS hl)
  intro i v hv
  have hi : i < n0 := by
    have h3 := (Array.getElem?_eq_some_iff.mp hv).1
    have h4 : (vp_cell (K.2 1) (n0, .inl f)).slots.size = n0 := arrV_size _ _ _
    omega
  have h5 : (arrV (K.2 1) n0 (fun i => Value.int (f i))).slots[i]? = some v := hv
  rw [arrV_read _ _ hi] at h5
  cases h5
  exact hfit i hi
theorem J_castB (C : Cx l K Γ RJ7 cc nL ret h) (q0 : Nat) {a0 n0 : Nat} {f : Nat → Int32} (hdg : decode cc pc = .ok (.checkcast 311, 3)) (ha : ws[q0]? = some (cB K a0 n0 f)) (k : J l K Γ Q cs ss ws (pc + 3) nL lv (.ref a0 :: st)) : J l K Γ Q cs ss ws pc nL lv (.ref a0 :: st) := by
  obtain ⟨p, e, R, s, m, args, below, meth, c, A⟩ := Γ
  obtain ⟨hx, hb, hml, hown, hts, hr, hlk, hK, hA, hf1, hf2⟩ := C
  intro H locs ls hP hD hS hl
  have hn : s.vm.findClass "[B" = some (K.2 1) := (hK.1.1.2 1 _ rfl).2
  exact va_castA (x := (n0, .inl f)) hx hb hown (hts _ ul_J7_311) hP q0 ha hn hdg (k H locs ls hP hD hS hl)
end JJ
