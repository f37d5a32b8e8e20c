-- PART 06: a contract over a part of a world is one over the whole (the frame rule)
theorem va_P_iff {D : va_G} {cl : List vw_C} {ws : va_W} {H : Heap} : va_P D cl ws H ↔ ∀ q ∈ ws, va_at D cl q H := by
  constructor
  · intro h q hq
    obtain ⟨i, hi⟩ := List.getElem?_of_mem hq
    exact h i q hi
  · intro h k q hk
    exact h q (List.mem_of_getElem? hk)
theorem va_D_iff {A : Nat → Prop} {ws : va_W} : va_D A ws ↔ (ws.map (fun q => q.1)).Nodup ∧ ∀ q ∈ ws, A q.1 := by
  constructor
  · intro h
    refine ⟨?_, fun q hq => ?_⟩
    · refine List.pairwise_iff_getElem.mpr fun i j hi hj hij he => ?_
      rw [List.getElem_map, List.getElem_map] at he
      rw [List.length_map] at hi hj
      have := h.1 i j _ _ (List.getElem?_eq_getElem hi) (List.getElem?_eq_getElem hj) he
      omega
    · obtain ⟨i, hi⟩ := List.getElem?_of_mem hq
      exact h.2 i q hi
  · intro h
    refine ⟨fun i j p q hi hj he => ?_, fun k q hk => h.2 q (List.mem_of_getElem? hk)⟩
    have hn := List.pairwise_iff_getElem.mp h.1
    obtain ⟨li, ei⟩ := List.getElem?_eq_some_iff.mp hi
    obtain ⟨lj, ej⟩ := List.getElem?_eq_some_iff.mp hj
    rcases Nat.lt_trichotomy i j with z | z | z
    · exact absurd (by rw [List.getElem_map, List.getElem_map, ei, ej]; exact he) (hn i j (by rw [List.length_map]; exact li) (by rw [List.length_map]; exact lj) z)
    · exact z
    · exact absurd (by rw [List.getElem_map, List.getElem_map, ei, ej]; exact he.symm) (hn j i (by rw [List.length_map]; exact lj) (by rw [List.length_map]; exact li) z)
theorem va_P_perm {D : va_G} {cl : List vw_C} {ws ws' : va_W} {H : Heap} (hp : ws.Perm ws') (h : va_P D cl ws H) : va_P D cl ws' H := va_P_iff.mpr fun q hq => va_P_iff.mp h q (hp.mem_iff.mpr hq)
theorem va_D_perm {A : Nat → Prop} {ws ws' : va_W} (hp : ws.Perm ws') (h : va_D A ws) : va_D A ws' := by
  rw [va_D_iff] at h ⊢
  exact ⟨(hp.map _).nodup_iff.mp h.1, fun q hq => h.2 q (hp.mem_iff.mpr hq)⟩
theorem va_A_perm {ws ws' : va_W} (hp : ws.Perm ws') {sz q : Nat} (h : va_A ws sz q) : va_A ws' sz q := by
  rcases h with ⟨k, e, h⟩ | h
  · obtain ⟨i, hi⟩ := List.getElem?_of_mem (hp.mem_iff.mp (List.mem_of_getElem? h))
    exact Or.inl ⟨i, e, hi⟩
  · exact Or.inr h
theorem va_A_left {wc wr : va_W} {sz q : Nat} (h : va_A wc sz q) : va_A (wc ++ wr) sz q := by
  rcases h with ⟨k, e, h⟩ | h
  · exact Or.inl ⟨k, e, by rw [List.getElem?_append_left (List.getElem?_eq_some_iff.mp h).1]; exact h⟩
  · exact Or.inr h
theorem Ct.perm {l : Launch} {K : gK} {y : MethodName} {cc : ByteArray} {maxL : Nat} {ret : Option FieldType} {h : Nat} {as : List Value} {wc wr ws ws' w1 : va_W} {r : Option Value} (hp : ws.Perm (wc ++ wr)) (hp' : (w1 ++ wr).Perm ws') (ct : Ct l K y cc maxL ret h as wc (r, w1)) : Ct l K y cc maxL ret h as ws (r, ws') := by
  intro sz p e ha hc hk s m args below hf happ hPre _
  obtain ⟨rfl, hsz, hPw, hKS, hDw⟩ := hPre
  have hPb := va_P_perm hp hPw
  have hDb := va_D_perm hp hDw
  have hsub : ∀ q, va_A wc sz q → va_A ws sz q := fun q hq => va_A_perm hp.symm (va_A_left hq)
  have hPc : va_P K.1 classes wc s.heap := va_P_iff.mpr fun q hq => va_P_iff.mp hPb q (List.mem_append_left _ hq)
  have hDb' := va_D_iff.mp hDb
  rw [List.map_append] at hDb'
  have hDc : va_D (fun _ => True) wc := va_D_iff.mpr ⟨(List.nodup_append.mp hDb'.1).1, fun _ _ => trivial⟩
  obtain ⟨n, o, h1, h2, h3, ⟨⟨hr1, hP1, hD1⟩, hF1, hF2⟩, L, hFr, hL⟩ := ct sz p e ha hc hk s m _ below hf happ ⟨rfl, hsz, hPc, ⟨hKS.1, hKS.2.narrow hsub⟩, hDc⟩ trivial
  have hrest : ∀ q ∈ wr, q.1 < s.heap.size ∧ ¬ va_A wc sz q.1 := by
    intro q hq
    have hl := (va_P_iff.mp hPb q (List.mem_append_right _ hq)).lt
    refine ⟨hl, fun z => ?_⟩
    rcases z with ⟨k, e2, z⟩ | z
    · exact (List.nodup_append.mp hDb'.1).2.2 q.1 (List.mem_map.mpr ⟨(q.1, e2), List.mem_of_getElem? z, rfl⟩) q.1 (List.mem_map.mpr ⟨q, hq, rfl⟩) rfl
    · omega
  refine ⟨n, o, h1, h2, h3, ⟨⟨hr1, ?_, ?_⟩, hF1, fun q g1 g2 => hF2 q g1 (fun z => g2 (hsub q z))⟩, L, hFr, fun q hq => hsub _ (hL q hq)⟩
  · refine va_P_perm hp' (va_P_iff.mpr fun q hq => ?_)
    rcases List.mem_append.mp hq with hq | hq
    · exact va_P_iff.mp hP1 q hq
    · obtain ⟨g1, g2⟩ := hrest q hq
      exact (va_P_iff.mp hPb q (List.mem_append_right _ hq)).kept (hF2 q.1 g1 g2)
  · refine va_D_perm hp' (va_D_iff.mpr ⟨?_, fun q hq => ?_⟩)
    · rw [List.map_append, List.nodup_append]
      refine ⟨(va_D_iff.mp hD1).1, (List.nodup_append.mp hDb'.1).2.1, fun a ha b hb hab => ?_⟩
      obtain ⟨q1, hq1, rfl⟩ := List.mem_map.mp ha
      obtain ⟨q2, hq2, rfl⟩ := List.mem_map.mp hb
      exact (hrest q2 hq2).2 (hab ▸ (va_D_iff.mp hD1).2 q1 hq1)
    · rcases List.mem_append.mp hq with hq | hq
      · exact hsub _ ((va_D_iff.mp hD1).2 q hq)
      · obtain ⟨i, hi⟩ := List.getElem?_of_mem (hp.mem_iff.mpr (List.mem_append_right wc hq))
        exact Or.inl ⟨i, q.2, hi⟩
section FR
variable {l : Launch} {K : gK} {y : MethodName} {cc : ByteArray} {maxL : Nat} {ret : Option FieldType} {h : Nat} {as : List Value} {wc u v w1 : va_W} {r : Option Value}
theorem perm_mid (u wc v : va_W) : (u ++ wc ++ v).Perm (wc ++ (u ++ v)) := by
  rw [List.append_assoc]
  exact List.perm_append_comm_assoc u wc v
theorem Ct.mid (u v : va_W) (ct : Ct l K y cc maxL ret h as wc (r, w1)) : Ct l K y cc maxL ret h as (u ++ wc ++ v) (r, u ++ w1 ++ v) := Ct.perm (perm_mid u wc v) (perm_mid u w1 v).symm ct
theorem Ct.left (v : va_W) (ct : Ct l K y cc maxL ret h as wc (r, w1)) : Ct l K y cc maxL ret h as (wc ++ v) (r, w1 ++ v) := Ct.perm (List.Perm.refl _) (List.Perm.refl _) ct
theorem Ct.right (u : va_W) (ct : Ct l K y cc maxL ret h as wc (r, w1)) : Ct l K y cc maxL ret h as (u ++ wc) (r, u ++ w1) := Ct.perm List.perm_append_comm List.perm_append_comm ct
end FR
