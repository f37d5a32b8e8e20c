-- PART 68: the setup text, as the class writes it
def ofW (o : Nat × Nat × Nat) : List Nat := stx 10 ++ (dcN o.1 ++ ([32] ++ (dcN o.2.1 ++ (if o.2.2 = 1 then [59] else stx 11 ++ [59]))))
def leW (x : Nat × Nat × Nat) : List Nat := stx 12 ++ (dcN x.1 ++ ([32] ++ (dcN x.2.1 ++ ([32] ++ (dcN x.2.2 ++ [59])))))
def toW : Option Nat → List Nat
  | none => []
  | some a => stx 13 ++ (dcN a ++ [59])
def ruW (a b q : Nat) : List Nat := stx 7 ++ (dcN a ++ (stx 8 ++ (dcN b ++ (stx 9 ++ (dcN q ++ [59])))))
def osW : List (Nat × Nat × Nat) → List Nat
  | [] => []
  | o :: os => ofW o ++ osW os
def lsW : List (Nat × Nat × Nat) → List Nat
  | [] => []
  | x :: xs => leW x ++ lsW xs
theorem stx_cat : stx 7 = stx 0 ++ [32] ∧ stx 8 = [32] ++ (stx 1 ++ [32]) ∧ stx 9 = [32] ++ (stx 2 ++ [32]) ∧ stx 10 = stx 3 ++ [32] ∧ stx 11 = [32] ++ stx 4 ∧ stx 12 = stx 5 ++ [32] ∧ stx 13 = stx 6 ++ [32] ∧ stx 14 = [32] ++ (stx 4 ++ [59]) ∧ stx 15 = [59] := by decide +kernel
theorem stx_n : (stx 7).length = 6 ∧ (stx 8).length = 7 ∧ (stx 9).length = 7 ∧ (stx 10).length = 7 ∧ (stx 11).length = 5 ∧ (stx 12).length = 7 ∧ (stx 13).length = 6 ∧ (stx 14).length = 6 ∧ (stx 15).length = 1 := by decide +kernel
section WT
variable {a b q : Nat} {os ls : List (Nat × Nat × Nat)} {t : Option Nat} {M : NM} {T R : List Nat} {Y Y0 : RS} {c v i n : Nat}
theorem ofW_R (o : Nat × Nat × Nat) : ofR o R = ofW o ++ R := by
  obtain ⟨-, -, -, h3, h4, -⟩ := stx_cat
  unfold ofR ofW
  rw [h3, h4]
  by_cases h : o.2.2 = 1
  · rw [if_pos h, if_pos h]
    simp only [List.append_assoc, List.cons_append, List.nil_append]
  · rw [if_neg h, if_neg h]
    simp only [List.append_assoc, List.cons_append, List.nil_append]
theorem leW_R (x : Nat × Nat × Nat) : leR x R = leW x ++ R := by
  obtain ⟨-, -, -, -, -, h5, -⟩ := stx_cat
  unfold leR leW
  rw [h5]
  simp only [List.append_assoc, List.cons_append, List.nil_append]
theorem osW_R : ∀ os : List (Nat × Nat × Nat), ofsR os R = osW os ++ R := by
  intro os
  induction os with
  | nil => rfl
  | cons o os ih => rw [ofsR, ofW_R, ih, osW, List.append_assoc]
theorem lsW_R : ∀ ls : List (Nat × Nat × Nat), lesR ls R = lsW ls ++ R := by
  intro ls
  induction ls with
  | nil => rfl
  | cons o os ih => rw [lesR, leW_R, ih, lsW, List.append_assoc]
theorem toW_R : toR t = toW t := by
  obtain ⟨-, -, -, -, -, -, h6, -⟩ := stx_cat
  cases t with
  | none => rfl
  | some a =>
    unfold toR toW
    rw [h6]
    simp only [List.append_assoc]
theorem rnd_w : rnd a b q os ls t = ruW a b q ++ (osW os ++ (lsW ls ++ toW t)) := by
  obtain ⟨h0, h1, h2, -⟩ := stx_cat
  unfold rnd ruR ruW
  rw [osW_R, lsW_R, toW_R, h0, h1, h2]
  simp only [List.append_assoc, List.cons_append, List.nil_append]
theorem lsW_app : ∀ l1 l2 : List (Nat × Nat × Nat), lsW (l1 ++ l2) = lsW l1 ++ lsW l2 := by
  intro l1 l2
  induction l1 with
  | nil => rfl
  | cons o os ih => rw [List.cons_append, lsW, ih, lsW, List.append_assoc]
theorem dc_le (v : Nat) : (dcN v).length ≤ 2 := by
  rw [dcN_len]
  unfold dgN
  split <;> decide
theorem dc_1 {v : Nat} (h : v < 10) : (dcN v).length = 1 := by
  rw [dcN_len]
  unfold dgN
  exact if_pos h
theorem ofW_len {o : Nat × Nat × Nat} (h : o.1 < 10) : (ofW o).length ≤ 17 := by
  obtain ⟨-, -, -, h3, h4, -⟩ := stx_n
  have h2 := dc_le o.2.1
  unfold ofW
  split
  · simp only [List.length_append, h3, dc_1 h, List.length_cons, List.length_nil]
    omega
  · simp only [List.length_append, h3, h4, dc_1 h, List.length_cons, List.length_nil]
    omega
theorem leW_len {x : Nat × Nat × Nat} (h0 : x.1 < 10) (h1 : x.2.1 < 10) (h2 : x.2.2 < 10) : (leW x).length = 13 := by
  obtain ⟨-, -, -, -, -, h5, -⟩ := stx_n
  unfold leW
  simp only [List.length_append, h5, dc_1 h0, dc_1 h1, dc_1 h2, List.length_cons, List.length_nil]
theorem osW_len : ∀ os : List (Nat × Nat × Nat), (∀ o, o ∈ os → o.1 < 10) → (osW os).length ≤ 17 * os.length := by
  intro os
  induction os with
  | nil => intro _; exact Nat.le_refl _
  | cons o os ih =>
    intro h
    have h1 := ofW_len (h o List.mem_cons_self)
    have h2 := ih (fun p hp => h p (List.mem_cons_of_mem _ hp))
    rw [osW, List.length_append, List.length_cons]
    omega
theorem lsW_len : ∀ ls : List (Nat × Nat × Nat), (∀ x, x ∈ ls → x.1 < 10 ∧ x.2.1 < 10 ∧ x.2.2 < 10) → (lsW ls).length = 13 * ls.length := by
  intro ls
  induction ls with
  | nil => intro _; rfl
  | cons x xs ih =>
    intro h
    obtain ⟨a1, a2, a3⟩ := h x List.mem_cons_self
    have h1 := leW_len a1 a2 a3
    have h2 := ih (fun p hp => h p (List.mem_cons_of_mem _ hp))
    rw [lsW, List.length_append, List.length_cons]
    omega
theorem toW_len (h : ∀ x, t = some x → x < 10) : (toW t).length ≤ 8 := by
  obtain ⟨-, -, -, -, -, -, h6, -⟩ := stx_n
  cases t with
  | none => exact Nat.zero_le _
  | some a =>
    unfold toW
    simp only [List.length_append, h6, dc_1 (h a rfl), List.length_cons, List.length_nil]
    omega
theorem ruW_len : (ruW a b q).length ≤ 27 := by
  obtain ⟨h0, h1, h2, -⟩ := stx_n
  have := dc_le a
  have := dc_le b
  have := dc_le q
  unfold ruW
  simp only [List.length_append, h0, h1, h2, List.length_cons, List.length_nil]
  omega
/-- all of it is ASCII -/
def ASC (T : List Nat) : Prop := ∀ x, x ∈ T → x < 128
theorem ASC.app (h1 : ASC T) (h2 : ASC R) : ASC (T ++ R) := fun x hx => by
  rcases List.mem_append.mp hx with h | h
  · exact h1 x h
  · exact h2 x h
theorem ASC.at_ (h : ASC T) {k : Nat} (hk : k < T.length) : T.getD k 0 < 128 := by
  rw [List.getD_eq_getElem?_getD, List.getElem?_eq_getElem hk]
  exact h _ (List.getElem_mem hk)
theorem asc_j : ∀ j, j < 16 → ASC (stx j) := by
  have h : ∀ j, j < 16 → (stx j).all (fun x => decide (x < 128)) = true := by decide +kernel
  intro j hj x hx
  exact of_decide_eq_true (List.all_eq_true.mp (h j hj) x hx)
theorem asc_d (h : v < 100) : ASC (dcN v) := by
  unfold dcN
  split
  · intro x hx
    have := List.mem_singleton.mp hx
    omega
  · intro x hx
    rcases List.mem_cons.mp hx with h1 | h1
    · omega
    · have := List.mem_singleton.mp h1
      omega
theorem asc_1 (h : c < 128) : ASC [c] := fun x hx => by
  rw [List.mem_singleton.mp hx]
  exact h
/-- the page holds T; nothing else has changed -/
def WR (Y0 : RS) (T : List Nat) (Y : RS) : Prop := (∀ k, k ≠ 3 → Y k = Y0 k) ∧ T.length ≤ 1024 ∧ Y 3 1 0 = iN T.length ∧ ASC T ∧ ∀ k, k < T.length → Y 3 0 k = iN (T.getD k 0)
theorem WR.ch (h : WR Y0 T Y) (hl : T.length < 1024) (hc : c < 128) : WR Y0 (T ++ [c]) (yU Y 3 (s_X7_add_p (Y 3) (iN c))) := by
  obtain ⟨h1, h2, h3, h4, h5⟩ := h
  have e : s_X7_add_p (Y 3) (iN c) = sU (sU (Y 3) 0 (upd (Y 3 0) T.length (iN c))) 1 (upd (Y 3 1) 0 (iN (T.length + 1))) := by
    unfold s_X7_add_p s_X7_add_p_L31
    rw [h3, if_neg (iN_neg (by omega)), if_pos (show iN T.length < 1024 from iN_ylt' (b := 1024) hl (by decide)), iN_nat (by omega), by_b _ hc, by_n _ hc, sU_ne (by decide), h3, iN_s]
  rw [e]
  refine ⟨fun k hk => by rw [yU_ne hk, h1 k hk], by simp; omega, by rw [yU_eq, sU_eq, upd_eq]; simp, h4.app (asc_1 hc), fun k hk => ?_⟩
  rw [yU_eq, sU_ne (by decide), sU_eq]
  by_cases z : k = T.length
  · subst z
    rw [upd_eq, getD_r (Nat.le_refl _), Nat.sub_self]
    rfl
  · have hk2 : k < T.length := by
      rw [List.length_append] at hk
      have : k < T.length + 1 := hk
      omega
    rw [upd_ne z, getD_l hk2]
    exact h5 k hk2
theorem WR.wL {j : Nat} (hj : j < 16) : ∀ d k f (Y : RS), k + d = (stx j).length → d < f → T.length + (stx j).length ≤ 1024 → WR Y0 (T ++ (stx j).take k) Y → WR Y0 (T ++ stx j) (yU Y 3 (s_X7_addWord_p_L2 f (Y 3) j (iN k))) := by
  obtain ⟨s1, s2, s3⟩ := stx_ok j hj
  have sc : ∀ j, j < 16 → ∀ i, i < 8 → i < (stx j).length → sch j (iN i) = iN ((stx j).getD i 0) := by decide +kernel
  intro d
  induction d with
  | zero =>
    intro k f Y hk hf hl h
    obtain ⟨f, rfl⟩ := some_succ hf
    rw [s_X7_addWord_p_L2, ← s1, if_neg (show ¬ iN k < Int32.ofNat (stx j).length from iN_nlt' (by omega) (by omega)), yU_self]
    rw [List.take_of_length_le (by omega)] at h
    exact h
  | succ d ih =>
    intro k f Y hk hf hl h
    obtain ⟨f, rfl⟩ := some_succ hf
    have hkl : k < (stx j).length := by omega
    rw [s_X7_addWord_p_L2, ← s1, if_pos (show iN k < Int32.ofNat (stx j).length from iN_ylt' hkl (by omega)), sc j hj k (by omega) hkl, iN_s]
    have h2 := h.ch (c := (stx j).getD k 0) (by
      rw [List.length_append, List.length_take]
      omega) (s3 k (by omega)).1
    rw [List.append_assoc] at h2
    have et : (stx j).take k ++ [(stx j).getD k 0] = (stx j).take (k + 1) := by
      rw [List.getD_eq_getElem?_getD, List.getElem?_eq_getElem hkl]
      exact (List.take_succ_eq_append_getElem hkl).symm
    rw [et] at h2
    have h3 := ih (k + 1) f _ (by omega) (by omega) hl h2
    rw [yU_yU, yU_eq] at h3
    exact h3
theorem WR.w (h : WR Y0 T Y) {j : Nat} (hj : j < 16) (hl : T.length + (stx j).length ≤ 1024) : WR Y0 (T ++ stx j) (yU Y 3 (s_X7_addWord_p (Y 3) j)) := by
  obtain ⟨s1, s2, -⟩ := stx_ok j hj
  exact WR.wL hj (stx j).length 0 (mu 0 + 1) Y (by omega) (by rw [mu_0]; omega) hl (by rw [List.take_zero, List.append_nil]; exact h)
theorem num_skip (hv : v < 100) {p : Nat} (h1 : 100 ≤ p) (h2 : p < 2147483648) (f : Nat) (X : SM) : s_X7_addNumber_p_L5 (f + 1) X (iN v) 0 (iN p) = s_X7_addNumber_p_L5 f X (iN v) 0 (iN (p / 10)) := by
  rw [s_X7_addNumber_p_L5, if_pos ((iN_pos h2).mpr (by omega)), if_pos rfl, iN_div (by omega) h2, Nat.div_eq_of_lt (show v < p by omega), show jrem (iN 0) 10 = 0 from rfl, if_neg (by decide), if_neg (show ¬ iN p = 1 from iN_ne' (b := 1) (by omega) h2 (by decide)), show (10 : Int32) = iN 10 from rfl, iN_div h2 (by decide)]
theorem num_e (hv : v < 100) (X : SM) : s_X7_addNumber_p X (iN v) = s_X7_add_p (if v < 10 then X else s_X7_add_p X (iN (48 + v / 10))) (iN (48 + v % 10)) := by
  unfold s_X7_addNumber_p
  obtain ⟨f, hf⟩ : ∃ f, Int32.toNatClampNeg 1000000000 + 1 = f + 11 := ⟨999999990, rfl⟩
  rw [hf]
  have fin : ∀ X : SM, s_X7_addNumber_p_L5 (f + 2) X (iN v) 1 1 = s_X7_add_p X (iN (48 + v % 10)) := by
    intro X
    rw [s_X7_addNumber_p_L5, if_pos (show (0 : Int32) < 1 by decide), if_neg (show ¬ (1 : Int32) = 0 by decide), s_X7_addNumber_p_L5, if_neg (show ¬ (0 : Int32) < 1 / 10 by decide)]
    rw [show iN v / 1 = iN (v / 1) from iN_div (b := 1) (by omega) (by decide), Nat.div_one, show jrem (iN v) 10 = iN (v % 10) from iN_rem (b := 10) (by omega) (by decide), show (48 : Int32) = iN 48 from rfl, iN_add]
  have e := num_skip hv (p := 1000000000) (by decide) (by decide) (f + 10) X
  rw [show (1000000000 : Int32) = iN 1000000000 from rfl, e]
  rw [num_skip hv (p := 1000000000 / 10) (by decide) (by decide) (f + 9) X, num_skip hv (p := 1000000000 / 10 / 10) (by decide) (by decide) (f + 8) X, num_skip hv (p := 1000000000 / 10 / 10 / 10) (by decide) (by decide) (f + 7) X, num_skip hv (p := 1000000000 / 10 / 10 / 10 / 10) (by decide) (by decide) (f + 6) X, num_skip hv (p := 1000000000 / 10 / 10 / 10 / 10 / 10) (by decide) (by decide) (f + 5) X, num_skip hv (p := 1000000000 / 10 / 10 / 10 / 10 / 10 / 10) (by decide) (by decide) (f + 4) X, num_skip hv (p := 1000000000 / 10 / 10 / 10 / 10 / 10 / 10 / 10) (by decide) (by decide) (f + 3) X]
  rw [show iN (1000000000 / 10 / 10 / 10 / 10 / 10 / 10 / 10 / 10) = 10 from rfl, s_X7_addNumber_p_L5, if_pos (show (0 : Int32) < 10 by decide), if_pos rfl, show iN v / 10 = iN (v / 10) from iN_div (b := 10) (by omega) (by decide), show jrem (iN (v / 10)) 10 = iN (v / 10 % 10) from iN_rem (b := 10) (by omega) (by decide), Nat.mod_eq_of_lt (show v / 10 < 10 by omega)]
  by_cases h : v < 10
  · rw [if_pos h, if_neg (fun z => absurd ((iN_pos (by omega)).mp z) (by omega)), if_neg (show ¬ (10 : Int32) = 1 by decide), show (10 : Int32) / 10 = 1 from rfl]
    rw [s_X7_addNumber_p_L5, if_pos (show (0 : Int32) < 1 by decide), if_pos rfl, show iN v / 1 = iN (v / 1) from iN_div (b := 1) (by omega) (by decide), Nat.div_one, show jrem (iN v) 10 = iN (v % 10) from iN_rem (b := 10) (by omega) (by decide), show (48 : Int32) = iN 48 from rfl, iN_add]
    have e2 : ∀ X : SM, s_X7_addNumber_p_L5 (f + 1) X (iN v) 1 (1 / 10) = X := by
      intro X
      rw [s_X7_addNumber_p_L5, if_neg (show ¬ (0 : Int32) < 1 / 10 by decide)]
    rw [e2]
    split
    · rfl
    · rw [if_pos rfl]
  · rw [if_neg h, if_pos ((iN_pos (by omega)).mpr (by omega)), show (10 : Int32) / 10 = 1 from rfl, fin, show (48 : Int32) = iN 48 from rfl, iN_add]
theorem WR.nu (h : WR Y0 T Y) (hv : v < 100) (hl : T.length + (dcN v).length ≤ 1024) : WR Y0 (T ++ dcN v) (yU Y 3 (s_X7_addNumber_p (Y 3) (iN v))) := by
  rw [num_e hv]
  unfold dcN at hl ⊢
  by_cases z : v < 10
  · rw [if_pos z] at hl ⊢
    rw [if_pos z, Nat.mod_eq_of_lt z]
    exact h.ch (show T.length + 1 ≤ 1024 from hl) (by omega)
  · rw [if_neg z] at hl ⊢
    rw [if_neg z]
    have hl' : T.length + 2 ≤ 1024 := hl
    have h1 := h.ch (c := 48 + v / 10) (by omega) (by omega)
    have h2 := h1.ch (c := 48 + v % 10) (by simp; omega) (by omega)
    rw [yU_yU, yU_eq, List.append_assoc] at h2
    exact h2
end WT
