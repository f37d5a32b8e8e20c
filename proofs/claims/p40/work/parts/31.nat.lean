-- PART 31: a State read as whole numbers; its questions
abbrev NM : Type := Nat → Nat → Nat
def nP (M : NM) (j k v : Nat) : NM := fun a b => if a = j ∧ b = k then v else M a b
theorem nP_get (M : NM) (j k v a b : Nat) : nP M j k v a b = if a = j ∧ b = k then v else M a b := rfl
theorem nP_e (M : NM) (j k v : Nat) : nP M j k v j k = v := if_pos ⟨rfl, rfl⟩
theorem nP_r {M : NM} {j k v a : Nat} (h : a ≠ j) (b : Nat) : nP M j k v a b = M a b := if_neg (fun q => h q.1)
theorem nP_k {M : NM} {j k v b : Nat} (a : Nat) (h : b ≠ k) : nP M j k v a b = M a b := if_neg (fun q => h q.2)
/-- the log is left out -/
def LL (S : SM) (M : NM) : Prop := (∀ j k, j ≤ 14 → S j k = iN (M j k)) ∧ ∀ k, k ≠ 5 → k ≠ 6 → S 18 k = iN (M 18 k)
theorem LL.any (S : SM) : ∃ M, LL S M := by
  refine ⟨fun j k => Classical.choose (iN_any (S j k)), fun j k _ => ?_, fun k _ _ => ?_⟩
  · exact Classical.choose_spec (iN_any (S j k))
  · exact Classical.choose_spec (iN_any (S 18 k))
def nsum (f : Nat → Nat) : Nat → Nat
  | 0 => 0
  | k + 1 => nsum f k + f k
theorem nsum_congr {f g : Nat → Nat} : ∀ n, (∀ i, i < n → f i = g i) → nsum f n = nsum g n := by
  intro n
  induction n with
  | zero => intro _; rfl
  | succ n ih =>
    intro h
    rw [nsum, nsum, ih (fun i hi => h i (by omega)), h n (by omega)]
theorem nsum_upd {f g : Nat → Nat} {o v : Nat} (hv : g o = v) (hg : ∀ i, i ≠ o → g i = f i) : ∀ n, o < n → nsum g n + f o = nsum f n + v := by
  intro n
  induction n with
  | zero => intro h; exact absurd h (by omega)
  | succ n ih =>
    intro h
    rw [nsum, nsum]
    by_cases q : o = n
    · subst q
      rw [nsum_congr o (f := g) (g := f) (fun i hi => hg i (by omega)), hv]
      omega
    · have := ih (by omega)
      rw [hg n (by omega)]
      omega
theorem nsum_out {f g : Nat → Nat} {o n : Nat} (hg : ∀ i, i ≠ o → g i = f i) (h : n ≤ o) : nsum g n = nsum f n := nsum_congr n (fun i hi => hg i (by omega))
theorem nsum_le {f : Nat → Nat} {a : Nat} : ∀ n, (∀ i, i < n → f i ≤ a) → nsum f n ≤ n * a := by
  intro n
  induction n with
  | zero => intro _; exact Nat.zero_le _
  | succ n ih =>
    intro h
    rw [nsum, Nat.succ_mul]
    have h1 := ih (fun i hi => h i (by omega))
    have h2 := h n (by omega)
    omega
theorem nsum_0 {f : Nat → Nat} : ∀ n, nsum f n = 0 → ∀ i, i < n → f i = 0 := by
  intro n
  induction n with
  | zero => intro _ i hi; exact absurd hi (by omega)
  | succ n ih =>
    intro h i hi
    rw [nsum] at h
    by_cases q : i = n
    · subst q
      omega
    · exact ih (by omega) i (by omega)
def iO : Option Nat → Int32
  | none => -2
  | some t => iN t
/-- the first that stands there -/
def stN (M : NM) (x : Nat) : Nat → Option Nat
  | 0 => none
  | k + 1 => match stN M x k with
    | some t => some t
    | none => if M 12 k = 0 ∧ M 11 k = x then some k else none
def stand (M : NM) (x : Nat) : Option Nat := stN M x (M 18 3)
theorem stN_none {M : NM} {x : Nat} : ∀ k, stN M x k = none ↔ ∀ t, t < k → ¬ (M 12 t = 0 ∧ M 11 t = x) := by
  intro k
  induction k with
  | zero => exact ⟨fun _ t h => absurd h (by omega), fun _ => rfl⟩
  | succ k ih =>
    rw [stN]
    cases hs : stN M x k with
    | some t =>
      refine ⟨fun h => (by cases h), fun h => ?_⟩
      have := ih.mpr (fun t ht => h t (by omega))
      rw [hs] at this
      cases this
    | none =>
      have h0 := ih.mp hs
      by_cases q : M 12 k = 0 ∧ M 11 k = x
      · simp only [if_pos q]
        exact ⟨fun h => (by cases h), fun h => absurd q (h k (by omega))⟩
      · simp only [if_neg q]
        refine ⟨fun _ t ht => ?_, fun _ => trivial⟩
        by_cases e : t = k
        · rw [e]
          exact q
        · exact h0 t (by omega)
theorem stN_some {M : NM} {x t : Nat} : ∀ k, stN M x k = some t → t < k ∧ M 12 t = 0 ∧ M 11 t = x ∧ ∀ u, u < t → ¬ (M 12 u = 0 ∧ M 11 u = x) := by
  intro k
  induction k with
  | zero => intro h; cases h
  | succ k ih =>
    intro h
    rw [stN] at h
    cases hs : stN M x k with
    | some u =>
      rw [hs] at h
      cases h
      obtain ⟨a, b⟩ := ih hs
      exact ⟨by omega, b⟩
    | none =>
      rw [hs] at h
      simp only at h
      by_cases q : M 12 k = 0 ∧ M 11 k = x
      · rw [if_pos q] at h
        cases h
        exact ⟨by omega, q.1, q.2, (stN_none _).mp hs⟩
      · rw [if_neg q] at h
        cases h
/-- the open one with the greatest name -/
def winN (M : NM) : Nat → Option Nat
  | 0 => none
  | k + 1 => match winN M k with
    | some p => if M 4 k = 1 ∧ M 3 p < M 3 k then some k else some p
    | none => if M 4 k = 1 then some k else none
theorem winN_some {M : NM} {p : Nat} : ∀ k, winN M k = some p → p < k ∧ M 4 p = 1 := by
  intro k
  induction k with
  | zero => intro h; cases h
  | succ k ih =>
    intro h
    rw [winN] at h
    cases hs : winN M k with
    | some u =>
      rw [hs] at h
      simp only at h
      by_cases q : M 4 k = 1 ∧ M 3 u < M 3 k
      · rw [if_pos q] at h
        cases h
        exact ⟨by omega, q.1⟩
      · rw [if_neg q] at h
        cases h
        obtain ⟨a, b⟩ := ih hs
        exact ⟨by omega, b⟩
    | none =>
      rw [hs] at h
      simp only at h
      by_cases q : M 4 k = 1
      · rw [if_pos q] at h
        cases h
        exact ⟨by omega, q⟩
      · rw [if_neg q] at h
        cases h
/-- the sum of LENGTHs of a queue -/
def lenQ (M : NM) (o : Nat) : Nat := nsum (fun i => M 9 (6 * o + i)) (M 7 o)
def busN (M : NM) : Nat → Nat
  | 0 => 0
  | k + 1 => if lenQ M (busN M k) < lenQ M (k + 1) then k + 1 else busN M k
theorem busN_le (M : NM) : ∀ k, busN M k ≤ k := by
  intro k
  induction k with
  | zero => exact Nat.le_refl _
  | succ k ih =>
    rw [busN]
    split <;> omega
theorem busN_max (M : NM) : ∀ k o, o ≤ k → lenQ M o ≤ lenQ M (busN M k) := by
  intro k
  induction k with
  | zero =>
    intro o h
    rw [show o = 0 by omega]
    exact Nat.le_refl _
  | succ k ih =>
    intro o h
    rw [busN]
    by_cases q : lenQ M (busN M k) < lenQ M (k + 1)
    · rw [if_pos q]
      by_cases e : o = k + 1
      · rw [e]
        exact Nat.le_refl _
      · have := ih o (by omega)
        omega
    · rw [if_neg q]
      by_cases e : o = k + 1
      · rw [e]
        omega
      · exact ih o (by omega)
/-- how many letters are TO x: in the queue of o, in all -/
def toQ (M : NM) (x o : Nat) : Nat := nsum (fun i => if M 8 (6 * o + i) = x then 1 else 0) (M 7 o)
def toN (M : NM) (x : Nat) : Nat → Nat := nsum (fun o => toQ M x o)
def spkN (M : NM) : Nat → Nat := nsum (fun t => if M 14 t = 0 then 0 else 1)
def nxt (c o : Nat) : Nat := if o + 1 < c then o + 1 else 0
theorem nxt_lt {c o : Nat} (h : 0 < c) : nxt c o < c := by
  unfold nxt
  split <;> omega
/-- what holds of the offices; of a token; of the tokens; the bounds; the counts; the rules -/
def OI (M : NM) : Prop := 2 ≤ M 18 2 ∧ M 18 2 ≤ 10 ∧ (∀ o, o < M 18 2 → 1 ≤ M 2 o ∧ M 2 o ≤ 9 ∧ 1 ≤ M 3 o ∧ M 3 o ≤ 99 ∧ M 4 o ≤ 1 ∧ M 7 o ≤ 6 ∧ ∀ i, i < M 7 o → M 8 (6 * o + i) < M 18 2 ∧ M 8 (6 * o + i) ≠ o ∧ 1 ≤ M 9 (6 * o + i) ∧ M 9 (6 * o + i) ≤ 9) ∧ ∀ o p, o < p → p < M 18 2 → M 3 o ≠ M 3 p
def TT (B : Nat) (M : NM) (t : Nat) : Prop := 1 ≤ M 10 t ∧ M 10 t ≤ M 18 4 ∧ M 11 t < M 18 2 ∧ M 12 t ≤ 9 ∧ M 13 t ≤ B ∧ M 14 t ≤ 9 ∧ (M 12 t ≠ 0 → M 13 t = 0 ∧ M 14 t = 0) ∧ (M 12 t = 0 → M 4 (M 11 t) = 1) ∧ (M 14 t ≠ 0 → M 7 (M 11 t) ≠ 0 ∧ M 14 t ≤ M 9 (6 * M 11 t))
def IT (B : Nat) (M : NM) : Prop := M 18 3 ≤ 3 ∧ M 18 4 ≤ B ∧ (∀ t, t < M 18 3 → TT B M t) ∧ ∀ t u, t < u → u < M 18 3 → M 10 t < M 10 u
def ID (M : NM) : Prop := ∀ t u, t < u → u < M 18 3 → M 12 t = 0 → M 12 u = 0 → M 11 t ≠ M 11 u
def IB (B : Nat) (M : NM) : Prop := M 18 0 ≤ B ∧ M 18 1 ≤ B ∧ (∀ o, o < M 18 2 → M 5 o ≤ B) ∧ M 1 1 ≤ B ∧ M 1 5 ≤ B ∧ M 1 6 ≤ B
def IC (M : NM) : Prop := M 1 0 = nsum (M 7) (M 18 2) + M 1 1 + M 1 2 + M 1 3 ∧ nsum (M 6) (M 18 2) = M 1 1
def IR (M : NM) : Prop := 1 ≤ M 0 0 ∧ M 0 0 ≤ 20 ∧ 1 ≤ M 0 1 ∧ M 0 1 ≤ 99 ∧ 1 ≤ M 0 2 ∧ M 0 2 ≤ 60
def Inv (B : Nat) (M : NM) : Prop := OI M ∧ IT B M ∧ ID M ∧ IB B M ∧ IC M ∧ IR M
section LQ
variable {S S' : SM} {M M' : NM} {B o p i t k : Nat}
theorem OI.c2 (h : OI M) : 2 ≤ M 18 2 := h.1
theorem OI.c10 (h : OI M) : M 18 2 ≤ 10 := h.2.1
theorem OI.w6 (h : OI M) (ho : o < M 18 2) : M 7 o ≤ 6 := (h.2.2.1 o ho).2.2.2.2.2.1
theorem OI.op (h : OI M) (ho : o < M 18 2) : M 4 o ≤ 1 := (h.2.2.1 o ho).2.2.2.2.1
theorem OI.nm (h : OI M) (ho : o < M 18 2) : M 3 o ≤ 99 := (h.2.2.1 o ho).2.2.2.1
theorem OI.let (h : OI M) (ho : o < M 18 2) (hi : i < M 7 o) : M 8 (6 * o + i) < M 18 2 ∧ M 8 (6 * o + i) ≠ o ∧ 1 ≤ M 9 (6 * o + i) ∧ M 9 (6 * o + i) ≤ 9 := (h.2.2.1 o ho).2.2.2.2.2.2 i hi
theorem LL.a (h : LL S M) {j : Nat} (hj : j ≤ 14) (k : Nat) : S j k = iN (M j k) := h.1 j k hj
theorem LL.c (h : LL S M) : S 18 2 = iN (M 18 2) := h.2 2 (by decide) (by decide)
theorem LL.tc (h : LL S M) : S 18 3 = iN (M 18 3) := h.2 3 (by decide) (by decide)
theorem LL.cong (h : LL S M) (h1 : ∀ j k, j ≤ 14 → S' j k = S j k) (h2 : ∀ k, k ≠ 5 → k ≠ 6 → S' 18 k = S 18 k) : LL S' M :=
  ⟨fun j k hj => (h1 j k hj).trans (h.1 j k hj), fun k a b => (h2 k a b).trans (h.2 k a b)⟩
theorem LL.to (h : LL S M) (h1 : ∀ j k, j ≤ 14 → M' j k = M j k) (h2 : ∀ k, k ≠ 5 → k ≠ 6 → M' 18 k = M 18 k) : LL S M' :=
  ⟨fun j k hj => (h.1 j k hj).trans (by rw [h1 j k hj]), fun k a b => (h.2 k a b).trans (by rw [h2 k a b])⟩
theorem LL.row (h : LL S M) {j : Nat} (hj : j ≤ 14) {g : Nat → Int32} (hg : ∀ k, g k = iN (M' j k)) (hr : ∀ a b, a ≠ j → M' a b = M a b) : LL (sU S j g) M' := by
  refine ⟨fun a b ha => ?_, fun k a b => ?_⟩
  · by_cases q : a = j
    · subst q
      rw [sU_eq]
      exact hg b
    · rw [sU_ne q, hr a b q]
      exact h.1 a b ha
  · rw [sU_ne (by omega), hr 18 k (by omega)]
    exact h.2 k a b
theorem LL.upd (h : LL S M) {j : Nat} (hj : j ≤ 14) (k v : Nat) : LL (sU S j (upd (S j) k (iN v))) (nP M j k v) := by
  refine h.row hj (fun b => ?_) (fun a b q => nP_r q b)
  rw [upd_get, nP_get]
  by_cases q : b = k
  · rw [if_pos q, if_pos ⟨rfl, q⟩]
  · rw [if_neg q, if_neg (fun z => q z.2), h.a hj]
theorem LL.put (h : LL S M) {j : Nat} (hj : j ≤ 14) {n : Nat} (hn : n < 2147483648) (hk : k < n) (v : Nat) : LL (sU S j (put_ n (S j) (iN k) (iN v))) (nP M j k v) := by
  rw [put_in hn hk]
  exact h.upd hj k v
theorem LL.raise (h : LL S M) {j : Nat} (hj : j ≤ 14) {n : Nat} (hn : n < 2147483648) (hk : k < n) : LL (sU S j (raise_ n (S j) (iN k))) (nP M j k (M j k + 1)) := by
  rw [raise_in hn hk, h.a hj, iN_s]
  exact h.upd hj k _
theorem LL.sf (h : LL S M) (k v : Nat) : LL (sF S k (iN v)) (nP M 18 k v) := by
  refine ⟨fun a b ha => ?_, fun b a1 a2 => ?_⟩
  · rw [sF_j _ _ _ (by omega), nP_r (by omega)]
    exact h.1 a b ha
  · by_cases q : b = k
    · subst q
      rw [sF_e, nP_e]
    · rw [sF_k _ _ q, nP_k _ q]
      exact h.2 b a1 a2
theorem LL.log (h : LL S M) (x y z : Int32) : LL (s_X1_add S x y z) M := by
  refine h.cong (fun j k hj => by rw [logAdd_j _ _ _ _ hj]) (fun k a b => ?_)
  unfold s_X1_add s_X1_add_L24 s_X1_add_L34 s_X1_add_L44
  split <;> simp (disch := omega) only [sF, sU_eq, sU_ne, upd_ne]
theorem LL.has (h : LL S M) (hc : M 18 2 ≤ 10) (ho : o < 2147483648) : v_X2_has S (iN o) = if o < M 18 2 then 1 else 0 := by
  unfold v_X2_has
  rw [if_neg (iN_neg ho), h.c]
  by_cases q : o < M 18 2
  · rw [if_pos q, if_pos ((iN_lt ho (by omega)).mpr q)]
  · rw [if_neg q, if_neg (fun z => q ((iN_lt ho (by omega)).mp z))]
theorem LL.hasT (h : LL S M) (hc : M 18 3 ≤ 3) (ht : t < 2147483648) : v_X8_has S (iN t) = if t < M 18 3 then 1 else 0 := by
  unfold v_X8_has
  rw [if_neg (iN_neg ht), h.tc]
  by_cases q : t < M 18 3
  · rw [if_pos q, if_pos ((iN_lt ht (by omega)).mpr q)]
  · rw [if_neg q, if_neg (fun z => q ((iN_lt ht (by omega)).mp z))]
theorem LL.isOpen (h : LL S M) (ho : o < 10) (h4 : M 4 o ≤ 1) : v_X2_isOpen S (iN o) = if M 4 o = 1 then 1 else 0 := by
  rw [v_isOpen ho, h.a (by decide)]
  by_cases q : M 4 o = 1
  · rw [if_pos q, q]
    rfl
  · rw [if_neg q, if_neg (show ¬ iN (M 4 o) = 1 from fun z => q ((iN_inj (b := 1) (by omega) (by decide)).mp z))]
theorem LL.behind (h : LL S M) (hc : M 18 2 ≤ 10) (ho : o < 10) : v_X2_behind S (iN o) = iN (nxt (M 18 2) o) := by
  unfold v_X2_behind nxt
  rw [h.c, iN_s]
  by_cases q : o + 1 < M 18 2
  · rw [if_pos q, if_pos ((iN_lt (by omega) (by omega)).mpr q)]
  · rw [if_neg q, if_neg (fun z => q ((iN_lt (by omega) (by omega)).mp z))]
    rfl
theorem LL.lengthOf (h : LL S M) (ho : o < 10) (hi : i < 6) : v_X2_lengthOf S (iN o) (iN i) = iN (M 9 (6 * o + i)) := by
  rw [v_lengthOf ho hi, h.a (by decide)]
theorem LL.toOf (h : LL S M) (ho : o < 10) (hi : i < 6) : v_X2_toOf S (iN o) (iN i) = iN (M 8 (6 * o + i)) := by
  rw [v_toOf ho hi, h.a (by decide)]
theorem LL.lenQL (h : LL S M) (ho : o < 10) (hw : M 7 o ≤ 6) : ∀ d k n, k + d = M 7 o → d < n → v_X2_lengthInQueue_L4 n S (iN o) (iN (nsum (fun i => M 9 (6 * o + i)) k)) (iN k) = iN (lenQ M o) := by
  intro d
  induction d with
  | zero =>
    intro k n e hn
    obtain ⟨n, rfl⟩ := some_succ hn
    rw [v_X2_lengthInQueue_L4, at_in (by decide) ho, h.a (by decide), show k = M 7 o by omega, if_neg (iN_nlt (by omega))]
    rfl
  | succ d ih =>
    intro k n e hn
    obtain ⟨n, rfl⟩ := some_succ hn
    rw [v_X2_lengthInQueue_L4, at_in (by decide) ho, h.a (by decide), if_pos (iN_ylt (by omega) (by omega)), h.lengthOf ho (by omega), iN_add, iN_s]
    exact ih (k + 1) n (by omega) (by omega)
theorem LL.lenq (h : LL S M) (ho : o < 10) (hw : M 7 o ≤ 6) : v_X2_lengthInQueue S (iN o) = iN (lenQ M o) :=
  h.lenQL ho hw (M 7 o) 0 (mu 0 + 1) (by omega) (by rw [mu_0]; omega)
theorem LL.lenAllL (h : LL S M) (hO : OI M) : ∀ d k n, k + d = M 18 2 → d < n → v_X2_lengthInAll_L4 n S (iN (nsum (lenQ M) k)) (iN k) = iN (nsum (lenQ M) (M 18 2)) := by
  have c10 := hO.c10
  intro d
  induction d with
  | zero =>
    intro k n e hn
    obtain ⟨n, rfl⟩ := some_succ hn
    rw [v_X2_lengthInAll_L4, h.c, show k = M 18 2 by omega, if_neg (iN_nlt (by omega))]
  | succ d ih =>
    intro k n e hn
    obtain ⟨n, rfl⟩ := some_succ hn
    rw [v_X2_lengthInAll_L4, h.c, if_pos (iN_ylt (by omega) (by omega)), h.lenq (by omega) (hO.w6 (by omega)), iN_add, iN_s]
    exact ih (k + 1) n (by omega) (by omega)
theorem LL.lenAll (h : LL S M) (hO : OI M) : v_X2_lengthInAll S = iN (nsum (lenQ M) (M 18 2)) := by
  have c10 := hO.c10
  exact h.lenAllL hO (M 18 2) 0 (mu 0 + 1) (by omega) (by rw [mu_0]; omega)
theorem LL.letAllL (h : LL S M) (c10 : M 18 2 ≤ 10) : ∀ d k n, k + d = M 18 2 → d < n → v_X2_lettersInAll_L4 n S (iN (nsum (M 7) k)) (iN k) = iN (nsum (M 7) (M 18 2)) := by
  intro d
  induction d with
  | zero =>
    intro k n e hn
    obtain ⟨n, rfl⟩ := some_succ hn
    rw [v_X2_lettersInAll_L4, h.c, show k = M 18 2 by omega, if_neg (iN_nlt (by omega))]
  | succ d ih =>
    intro k n e hn
    obtain ⟨n, rfl⟩ := some_succ hn
    rw [v_X2_lettersInAll_L4, h.c, if_pos (iN_ylt (by omega) (by omega)), at_in (by decide) (by omega), h.a (by decide), iN_add, iN_s]
    exact ih (k + 1) n (by omega) (by omega)
theorem LL.letAll (h : LL S M) (c10 : M 18 2 ≤ 10) : v_X2_lettersInAll S = iN (nsum (M 7) (M 18 2)) :=
  h.letAllL c10 (M 18 2) 0 (mu 0 + 1) (by omega) (by rw [mu_0]; omega)
theorem LL.openAllL (h : LL S M) (c10 : M 18 2 ≤ 10) : ∀ d k n, k + d = M 18 2 → d < n → v_X2_howManyOpen_L4 n S (iN (nsum (M 4) k)) (iN k) = iN (nsum (M 4) (M 18 2)) := by
  intro d
  induction d with
  | zero =>
    intro k n e hn
    obtain ⟨n, rfl⟩ := some_succ hn
    rw [v_X2_howManyOpen_L4, h.c, show k = M 18 2 by omega, if_neg (iN_nlt (by omega))]
  | succ d ih =>
    intro k n e hn
    obtain ⟨n, rfl⟩ := some_succ hn
    rw [v_X2_howManyOpen_L4, h.c, if_pos (iN_ylt (by omega) (by omega)), at_in (by decide) (by omega), h.a (by decide), iN_add, iN_s]
    exact ih (k + 1) n (by omega) (by omega)
theorem LL.openAll (h : LL S M) (c10 : M 18 2 ≤ 10) : v_X2_howManyOpen S = iN (nsum (M 4) (M 18 2)) :=
  h.openAllL c10 (M 18 2) 0 (mu 0 + 1) (by omega) (by rw [mu_0]; omega)
theorem LL.winL (h : LL S M) (hO : OI M) : ∀ d k n, k + d = M 18 2 → d < n → v_X2_openWithGreatestName_L5 n S (iO (winN M k)) (iN k) = iO (winN M (M 18 2)) := by
  have c10 := hO.c10
  intro d
  induction d with
  | zero =>
    intro k n e hn
    obtain ⟨n, rfl⟩ := some_succ hn
    rw [v_X2_openWithGreatestName_L5, h.c, show k = M 18 2 by omega, if_neg (iN_nlt (by omega))]
  | succ d ih =>
    intro k n e hn
    obtain ⟨n, rfl⟩ := some_succ hn
    have hk : k < M 18 2 := by omega
    have ih' := ih (k + 1) n (by omega) (by omega)
    rw [v_X2_openWithGreatestName_L5, h.c, if_pos (iN_ylt hk (by omega)), h.isOpen (by omega) (hO.op hk), iN_s]
    rw [winN] at ih'
    cases hw : winN M k with
    | none =>
      rw [hw] at ih'
      simp only at ih'
      by_cases q : M 4 k = 1
      · rw [if_pos q] at ih' ⊢
        rw [if_neg (show ¬ (1 : Int32) = 0 by decide), if_pos (show iO none = -2 from rfl)]
        exact ih'
      · rw [if_neg q] at ih' ⊢
        rw [if_pos rfl]
        exact ih'
    | some p =>
      rw [hw] at ih'
      simp only at ih'
      have hp := (winN_some k hw).1
      by_cases q : M 4 k = 1
      · rw [if_pos q, if_neg (show ¬ (1 : Int32) = 0 by decide), if_neg (show ¬ iO (some p) = -2 from iN_m2 (by omega))]
        rw [show iO (some p) = iN p from rfl, at_in (by decide) (by omega), at_in (by decide) (by omega), h.a (by decide), h.a (by decide)]
        have n1 := hO.nm hk
        have n2 := hO.nm (show p < M 18 2 by omega)
        by_cases q2 : M 3 p < M 3 k
        · rw [if_pos ⟨q, q2⟩] at ih'
          rw [if_pos ((iN_lt (by omega) (by omega)).mpr q2)]
          exact ih'
        · rw [if_neg (fun z => q2 z.2)] at ih'
          rw [if_neg (fun z => q2 ((iN_lt (by omega) (by omega)).mp z))]
          exact ih'
      · rw [if_neg (fun z => q z.1)] at ih'
        rw [if_neg q, if_pos rfl]
        exact ih'
theorem LL.win (h : LL S M) (hO : OI M) : v_X2_openWithGreatestName S = iO (winN M (M 18 2)) := by
  have c10 := hO.c10
  exact h.winL hO (M 18 2) 0 (mu 0 + 1) (by omega) (by rw [mu_0]; omega)
theorem LL.isAt (h : LL S M) (ht : t < 3) (h1 : M 12 t < 2147483648) (h2 : M 11 t < 2147483648) {x : Nat} (hx : x < 2147483648) : v_X8_isAt S (iN t) (iN x) = if M 12 t = 0 ∧ M 11 t = x then 1 else 0 := by
  unfold v_X8_isAt
  rw [at_in (by decide) ht, at_in (by decide) ht, h.a (by decide), h.a (by decide)]
  by_cases q : M 12 t = 0
  · rw [if_pos ((iN_0 h1).mpr q)]
    by_cases q2 : M 11 t = x
    · rw [if_pos (by rw [q2]), if_pos ⟨q, q2⟩]
    · rw [if_neg (fun z => q2 ((iN_inj h2 hx).mp z)), if_neg (fun z => q2 z.2)]
  · rw [if_neg (fun z => q ((iN_0 h1).mp z)), if_neg (fun z => q z.1)]
/-- small numbers in the rows of the tokens -/
def TS (M : NM) : Prop := M 18 3 ≤ 3 ∧ ∀ t, t < M 18 3 → M 11 t < 10 ∧ M 12 t ≤ 9 ∧ M 14 t ≤ 9 ∧ M 13 t ≤ 1000000000
theorem LL.standL (h : LL S M) (hT : TS M) {x : Nat} (hx : x < 2147483648) : ∀ d k n, k + d = M 18 3 → d < n → stN M x k = none → v_X8_standingAt_L2 n S (iN x) (iN k) = iO (stand M x) := by
  have t3 := hT.1
  intro d
  induction d with
  | zero =>
    intro k n e hn hk
    obtain ⟨n, rfl⟩ := some_succ hn
    rw [v_X8_standingAt_L2, h.tc, show k = M 18 3 by omega, if_neg (iN_nlt (by omega))]
    unfold stand
    rw [← show k = M 18 3 by omega, hk]
    rfl
  | succ d ih =>
    intro k n e hn hk
    obtain ⟨n, rfl⟩ := some_succ hn
    obtain ⟨a1, a2, -⟩ := hT.2 k (by omega)
    rw [v_X8_standingAt_L2, h.tc, if_pos (iN_ylt (by omega) (by omega)), h.isAt (by omega) (by omega) (by omega) hx, iN_s]
    by_cases q : M 12 k = 0 ∧ M 11 k = x
    · rw [if_pos q, if_neg (by decide)]
      have g : ∀ d2, k + 1 + d2 ≤ M 18 3 → stN M x (k + 1 + d2) = some k := by
        intro d2
        induction d2 with
        | zero =>
          intro _
          rw [Nat.add_zero, stN, hk]
          simp only [if_pos q]
        | succ d2 ih2 =>
          intro hd
          rw [← Nat.add_assoc, stN, ih2 (by omega)]
      have := g d (by omega)
      unfold stand
      rw [← show k + 1 + d = M 18 3 by omega, this]
      rfl
    · rw [if_neg q, if_pos rfl]
      refine ih (k + 1) n (by omega) (by omega) ?_
      rw [stN, hk]
      simp only [if_neg q]
theorem LL.std (h : LL S M) (hT : TS M) {x : Nat} (hx : x < 2147483648) : v_X8_standingAt S (iN x) = iO (stand M x) := by
  have t3 := hT.1
  exact h.standL hT hx (M 18 3) 0 (mu 0 + 1) (by omega) (by rw [mu_0]; omega) rfl
def leftN (M : NM) (x : Nat) : Nat := match stand M x with
  | none => 0
  | some t => M 14 t
theorem LL.leftAt (h : LL S M) (hT : TS M) {x : Nat} (hx : x < 2147483648) : v_X8_leftAt S (iN x) = iN (leftN M x) := by
  have t3 := hT.1
  unfold v_X8_leftAt leftN
  rw [h.std hT hx]
  cases hs : stand M x with
  | none => exact at_m2
  | some t =>
    have := (stN_some _ hs).1
    show at_ 3 (S 14) (iN t) = _
    rw [at_in (by decide) (by omega), h.a (by decide)]
theorem LL.toL15 (h : LL S M) (ho : o < 10) (hw : M 7 o ≤ 6) (hl : ∀ i, i < M 7 o → M 8 (6 * o + i) < 10) {x : Nat} (hx : x < 10) (a : Nat) (rc : Int32 → Int32 → Int32 → Int32) : ∀ d k n, k + d = M 7 o → d < n → v_X2_lettersTo_L15 rc n S (iN x) (iN (a + nsum (fun i => if M 8 (6 * o + i) = x then 1 else 0) k)) (iN o) (iN k) = rc (iN x) (iN (a + toQ M x o)) (iN (o + 1)) := by
  intro d
  induction d with
  | zero =>
    intro k n e hn
    obtain ⟨n, rfl⟩ := some_succ hn
    rw [v_X2_lettersTo_L15, at_in (by decide) ho, h.a (by decide), show k = M 7 o by omega, if_neg (iN_nlt (by omega)), iN_s]
    rfl
  | succ d ih =>
    intro k n e hn
    obtain ⟨n, rfl⟩ := some_succ hn
    have ih' := ih (k + 1) n (by omega) (by omega)
    have h8 := hl k (by omega)
    rw [nsum] at ih'
    rw [v_X2_lettersTo_L15, at_in (by decide) ho, h.a (by decide), if_pos (iN_ylt (by omega) (by omega)), h.toOf ho (by omega), iN_s, iN_s]
    by_cases q : M 8 (6 * o + k) = x
    · rw [if_pos (by rw [q])]
      rw [if_pos q] at ih'
      exact ih'
    · rw [if_neg (fun z => q ((iN_inj (by omega) (by omega)).mp z))]
      rw [if_neg q] at ih'
      exact ih'
theorem LL.toL (h : LL S M) (hO : OI M) {x : Nat} (hx : x < 10) : ∀ d k n, k + d = M 18 2 → d < n → v_X2_lettersTo_L4 n S (iN x) (iN (toN M x k)) (iN k) = iN (toN M x (M 18 2)) := by
  have c10 := hO.c10
  intro d
  induction d with
  | zero =>
    intro k n e hn
    obtain ⟨n, rfl⟩ := some_succ hn
    rw [v_X2_lettersTo_L4, h.c, show k = M 18 2 by omega, if_neg (iN_nlt (by omega))]
  | succ d ih =>
    intro k n e hn
    obtain ⟨n, rfl⟩ := some_succ hn
    have hw := hO.w6 (show k < M 18 2 by omega)
    rw [v_X2_lettersTo_L4, h.c, if_pos (iN_ylt (by omega) (by omega))]
    have z := h.toL15 (o := k) (by omega) hw (fun i hi => by have := (hO.let (show k < M 18 2 by omega) hi).1; omega) hx (toN M x k) (fun y1 y2 y3 => v_X2_lettersTo_L4 n S y1 y2 y3) (M 7 k) 0 (mu 0 + 1) (by omega) (by rw [mu_0]; omega)
    rw [show toN M x k + nsum (fun i => if M 8 (6 * k + i) = x then 1 else 0) 0 = toN M x k from rfl] at z
    exact z.trans (ih (k + 1) n (by omega) (by omega))
theorem LL.to_ (h : LL S M) (hO : OI M) {x : Nat} (hx : x < 10) : v_X2_lettersTo S (iN x) = iN (toN M x (M 18 2)) := by
  have c10 := hO.c10
  exact h.toL hO hx (M 18 2) 0 (mu 0 + 1) (by omega) (by rw [mu_0]; omega)
theorem LL.spkL (h : LL S M) (hT : TS M) : ∀ d k n, k + d = M 18 3 → d < n → v_X8_howManySpeak_L4 n S (iN (spkN M k)) (iN k) = iN (spkN M (M 18 3)) := by
  have t3 := hT.1
  intro d
  induction d with
  | zero =>
    intro k n e hn
    obtain ⟨n, rfl⟩ := some_succ hn
    rw [v_X8_howManySpeak_L4, h.tc, show k = M 18 3 by omega, if_neg (iN_nlt (by omega))]
  | succ d ih =>
    intro k n e hn
    obtain ⟨n, rfl⟩ := some_succ hn
    have ih' := ih (k + 1) n (by omega) (by omega)
    obtain ⟨a1, a2, a3, -⟩ := hT.2 k (by omega)
    rw [spkN, nsum] at ih'
    rw [v_X8_howManySpeak_L4, h.tc, if_pos (iN_ylt (by omega) (by omega)), at_in (by decide) (by omega), h.a (by decide), iN_s, iN_s]
    by_cases q : M 14 k = 0
    · rw [if_pos q] at ih'
      rw [if_neg (fun z => by have := (iN_pos (by omega)).mp z; omega)]
      exact ih'
    · rw [if_neg q] at ih'
      rw [if_pos ((iN_pos (by omega)).mpr (by omega))]
      exact ih'
theorem LL.spk (h : LL S M) (hT : TS M) : v_X8_howManySpeak S = iN (spkN M (M 18 3)) := by
  have t3 := hT.1
  exact h.spkL hT (M 18 3) 0 (mu 0 + 1) (by omega) (by rw [mu_0]; omega)
/-- is there a newer one, too -/
def FW (M : NM) (t : Nat) : Prop := M 12 t = 0 ∧ ∃ u, t < u ∧ u < M 18 3 ∧ M 12 u = 0 ∧ M 11 u = M 11 t
theorem LL.followL (h : LL S M) (hT : TS M) (ht : t < M 18 3) (h12 : M 12 t = 0) : ∀ d k n, k + d = M 18 3 → t < k → d < n → (∀ u, t < u → u < k → ¬ (M 12 u = 0 ∧ M 11 u = M 11 t)) → v_X8_isFollowedThere_L17 n S (iN t) (iN k) = 0 ∧ ¬ FW M t ∨ v_X8_isFollowedThere_L17 n S (iN t) (iN k) = 1 ∧ FW M t := by
  have t3 := hT.1
  intro d
  induction d with
  | zero =>
    intro k n e hk hn hu
    obtain ⟨n, rfl⟩ := some_succ hn
    rw [v_X8_isFollowedThere_L17, h.tc, show k = M 18 3 by omega, if_neg (iN_nlt (by omega))]
    refine Or.inl ⟨rfl, ?_⟩
    rintro ⟨-, u, a1, a2, a3, a4⟩
    exact hu u a1 (by omega) ⟨a3, a4⟩
  | succ d ih =>
    intro k n e hk hn hu
    obtain ⟨n, rfl⟩ := some_succ hn
    obtain ⟨a1, a2, -⟩ := hT.2 k (by omega)
    obtain ⟨b1, -⟩ := hT.2 t ht
    rw [v_X8_isFollowedThere_L17, h.tc, if_pos (iN_ylt (by omega) (by omega)), at_in (by decide) (show t < 3 by omega), h.a (by decide), h.isAt (by omega) (by omega) (by omega) (by omega), iN_s]
    by_cases q : M 12 k = 0 ∧ M 11 k = M 11 t
    · rw [if_pos q, if_neg (by decide)]
      exact Or.inr ⟨rfl, h12, k, hk, by omega, q.1, q.2⟩
    · rw [if_neg q, if_pos rfl]
      exact ih (k + 1) n (by omega) (by omega) (by omega) (fun u a b => by
        by_cases e : u = k
        · rw [e]
          exact q
        · exact hu u a (by omega))
theorem LL.follow (h : LL S M) (hT : TS M) (ht : t < M 18 3) : v_X8_isFollowedThere S (iN t) = 0 ∧ ¬ FW M t ∨ v_X8_isFollowedThere S (iN t) = 1 ∧ FW M t := by
  have t3 := hT.1
  obtain ⟨b1, b2, -⟩ := hT.2 t ht
  unfold v_X8_isFollowedThere
  rw [at_in (by decide) (show t < 3 by omega), h.a (by decide), iN_s]
  by_cases q : M 12 t = 0
  · rw [q, if_neg (show ¬ 0 < iN 0 by decide)]
    exact h.followL hT ht q (M 18 3 - (t + 1)) (t + 1) _ (by omega) (by omega) (by rw [mu_iN (by omega)]; omega) (fun u a b => absurd a (by omega))
  · rw [if_pos ((iN_pos (by omega)).mpr (by omega))]
    exact Or.inl ⟨rfl, fun z => q z.1⟩
theorem LL.followB (h : LL S M) (hT : TS M) (ht : M 18 3 ≤ t) (ht3 : t < 3) : v_X8_isFollowedThere S (iN t) = 0 := by
  unfold v_X8_isFollowedThere
  split
  · rfl
  · rw [iN_s, v_X8_isFollowedThere_L17, h.tc, if_neg (fun z => by have := (iN_lt (by omega) (by omega)).mp z; omega)]
/-- the first that stands anywhere -/
def fsN (M : NM) : Nat → Option Nat
  | 0 => none
  | k + 1 => match fsN M k with
    | some t => some t
    | none => if M 12 k = 0 then some k else none
theorem fsN_some {M : NM} {t : Nat} : ∀ k, fsN M k = some t → t < k ∧ M 12 t = 0 := by
  intro k
  induction k with
  | zero => intro h; cases h
  | succ k ih =>
    intro h
    rw [fsN] at h
    cases hs : fsN M k with
    | some u =>
      rw [hs] at h
      cases h
      obtain ⟨a, b⟩ := ih hs
      exact ⟨by omega, b⟩
    | none =>
      rw [hs] at h
      simp only at h
      by_cases q : M 12 k = 0
      · rw [if_pos q] at h
        cases h
        exact ⟨by omega, q⟩
      · rw [if_neg q] at h
        cases h
theorem fsN_mono {M : NM} {t k : Nat} (h : fsN M k = some t) : ∀ d, fsN M (k + d) = some t := by
  intro d
  induction d with
  | zero => exact h
  | succ d ih => rw [← Nat.add_assoc, fsN, ih]
theorem LL.fstL (h : LL S M) (hT : TS M) : ∀ d k n, k + d = M 18 3 → d < n → fsN M k = none → v_X8_firstStanding_L2 n S (iN k) = iO (fsN M (M 18 3)) := by
  have t3 := hT.1
  intro d
  induction d with
  | zero =>
    intro k n e hn hk
    obtain ⟨n, rfl⟩ := some_succ hn
    rw [v_X8_firstStanding_L2, h.tc, show k = M 18 3 by omega, if_neg (iN_nlt (by omega)), ← show k = M 18 3 by omega, hk]
    rfl
  | succ d ih =>
    intro k n e hn hk
    obtain ⟨n, rfl⟩ := some_succ hn
    obtain ⟨a1, a2, -⟩ := hT.2 k (by omega)
    rw [v_X8_firstStanding_L2, h.tc, if_pos (iN_ylt (by omega) (by omega)), at_in (by decide) (by omega), h.a (by decide), iN_s]
    by_cases q : M 12 k = 0
    · rw [if_pos ((iN_0 (by omega)).mpr q)]
      have z : fsN M (k + 1) = some k := by
        rw [fsN, hk]
        simp only [if_pos q]
      rw [← show k + 1 + d = M 18 3 by omega, fsN_mono z d]
      rfl
    · rw [if_neg (fun z => q ((iN_0 (by omega)).mp z))]
      refine ih (k + 1) n (by omega) (by omega) ?_
      rw [fsN, hk]
      simp only [if_neg q]
theorem LL.fst (h : LL S M) (hT : TS M) : v_X8_firstStanding S = iO (fsN M (M 18 3)) := by
  have t3 := hT.1
  exact h.fstL hT (M 18 3) 0 (mu 0 + 1) (by omega) (by rw [mu_0]; omega) rfl
theorem LL.takenL (h : LL S M) (hO : M 18 2 ≤ 10) (hn : ∀ o, o < M 18 2 → M 3 o ≤ 99) {v : Nat} (hv : v ≤ 99) : ∀ d k n, k + d = M 18 2 → d < n → (∀ o, o < k → M 3 o ≠ v) → (v_X2_isNameTaken_L2 n S (iN v) (iN k) = 0 ↔ ∀ o, o < M 18 2 → M 3 o ≠ v) := by
  intro d
  induction d with
  | zero =>
    intro k n e h0 hk
    obtain ⟨n, rfl⟩ := some_succ h0
    rw [v_X2_isNameTaken_L2, h.c, show k = M 18 2 by omega, if_neg (iN_nlt (by omega))]
    exact ⟨fun _ o ho => hk o (by omega), fun _ => rfl⟩
  | succ d ih =>
    intro k n e h0 hk
    obtain ⟨n, rfl⟩ := some_succ h0
    have := hn k (by omega)
    rw [v_X2_isNameTaken_L2, h.c, if_pos (iN_ylt (by omega) (by omega)), at_in (by decide) (by omega), h.a (by decide), iN_s]
    by_cases q : M 3 k = v
    · rw [if_pos (by rw [q])]
      exact ⟨fun z => absurd z (by decide), fun z => absurd q (z k (by omega))⟩
    · rw [if_neg (fun z => q ((iN_inj (by omega) (by omega)).mp z))]
      exact ih (k + 1) n (by omega) (by omega) (fun o ho => by
        by_cases e : o = k
        · rw [e]
          exact q
        · exact hk o (by omega))
theorem LL.taken (h : LL S M) (hO : M 18 2 ≤ 10) (hn : ∀ o, o < M 18 2 → M 3 o ≤ 99) {v : Nat} (hv : v ≤ 99) : v_X2_isNameTaken S (iN v) = 0 ↔ ∀ o, o < M 18 2 → M 3 o ≠ v :=
  h.takenL hO hn hv (M 18 2) 0 (mu 0 + 1) (by omega) (by rw [mu_0]; omega) (fun o ho => absurd ho (by omega))
theorem LL.inTurn (h : LL S M) (hp : p < 10) (ht : t < 3) (h0 : M 0 0 ≤ 1000000000) (h13 : M 13 t ≤ 1000000000) (h9 : M 9 (6 * p) ≤ 1000000000) : v_X6_fitsInTurn S (iN p) (iN t) = if M 9 (6 * p) + M 13 t ≤ M 0 0 then 1 else 0 := by
  unfold v_X6_fitsInTurn
  have e0 : at_ 3 (S 0) 0 = iN (M 0 0) := (at_in (i := 0) (by decide) (by decide)).trans (h.a (by decide) 0)
  rw [v_lengthOf0 hp, e0, at_in (by decide) ht, h.a (by decide), h.a (by decide)]
  have e1 : (iN (M 0 0) - iN (M 13 t)).toInt = (M 0 0 : Int) - (M 13 t : Int) := by
    rw [toInt_sub_of (by rw [iN_toInt (by omega), iN_toInt (by omega)]; omega) (by rw [iN_toInt (by omega), iN_toInt (by omega)]; omega), iN_toInt (by omega), iN_toInt (by omega)]
  have e2 : (iN (M 0 0) - iN (M 13 t) < iN (M 9 (6 * p))) ↔ ¬ (M 9 (6 * p) + M 13 t ≤ M 0 0) := by
    rw [Int32.lt_iff_toInt_lt, e1, iN_toInt (by omega)]
    omega
  by_cases q : M 9 (6 * p) + M 13 t ≤ M 0 0
  · rw [if_pos q, if_neg (fun z => e2.mp z q)]
  · rw [if_neg q, if_pos (e2.mpr q)]
theorem LL.inDay (h : LL S M) (hp : p < 10) (h0 : M 0 2 ≤ 1000000000) (h5 : M 5 p ≤ 1000000000) (h9 : M 9 (6 * p) ≤ 1000000000) : v_X6_fitsInDay S (iN p) = if M 9 (6 * p) + M 5 p ≤ M 0 2 then 1 else 0 := by
  unfold v_X6_fitsInDay
  have e0 : at_ 3 (S 0) 2 = iN (M 0 2) := (at_in (i := 2) (by decide) (by decide)).trans (h.a (by decide) 2)
  rw [v_lengthOf0 hp, e0, at_in (by decide) hp, h.a (by decide), h.a (by decide)]
  have e1 : (iN (M 0 2) - iN (M 5 p)).toInt = (M 0 2 : Int) - (M 5 p : Int) := by
    rw [toInt_sub_of (by rw [iN_toInt (by omega), iN_toInt (by omega)]; omega) (by rw [iN_toInt (by omega), iN_toInt (by omega)]; omega), iN_toInt (by omega), iN_toInt (by omega)]
  have e2 : (iN (M 0 2) - iN (M 5 p) < iN (M 9 (6 * p))) ↔ ¬ (M 9 (6 * p) + M 5 p ≤ M 0 2) := by
    rw [Int32.lt_iff_toInt_lt, e1, iN_toInt (by omega)]
    omega
  by_cases q : M 9 (6 * p) + M 5 p ≤ M 0 2
  · rw [if_pos q, if_neg (fun z => e2.mp z q)]
  · rw [if_neg q, if_pos (e2.mpr q)]
end LQ
