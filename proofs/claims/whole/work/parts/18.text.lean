-- PART 18: texts that are written: bytes, numbers, words
def wC : List Nat → SM → SM
  | [], E => E
  | b :: L, E => wC L (s_X7_add_p E (iN b))
def wM : List Nat → SM → Option SM
  | [], X => some X
  | b :: L, X => (o_X10_puts X (iN b)).bind (wM L)
def dgl (β f v : Nat) : Nat → List Nat
  | 0 => [f + v % β]
  | e + 1 => (f + v / β ^ (e + 1) % β) :: dgl β f v e
def Pg (n : Nat) (E X : SM) : Prop := n ≤ 1024 ∧ E 1 0 = iN n ∧ X 8 9 = iN n ∧ ∀ k, k < n → ∃ b, b < 128 ∧ E 0 k = iN b ∧ X 7 k = iN b
def PW (Y0 : RS) (X0 : SM) (n : Nat) (Y : RS) (X : SM) : Prop := Pg n (Y 3) X ∧ (∀ k, k ≠ 3 → Y k = Y0 k) ∧ (∀ j, j ≠ 7 → j ≠ 8 → X j = X0 j) ∧ ∀ k, k ≠ 9 → X 8 k = X0 8 k
def wdl : List (List Nat) := [[115, 112, 101, 97, 107], [113, 117, 105, 101, 116], [113, 117, 111, 116, 97], [111, 102, 102, 105, 99, 101], [115, 104, 117, 116], [108, 101, 116, 116, 101, 114], [116, 111, 107, 101, 110], [115, 112, 101, 97, 107, 32], [32, 113, 117, 105, 101, 116, 32], [32, 113, 117, 111, 116, 97, 32], [111, 102, 102, 105, 99, 101, 32], [32, 115, 104, 117, 116], [108, 101, 116, 116, 101, 114, 32], [116, 111, 107, 101, 110, 32]]
def wd (j : Nat) : List Nat := wdl.getD j []
theorem nar_b : ∀ b, b < 128 → vp_nar .byte (iN b).toInt8.toInt32 = iN b := by decide +kernel
theorem and_b : ∀ b, b < 128 → (iN b) &&& 255 = iN b := by decide +kernel
theorem wd_len : ∀ j, j < 14 → slen.getD j 0 = (wd j).length := by decide +kernel
theorem wd_ch : ∀ j, j < 14 → ∀ k, k < (wd j).length → sch j (iN k) = iN ((wd j).getD k 0) := by decide +kernel
theorem wd_all : ∀ j, j < 14 → ∀ b ∈ wd j, b < 128 := by decide +kernel
theorem wd_le : ∀ j, j < 14 → (wd j).length ≤ 7 := by decide +kernel
section TX
variable {c tc B k n d e v : Nat} {S : SM} {m : Nat → Int32} {E X X' X0 X1 X2 : SM} {Y Y' Y0 : RS} {o t i b : Nat} {L : List Nat}
theorem wM_app : ∀ (A L : List Nat) (X : SM), wM (A ++ L) X = (wM A X).bind (wM L) := by
  intro A
  induction A with
  | nil =>
    intro L X
    rfl
  | cons b A ih =>
    intro L X
    show (o_X10_puts X (iN b)).bind (wM (A ++ L)) = ((o_X10_puts X (iN b)).bind (wM A)).bind (wM L)
    cases o_X10_puts X (iN b) with
    | none => rfl
    | some z => exact ih L z
theorem wC_app : ∀ (A L : List Nat) (E : SM), wC (A ++ L) E = wC L (wC A E) := by
  intro A
  induction A with
  | nil =>
    intro L E
    rfl
  | cons b A ih =>
    intro L E
    exact ih L _
theorem wM_1 (b : Nat) (X : SM) : wM [b] X = o_X10_puts X (iN b) := by
  show (o_X10_puts X (iN b)).bind some = _
  cases o_X10_puts X (iN b) <;> rfl
theorem Pg.add (h : Pg n E X) (hn : n < 1024) (hb : b < 128) : ∃ X', o_X10_puts X (iN b) = some X' ∧ Pg (n + 1) (s_X7_add_p E (iN b)) X' ∧ (∀ j, j ≠ 7 → j ≠ 8 → X' j = X j) ∧ ∀ k, k ≠ 9 → X' 8 k = X 8 k := by
  obtain ⟨h1, h2, h3, h4⟩ := h
  have ec : s_X7_add_p E (iN b) = sU (sU E 0 (upd (E 0) n (iN b))) 1 (upd (E 1) 0 (iN (n + 1))) := by
    unfold s_X7_add_p s_X7_add_p_L31
    rw [h2, if_neg (iN_neg (by omega)), if_pos (show iN n < 1024 from iN_ylt (b := 1024) hn (by decide)), iN_nat (by omega), nar_b b hb, sU_ne (show (1 : Nat) ≠ 0 by decide), h2, iN_s]
  have em : o_X10_puts X (iN b) = some (sU (sU X 7 (upd (X 7) n (iN b))) 8 (upd (X 8) 9 (iN (n + 1)))) := by
    unfold o_X10_puts
    rw [h3, if_pos (gin_iN (by omega) (by omega)), iN_nat (by omega)]
    simp only [lt1]
    rw [sU_ne (show (8 : Nat) ≠ 7 by decide), h3, iN_s]
  refine ⟨_, em, ⟨by omega, ?_, ?_, fun k hk => ?_⟩, fun j a c => ?_, fun k a => ?_⟩
  · rw [ec, sU_eq, upd_eq]
  · rw [sU_eq, upd_eq]
  · rw [ec, sU_ne (show (0 : Nat) ≠ 1 by decide), sU_eq, sU_ne (show (7 : Nat) ≠ 8 by decide), sU_eq, upd_get, upd_get]
    by_cases q : k = n
    · rw [if_pos q, if_pos q]
      exact ⟨b, hb, rfl, rfl⟩
    · rw [if_neg q, if_neg q]
      exact h4 k (by omega)
  · rw [sU_ne c, sU_ne a]
  · rw [sU_eq, upd_ne a]
theorem Pg.wr : ∀ (L : List Nat) (n : Nat) (E X : SM), Pg n E X → (∀ b ∈ L, b < 128) → n + L.length ≤ 1024 → ∃ X', wM L X = some X' ∧ Pg (n + L.length) (wC L E) X' ∧ (∀ j, j ≠ 7 → j ≠ 8 → X' j = X j) ∧ ∀ k, k ≠ 9 → X' 8 k = X 8 k := by
  intro L
  induction L with
  | nil =>
    intro n E X h hb hn
    exact ⟨X, rfl, h, fun j a b => rfl, fun k a => rfl⟩
  | cons b L ih =>
    intro n E X h hb hn
    rw [List.length_cons] at hn
    obtain ⟨X1, e1, P1, f1, g1⟩ := h.add (by omega) (hb b List.mem_cons_self)
    obtain ⟨X2, e2, P2, f2, g2⟩ := ih (n + 1) _ X1 P1 (fun z hz => hb z (List.mem_cons_of_mem _ hz)) (by omega)
    refine ⟨X2, ?_, ?_, fun j a c => (f2 j a c).trans (f1 j a c), fun k a => (g2 k a).trans (g1 k a)⟩
    · show (o_X10_puts X (iN b)).bind (wM L) = _
      rw [e1, Option.bind_some, e2]
    · rw [List.length_cons, show n + (L.length + 1) = n + 1 + L.length by omega]
      exact P2
theorem PW.wr (h : PW Y0 X0 n Y X) (hb : ∀ b ∈ L, b < 128) (hn : n + L.length ≤ 1024) : ∃ X', wM L X = some X' ∧ PW Y0 X0 (n + L.length) (yU Y 3 (wC L (Y 3))) X' := by
  obtain ⟨h1, h2, h3, h4⟩ := h
  obtain ⟨X', e, P, f, g⟩ := Pg.wr L n _ X h1 hb hn
  refine ⟨X', e, ?_, fun k hk => (yU_ne hk).trans (h2 k hk), fun j a c => (f j a c).trans (h3 j a c), fun k a => (g k a).trans (h4 k a)⟩
  rw [yU_eq]
  exact P
theorem PW.put (h : PW Y0 X0 n Y X) (x : Int32) (hx : iN b = x) (hb : b < 128) (hn : n + 1 ≤ 1024) : ∃ X', o_X10_puts X x = some X' ∧ PW Y0 X0 (n + 1) (yU Y 3 (s_X7_add_p (Y 3) x)) X' := by
  subst hx
  obtain ⟨X', e, P⟩ := h.wr (L := [b]) (fun z hz => by
    rw [List.mem_singleton] at hz
    rw [hz]
    exact hb) hn
  rw [wM_1] at e
  exact ⟨X', e, P⟩
theorem PW.r0 (h : PW Y0 X0 n Y X) : X 0 = X0 0 := h.2.2.1 0 (by decide) (by decide)
theorem PW.y0 (h : PW Y0 X0 n Y X) : Y 0 = Y0 0 := h.2.1 0 (by decide)
theorem lg_ex : ∀ (β E v : Nat), v < β ^ (E + 1) → ∃ e, e ≤ E ∧ v < β ^ (e + 1) ∧ (e = 0 ∨ β ^ e ≤ v) := by
  intro β E
  induction E with
  | zero =>
    intro v h
    exact ⟨0, Nat.le_refl _, h, Or.inl rfl⟩
  | succ E ih =>
    intro v h
    by_cases q : v < β ^ (E + 1)
    · obtain ⟨e, h1, h2⟩ := ih v q
      exact ⟨e, by omega, h2⟩
    · exact ⟨E + 1, Nat.le_refl _, h, Or.inr (by omega)⟩
theorem dgl_len (β f v : Nat) : ∀ e, (dgl β f v e).length = e + 1 := by
  intro e
  induction e with
  | zero => rfl
  | succ e ih =>
    show (dgl β f v e).length + 1 = _
    rw [ih]
theorem dgl_b {β f : Nat} (v : Nat) (hβ : 0 < β) (hf : f + β ≤ 128) : ∀ e, ∀ b ∈ dgl β f v e, b < 128 := by
  intro e
  induction e with
  | zero =>
    intro b hb
    have hb' : b ∈ [f + v % β] := hb
    rw [List.mem_singleton] at hb'
    have := Nat.mod_lt v hβ
    omega
  | succ e ih =>
    intro b hb
    have hb' : b ∈ (f + v / β ^ (e + 1) % β) :: dgl β f v e := hb
    rcases List.mem_cons.mp hb' with z | z
    · have := Nat.mod_lt (v / β ^ (e + 1)) hβ
      omega
    · exact ih b z
/-- how many times the base is under 2^31 -/
theorem pow_b {β e : Nat} (h1 : 1 ≤ β) (h : β ^ e < 2147483648) : ∀ k, k ≤ e → β ^ k < 2147483648 := fun k hk => Nat.lt_of_le_of_lt (Nat.pow_le_pow_right h1 hk) h
theorem c_dig {v : Nat} (hv : v < 2147483648) : ∀ e (X : SM) n, 10 ^ e < 2147483648 → e + 1 < n → s_X7_addNumber_p_L5 n X (iN v) 1 (iN (10 ^ e)) = wC (dgl 10 48 v e) X := by
  intro e
  induction e with
  | zero =>
    intro X n he hn
    obtain ⟨n, rfl⟩ := some_succ hn
    obtain ⟨n, rfl⟩ : ∃ z, n = z + 1 := ⟨n - 1, by omega⟩
    rw [s_X7_addNumber_p_L5, if_pos (show 0 < iN (10 ^ 0) by decide), if_neg (show ¬ (1 : Int32) = 0 by decide), iN_div hv (by decide), show (10 : Int32) = iN 10 from rfl, iN_rem (by have := Nat.div_le_self v (10 ^ 0); omega) (by decide), show (48 : Int32) = iN 48 from rfl, iN_add, iN_div (by decide) (by decide), s_X7_addNumber_p_L5, if_neg (show ¬ 0 < iN (10 ^ 0 / 10) by decide), show v / 10 ^ 0 = v from Nat.div_one v]
    rfl
  | succ e ih =>
    intro X n he hn
    obtain ⟨n, rfl⟩ := some_succ hn
    have h10 : 10 ^ (e + 1) = 10 ^ e * 10 := Nat.pow_succ ..
    have hp : 0 < 10 ^ e := Nat.pow_pos (by decide)
    rw [s_X7_addNumber_p_L5, if_pos ((iN_pos he).mpr (by omega)), if_neg (show ¬ (1 : Int32) = 0 by decide), iN_div hv he, show (10 : Int32) = iN 10 from rfl, iN_rem (by have := Nat.div_le_self v (10 ^ (e + 1)); omega) (by decide), show (48 : Int32) = iN 48 from rfl, iN_add, iN_div he (by decide), show 10 ^ (e + 1) / 10 = 10 ^ e by omega, ih _ n (by omega) (by omega)]
    rfl
theorem c_num0 {v e0 : Nat} (hv : v < 2147483648) (h1 : v < 10 ^ (e0 + 1)) (h2 : e0 = 0 ∨ 10 ^ e0 ≤ v) : ∀ d e (X : SM) n, e = e0 + d → 10 ^ e < 2147483648 → e + 1 < n → s_X7_addNumber_p_L5 n X (iN v) 0 (iN (10 ^ e)) = wC (dgl 10 48 v e0) X := by
  intro d
  induction d with
  | zero =>
    intro e X n he hb hn
    obtain ⟨n, rfl⟩ := some_succ hn
    have hp : 0 < 10 ^ e := Nat.pow_pos (by decide)
    have ee : e = e0 := by omega
    subst ee
    have ed : s_X7_addNumber_p_L5 (n + 1) X (iN v) 1 (iN (10 ^ e)) = wC (dgl 10 48 v e) X := c_dig hv e X (n + 1) hb hn
    rw [s_X7_addNumber_p_L5, if_pos ((iN_pos hb).mpr hp), if_neg (show ¬ (1 : Int32) = 0 by decide)] at ed
    rw [s_X7_addNumber_p_L5, if_pos ((iN_pos hb).mpr hp), if_pos rfl]
    by_cases q : 0 < jrem (iN v / iN (10 ^ e)) 10
    · rw [if_pos q]
      exact ed
    · rw [if_neg q]
      rcases h2 with h2 | h2
      · subst h2
        rw [if_pos (show iN (10 ^ 0) = 1 from rfl)]
        exact ed
      · exfalso
        apply q
        have hq1 : 1 ≤ v / 10 ^ e := Nat.div_pos h2 hp
        have hq2 : v / 10 ^ e < 10 := Nat.div_lt_of_lt_mul (by rw [← Nat.pow_succ]; exact h1)
        rw [iN_div hv hb, show (10 : Int32) = iN 10 from rfl, iN_rem (by omega) (by decide)]
        exact (iN_pos (by omega)).mpr (by omega)
  | succ d ih =>
    intro e X n he hb hn
    obtain ⟨n, rfl⟩ := some_succ hn
    obtain ⟨e', rfl⟩ : ∃ z, e = z + 1 := ⟨e - 1, by omega⟩
    have h10 : 10 ^ (e' + 1) = 10 ^ e' * 10 := Nat.pow_succ ..
    have hp : 0 < 10 ^ e' := Nat.pow_pos (by decide)
    have hle : 10 ^ (e0 + 1) ≤ 10 ^ (e' + 1) := Nat.pow_le_pow_right (by decide) (by omega)
    rw [s_X7_addNumber_p_L5, if_pos ((iN_pos hb).mpr (by omega)), if_pos rfl, iN_div hv hb, Nat.div_eq_of_lt (show v < 10 ^ (e' + 1) by omega), if_neg (show ¬ 0 < jrem (iN 0) 10 by decide), if_neg (show ¬ iN (10 ^ (e' + 1)) = 1 from fun z => by have := (iN_inj (b := 1) hb (by decide)).mp z; omega), show (10 : Int32) = iN 10 from rfl, iN_div hb (by decide), show 10 ^ (e' + 1) / 10 = 10 ^ e' by omega]
    exact ih e' X n (by omega) (by omega) (by omega)
theorem c_num {v e0 : Nat} (he : e0 ≤ 8) (h1 : v < 10 ^ (e0 + 1)) (h2 : e0 = 0 ∨ 10 ^ e0 ≤ v) (X : SM) : s_X7_addNumber_p X (iN v) = wC (dgl 10 48 v e0) X := by
  have hv : v < 2147483648 := Nat.lt_of_lt_of_le h1 (Nat.le_trans (Nat.pow_le_pow_right (by decide) (show e0 + 1 ≤ 9 by omega)) (by decide))
  exact c_num0 hv h1 h2 (9 - e0) 9 X (Int32.toNatClampNeg 1000000000 + 1) (by omega) (by decide) (by decide)
theorem m_dig {v : Nat} (hv : v < 2147483648) : ∀ e (X : SM) n, 10 ^ e < 2147483648 → e + 1 < n → o_X10_putsNumber_L18 n X (iN v) (iN (10 ^ e)) = wM (dgl 10 48 v e) X := by
  intro e
  induction e with
  | zero =>
    intro X n he hn
    obtain ⟨n, rfl⟩ := some_succ hn
    obtain ⟨n, rfl⟩ : ∃ z, n = z + 1 := ⟨n - 1, by omega⟩
    have hin : ∀ r : SM, o_X10_putsNumber_L18 (n + 1) r (iN v) (iN (10 ^ 0) / 10) = some r := fun r => by
      rw [o_X10_putsNumber_L18, if_neg (show ¬ 0 < iN (10 ^ 0) / 10 by decide)]
    rw [o_X10_putsNumber_L18, if_pos (show 0 < iN (10 ^ 0) by decide), if_pos (show ¬ iN (10 ^ 0) = 0 by decide), iN_div hv (by decide), show (10 : Int32) = iN 10 from rfl, iN_rem (by have := Nat.div_le_self v (10 ^ 0); omega) (by decide), show (48 : Int32) = iN 48 from rfl, iN_add, show v / 10 ^ 0 = v from Nat.div_one v]
    exact congrArg (Option.bind _) (funext hin)
  | succ e ih =>
    intro X n he hn
    obtain ⟨n, rfl⟩ := some_succ hn
    have h10 : 10 ^ (e + 1) = 10 ^ e * 10 := Nat.pow_succ ..
    have hp : 0 < 10 ^ e := Nat.pow_pos (by decide)
    have hin : ∀ r : SM, o_X10_putsNumber_L18 n r (iN v) (iN (10 ^ (e + 1)) / iN 10) = wM (dgl 10 48 v e) r := fun r => by
      rw [iN_div he (by decide), show 10 ^ (e + 1) / 10 = 10 ^ e by omega]
      exact ih r n (by omega) (by omega)
    rw [o_X10_putsNumber_L18, if_pos ((iN_pos he).mpr (by omega)), if_pos (show ¬ iN (10 ^ (e + 1)) = 0 from fun z => by have := (iN_0 he).mp z; omega), iN_div hv he, show (10 : Int32) = iN 10 from rfl, iN_rem (by have := Nat.div_le_self v (10 ^ (e + 1)); omega) (by decide), show (48 : Int32) = iN 48 from rfl, iN_add]
    exact congrArg (Option.bind _) (funext hin)
theorem m_num0 {v e0 : Nat} (hv : v < 2147483648) (hb : 10 ^ (e0 + 1) < 2147483648) (h1 : v < 10 ^ (e0 + 1)) (h2 : e0 = 0 ∨ 10 ^ e0 ≤ v) (h8 : e0 ≤ 10) : ∀ d k (X : SM) n, k + d = e0 → d < n → o_X10_putsNumber_L2 n X (iN v) (iN (10 ^ k)) = wM (dgl 10 48 v e0) X := by
  intro d
  induction d with
  | zero =>
    intro k X n e hn
    obtain ⟨n, rfl⟩ := some_succ hn
    have ek : k = e0 := by omega
    subst ek
    have h10 : 10 ^ (k + 1) = 10 ^ k * 10 := Nat.pow_succ ..
    rw [o_X10_putsNumber_L2, show (10 : Int32) = iN 10 from rfl, iN_div hv (by decide), if_pos ((iN_lt (by omega) (by omega)).mpr (show v / 10 < 10 ^ k by omega))]
    exact m_dig hv k X 4000 (by omega) (by omega)
  | succ d ih =>
    intro k X n e hn
    obtain ⟨n, rfl⟩ := some_succ hn
    have h10 : 10 ^ (k + 1) = 10 ^ k * 10 := Nat.pow_succ ..
    have hle : 10 ^ (k + 1) ≤ 10 ^ e0 := Nat.pow_le_pow_right (by decide) (by omega)
    have hle2 : 10 ^ e0 ≤ 10 ^ (e0 + 1) := Nat.pow_le_pow_right (by decide) (by omega)
    have h2' : 10 ^ e0 ≤ v := h2.resolve_left (by omega)
    rw [o_X10_putsNumber_L2, show (10 : Int32) = iN 10 from rfl, iN_div hv (by decide), if_neg (show ¬ iN (v / 10) < iN (10 ^ k) from fun z => by have := (iN_lt (by omega) (by omega)).mp z; omega), iN_mul, ← h10]
    exact ih (k + 1) X n (by omega) (by omega)
theorem m_wdig {v : Nat} (hv : v < 2147483648) : ∀ e (X : SM) n, 27 ^ e < 2147483648 → e + 1 < n → o_X10_putsWord_L18 n X (iN v) (iN (27 ^ e)) = wM (dgl 27 96 v e) X := by
  intro e
  induction e with
  | zero =>
    intro X n he hn
    obtain ⟨n, rfl⟩ := some_succ hn
    obtain ⟨n, rfl⟩ : ∃ z, n = z + 1 := ⟨n - 1, by omega⟩
    have hin : ∀ r : SM, o_X10_putsWord_L18 (n + 1) r (iN v) (iN (27 ^ 0) / 27) = some r := fun r => by
      rw [o_X10_putsWord_L18, if_neg (show ¬ 0 < iN (27 ^ 0) / 27 by decide)]
    rw [o_X10_putsWord_L18, if_pos (show 0 < iN (27 ^ 0) by decide), if_pos (show ¬ iN (27 ^ 0) = 0 by decide), iN_div hv (by decide), show (27 : Int32) = iN 27 from rfl, iN_rem (by have := Nat.div_le_self v (27 ^ 0); omega) (by decide), show (96 : Int32) = iN 96 from rfl, iN_add, show v / 27 ^ 0 = v from Nat.div_one v]
    exact congrArg (Option.bind _) (funext hin)
  | succ e ih =>
    intro X n he hn
    obtain ⟨n, rfl⟩ := some_succ hn
    have h10 : 27 ^ (e + 1) = 27 ^ e * 27 := Nat.pow_succ ..
    have hp : 0 < 27 ^ e := Nat.pow_pos (by decide)
    have hin : ∀ r : SM, o_X10_putsWord_L18 n r (iN v) (iN (27 ^ (e + 1)) / iN 27) = wM (dgl 27 96 v e) r := fun r => by
      rw [iN_div he (by decide), show 27 ^ (e + 1) / 27 = 27 ^ e by omega]
      exact ih r n (by omega) (by omega)
    rw [o_X10_putsWord_L18, if_pos ((iN_pos he).mpr (by omega)), if_pos (show ¬ iN (27 ^ (e + 1)) = 0 from fun z => by have := (iN_0 he).mp z; omega), iN_div hv he, show (27 : Int32) = iN 27 from rfl, iN_rem (by have := Nat.div_le_self v (27 ^ (e + 1)); omega) (by decide), show (96 : Int32) = iN 96 from rfl, iN_add]
    exact congrArg (Option.bind _) (funext hin)
theorem m_wnum0 {v e0 : Nat} (hv : v < 2147483648) (hb : 27 ^ (e0 + 1) < 2147483648) (h1 : v < 27 ^ (e0 + 1)) (h2 : e0 = 0 ∨ 27 ^ e0 ≤ v) (h8 : e0 ≤ 10) : ∀ d k (X : SM) n, k + d = e0 → d < n → o_X10_putsWord_L2 n X (iN v) (iN (27 ^ k)) = wM (dgl 27 96 v e0) X := by
  intro d
  induction d with
  | zero =>
    intro k X n e hn
    obtain ⟨n, rfl⟩ := some_succ hn
    have ek : k = e0 := by omega
    subst ek
    have h10 : 27 ^ (k + 1) = 27 ^ k * 27 := Nat.pow_succ ..
    rw [o_X10_putsWord_L2, show (27 : Int32) = iN 27 from rfl, iN_div hv (by decide), if_pos ((iN_lt (by omega) (by omega)).mpr (show v / 27 < 27 ^ k by omega))]
    exact m_wdig hv k X 4000 (by omega) (by omega)
  | succ d ih =>
    intro k X n e hn
    obtain ⟨n, rfl⟩ := some_succ hn
    have h10 : 27 ^ (k + 1) = 27 ^ k * 27 := Nat.pow_succ ..
    have hle : 27 ^ (k + 1) ≤ 27 ^ e0 := Nat.pow_le_pow_right (by decide) (by omega)
    have hle2 : 27 ^ e0 ≤ 27 ^ (e0 + 1) := Nat.pow_le_pow_right (by decide) (by omega)
    have h2' : 27 ^ e0 ≤ v := h2.resolve_left (by omega)
    rw [o_X10_putsWord_L2, show (27 : Int32) = iN 27 from rfl, iN_div hv (by decide), if_neg (show ¬ iN (v / 27) < iN (27 ^ k) from fun z => by have := (iN_lt (by omega) (by omega)).mp z; omega), iN_mul, ← h10]
    exact ih (k + 1) X n (by omega) (by omega)
theorem m_num {v e0 : Nat} (he : e0 ≤ 8) (h1 : v < 10 ^ (e0 + 1)) (h2 : e0 = 0 ∨ 10 ^ e0 ≤ v) : o_X10_putsNumber X (iN v) = wM (dgl 10 48 v e0) X := by
  have hb : 10 ^ (e0 + 1) < 2147483648 := Nat.lt_of_le_of_lt (Nat.pow_le_pow_right (by decide) (show e0 + 1 ≤ 9 by omega)) (by decide)
  exact m_num0 (by omega) hb h1 h2 (by omega) e0 0 X 4000 (by omega) (by omega)
theorem m_word {v e0 : Nat} (he : e0 ≤ 5) (h1 : v < 27 ^ (e0 + 1)) (h2 : e0 = 0 ∨ 27 ^ e0 ≤ v) (X : SM) : o_X10_putsWord X (iN v) = wM (dgl 27 96 v e0) X := by
  have hb : 27 ^ (e0 + 1) < 2147483648 := Nat.lt_of_le_of_lt (Nat.pow_le_pow_right (by decide) (show e0 + 1 ≤ 6 by omega)) (by decide)
  exact m_wnum0 (by omega) hb h1 h2 (by omega) e0 0 X 4000 (by omega) (by omega)
theorem mw_speak (X : SM) : o_X10_putsWord X 10415990 = wM [115, 112, 101, 97, 107] X := m_word (v := 10415990) (e0 := 4) (by decide) (by decide) (Or.inr (by decide)) X
theorem mw_quiet (X : SM) : o_X10_putsWord X 9454556 = wM [113, 117, 105, 101, 116] X := m_word (v := 9454556) (e0 := 4) (by decide) (by decide) (Or.inr (by decide)) X
theorem mw_quota (X : SM) : o_X10_putsWord X 9459316 = wM [113, 117, 111, 116, 97] X := m_word (v := 9459316) (e0 := 4) (by decide) (by decide) (Or.inr (by decide)) X
theorem mw_office (X : SM) : o_X10_putsWord X 218546996 = wM [111, 102, 102, 105, 99, 101] X := m_word (v := 218546996) (e0 := 5) (by decide) (by decide) (Or.inr (by decide)) X
theorem mw_shut (X : SM) : o_X10_putsWord X 380396 = wM [115, 104, 117, 116] X := m_word (v := 380396) (e0 := 3) (by decide) (by decide) (Or.inr (by decide)) X
theorem mw_letter (X : SM) : o_X10_putsWord X 175252482 = wM [108, 101, 116, 116, 101, 114] X := m_word (v := 175252482) (e0 := 5) (by decide) (by decide) (Or.inr (by decide)) X
theorem mw_token (X : SM) : o_X10_putsWord X 10932233 = wM [116, 111, 107, 101, 110] X := m_word (v := 10932233) (e0 := 4) (by decide) (by decide) (Or.inr (by decide)) X
theorem PW.num (h : PW Y0 X0 n Y X) {d : Nat} (hd : d ≤ 8) (hv : v < 10 ^ (d + 1)) (hn : n + d + 1 ≤ 1024) : ∃ X' j, j ≤ d + 1 ∧ o_X10_putsNumber X (iN v) = some X' ∧ PW Y0 X0 (n + j) (yU Y 3 (s_X7_addNumber_p (Y 3) (iN v))) X' := by
  obtain ⟨e0, h1, h2, h3⟩ := lg_ex 10 d v hv
  have hl := dgl_len 10 48 v e0
  obtain ⟨X', e, P⟩ := h.wr (L := dgl 10 48 v e0) (dgl_b v (by decide) (by decide) e0) (by omega)
  rw [hl] at P
  refine ⟨X', e0 + 1, by omega, ?_, ?_⟩
  · rw [m_num (by omega) h2 h3, e]
  · rw [c_num (by omega) h2 h3]
    exact P
theorem c_wordL {j : Nat} (hj : j < 14) : ∀ d k (X : SM) n, k + d = (wd j).length → d < n → s_X7_addWord_p_L2 n X j (iN k) = wC ((wd j).drop k) X := by
  have hl := wd_le j hj
  intro d
  induction d with
  | zero =>
    intro k X n e hn
    obtain ⟨n, rfl⟩ := some_succ hn
    rw [s_X7_addWord_p_L2, wd_len j hj, if_neg (show ¬ iN k < Int32.ofNat (wd j).length from fun z => by have := (iN_lt (by omega) (by omega)).mp z; omega), List.drop_eq_nil_of_le (by omega)]
    rfl
  | succ d ih =>
    intro k X n e hn
    obtain ⟨n, rfl⟩ := some_succ hn
    have hk : k < (wd j).length := by omega
    rw [s_X7_addWord_p_L2, wd_len j hj, if_pos (show iN k < Int32.ofNat (wd j).length from iN_ylt hk (by omega)), wd_ch j hj k hk, iN_s, ih (k + 1) _ n (by omega) (by omega), List.drop_eq_getElem_cons hk, show (wd j).getD k 0 = (wd j)[k] by rw [List.getD_eq_getElem?_getD, List.getElem?_eq_getElem hk, Option.getD_some]]
    rfl
theorem c_word {j : Nat} (hj : j < 14) (X : SM) : s_X7_addWord_p X j = wC (wd j) X := by
  have hl := wd_le j hj
  exact c_wordL hj (wd j).length 0 X (mu 0 + 1) (by omega) (by rw [mu_0]; omega)
theorem e_with {x : Int32} (ep : o_X10_puts X x = some X1) {y : Int32} (en : o_X10_putsNumber X1 y = some X2) : o_X10_putsWith X x y = some X2 := by
  unfold o_X10_putsWith
  rw [ep, Option.bind_some, en, Option.bind_some]
theorem e_rule {w y : Int32} {A : List Nat} (eo : o_X10_putsWord X w = wM A X) (e : wM (A ++ [32]) X = some X1) (en : o_X10_putsNumber X1 y = some X2) : o_X10_putsRule X w y = some X2 := by
  rw [wM_app] at e
  unfold o_X10_putsRule
  rw [eo]
  cases hz : wM A X with
  | none =>
    rw [hz] at e
    exact nomatch e
  | some z =>
    rw [hz, Option.bind_some, wM_1] at e
    have e' : o_X10_puts z 32 = some X1 := e
    rw [Option.bind_some, e_with e' en, Option.bind_some]
theorem PW.word (h : PW Y0 X0 n Y X) {j : Nat} (hj : j < 14) {l : Nat} (hl : (wd j).length = l) (hn : n + l ≤ 1024) : ∃ X', wM (wd j) X = some X' ∧ PW Y0 X0 (n + l) (yU Y 3 (s_X7_addWord_p (Y 3) j)) X' := by
  subst hl
  rw [c_word hj]
  exact h.wr (wd_all j hj) hn
/-- a word with a space ahead: the space by itself in the reference -/
theorem PW.word2 (h : PW Y0 X0 n Y X) {j : Nat} (hj : j < 14) {A : List Nat} (hA : wd j = 32 :: A) {l : Nat} (hl : (wd j).length = l) (hn : n + l ≤ 1024) : ∃ Xa, o_X10_puts X 32 = some Xa ∧ Xa 0 = X0 0 ∧ ∃ X', wM A Xa = some X' ∧ PW Y0 X0 (n + l) (yU Y 3 (s_X7_addWord_p (Y 3) j)) X' := by
  have hl2 : l = A.length + 1 := by
    rw [← hl, hA]
    rfl
  obtain ⟨X', e, P⟩ := h.word hj hl hn
  obtain ⟨Xa, ea, Pa⟩ := h.put 32 (b := 32) rfl (by decide) (by omega)
  refine ⟨Xa, ea, Pa.r0, X', ?_, P⟩
  rw [hA] at e
  have e' : (o_X10_puts X 32).bind (wM A) = some X' := e
  rw [ea, Option.bind_some] at e'
  exact e'
end TX
