-- PART 38: the calls that look ahead; the operations of the object
/-- r is the first number up to mx of which P holds, or -2 -/
def FR (P : Nat → Prop) (mx : Nat) (r : Int32) : Prop := (r = -2 ∧ ∀ k, k ≤ mx → ¬ P k) ∨ ∃ k, k ≤ mx ∧ r = iN k ∧ P k ∧ ∀ i, i < k → ¬ P i
/-- no letter is left behind k minutes -/
def DO (N : NM) (k : Nat) : Prop := nsum (miI N k 7) (miI N k 18 2) = 0
def CO (N : NM) (o k : Nat) : Prop := stand (miI N k) o ≠ none
/-- what a call does: it answers something, or it leaves all as it was -/
def Dn (B : Nat) (Y : RS) (r : Int32 × RS) : Prop := (¬ r.1 < 0 ∨ r.2 0 = Y 0) ∧ ∃ M', St (B + 600) r.2 M'
section RO8
variable {S S' : SM} {M N M' : NM} {Y Y' Z : RS} {B B' o p i t k v : Nat}
theorem doneL (hN : LL S N) (hI : Inv B N) (hB : B ≤ 1000000) {mx : Nat} (hm : mx ≤ 900) : ∀ d j (Y : RS) n, j + d = mx + 1 → d < n → Y 1 = pmI S j → (∀ i, i < j → ¬ DO N i) → FR (DO N) mx (p_X9_triedUntilDone_L2 n Y (iN mx) (iN j)).1 ∧ SC Y (p_X9_triedUntilDone_L2 n Y (iN mx) (iN j)).2 := by
  intro d
  induction d with
  | zero =>
    intro j Y n e hn hY hP
    obtain ⟨n, rfl⟩ := some_succ hn
    rw [p_X9_triedUntilDone_L2, if_pos (iN_ylt (by omega) (by omega))]
    exact ⟨Or.inl ⟨rfl, fun i hi => hP i (by omega)⟩, fun k _ => rfl⟩
  | succ d ih =>
    intro j Y n e hn hY hP
    obtain ⟨n, rfl⟩ := some_succ hn
    have hL := hN.mins hI hB j (by omega)
    have hO := (miI_inv hI j).1.1
    have c10 := hO.c10
    have hs : nsum (miI N j 7) (miI N j 18 2) ≤ miI N j 18 2 * 6 := nsum_le _ (fun i hi => hO.w6 hi)
    rw [p_X9_triedUntilDone_L2, if_neg (fun z => by have := (iN_lt (by omega) (by omega)).mp z; omega), hY, hL.letAll c10]
    by_cases q : DO N j
    · rw [if_pos ((iN_0 (by omega)).mpr q)]
      exact ⟨Or.inr ⟨j, by omega, rfl, q, hP⟩, fun k _ => rfl⟩
    · rw [if_neg (fun z => q ((iN_0 (by omega)).mp z)), iN_s]
      obtain ⟨z1, z2⟩ := ih (j + 1) (yU Y 1 (s_X6_passMinute (pmI S j))) n (by omega) (by omega) (yU_eq _ _ _) (fun i hi => by
        by_cases e : i = j
        · rw [e]; exact q
        · exact hP i (by omega))
      exact ⟨z1, (SC.dr _ _).tr z2⟩
theorem doneT (h1 : LL (Y 1) N) (hI : Inv B N) (hB : B ≤ 1000000) {mx : Nat} (hm : mx ≤ 900) : FR (DO N) mx (p_X9_triedUntilDone Y (iN mx)).1 ∧ SC Y (p_X9_triedUntilDone Y (iN mx)).2 :=
  doneL h1 hI hB hm (mx + 1) 0 Y (mu 0 + 1) (by omega) (by rw [mu_0]; omega) rfl (fun i hi => absurd hi (by omega))
/-- doneIn() -/
theorem St.doneIn (h : St B Y M) (hB : B ≤ 1000000) : FR (DO M) 500 (p_X9_doneIn Y).1 ∧ SC Y (p_X9_doneIn Y).2 := by
  unfold p_X9_doneIn p_X9_doneIn_L11
  obtain ⟨z1, z2⟩ := doneT (Y := yU Y 1 (Y 0)) (by rw [yU_eq]; exact h.1) h.2.1 hB (mx := 500) (by decide)
  exact ⟨z1, (SC.dr _ _).tr z2⟩
theorem comL (hN : LL S N) (hI : Inv B N) (hB : B ≤ 1000000) (ho : o < 10) : ∀ d j (Y : RS) n, j + d = 301 → d < n → Y 1 = pmI S j → (∀ i, i < j → ¬ CO N o i) → FR (CO N o) 300 (p_X9_comesIn_L29 n Y (iN o) (iN j)).1 ∧ SC Y (p_X9_comesIn_L29 n Y (iN o) (iN j)).2 := by
  intro d
  induction d with
  | zero =>
    intro j Y n e hn hY hP
    obtain ⟨n, rfl⟩ := some_succ hn
    rw [p_X9_comesIn_L29, if_pos (show (300 : Int32) < iN j from iN_ylt (a := 300) (by omega) (by omega))]
    exact ⟨Or.inl ⟨rfl, fun i hi => hP i (by omega)⟩, fun k _ => rfl⟩
  | succ d ih =>
    intro j Y n e hn hY hP
    obtain ⟨n, rfl⟩ := some_succ hn
    have hL := hN.mins hI hB j (by omega)
    have hi := (miI_inv hI j).1
    have t3 := hi.2.1.1
    rw [p_X9_comesIn_L29, if_neg (fun z => by have := (iN_lt (a := 300) (by omega) (by omega)).mp z; omega), hY, hL.std (TS.inv hi (by omega)) (by omega)]
    cases hs : stand (miI N j) o with
    | none =>
      rw [if_pos (show iO none = -2 from rfl), iN_s]
      obtain ⟨z1, z2⟩ := ih (j + 1) (yU Y 1 (s_X6_passMinute (pmI S j))) n (by omega) (by omega) (yU_eq _ _ _) (fun i hi => by
        by_cases e : i = j
        · rw [e]
          exact fun w => w hs
        · exact hP i (by omega))
      exact ⟨z1, (SC.dr _ _).tr z2⟩
    | some t =>
      have ht := (stN_some _ hs).1
      rw [if_neg (show ¬ iO (some t) = -2 from iN_m2 (by omega))]
      exact ⟨Or.inr ⟨j, by omega, rfl, (fun w => by rw [hs] at w; cases w), hP⟩, fun k _ => rfl⟩
/-- comesIn() -/
theorem St.comesIn (h : St B Y M) (hB : B ≤ 1000000) (ho : o < M 18 2) : FR (CO M o) 300 (p_X9_comesIn Y (iN o)).1 ∧ SC Y (p_X9_comesIn Y (iN o)).2 := by
  have c10 := h.2.1.1.c10
  unfold p_X9_comesIn p_X9_comesIn_L27
  rw [h.1.has c10 (by omega), if_pos ho, if_neg (by decide)]
  obtain ⟨z1, z2⟩ := comL h.1 h.2.1 hB (show o < 10 by omega) 301 0 (yU Y 1 (Y 0)) (mu 0 + 1) (by omega) (by rw [mu_0]; omega) (yU_eq _ _ _) (fun i hi => absurd hi (by omega))
  exact ⟨z1, (SC.dr _ _).tr z2⟩
theorem nP_self (M : NM) (j k : Nat) : nP M j k (M j k) = M := by
  funext a b
  rw [nP_get]
  by_cases q : a = j ∧ b = k
  · rw [if_pos q, q.1, q.2]
  · rw [if_neg q]
/-- with the QUOTA q all letters are gone behind at most k minutes -/
def QO (M : NM) (k q : Nat) : Prop := ∃ i, i ≤ k ∧ DO (nP M 0 2 q) i
theorem quoL {k0 : Nat} (hk0 : k0 ≤ 500) (hB : B ≤ 1000000) : ∀ d q (Y : RS) n, St B Y M → q + d = 61 → 1 ≤ q → d < n → (∀ q', 1 ≤ q' → q' < q → ¬ QO M k0 q') → (∃ q', 1 ≤ q' ∧ q' ≤ 60 ∧ QO M k0 q') → (∃ q1, 1 ≤ q1 ∧ q1 ≤ 60 ∧ (p_X9_leastQuota_L30 n Y (iN k0) (iN q)).1 = iN q1 ∧ QO M k0 q1 ∧ ∀ q', 1 ≤ q' → q' < q1 → ¬ QO M k0 q') ∧ SC Y (p_X9_leastQuota_L30 n Y (iN k0) (iN q)).2 := by
  intro d
  induction d with
  | zero =>
    intro q Y n h e h1 hn hP hE
    obtain ⟨q', a, b, c⟩ := hE
    exact absurd c (hP q' a (by omega))
  | succ d ih =>
    intro q Y n h e h1 hn hP hE
    obtain ⟨n, rfl⟩ := some_succ hn
    rw [p_X9_leastQuota_L30, if_neg (fun z => by have := (iN_lt (a := 60) (by omega) (by omega)).mp z; omega)]
    unfold p_X9_leastQuota_L47 p_X9_leastQuota_L59 p_X9_leastQuota_L64
    rw [yU_eq, yU_yU]
    have hL : LL ((yU Y 1 (sU (Y 0) 0 (put_ 3 (Y 0 0) 2 (iN q)))) 1) (nP M 0 2 q) := by
      rw [yU_eq]
      exact h.1.rule (a := 2) (by decide) q
    have hI : Inv B (nP M 0 2 q) := h.2.1.rule (Or.inr (Or.inr ⟨rfl, by omega⟩)) h1
    obtain ⟨z1, z2⟩ := doneT hL hI hB (mx := k0) (by omega)
    generalize p_X9_triedUntilDone (yU Y 1 (sU (Y 0) 0 (put_ 3 (Y 0 0) 2 (iN q)))) (iN k0) = r at z1 z2 ⊢
    have hs : SC Y r.2 := (SC.dr _ _).tr z2
    rcases z1 with ⟨y1, y2⟩ | ⟨k, y1, y2, y3, y4⟩
    · rw [if_pos y1, iN_s]
      obtain ⟨x1, x2⟩ := ih (q + 1) r.2 n (SC.st h hs) (by omega) (by omega) (by omega) (fun q' a b => by
        by_cases e : q' = q
        · rw [e]
          rintro ⟨i, i1, i2⟩
          exact y2 i i1 i2
        · exact hP q' a (by omega)) hE
      exact ⟨x1, hs.tr x2⟩
    · rw [if_neg (by rw [y2]; exact iN_m2 (by omega))]
      exact ⟨⟨q, h1, by omega, rfl, ⟨k, y1, y3⟩, hP⟩, hs⟩
/-- leastQuota() -/
theorem St.leastQuota (h : St B Y M) (hB : B ≤ 1000000) : (((p_X9_leastQuota Y).1 = -2 ∧ ∀ k, k ≤ 500 → ¬ DO M k) ∨ ∃ k0 q, k0 ≤ 500 ∧ DO M k0 ∧ (∀ i, i < k0 → ¬ DO M i) ∧ 1 ≤ q ∧ q ≤ 60 ∧ (p_X9_leastQuota Y).1 = iN q ∧ QO M k0 q ∧ ∀ q', 1 ≤ q' → q' < q → ¬ QO M k0 q') ∧ SC Y (p_X9_leastQuota Y).2 := by
  obtain ⟨-, -, -, -, -, -, -, -, -, hr1, hr2⟩ := h.2.1
  unfold p_X9_leastQuota p_X9_leastQuota_L11 p_X9_leastQuota_L18
  obtain ⟨z1, z2⟩ := doneT (Y := yU Y 1 (Y 0)) (by rw [yU_eq]; exact h.1) h.2.1 hB (mx := 500) (by decide)
  have z1' : FR (DO M) 500 (p_X9_triedUntilDone (yU Y 1 (Y 0)) 500).1 := z1
  have z2' : SC (yU Y 1 (Y 0)) (p_X9_triedUntilDone (yU Y 1 (Y 0)) 500).2 := z2
  generalize p_X9_triedUntilDone (yU Y 1 (Y 0)) 500 = r at z1' z2' ⊢
  have hs : SC Y r.2 := (SC.dr _ _).tr z2'
  rcases z1' with ⟨y1, y2⟩ | ⟨k, y1, y2, y3, y4⟩
  · rw [if_pos y1]
    exact ⟨Or.inl ⟨rfl, y2⟩, hs⟩
  · rw [if_neg (by rw [y2]; exact iN_m2 (by omega)), y2]
    have hq : QO M k (M 0 2) := ⟨k, Nat.le_refl _, by rw [nP_self]; exact y3⟩
    obtain ⟨⟨q1, w1, w2, w3, w4, w5⟩, x2⟩ := quoL (M := M) y1 hB 60 1 r.2 (mu 1 + 1) (SC.st h hs) (by omega) (by omega) (by rw [show mu 1 = 2147483646 from rfl]; omega) (fun q' a b => by omega) ⟨M 0 2, h.2.1.2.2.2.2.2.2.2.2.2.1, h.2.1.2.2.2.2.2.2.2.2.2.2, hq⟩
    exact ⟨Or.inr ⟨k, q1, y1, y3, y4, w1, w2, w3, w4, w5⟩, hs.tr x2⟩
/-- what would be read with another SPEAK -/
noncomputable def rdS (M : NM) (m s : Nat) : Nat := miI (nP M 0 0 s) m 1 1 - M 1 1
theorem bestL {m : Nat} (hm : m ≤ 300) (hB : B ≤ 1000000) : ∀ d s (Y : RS) n b, St B Y M → s + d = 21 → d < n → ((s = 1 ∧ b = 1) ∨ (1 ≤ b ∧ b < s ∧ ∀ i, 1 ≤ i → i < s → rdS M m i ≤ rdS M m b ∧ (i < b → rdS M m i < rdS M m b))) → 1 ≤ s → (∃ b1, 1 ≤ b1 ∧ b1 ≤ 20 ∧ (p_X9_bestSpeak_L17 n Y (iN m) (iN b) (if s = 1 then -1 else iN (rdS M m b)) (iN s)).1 = iN b1 ∧ ∀ i, 1 ≤ i → i ≤ 20 → rdS M m i ≤ rdS M m b1 ∧ (i < b1 → rdS M m i < rdS M m b1)) ∧ SC Y (p_X9_bestSpeak_L17 n Y (iN m) (iN b) (if s = 1 then -1 else iN (rdS M m b)) (iN s)).2 := by
  intro d
  induction d with
  | zero =>
    intro s Y n b h e hn hb h1
    obtain ⟨n, rfl⟩ := some_succ hn
    rw [p_X9_bestSpeak_L17, if_pos (show (20 : Int32) < iN s from iN_ylt (a := 20) (by omega) (by omega))]
    rcases hb with hb | ⟨b1, b2, b3⟩
    · omega
    · exact ⟨⟨b, b1, by omega, rfl, fun i i1 i2 => b3 i i1 (by omega)⟩, fun k _ => rfl⟩
  | succ d ih =>
    intro s Y n b h e hn hb h1
    obtain ⟨n, rfl⟩ := some_succ hn
    rw [p_X9_bestSpeak_L17, if_neg (fun z => by have := (iN_lt (a := 20) (by omega) (by omega)).mp z; omega)]
    unfold p_X9_bestSpeak_L35 p_X9_bestSpeak_L48 p_X9_bestSpeak_L54
    rw [yU_eq, yU_yU]
    have hI : Inv B (nP M 0 0 s) := h.2.1.rule (Or.inl ⟨rfl, by omega⟩) h1
    have h0 : LL ((yU Y 1 (sU (Y 0) 0 (put_ 3 (Y 0 0) 0 (iN s)))) 0) M := by rw [yU_ne (by decide)]; exact h.1
    have hL : LL ((yU Y 1 (sU (Y 0) 0 (put_ 3 (Y 0 0) 0 (iN s)))) 1) (nP M 0 0 s) := by
      rw [yU_eq]
      exact h.1.rule (a := 0) (by decide) s
    have ht : p_X9_triedMinutes (yU Y 1 (sU (Y 0) 0 (put_ 3 (Y 0 0) 0 (iN s)))) (iN m) 0 = _ := tried h0 hL hI hB (m := m) (w := 0) (by omega) (by decide)
    obtain ⟨i1, i2, i3⟩ := miI_inv hI m
    have i2' : M 1 1 ≤ miI (nP M 0 0 s) m 1 1 := by rw [nP_r (by decide)] at i2; exact i2
    have ub := i1.2.2.2.1.2.2.2.1
    have ub2 : ∀ i, 1 ≤ i → i ≤ 20 → rdS M m i < 2147483648 := fun i a1 a2 => by
      have hI2 : Inv B (nP M 0 0 i) := h.2.1.rule (Or.inl ⟨rfl, by omega⟩) a1
      have := (miI_inv hI2 m).1.2.2.2.1.2.2.2.1
      unfold rdS
      omega
    have er : toN5 M (nP M 0 0 s) m 0 = iN (rdS M m s) := by
      unfold toN5 rdS
      rw [if_neg (by decide)]
      exact iN_sub i2'
    rw [ht, er]
    generalize hZ : yU (yU Y 1 (sU (Y 0) 0 (put_ 3 (Y 0 0) 0 (iN s)))) 1 (pmI ((yU Y 1 (sU (Y 0) 0 (put_ 3 (Y 0 0) 0 (iN s)))) 1) m) = Z
    have hs : SC Y Z := by rw [← hZ]; exact (SC.dr _ _).tr (SC.dr _ _)
    have hZt := SC.st h hs
    show (∃ b1, 1 ≤ b1 ∧ b1 ≤ 20 ∧ (if (if s = 1 then -1 else iN (rdS M m b)) < iN (rdS M m s) then p_X9_bestSpeak_L17 n Z (iN m) (iN s) (iN (rdS M m s)) (iN s + 1) else p_X9_bestSpeak_L17 n Z (iN m) (iN b) (if s = 1 then -1 else iN (rdS M m b)) (iN s + 1)).1 = iN b1 ∧ _) ∧ SC Y (if (if s = 1 then -1 else iN (rdS M m b)) < iN (rdS M m s) then p_X9_bestSpeak_L17 n Z (iN m) (iN s) (iN (rdS M m s)) (iN s + 1) else p_X9_bestSpeak_L17 n Z (iN m) (iN b) (if s = 1 then -1 else iN (rdS M m b)) (iN s + 1)).2
    rw [iN_s]
    by_cases q : (if s = 1 then -1 else iN (rdS M m b)) < iN (rdS M m s)
    · rw [if_pos q]
      have hb' : (s + 1 = 1 ∧ s = 1) ∨ (1 ≤ s ∧ s < s + 1 ∧ ∀ i, 1 ≤ i → i < s + 1 → rdS M m i ≤ rdS M m s ∧ (i < s → rdS M m i < rdS M m s)) := by
        refine Or.inr ⟨h1, by omega, fun i a1 a2 => ?_⟩
        rcases hb with hb | ⟨b1, b2, b3⟩
        · rw [show i = s by omega]
          exact ⟨Nat.le_refl _, fun z => by omega⟩
        · rw [if_neg (by omega)] at q
          have q' := (iN_lt (ub2 b b1 (by omega)) (ub2 s h1 (by omega))).mp q
          by_cases e : i = s
          · rw [e]
            exact ⟨Nat.le_refl _, fun z => by omega⟩
          · have := (b3 i a1 (by omega)).1
            exact ⟨by omega, fun _ => by omega⟩
      obtain ⟨x1, x2⟩ := ih (s + 1) Z n s hZt (by omega) (by omega) hb' (by omega)
      rw [if_neg (show ¬ s + 1 = 1 by omega)] at x1 x2
      exact ⟨x1, hs.tr x2⟩
    · rw [if_neg q]
      have hs1 : s ≠ 1 := by
        intro e
        rw [if_pos e] at q
        refine q ?_
        rw [Int32.lt_iff_toInt_lt, iN_toInt (ub2 s h1 (by omega)), show (-1 : Int32).toInt = -1 from rfl]
        omega
      rw [if_neg hs1] at q ⊢
      have hb' : (s + 1 = 1 ∧ b = 1) ∨ (1 ≤ b ∧ b < s + 1 ∧ ∀ i, 1 ≤ i → i < s + 1 → rdS M m i ≤ rdS M m b ∧ (i < b → rdS M m i < rdS M m b)) := by
        rcases hb with hb | ⟨b1, b2, b3⟩
        · exact absurd hb.1 hs1
        · have q' : ¬ rdS M m b < rdS M m s := fun z => q ((iN_lt (ub2 b b1 (by omega)) (ub2 s h1 (by omega))).mpr z)
          refine Or.inr ⟨b1, by omega, fun i a1 a2 => ?_⟩
          by_cases e : i = s
          · rw [e]
            exact ⟨by omega, fun z => by omega⟩
          · exact b3 i a1 (by omega)
      obtain ⟨x1, x2⟩ := ih (s + 1) Z n b hZt (by omega) (by omega) hb' (by omega)
      rw [if_neg (show ¬ s + 1 = 1 by omega)] at x1 x2
      exact ⟨x1, hs.tr x2⟩
/-- bestSpeak() -/
theorem St.bestSpeak (h : St B Y M) (hB : B ≤ 1000000) {m : Nat} (hm : m ≤ 300) : (∃ b, 1 ≤ b ∧ b ≤ 20 ∧ (p_X9_bestSpeak Y (iN m)).1 = iN b ∧ ∀ i, 1 ≤ i → i ≤ 20 → rdS M m i ≤ rdS M m b ∧ (i < b → rdS M m i < rdS M m b)) ∧ SC Y (p_X9_bestSpeak Y (iN m)).2 := by
  unfold p_X9_bestSpeak
  have hf : v_X9_isForesight (iN m) 0 = 1 := foresee (w := 0) hm (by decide)
  rw [hf, if_neg (by decide)]
  have z := bestL (M := M) hm hB 20 1 Y (mu 1 + 1) 1 h (by omega) (by rw [show mu 1 = 2147483646 from rfl]; omega) (Or.inl ⟨rfl, rfl⟩) (by omega)
  rw [if_pos rfl] at z
  exact z
/-- ifRule(0, s, m, 0), ifPassed(m, 0) in these words -/
theorem rdS_eq (hI : Inv B M) {m s : Nat} (h1 : 1 ≤ s) (h2 : s ≤ 20) : toN5 M (nP M 0 0 s) m 0 = iN (rdS M m s) ∧ rdS M m s ≤ B + 5 * m := by
  have hI2 : Inv B (nP M 0 0 s) := hI.rule (Or.inl ⟨rfl, by omega⟩) h1
  obtain ⟨i1, i2, i3⟩ := miI_inv hI2 m
  have i2' : M 1 1 ≤ miI (nP M 0 0 s) m 1 1 := by rw [nP_r (by decide)] at i2; exact i2
  have ub := i1.2.2.2.1.2.2.2.1
  unfold toN5 rdS
  rw [if_neg (by decide)]
  exact ⟨iN_sub i2', by omega⟩
end RO8
