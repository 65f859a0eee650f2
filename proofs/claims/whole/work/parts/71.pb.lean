/-! bits, and the readings of a valley -/
theorem fa_and (a b : Nat) : nI a &&& nI b = nI (a &&& b) := by
  apply Int32.toBitVec_inj.1
  show BitVec.ofNat 32 a &&& BitVec.ofNat 32 b = BitVec.ofNat 32 (a &&& b)
  apply BitVec.eq_of_getLsbD_eq
  intro i hi
  simp [hi]
theorem fa_or (a b : Nat) : nI a ||| nI b = nI (a ||| b) := by
  apply Int32.toBitVec_inj.1
  show BitVec.ofNat 32 a ||| BitVec.ofNat 32 b = BitVec.ofNat 32 (a ||| b)
  apply BitVec.eq_of_getLsbD_eq
  intro i hi
  simp [hi]
theorem s_l : ∀ n, n < 32 → ((nI n &&& 31).toBitVec.smod 32).toNat = n := by decide +kernel
theorem shl1 : ∀ t, t < 31 → (1 : Int32) <<< (nI t &&& 31) = nI (2 ^ t) := by decide +kernel
theorem shl0 : ∀ t, t < 31 → (0 : Int32) <<< (nI t &&& 31) = 0 := by decide +kernel
theorem shrB {m t : Nat} (hm : m < 2147483648) (ht : t < 32) : (nI m >>> (nI t &&& 31)) &&& (1 : Int32) = nI (m / 2 ^ t % 2) := by
  rw [pk_shrN (k := t) (by omega) _ (s_l t ht)]
  exact pk_andN (k := 1) (Nat.lt_of_le_of_lt (Nat.div_le_self _ _) (by omega)) rfl
theorem bitsN_tb {f : Nat → Nat} : ∀ {n : Nat}, (∀ i, i < n → f i ≤ 1) → bitsN f n < 2 ^ n ∧ ∀ i, (bitsN f n).testBit i = (decide (i < n) && decide (f i = 1))
  | 0, _ => ⟨by simp [bitsN], fun i => by simp [bitsN]⟩
  | n + 1, h => by
    obtain ⟨h1, h2⟩ := bitsN_tb (n := n) (fun i hi => h i (by omega))
    have hn := h n (by omega)
    have h3 : bitsN f (n + 1) = bitsN f n + f n * 2 ^ n := rfl
    have hp : 2 ^ (n + 1) = 2 ^ n + 2 ^ n := by rw [Nat.pow_succ]; omega
    rcases (show f n = 0 ∨ f n = 1 by omega) with e | e
    · rw [h3, e, Nat.zero_mul, Nat.add_zero]
      refine ⟨by omega, fun i => ?_⟩
      rw [h2 i]
      by_cases hi : i = n
      · subst hi; simp [e]
      · have : (i < n + 1) ↔ i < n := by omega
        simp [this]
    · rw [h3, e, Nat.one_mul]
      refine ⟨by omega, fun i => ?_⟩
      have q := Nat.two_pow_add_eq_or_of_lt h1 1
      rw [Nat.mul_one] at q
      rw [Nat.add_comm, q, Nat.testBit_or, Nat.testBit_two_pow, h2 i]
      by_cases hi : i = n
      · subst hi; simp [e]
      · have : (i < n + 1) ↔ i < n := by omega
        have hj : ¬ n = i := fun q => hi q.symm
        simp [this, hj]
theorem bitsN_lt {f : Nat → Nat} {n : Nat} (h : ∀ i, i < n → f i ≤ 1) : bitsN f n < 2 ^ n := (bitsN_tb h).1
theorem tb_div (m t : Nat) : m / 2 ^ t % 2 = if m.testBit t = true then 1 else 0 := by
  rw [Nat.testBit_eq_decide_div_mod_eq]
  by_cases h : m / 2 ^ t % 2 = 1
  · simp [h]
  · simp [h]; omega
theorem bitsN_bit {f : Nat → Nat} {n t : Nat} (h : ∀ i, i < n → f i ≤ 1) (ht : t < n) : bitsN f n / 2 ^ t % 2 = f t := by
  rw [tb_div, (bitsN_tb h).2 t]
  have := h t ht
  by_cases e : f t = 1
  · simp [ht, e]
  · simp [e]; omega
theorem bitsN_cong {f g : Nat → Nat} : ∀ {n : Nat}, (∀ i, i < n → f i = g i) → bitsN f n = bitsN g n
  | 0, _ => rfl
  | n + 1, h => by
    show bitsN f n + f n * 2 ^ n = bitsN g n + g n * 2 ^ n
    rw [bitsN_cong (fun i hi => h i (by omega)), h n (by omega)]
theorem bitsN_next {f : Nat → Nat} {n : Nat} (h : ∀ i, i < n → f i ≤ 1) (hn : f n ≤ 1) : bitsN f n ||| (if f n = 1 then 2 ^ n else 0) = bitsN f (n + 1) := by
  have h1 := bitsN_lt h
  show _ = bitsN f n + f n * 2 ^ n
  rcases (show f n = 0 ∨ f n = 1 by omega) with e | e
  · simp [e]
  · have q := Nat.two_pow_add_eq_or_of_lt h1 1
    rw [Nat.mul_one] at q
    rw [e, if_pos rfl, Nat.one_mul, Nat.or_comm, ← q, Nat.add_comm]
theorem bitsN_set {f : Nat → Nat} {n t : Nat} (h : ∀ i, i < n → f i ≤ 1) (ht : t < n) : bitsN f n ||| 2 ^ t = bitsN (fun i => if i = t then 1 else f i) n := by
  apply Nat.eq_of_testBit_eq
  intro i
  rw [Nat.testBit_or, Nat.testBit_two_pow, (bitsN_tb h).2 i, (bitsN_tb (f := fun i => if i = t then 1 else f i) (fun i hi => by
    by_cases e : i = t
    · simp [e]
    · simp [e]; exact h i hi)).2 i]
  by_cases e : i = t
  · subst e; simp [ht]
  · have e2 : ¬ t = i := fun q => e q.symm
    simp [e, e2]
theorem cKr {n t : Nat} {f : Nat → Nat} (h : t < n) : cK n f t = nI (f t) := if_pos h
section
variable {β : Type} {S : Nat → Nat} {x : Int32} {K : Int32 → Option β}
theorem rdV1 {t : Nat} (h : t < 9) : rd 9 (cw S x 1) (nI t) K = K (nI (S (5 + 4 * t))) := (rdN h (by decide)).trans (congrArg K (cKr (f := fun t => S (5 + 4 * t)) h))
theorem rdV2 {t : Nat} (h : t < 9) : rd 9 (cw S x 2) (nI t) K = K (nI (S (6 + 4 * t))) := (rdN h (by decide)).trans (congrArg K (cKr (f := fun t => S (6 + 4 * t)) h))
theorem rdV3 {t : Nat} (h : t < 9) : rd 9 (cw S x 3) (nI t) K = K (nI (S (7 + 4 * t))) := (rdN h (by decide)).trans (congrArg K (cKr (f := fun t => S (7 + 4 * t)) h))
theorem rdV6 {p : Nat} (h : p < 5) : rd 5 (cw S x 6) (nI p) K = K (nI (S (41 + 8 * p))) := (rdN h (by decide)).trans (congrArg K (cKr (f := fun p => S (41 + 8 * p)) h))
theorem rdV7 {p : Nat} (h : p < 5) : rd 5 (cw S x 7) (nI p) K = K (nI (S (42 + 8 * p))) := (rdN h (by decide)).trans (congrArg K (cKr (f := fun p => S (42 + 8 * p)) h))
theorem ix8 (p w : Nat) (h : w < 6) : 43 + 8 * ((6 * p + w) / 6) + (6 * p + w) % 6 = 43 + 8 * p + w := by omega
theorem rdV8 {p w : Nat} (h : p < 5) (hw : w < 6) : rd 30 (cw S x 8) (nI (6 * p + w)) K = K (nI (S (43 + 8 * p + w))) := by
  have h1 : 6 * p + w < 30 := by omega
  refine (rdN h1 (by decide)).trans (congrArg K ((cKr (f := fun i => S (43 + 8 * (i / 6) + i % 6)) h1).trans ?_))
  exact congrArg (fun i => nI (S i)) (ix8 p w hw)
theorem rdM {a : Nat} (h : a < 81) : rd 81 (lN8 S) (nI a) K = K (nI (S a)) := rdN h (by decide)
end
theorem q_ofR (t j : Nat) : fX2_ofR (nI t) (nI j) = some (nI (5 + 4 * t + j)) := by
  simp only [fX2_ofR, lit32, pk_mul, nI_add]
theorem q_ofP (t j : Nat) : fX2_ofP (nI t) (nI j) = some (nI (41 + 8 * t + j)) := by
  simp only [fX2_ofP, lit32, pk_mul, nI_add]
section
variable {S : Nat → Nat} {x : Int32}
/-- costOf, reachOf, darkOf -/
theorem c_costOf (h : Ok S) {t : Nat} (ht : t < 9) : fX0_costOf (cw S x) (nI t) = some (nI (sCost (S (5 + 4 * t)))) := by
  have hk := (h.2.2.2.2.1 t ht).1
  rw [fX0_costOf, rdV1 ht]
  generalize S (5 + 4 * t) = k at hk
  have key : ∀ k, k < 6 → rd 6 cofs (nI k) (fun r2 => some r2) = some (nI (sCost k)) := by decide +kernel
  exact key k hk
theorem c_reachOf (h : Ok S) {t : Nat} (ht : t < 9) : fX0_reachOf (cw S x) (nI t) = some (nI (sReach (S (5 + 4 * t)) (S (6 + 4 * t)))) := by
  have hk := (h.2.2.2.2.1 t ht).1
  have hf := (h.2.2.2.2.1 t ht).2.1
  simp only [fX0_reachOf, rdV1 ht, rdV2 ht, bnE]
  generalize S (5 + 4 * t) = k at hk
  generalize S (6 + 4 * t) = f at hf
  have key : ∀ k, k < 6 → ∀ f, f < 10 → (if nI k = 1 then some ((nI f / (2 : Int32) + (2 : Int32)) / (2 : Int32)) else if nI k = 2 then some (nI f / (2 : Int32) + (2 : Int32) + (3 : Int32)) else if nI k = 3 then some (nI f / (2 : Int32) + (2 : Int32) + (3 : Int32)) else if nI k = 4 then some ((nI f / (2 : Int32) + (2 : Int32)) / (2 : Int32)) else if nI k = 5 then some ((2 : Int32) * (nI f / (2 : Int32) + (2 : Int32) + (3 : Int32))) else some (nI f / (2 : Int32) + (2 : Int32))) = some (nI (sReach k f)) := by decide +kernel
  exact key k hk f (by omega)
theorem c_darkOf (h : Ok S) {t : Nat} (ht : t < 9) : fX0_darkOf (cw S x) (nI t) = some (nI (sDark (S (5 + 4 * t)) (S (6 + 4 * t)))) := by
  have hk := (h.2.2.2.2.1 t ht).1
  have hf := (h.2.2.2.2.1 t ht).2.1
  simp only [fX0_darkOf, rdV1 ht, rdV2 ht, bnE]
  generalize S (5 + 4 * t) = k at hk
  generalize S (6 + 4 * t) = f at hf
  have key : ∀ k, k < 6 → ∀ f, f < 10 → (if nI k = 1 then some 0 else if nI k = 2 then some ((2 : Int32) * (nI f + (1 : Int32))) else if nI k = 3 then some ((2 : Int32) * (nI f + (1 : Int32))) else if nI k = 4 then some 9 else if nI k = 5 then some ((2 : Int32) * (nI f + (1 : Int32))) else some (nI f + (1 : Int32))) = some (nI (sDark k f)) := by decide +kernel
  exact key k hk f (by omega)
theorem c_burstOf (h : Ok S) {t : Nat} (ht : t < 9) : fX0_burstOf (cw S x) (nI t) = some (nI (sBurst (S (5 + 4 * t)) (S 4))) := by
  have hk := (h.2.2.2.2.1 t ht).1
  have hw := h.2.2.2.1
  have e10 : cw S x 10 0 = nI (S 4) := rfl
  simp only [fX0_burstOf, fX0_burstOf_20, fX0_burstOf_25, fX0_burstOf_46, rdV1 ht, bnE, e10]
  generalize S (5 + 4 * t) = k at hk
  generalize S 4 = w at hw
  revert w k
  decide +kernel
theorem r_burstsAt (h : Ok S) {t : Nat} (ht : t < 9) : fX2_burstsAt (lN8 S) (nI t) = some (nI (sBurst (S (5 + 4 * t)) (S 4))) := by
  have hk := (h.2.2.2.2.1 t ht).1
  have hw := h.2.2.2.1
  have e1 : fX2_ofR (nI t) 0 = some (nI (5 + 4 * t)) := q_ofR t 0
  have e4 : ∀ {β : Type} {K : Int32 → Option β}, rd 81 (lN8 S) 4 K = K (nI (S 4)) := rdM (a := 4) (by decide)
  simp only [fX2_burstsAt, fX2_burstsAt_25, fX2_burstsAt_30, e1, clS, rdM (S := S) (show 5 + 4 * t < 81 by omega), e4, bnE]
  generalize S (5 + 4 * t) = k at hk
  generalize S 4 = w at hw
  revert w k
  decide +kernel
end
