/-! the pure part: one value of numbers for both sides. S: a valley as 81 numbers (the reference's row), zeros beyond what there is -/
theorem lit32 (n : Nat) : (OfNat.ofNat n : Int32) = nI n := rfl
def lN8 (S : Nat → Nat) : Nat → Int32 := fun i => nI (S i)
def cK (n : Nat) (f : Nat → Nat) : Nat → Int32 := fun t => if t < n then nI (f t) else 0
def bitsN (f : Nat → Nat) : Nat → Nat
  | 0 => 0
  | n + 1 => bitsN f n + f n * 2 ^ n
def sentN (S : Nat → Nat) : Nat := bitsN (fun t => S (8 + 4 * t)) 9
/-- the class's valley of S, its money apart -/
def cw (S : Nat → Nat) (x : Int32) : VS := fun k => match k with
  | 0 => fun _ => nI (S 0)
  | 1 => cK 9 (fun t => S (5 + 4 * t))
  | 2 => cK 9 (fun t => S (6 + 4 * t))
  | 3 => cK 9 (fun t => S (7 + 4 * t))
  | 4 => fun _ => nI (sentN S)
  | 5 => fun _ => nI (S 1)
  | 6 => cK 5 (fun p => S (41 + 8 * p))
  | 7 => cK 5 (fun p => S (42 + 8 * p))
  | 8 => cK 30 (fun i => S (43 + 8 * (i / 6) + i % 6))
  | 9 => fun _ => x
  | 10 => fun _ => nI (S 4)
  | 11 => fun _ => nI (S 2)
  | _ => fun _ => 0
def cv (S : Nat → Nat) : VS := cw S (nI (S 3))
/-- S is as it must be -/
def Ok (S : Nat → Nat) : Prop := S 0 ≤ 9 ∧ S 1 ≤ 5 ∧ S 3 ≤ 999 ∧ S 4 ≤ 9 ∧ (∀ t, t < 9 → S (5 + 4 * t) < 6 ∧ S (6 + 4 * t) ≤ 9 ∧ S (7 + 4 * t) < 6 ∧ S (8 + 4 * t) ≤ 1) ∧ (∀ t, S 0 ≤ t → t < 9 → S (5 + 4 * t) = 0 ∧ S (6 + 4 * t) = 0 ∧ S (7 + 4 * t) = 0 ∧ S (8 + 4 * t) = 0) ∧ (∀ p, p < 5 → S (41 + 8 * p) < 20 ∧ S (42 + 8 * p) ≤ 9 ∧ ∀ w, w < 6 → S (43 + 8 * p + w) ≤ 99) ∧ (∀ p, S 1 ≤ p → p < 5 → S (41 + 8 * p) = 0 ∧ S (42 + 8 * p) = 0 ∧ ∀ w, w < 6 → S (43 + 8 * p + w) = 0) ∧ ∀ i, 81 ≤ i → S i = 0
def setN (S : Nat → Nat) (i x : Nat) : Nat → Nat := fun j => if j = i then x else S j
theorem setN_s (S : Nat → Nat) (i x : Nat) : setN S i x i = x := by simp [setN]
theorem setN_n (S : Nat → Nat) {i j : Nat} (x : Nat) (h : j ≠ i) : setN S i x j = S j := by simp [setN, h]
theorem lN8_up (S : Nat → Nat) (i x : Nat) : upd (lN8 S) i (nI x) = lN8 (setN S i x) := by
  funext j
  by_cases h : j = i <;> simp [upd, lN8, setN, h]
theorem rdN {β : Type} {n a : Nat} {f : Nat → Int32} {K : Int32 → Option β} (h : a < n) (hn : n < 2147483648) : rd n f (nI a) K = K (f a) := by
  have h1 : (nI a).toNatClampNeg = a := nI_clamp (by omega)
  have h2 : ¬ (nI a < 0 ∨ n ≤ (nI a).toNatClampNeg) := nI_in h (by omega)
  rw [rd, if_neg h2, h1]
theorem ckN {β : Type} {n a : Nat} {K : Option β} (h : a < n) (hn : n < 2147483648) : ck n (nI a) K = K := by
  have h2 : ¬ (nI a < 0 ∨ n ≤ (nI a).toNatClampNeg) := nI_in h (by omega)
  rw [ck, if_neg h2]
theorem clS {α β : Type} (x : α) (K : α → Option β) : cl (some x) K = K x := rfl
theorem bnE {α β : Type} (x : α) (K : α → β) : bn x K = K x := rfl
theorem nle {a b : Nat} (ha : a < 2147483648) (hb : b < 2147483648) : (nI a ≤ nI b) ↔ a ≤ b := nI_leI (by omega) (by omega)
theorem nlt {a b : Nat} (ha : a < 2147483648) (hb : b < 2147483648) : (nI a < nI b) ↔ a < b := nI_ltI (by omega) (by omega)
theorem neq {a b : Nat} (ha : a < 2147483648) (hb : b < 2147483648) : (nI a = nI b) ↔ a = b := nI_eq (by omega) (by omega)
theorem ncl {a : Nat} (ha : a < 2147483648) : (nI a).toNatClampNeg = a := nI_clamp (by omega)
/-- a loop that counts to N, with what holds on the way; it may end before -/
theorem lp_inv {σ β : Type} {F : (σ → Option β) → σ → Option β} (N : Nat) (I : Nat → σ → Prop) (P : β → Prop) (h1 : ∀ k x, I N x → ∃ r, F k x = some r ∧ P r) (h2 : ∀ k i x, i < N → I i x → (∃ r, F k x = some r ∧ P r) ∨ ∃ y, F k x = k y ∧ I (i + 1) y) : ∀ x, I 0 x → ∀ n, N < n → ∃ r, lp F n x = some r ∧ P r := by
  have key : ∀ j i x n, i + j = N → j < n → I i x → ∃ r, lp F n x = some r ∧ P r := by
    intro j
    induction j with
    | zero =>
      intro i x n hi hn hI
      cases n with
      | zero => omega
      | succ n =>
        have e : i = N := by omega
        subst e
        exact h1 (lp F n) x hI
    | succ j ih =>
      intro i x n hi hn hI
      cases n with
      | zero => omega
      | succ n =>
        rcases h2 (lp F n) i x (by omega) hI with h | ⟨y, h, hy⟩
        · exact h
        · obtain ⟨r, a, b⟩ := ih (i + 1) y n (by omega) (by omega) hy
          exact ⟨r, h.trans a, b⟩
  intro x hx n hn
  exact key N 0 x n (by omega) hn hx
def itr {α : Type} (st : Nat → α → α) : Nat → α → α
  | 0, a => a
  | n + 1, a => st n (itr st n a)
/-- a loop that counts to N and folds -/
theorem lp_for {σ α β : Type} {F : (σ → Option β) → σ → Option β} (N : Nat) (e : Nat → α → σ) (st : Nat → α → α) (a0 : α) (r : Option β) (h1 : ∀ k, F k (e N (itr st N a0)) = r) (h2 : ∀ k i, i < N → F k (e i (itr st i a0)) = k (e (i + 1) (st i (itr st i a0)))) : ∀ n, N < n → lp F n (e 0 a0) = r := by
  have key : ∀ j i n, i + j = N → j < n → lp F n (e i (itr st i a0)) = r := by
    intro j
    induction j with
    | zero =>
      intro i n hi hn
      cases n with
      | zero => omega
      | succ n =>
        have e' : i = N := by omega
        subst e'
        exact h1 (lp F n)
    | succ j ih =>
      intro i n hi hn
      cases n with
      | zero => omega
      | succ n => exact (h2 (lp F n) i (by omega)).trans (ih (i + 1) n (by omega) (by omega))
  intro n hn
  exact key N 0 n (by omega) hn
-- leaves, by trying all
def sCost (k : Nat) : Nat := if k = 1 then 1 else if k = 2 then 10 else if k = 3 then 11 else if k = 4 then 3 else if k = 5 then 21 else 5
def sReach (k f : Nat) : Nat := if k = 1 then (f / 2 + 2) / 2 else if k = 2 then f / 2 + 2 + 3 else if k = 3 then f / 2 + 2 + 3 else if k = 4 then (f / 2 + 2) / 2 else if k = 5 then 2 * (f / 2 + 2 + 3) else f / 2 + 2
def sDark (k f : Nat) : Nat := if k = 1 then 0 else if k = 2 then 2 * (f + 1) else if k = 3 then 2 * (f + 1) else if k = 4 then 9 else if k = 5 then 2 * (f + 1) else f + 1
def sBurst (k w : Nat) : Nat := if k = 3 then min 19 (3 * w - 5) else if k = 5 then min 19 (3 * w - 5) else 5 + w
def pop (x : Nat) : Nat := x % 2 + x / 2 % 2 + x / 4 % 2 + x / 8 % 2 + x / 16 % 2 + x / 32 % 2 + x / 64 % 2 + x / 128 % 2 + x / 256 % 2
theorem q_costBy : ∀ k, k < 6 → fX2_costBy (nI k) = some (nI (sCost k)) := by decide +kernel
theorem q_reachBy : ∀ k, k < 6 → ∀ f, f < 10 → fX2_reachBy (nI k) (nI f) = some (nI (sReach k f)) := by decide +kernel
theorem q_darkBy : ∀ k, k < 6 → ∀ f, f < 10 → fX2_darkBy (nI k) (nI f) = some (nI (sDark k f)) := by decide +kernel
theorem q_apart : ∀ a, a < 20 → ∀ b, b < 20 → fX2_apart (nI a) (nI b) = some (nI (if b ≤ a then a - b else b - a)) := by decide +kernel
theorem q_bits : ∀ x, x < 512 → fX2_bits (nI x) = some (nI (pop x)) := by decide +kernel
theorem q_bitCount : ∀ x, x < 512 → fJ6_bitCount_0f7a4 (nI x) = some (nI (pop x)) := by decide +kernel
theorem q_kindOf : ∀ c, c < 256 → fX1_kindOf (nI c) = some (if c = 114 then 0 else if c = 115 then 1 else if c = 103 then 2 else if c = 100 then 3 else if c = 113 then 4 else if c = 108 then 5 else -1) := by decide +kernel
