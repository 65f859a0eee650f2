/-! who reads what -/
def sDist (a b : Nat) : Nat := if b ≤ a then a - b else b - a
/-- 1: the reader p is near enough to the rocket t -/
def sRd (S : Nat → Nat) (t p : Nat) : Nat := if sDist (S (41 + 8 * p)) (sBurst (S (5 + 4 * t)) (S 4)) ≤ sReach (S (5 + 4 * t)) (S (6 + 4 * t)) then 1 else 0
theorem sRd_le (S : Nat → Nat) (t p : Nat) : sRd S t p ≤ 1 := by unfold sRd; split <;> omega
theorem sBurst_lt : ∀ k, k < 6 → ∀ w, w < 10 → sBurst k w < 20 := by decide +kernel
theorem sReach_lt : ∀ k, k < 6 → ∀ w, w < 10 → sReach k w < 30 := by decide +kernel
theorem sCost_le : ∀ k, k < 6 → sCost k ≤ 21 := by decide +kernel
def sReaders (S : Nat → Nat) (t : Nat) : Nat := bitsN (sRd S t) (S 1)
theorem pw5 {n : Nat} (h : n ≤ 5) : 2 ^ n ≤ 32 := by
  rcases (show n = 0 ∨ n = 1 ∨ n = 2 ∨ n = 3 ∨ n = 4 ∨ n = 5 by omega) with rfl | rfl | rfl | rfl | rfl | rfl <;> decide
section
variable {S : Nat → Nat} {x : Int32}
theorem sReaders_lt (h : Ok S) (t : Nat) : sReaders S t < 32 := Nat.lt_of_lt_of_le (bitsN_lt (fun i _ => sRd_le S t i)) (pw5 h.2.1)
theorem c_readersOf (h : Ok S) {t : Nat} (ht : t < 9) : fX0_readersOf (cw S x) (nI t) = some (nI (sReaders S t)) := by
  have hk := (h.2.2.2.2.1 t ht).1
  have hf := (h.2.2.2.2.1 t ht).2.1
  have hw := h.2.2.2.1
  have h1 := h.2.1
  have hb := sBurst_lt _ hk _ (show S 4 < 10 by omega)
  have hr := sReach_lt _ hk _ (show S (6 + 4 * t) < 10 by omega)
  have e5 : cw S x 5 0 = nI (S 1) := rfl
  rw [fX0_readersOf, c_burstOf h ht, clS, c_reachOf h ht, clS]
  refine lp_for (S 1) (fun i (a : Nat) => (nI (sBurst (S (5 + 4 * t)) (S 4)), nI (sReach (S (5 + 4 * t)) (S (6 + 4 * t))), nI a, nI i)) (fun i a => a ||| (if sRd S t i = 1 then 2 ^ i else 0)) 0 _ ?_ ?_ 5000 (by omega)
  · intro k
    have e : itr (fun i a => a ||| (if sRd S t i = 1 then 2 ^ i else 0)) (S 1) 0 = sReaders S t := by
      have key : ∀ n, itr (fun i a => a ||| (if sRd S t i = 1 then 2 ^ i else 0)) n 0 = bitsN (sRd S t) n := by
        intro n
        induction n with
        | zero => rfl
        | succ n ih =>
          show itr _ n 0 ||| _ = _
          rw [ih]
          exact bitsN_next (fun i _ => sRd_le S t i) (sRd_le S t n)
      exact key (S 1)
    simp only [fX0_readersOf_18, e5, e, nle (a := S 1) (b := S 1) (by omega) (by omega), Nat.le_refl, if_true]
  · intro k i hi
    generalize itr (fun i a => a ||| (if sRd S t i = 1 then 2 ^ i else 0)) i 0 = a
    have hp := (h.2.2.2.2.2.2.1 i (by omega)).1
    have n1 : ¬ S 1 ≤ i := by omega
    simp only [fX0_readersOf_18, fX0_readersOf_59, fX0_readersOf_76, e5, nle (a := S 1) (b := i) (by omega) (by omega), n1, if_false, rdV6 (show i < 5 by omega), bnE, lit32, nI_add]
    simp only [nle (a := sBurst (S (5 + 4 * t)) (S 4)) (b := S (41 + 8 * i)) (by omega) (by omega)]
    have hsh : nI 1 <<< (nI i &&& nI 31) = nI (2 ^ i) := shl1 i (by omega)
    by_cases c1 : sBurst (S (5 + 4 * t)) (S 4) ≤ S (41 + 8 * i)
    · simp only [c1, if_true, pk_sub c1, nlt (a := sReach (S (5 + 4 * t)) (S (6 + 4 * t))) (b := S (41 + 8 * i) - sBurst (S (5 + 4 * t)) (S 4)) (by omega) (by omega)]
      by_cases c2 : sReach (S (5 + 4 * t)) (S (6 + 4 * t)) < S (41 + 8 * i) - sBurst (S (5 + 4 * t)) (S 4)
      · have e0 : ¬ sRd S t i = 1 := by unfold sRd sDist; rw [if_pos c1, if_neg (by omega)]; decide
        simp only [c2, if_true, e0, if_false, Nat.or_zero]
      · have e0 : sRd S t i = 1 := by unfold sRd sDist; rw [if_pos c1, if_pos (by omega)]
        simp only [c2, if_false, e0, if_true, hsh, fa_or]
    · have c3 : S (41 + 8 * i) ≤ sBurst (S (5 + 4 * t)) (S 4) := by omega
      simp only [c1, if_false, pk_sub c3, nlt (a := sReach (S (5 + 4 * t)) (S (6 + 4 * t))) (b := sBurst (S (5 + 4 * t)) (S 4) - S (41 + 8 * i)) (by omega) (by omega)]
      by_cases c2 : sReach (S (5 + 4 * t)) (S (6 + 4 * t)) < sBurst (S (5 + 4 * t)) (S 4) - S (41 + 8 * i)
      · have e0 : ¬ sRd S t i = 1 := by unfold sRd sDist; rw [if_neg c1, if_neg (by omega)]; decide
        simp only [c2, if_true, e0, if_false, Nat.or_zero]
      · have e0 : sRd S t i = 1 := by unfold sRd sDist; rw [if_neg c1, if_pos (by omega)]
        simp only [c2, if_false, e0, if_true, hsh, fa_or]
theorem r_isRead (h : Ok S) {t p : Nat} (ht : t < 9) (hp : p < 5) : fX2_isRead (lN8 S) (nI t) (nI p) = some (nI (sRd S t p)) := by
  have hk := (h.2.2.2.2.1 t ht).1
  have hf := (h.2.2.2.2.1 t ht).2.1
  have hw := h.2.2.2.1
  have hb := sBurst_lt _ hk _ (show S 4 < 10 by omega)
  have hr := sReach_lt _ hk _ (show S (6 + 4 * t) < 10 by omega)
  have ha := (h.2.2.2.2.2.2.1 p hp).1
  have e2 : fX2_ofR (nI t) (nI 1) = some (nI (6 + 4 * t)) := by rw [show (6 + 4 * t) = 5 + 4 * t + 1 by omega]; exact q_ofR t 1
  have hd : sDist (S (41 + 8 * p)) (sBurst (S (5 + 4 * t)) (S 4)) < 20 := by unfold sDist; split <;> omega
  have ea : fX2_apart (nI (S (41 + 8 * p))) (nI (sBurst (S (5 + 4 * t)) (S 4))) = some (nI (sDist (S (41 + 8 * p)) (sBurst (S (5 + 4 * t)) (S 4)))) := q_apart _ ha _ hb
  simp (disch := omega) only [fX2_isRead, lit32, e2, q_ofR, q_ofP, Nat.add_zero, clS, rdM, r_burstsAt h ht, ea, q_reachBy, nlt]
  unfold sRd
  by_cases c : sDist (S (41 + 8 * p)) (sBurst (S (5 + 4 * t)) (S 4)) ≤ sReach (S (5 + 4 * t)) (S (6 + 4 * t))
  · rw [if_neg (by omega), if_pos c]
  · rw [if_pos (by omega), if_neg c]
theorem r_readers (h : Ok S) {t : Nat} (ht : t < 9) : fX2_readers (lN8 S) (nI t) = some (nI (sReaders S t)) := by
  have h1 := h.2.1
  rw [fX2_readers]
  refine lp_for (S 1) (fun i (a : Nat) => (nI t, nI a, nI i)) (fun i a => a ||| (if sRd S t i = 1 then 2 ^ i else 0)) 0 _ ?_ ?_ 5000 (by omega)
  · intro k
    have e : itr (fun i a => a ||| (if sRd S t i = 1 then 2 ^ i else 0)) (S 1) 0 = sReaders S t := by
      have key : ∀ n, itr (fun i a => a ||| (if sRd S t i = 1 then 2 ^ i else 0)) n 0 = bitsN (sRd S t) n := by
        intro n
        induction n with
        | zero => rfl
        | succ n ih =>
          show itr _ n 0 ||| _ = _
          rw [ih]
          exact bitsN_next (fun i _ => sRd_le S t i) (sRd_le S t n)
      exact key (S 1)
    simp (disch := omega) only [fX2_readers_4, lit32, rdM, e, nle, Nat.le_refl, if_true]
  · intro k i hi
    generalize itr (fun i a => a ||| (if sRd S t i = 1 then 2 ^ i else 0)) i 0 = a
    have n1 : ¬ S 1 ≤ i := by omega
    have hsh : nI 1 <<< (nI i &&& nI 31) = nI (2 ^ i) := shl1 i (by omega)
    have hle := sRd_le S t i
    simp (disch := omega) only [fX2_readers_4, fX2_readers_28, lit32, rdM, nle, n1, if_false, r_isRead h ht (show i < 5 by omega), clS, bnE, nI_add, hsh, fa_or, neq]
    by_cases c : sRd S t i = 1
    · simp [c]
    · have : sRd S t i = 0 := by omega
      simp [this]
end
