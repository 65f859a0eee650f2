/-! a night of the reference; copies; words -/
section
variable {S : Nat → Nat} {x : Int32} {lk : Nat → Nat}
theorem r_night_in (h : Ok S) {q : Int32} {p : Nat} (hp : p < S 1) (k : (Nat → Int32) × Int32 × Int32 → Option (Nat → Int32)) : lp (fX2_night_18 k) 5000 (lN8 (sFp S (6 * p)), q, nI p, 0) = k (lN8 (sFp S (6 * (p + 1))), q, nI (p + 1)) := by
  have h1 := h.2.1
  have hp5 : p < 5 := by omega
  have hit : ∀ i, itr (fun w (_ : Nat → Nat) => sFp S (6 * p + w + 1)) i (sFp S (6 * p)) = sFp S (6 * p + i) := fun i => by cases i <;> rfl
  refine lp_for 6 (fun w (S' : Nat → Nat) => (lN8 S', q, nI p, nI w)) (fun w _ => sFp S (6 * p + w + 1)) (sFp S (6 * p)) _ ?_ ?_ 5000 (by omega)
  · intro k2
    rw [hit]
    simp (disch := omega) only [fX2_night_18, lit32, nle, Nat.le_refl, if_true, bnE, nI_add]
    rfl
  · intro k2 w hw
    rw [hit]
    have n1 : ¬ 6 ≤ w := by omega
    have ix : 41 + 8 * p + (2 + w) = 43 + 8 * p + w := by omega
    have ev : sFp S (6 * p + w) (43 + 8 * p + w) = S (43 + 8 * p + w) := sFp_out (Or.inr (by rw [fl_wp p w hw]; omega))
    have hh := (h.2.2.2.2.2.2.1 p hp5).2.2 w hw
    show _ = k2 (lN8 (sFp S (6 * p + w + 1)), q, nI p, nI (w + 1))
    rw [sFp_next S hp5 hw]
    simp (disch := omega) only [fX2_night_18, fX2_night_57, lit32, nle, n1, if_false, nI_add, q_ofP, ix, clS, rdM, ev, bnE, ckN, ncl]
    by_cases c1 : S (43 + 8 * p + w) ≤ 0
    · have c2 : ¬ (0 < S (43 + 8 * p + w) ∧ S (43 + 8 * p + w) ≠ 99) := by omega
      simp only [c1, if_true, c2, if_false]
    · by_cases c2 : 99 ≤ S (43 + 8 * p + w)
      · have c3 : ¬ (0 < S (43 + 8 * p + w) ∧ S (43 + 8 * p + w) ≠ 99) := by omega
        simp only [c1, if_false, c2, if_true, c3]
      · have c3 : (0 < S (43 + 8 * p + w) ∧ S (43 + 8 * p + w) ≠ 99) := by omega
        have hs : nI (S (43 + 8 * p + w)) - nI 1 = nI (S (43 + 8 * p + w) - 1) := pk_sub (by omega)
        simp only [c1, if_false, c2, hs, lN8_up]
        rw [if_pos c3]
theorem enc_neg {t n : Nat} (hn : n ≤ 9) : (enc t n < nI 0) ↔ ¬ t < n := by
  show (enc t n < 0) ↔ ¬ t < n
  unfold enc
  by_cases c : t < n
  · rw [if_pos c]
    have : ¬ nI t < (0 : Int32) := nI_pos (by omega)
    exact ⟨fun q => absurd q this, fun q => absurd c q⟩
  · rw [if_neg c]
    exact ⟨fun _ => c, fun _ => by decide⟩
theorem r_night (h : Ok S) {q : Int32} (hlk : ∀ p, p < 5 → (q >>> (nI p &&& 31)) &&& 1 = nI (lk p) ∧ lk p ≤ 1) : fX2_night (lN8 S) q = some (lN8 (sNight lk S)) := by
  simp (disch := omega) only [fX2_night, lit32, rdM, ckN, ncl, nI_add, lN8_up, bnE]
  have hT : Ok (setN S 2 (S 2 + 1)) := Ok_o h (Or.inl rfl)
  have e0 : setN S 2 (S 2 + 1) 0 = S 0 := setN_n _ _ (by decide)
  generalize hTe : setN S 2 (S 2 + 1) = T at hT e0
  have h1 := hT.2.1
  have hit : ∀ i, itr (fun p (_ : Nat → Nat) => sFp T (6 * (p + 1))) i (sFp T (6 * 0)) = sFp T (6 * i) := fun i => by cases i <;> rfl
  have hx0 : (lN8 T, q, nI 0) = (fun p (S' : Nat → Nat) => (lN8 S', q, nI p)) 0 (sFp T (6 * 0)) := by rw [Nat.mul_zero, sFp_0]
  rw [hx0]
  refine lp_for (T 1) (fun p (S' : Nat → Nat) => (lN8 S', q, nI p)) (fun p _ => sFp T (6 * (p + 1))) (sFp T (6 * 0)) _ ?_ ?_ 5000 (by omega)
  · intro k
    rw [hit]
    have eN : sFp T (6 * T 1) = sN1 S := by unfold sN1 sFg; rw [hTe]
    obtain ⟨hO, hs, h2⟩ := sN1_ok h
    have e1 : sN1 S 1 = T 1 := by
      rw [hs 1 (by unfold nW; omega) (by omega), ← hTe, setN_n _ _ (by decide)]
    have e00 : sN1 S 0 = S 0 := hs 0 (by unfold nW; omega) (by omega)
    have h09 := h.1
    show fX2_night_9 k (lN8 (sFp T (6 * T 1)), q, nI (T 1)) = _
    rw [eN]
    simp (disch := omega) only [fX2_night_9, lit32, rdM, e1, nle, Nat.le_refl, if_true, r_nextOf hO, clS, e00, enc_neg h.1]
    unfold sNight
    by_cases c : fst1 (sCan (sN1 S)) (S 0) < S 0
    · have c2 : ¬ ¬ fst1 (sCan (sN1 S)) (S 0) < S 0 := fun q => q c
      have e3 : enc (fst1 (sCan (sN1 S)) (S 0)) (S 0) = nI (fst1 (sCan (sN1 S)) (S 0)) := if_pos c
      rw [if_neg c2, if_pos c, e3, r_sendsIn hO (show fst1 (sCan (sN1 S)) (S 0) < sN1 S 0 by omega) hlk (fst1_is c), clS]
    · rw [if_pos c, if_neg c]
  · intro k p hp
    rw [hit]
    have e1 : sFp T (6 * p) 1 = T 1 := sFp_out (Or.inl (by unfold nW; omega))
    have n1 : ¬ T 1 ≤ p := by omega
    show fX2_night_9 k (lN8 (sFp T (6 * p)), q, nI p) = k (lN8 (sFp T (6 * (p + 1))), q, nI (p + 1))
    rw [← r_night_in hT hp k]
    simp (disch := omega) only [fX2_night_9, lit32, rdM, e1, nle, n1, if_false]
theorem r_nightsOn (h : Ok S) {n : Nat} (hn : n ≤ 60) {q : Int32} (hlk : ∀ p, p < 5 → (q >>> (nI p &&& 31)) &&& 1 = nI (lk p) ∧ lk p ≤ 1) : fX2_nightsOn (lN8 S) (nI n) q = some (lN8 (sNights lk n S)) := by
  rw [fX2_nightsOn]
  refine lp_for n (fun i (S' : Nat → Nat) => (lN8 S', nI n, q, nI i)) (fun _ => sNight lk) S _ ?_ ?_ 5000 (by omega)
  · intro k
    simp (disch := omega) only [fX2_nightsOn_2, nle, Nat.le_refl, if_true]
    rfl
  · intro k i hi
    have hO : Ok (itr (fun _ => sNight lk) i S) := (sNights_ok (lk := lk) h i).1
    generalize itr (fun _ => sNight lk) i S = S' at hO
    have n1 : ¬ n ≤ i := by omega
    simp (disch := omega) only [fX2_nightsOn_2, nle, n1, if_false, r_night hO hlk, clS, bnE, nI_1]
theorem r_copies (h : Ok S) {f : Nat → Int32} (hf : ∀ j, 81 ≤ j → f j = 0) : fX2_copies (lN8 S) f = some (lN8 S) := by
  rw [fX2_copies]
  have key : ∀ i j, itr (fun i (g : Nat → Int32) => upd g i (nI (S i))) i f j = if j < i then nI (S j) else f j := by
    intro i
    induction i with
    | zero => intro j; rfl
    | succ i ih =>
      intro j
      show (if j = i then nI (S i) else itr (fun i (g : Nat → Int32) => upd g i (nI (S i))) i f j) = _
      by_cases c : j = i
      · subst c; rw [if_pos rfl, if_pos (by omega)]
      · rw [if_neg c, ih j]
        by_cases d : j < i
        · rw [if_pos d, if_pos (by omega)]
        · rw [if_neg d, if_neg (by omega)]
  refine lp_for 81 (fun i (g : Nat → Int32) => (g, nI i)) (fun i g => upd g i (nI (S i))) f _ ?_ ?_ 5000 (by omega)
  · intro k
    simp (disch := omega) only [fX2_copies_2, lit32, nle, Nat.le_refl, if_true]
    refine congrArg some (funext fun j => ?_)
    rw [key]
    by_cases c : j < 81
    · rw [if_pos c]; rfl
    · rw [if_neg c, hf j (by omega)]
      exact (congrArg nI (h.2.2.2.2.2.2.2.2 j (by omega))).symm
  · intro k i hi
    have n1 : ¬ 81 ≤ i := by omega
    simp (disch := omega) only [fX2_copies_2, lit32, nle, n1, if_false, rdM, ckN, ncl, bnE, nI_add]
theorem cpyK {n : Nat} {f g : Nat → Nat} : va_cpy (cK n f) (cK n g) 0 0 n = cK n f := funext fun j => by
  by_cases c : j < n
  · rw [pk_cpy_in (Nat.zero_le _) (by omega), Nat.sub_zero, Nat.zero_add]
  · rw [pk_cpy_out (Or.inr (by omega))]
    unfold cK
    rw [if_neg c, if_neg c]
theorem c_copyFrom (T : Nat → Nat) (y : Int32) : fX0_copyFrom (cw T y) (cw S x) = some (cw S x) := by
  simp only [fX0_copyFrom, bnE]
  exact congrArg some (funext fun k => match k with
    | 0 => rfl
    | 1 => cpyK (n := 9) (f := fun t => S (5 + 4 * t)) (g := fun t => T (5 + 4 * t))
    | 2 => cpyK (n := 9) (f := fun t => S (6 + 4 * t)) (g := fun t => T (6 + 4 * t))
    | 3 => cpyK (n := 9) (f := fun t => S (7 + 4 * t)) (g := fun t => T (7 + 4 * t))
    | 4 => rfl
    | 5 => rfl
    | 6 => cpyK (n := 5) (f := fun t => S (41 + 8 * t)) (g := fun t => T (41 + 8 * t))
    | 7 => cpyK (n := 5) (f := fun t => S (42 + 8 * t)) (g := fun t => T (42 + 8 * t))
    | 8 => cpyK (n := 30) (f := fun t => S (43 + 8 * (t / 6) + t % 6)) (g := fun t => T (43 + 8 * (t / 6) + t % 6))
    | 9 => rfl
    | 10 => rfl
    | 11 => rfl
    | _ + 12 => rfl)
end
def sWb (S : Nat → Nat) (p w : Nat) : Nat := if 0 < S (43 + 8 * p + w) then 1 else 0
def sW (S : Nat → Nat) (p : Nat) : Nat := bitsN (sWb S p) 6
theorem sWb_le (S : Nat → Nat) (p w : Nat) : sWb S p w ≤ 1 := by unfold sWb; split <;> omega
theorem sW_lt (S : Nat → Nat) (p : Nat) : sW S p < 64 := bitsN_lt (n := 6) (fun i _ => sWb_le S p i)
def sumN (f : Nat → Nat) : Nat → Nat
  | 0 => 0
  | n + 1 => sumN f n + f n
theorem sumN_le {f : Nat → Nat} {c : Nat} : ∀ {n : Nat}, (∀ i, i < n → f i ≤ c) → sumN f n ≤ n * c
  | 0, _ => by simp [sumN]
  | n + 1, h => by
    have h1 := sumN_le (n := n) (fun i hi => h i (by omega))
    have h2 := h n (by omega)
    show sumN f n + f n ≤ (n + 1) * c
    rw [Nat.add_mul]; omega
theorem pop_le (x : Nat) : pop x ≤ 9 := by unfold pop; omega
theorem itr_or (f : Nat → Nat) (h : ∀ i, f i ≤ 1) : ∀ n, itr (fun i a => a ||| (if f i = 1 then 2 ^ i else 0)) n 0 = bitsN f n := by
  intro n
  induction n with
  | zero => rfl
  | succ n ih =>
    show itr _ n 0 ||| _ = _
    rw [ih]
    exact bitsN_next (fun i _ => h i) (h n)
theorem itr_sum (f : Nat → Nat) : ∀ n, itr (fun i a => a + f i) n 0 = sumN f n := by
  intro n
  induction n with
  | zero => rfl
  | succ n ih =>
    show itr _ n 0 + _ = _
    rw [ih]
    rfl
def sWh (S : Nat → Nat) (p : Nat) : Nat := if sW S p = 63 then 1 else 0
def sWhole (S : Nat → Nat) : Nat := sumN (sWh S) (S 1)
def sAll (S : Nat → Nat) : Nat := sumN (fun p => pop (sW S p)) (S 1)
theorem sWh_le (S : Nat → Nat) (p : Nat) : sWh S p ≤ 1 := by unfold sWh; split <;> omega
section
variable {S : Nat → Nat} {x : Int32}
theorem sWhole_le (h : Ok S) : sWhole S ≤ 5 := Nat.le_trans (sumN_le (fun i _ => sWh_le S i)) (by have := h.2.1; omega)
theorem sAll_le (h : Ok S) : sAll S ≤ 45 := Nat.le_trans (sumN_le (fun i _ => pop_le _)) (by have := h.2.1; omega)
theorem c_wordsOf (h : Ok S) {p : Nat} (hp : p < 5) : fX0_wordsOf (cw S x) (nI p) = some (nI (sW S p)) := by
  rw [fX0_wordsOf]
  refine lp_for 6 (fun i (a : Nat) => (nI p, nI a, nI i)) (fun i a => a ||| (if sWb S p i = 1 then 2 ^ i else 0)) 0 _ ?_ ?_ 5000 (by omega)
  · intro k
    rw [itr_or _ (sWb_le S p)]
    simp (disch := omega) only [fX0_wordsOf_4, lit32, nle, Nat.le_refl, if_true]
    rfl
  · intro k i hi
    generalize itr (fun i a => a ||| (if sWb S p i = 1 then 2 ^ i else 0)) i 0 = a
    have n1 : ¬ 6 ≤ i := by omega
    have ix : p * 6 + i = 6 * p + i := by omega
    have hh := (h.2.2.2.2.2.2.1 p hp).2.2 i hi
    have hsh : nI 1 <<< (nI i &&& nI 31) = nI (2 ^ i) := shl1 i (by omega)
    simp (disch := omega) only [fX0_wordsOf_4, fX0_wordsOf_30, lit32, nle, n1, if_false, pk_mul, nI_add, ix, rdV8, bnE, hsh, fa_or]
    unfold sWb
    by_cases c : S (43 + 8 * p + i) ≤ 0
    · have c2 : ¬ 0 < S (43 + 8 * p + i) := by omega
      simp [c, c2]
    · have c2 : 0 < S (43 + 8 * p + i) := by omega
      simp [c, c2]
theorem r_wordsOf (h : Ok S) {p : Nat} (hp : p < 5) : fX2_wordsOf (lN8 S) (nI p) = some (nI (sW S p)) := by
  rw [fX2_wordsOf]
  refine lp_for 6 (fun i (a : Nat) => (nI p, nI a, nI i)) (fun i a => a ||| (if sWb S p i = 1 then 2 ^ i else 0)) 0 _ ?_ ?_ 5000 (by omega)
  · intro k
    rw [itr_or _ (sWb_le S p)]
    simp (disch := omega) only [fX2_wordsOf_4, lit32, nle, Nat.le_refl, if_true]
    rfl
  · intro k i hi
    generalize itr (fun i a => a ||| (if sWb S p i = 1 then 2 ^ i else 0)) i 0 = a
    have n1 : ¬ 6 ≤ i := by omega
    have ix : 41 + 8 * p + (2 + i) = 43 + 8 * p + i := by omega
    have hh := (h.2.2.2.2.2.2.1 p hp).2.2 i hi
    have hsh : nI 1 <<< (nI i &&& nI 31) = nI (2 ^ i) := shl1 i (by omega)
    simp (disch := omega) only [fX2_wordsOf_4, fX2_wordsOf_30, lit32, nle, n1, if_false, nI_add, q_ofP, ix, clS, rdM, bnE, hsh, fa_or]
    unfold sWb
    by_cases c : S (43 + 8 * p + i) ≤ 0
    · have c2 : ¬ 0 < S (43 + 8 * p + i) := by omega
      simp [c, c2]
    · have c2 : 0 < S (43 + 8 * p + i) := by omega
      simp [c, c2]
theorem c_isWhole (h : Ok S) {p : Nat} (hp : p < 5) : fX0_isWhole (cw S x) (nI p) = some (nI (sWh S p)) := by
  have hl := sW_lt S p
  simp (disch := omega) only [fX0_isWhole, c_wordsOf h hp, clS, lit32, neq]
  unfold sWh
  split <;> rfl
theorem c_countWhole (h : Ok S) : fX0_countWhole (cw S x) = some (nI (sWhole S)) := by
  have h1 := h.2.1
  have e5 : cw S x 5 0 = nI (S 1) := rfl
  rw [fX0_countWhole]
  refine lp_for (S 1) (fun i (a : Nat) => (nI a, nI i)) (fun i a => a + sWh S i) 0 _ ?_ ?_ 5000 (by omega)
  · intro k
    rw [itr_sum]
    simp (disch := omega) only [fX0_countWhole_4, e5, nle, Nat.le_refl, if_true]
    rfl
  · intro k i hi
    generalize itr (fun i a => a + sWh S i) i 0 = a
    have n1 : ¬ S 1 ≤ i := by omega
    have hl := sWh_le S i
    simp (disch := omega) only [fX0_countWhole_4, fX0_countWhole_26, e5, nle, n1, if_false, c_isWhole h (show i < 5 by omega), clS, lit32, neq, bnE, nI_add]
    rcases (show sWh S i = 0 ∨ sWh S i = 1 by omega) with e | e <;> simp [e]
theorem c_countWords (h : Ok S) : fX0_countWords (cw S x) = some (nI (sAll S)) := by
  have h1 := h.2.1
  have e5 : cw S x 5 0 = nI (S 1) := rfl
  rw [fX0_countWords]
  refine lp_for (S 1) (fun i (a : Nat) => (nI a, nI i)) (fun i a => a + pop (sW S i)) 0 _ ?_ ?_ 5000 (by omega)
  · intro k
    rw [itr_sum (fun p => pop (sW S p))]
    simp (disch := omega) only [fX0_countWords_4, e5, nle, Nat.le_refl, if_true]
    rfl
  · intro k i hi
    generalize itr (fun i a => a + pop (sW S i)) i 0 = a
    have n1 : ¬ S 1 ≤ i := by omega
    have hl := sW_lt S i
    simp (disch := omega) only [fX0_countWords_4, e5, nle, n1, if_false, c_wordsOf h (show i < 5 by omega), clS, q_bitCount, lit32, bnE, nI_add]
theorem r_allWords (h : Ok S) : fX2_allWords (lN8 S) = some (nI (sAll S)) := by
  have h1 := h.2.1
  rw [fX2_allWords]
  refine lp_for (S 1) (fun i (a : Nat) => (nI a, nI i)) (fun i a => a + pop (sW S i)) 0 _ ?_ ?_ 5000 (by omega)
  · intro k
    rw [itr_sum (fun p => pop (sW S p))]
    simp (disch := omega) only [fX2_allWords_4, lit32, rdM, nle, Nat.le_refl, if_true]
    rfl
  · intro k i hi
    generalize itr (fun i a => a + pop (sW S i)) i 0 = a
    have n1 : ¬ S 1 ≤ i := by omega
    have hl := sW_lt S i
    simp (disch := omega) only [fX2_allWords_4, lit32, rdM, nle, n1, if_false, r_wordsOf h (show i < 5 by omega), clS, q_bits, bnE, nI_add]
theorem r_wholeOnes (h : Ok S) : fX2_wholeOnes (lN8 S) = some (nI (sWhole S)) := by
  have h1 := h.2.1
  rw [fX2_wholeOnes]
  refine lp_for (S 1) (fun i (a : Nat) => (nI a, nI i)) (fun i a => a + sWh S i) 0 _ ?_ ?_ 5000 (by omega)
  · intro k
    rw [itr_sum]
    simp (disch := omega) only [fX2_wholeOnes_4, lit32, rdM, nle, Nat.le_refl, if_true]
    rfl
  · intro k i hi
    generalize itr (fun i a => a + sWh S i) i 0 = a
    have n1 : ¬ S 1 ≤ i := by omega
    have hl := sW_lt S i
    simp (disch := omega) only [fX2_wholeOnes_4, fX2_wholeOnes_27, lit32, rdM, nle, n1, if_false, r_wordsOf h (show i < 5 by omega), clS, neq, bnE, nI_add]
    unfold sWh
    by_cases c : sW S i = 63 <;> simp [c]
theorem r_sentIn (h : Ok S) : fX2_sentIn (lN8 S) = some (nI (sentN S)) := by
  have h0 := h.1
  rw [fX2_sentIn]
  have hle : ∀ i, i < 9 → S (8 + 4 * i) ≤ 1 := fun i hi => (h.2.2.2.2.1 i hi).2.2.2
  have key : ∀ n, n ≤ 9 → itr (fun i a => a ||| (if S (8 + 4 * i) = 1 then 2 ^ i else 0)) n 0 = bitsN (fun t => S (8 + 4 * t)) n := by
    intro n
    induction n with
    | zero => intro _; rfl
    | succ n ih =>
      intro hn
      show itr _ n 0 ||| _ = _
      rw [ih (by omega)]
      exact bitsN_next (f := fun t => S (8 + 4 * t)) (fun i hi => hle i (by omega)) (hle n (by omega))
  refine lp_for (S 0) (fun i (a : Nat) => (nI a, nI i)) (fun i a => a ||| (if S (8 + 4 * i) = 1 then 2 ^ i else 0)) 0 _ ?_ ?_ 5000 (by omega)
  · intro k
    rw [key (S 0) h0]
    have e : bitsN (fun t => S (8 + 4 * t)) (S 0) = sentN S := by
      have q : ∀ n, S 0 + n ≤ 9 → bitsN (fun t => S (8 + 4 * t)) (S 0 + n) = bitsN (fun t => S (8 + 4 * t)) (S 0) := by
        intro n
        induction n with
        | zero => intro _; rfl
        | succ n ih =>
          intro hn
          show bitsN (fun t => S (8 + 4 * t)) (S 0 + n) + S (8 + 4 * (S 0 + n)) * _ = _
          rw [ih (by omega), (h.2.2.2.2.2.1 (S 0 + n) (by omega) (by omega)).2.2.2, Nat.zero_mul, Nat.add_zero]
      have := q (9 - S 0) (by omega)
      rw [show S 0 + (9 - S 0) = 9 by omega] at this
      exact this.symm
    rw [e]
    simp (disch := omega) only [fX2_sentIn_4, lit32, rdM, nle, Nat.le_refl, if_true]
  · intro k i hi
    generalize itr (fun i a => a ||| (if S (8 + 4 * i) = 1 then 2 ^ i else 0)) i 0 = a
    have n1 : ¬ S 0 ≤ i := by omega
    have hs := hle i (by omega)
    have ix : 5 + 4 * i + 3 = 8 + 4 * i := by omega
    have hsh : nI 1 <<< (nI i &&& nI 31) = nI (2 ^ i) := shl1 i (by omega)
    have hs0 : nI 0 <<< (nI i &&& nI 31) = nI 0 := shl0 i (by omega)
    simp (disch := omega) only [fX2_sentIn_4, lit32, rdM, nle, n1, if_false, q_ofR, ix, clS, bnE, nI_add]
    rcases (show S (8 + 4 * i) = 0 ∨ S (8 + 4 * i) = 1 by omega) with e | e
    · simp [e, hs0, fa_or]
    · simp only [e, hsh, fa_or, if_true]
end
