/-! seen, near, longest, words -/
section
variable {X : Nat → VS} {Y : VS} {S : Nat → Nat}
theorem has1 {q : Int32} {t b : Nat} (h : (q >>> (nI t &&& 31)) &&& (1 : Int32) = nI b) (hb : b ≤ 1) : fX2_has q (nI t) = some (nI b) := by
  rw [fX2_has, h]
  rcases (show b = 0 ∨ b = 1 by omega) with e | e <;> rw [e] <;> rfl
theorem hasN {m t : Nat} (hm : m < 2147483648) (ht : t < 32) : fX2_has (nI m) (nI t) = some (nI (m / 2 ^ t % 2)) := has1 (shrB hm ht) (by omega)
theorem p_seen (hR : Rel X Y) (b : Int32) : Ag (fX1_seen X b) (fX2_seen Y b) := by
  have hR' := hR
  obtain ⟨S, P, l, r, f, hp, nl, nr, hh⟩ := hR'
  have o1 := hh.1.1
  have x0 := hh.2.1.1
  have y0 := hh.2.2.1
  have h0 := o1.1
  rw [fX1_seen, fX2_seen]
  rcases one2 b with ⟨hb, e3, e4⟩ | ⟨b0, b1, e3, e4⟩
  · rw [e3, e4, clT, clT, if_neg ne10, if_neg ne10]
    have e5 : cv S 0 0 = nI (S 0) := rfl
    have e6 : ∀ {β : Type} {K : Int32 → Option β}, rd 81 (lN8 S) 0 K = K (nI (S 0)) := rdM (a := 0) (by decide)
    refine lp_gen (S 0) (fun i x y => ∃ u v, x = (X, b, u, v, nI i) ∧ y = (Y, b, u, nI i) ∧ (u = -9 ∧ v = 0 ∨ ∃ t, t < 9 ∧ u = nI t ∧ v = nI (pop (sReaders S t)))) Ag ?_ ?_ _ _ ⟨-9, 0, rfl, rfl, Or.inl ⟨rfl, rfl⟩⟩ 5000 5000 (by omega) (by omega)
    · rintro k j _ _ ⟨u, v, rfl, rfl, huv⟩
      have g : nI (S 0) ≤ nI (S 0) := (nle (by omega) (by omega)).mpr (Nat.le_refl _)
      have n01 : ¬ (0 : Int32) = 1 := by decide
      rcases hb with rfl | rfl
      · refine ⟨v, X, Y, ?_, ?_, hR⟩
        · simp only [fX1_seen_22, x0, e5, g, if_true]
        · rcases huv with ⟨rfl, rfl⟩ | ⟨t, ht, rfl, rfl⟩
          · have n9 : ¬ (0 : Int32) ≤ -9 := by decide
            simp only [fX2_seen_21, y0, e6, g, if_true, n01, if_false, n9]
          · have n9 : (0 : Int32) ≤ nI t := nI_pos' (by omega)
            have hl := sReaders_lt o1 t
            simp only [fX2_seen_21, y0, e6, g, if_true, n01, if_false, n9, r_readers o1 ht, clT, q_bits _ (show sReaders S t < 512 by omega)]
      · refine ⟨u, X, Y, ?_, ?_, hR⟩
        · simp only [fX1_seen_22, x0, e5, g, if_true, ne10, if_false]
        · simp only [fX2_seen_21, y0, e6, g, if_true]
    · rintro k j i _ _ hi ⟨u, v, rfl, rfl, huv⟩
      have hi9 : i < 9 := by omega
      have g : ¬ nI (S 0) ≤ nI i := fun q => by have := (nle (by omega) (by omega)).mp q; omega
      have hl := sReaders_lt o1 i
      have hq := q_bits _ (show sReaders S i < 512 by omega)
      have hq' := q_bitCount _ (show sReaders S i < 512 by omega)
      right
      rcases huv with ⟨rfl, rfl⟩ | ⟨t, ht, rfl, rfl⟩
      · have n9 : (-9 : Int32) < 0 := by decide
        refine ⟨(X, b, nI i, nI (pop (sReaders S i)), nI (i + 1)), (Y, b, nI i, nI (i + 1)), ?_, ?_, _, _, rfl, rfl, Or.inr ⟨i, hi9, rfl, rfl⟩⟩
        · simp only [fX1_seen_22, fX1_seen_60, fX1_seen_66, x0, e5, g, if_false, cv_readersOf o1 hi9, clT, hq', if_true, bnT, nI_1]
        · simp only [fX2_seen_21, fX2_seen_60, fX2_seen_62, y0, e6, g, if_false, n9, if_true, bnT, nI_1]
      · have n9 := not9 (n := t) (by omega)
        have n0 : ¬ nI t < (0 : Int32) := nneg (by omega)
        have hl' := sReaders_lt o1 t
        have hqt := q_bits _ (show sReaders S t < 512 by omega)
        by_cases z : nI (pop (sReaders S i)) ≤ nI (pop (sReaders S t))
        · refine ⟨(X, b, nI t, nI (pop (sReaders S t)), nI (i + 1)), (Y, b, nI t, nI (i + 1)), ?_, ?_, _, _, rfl, rfl, Or.inr ⟨t, ht, rfl, rfl⟩⟩
          · simp only [fX1_seen_22, fX1_seen_60, fX1_seen_66, x0, e5, g, if_false, cv_readersOf o1 hi9, clT, hq', n9, z, if_true, bnT, nI_1]
          · simp only [fX2_seen_21, fX2_seen_60, fX2_seen_62, y0, e6, g, if_false, n0, r_readers o1 hi9, r_readers o1 ht, hq, hqt, clT, z, if_true, bnT, nI_1]
        · refine ⟨(X, b, nI i, nI (pop (sReaders S i)), nI (i + 1)), (Y, b, nI i, nI (i + 1)), ?_, ?_, _, _, rfl, rfl, Or.inr ⟨i, hi9, rfl, rfl⟩⟩
          · simp only [fX1_seen_22, fX1_seen_60, fX1_seen_66, x0, e5, g, if_false, cv_readersOf o1 hi9, clT, hq', n9, z, bnT, nI_1]
          · simp only [fX2_seen_21, fX2_seen_60, fX2_seen_62, y0, e6, g, if_false, n0, r_readers o1 hi9, r_readers o1 ht, hq, hqt, clT, z, bnT, nI_1]
  · rw [e3, e4, clT, clT, if_pos rfl, if_pos rfl, cl_e, cl_e]
    exact refAg hR (by simp)
theorem absD : ∀ a, a < 20 → (if (0 : Int32) ≤ (nI a - (10 : Int32)) then (nI a - (10 : Int32)) else 0 - (nI a - (10 : Int32))) = nI (sDist a 10) := by decide +kernel
theorem p_near (hR : Rel X Y) : ∃ r, fX1_near X = some r ∧ fX2_near Y = some r := by
  obtain ⟨S, P, l, r, f, hp, nl, nr, hh⟩ := hR
  have o1 := hh.1.1
  have x0 := hh.2.1.1
  have y0 := hh.2.2.1
  have h1 := o1.2.1
  rw [fX1_near, fX2_near]
  have e5 : cv S 5 0 = nI (S 1) := rfl
  have e6 : ∀ {β : Type} {K : Int32 → Option β}, rd 81 (lN8 S) 1 K = K (nI (S 1)) := rdM (a := 1) (by decide)
  refine lp_gen (S 1) (fun i x y => ∃ u v, x = (u, v, nI i) ∧ y = (u, nI i) ∧ (u = -9 ∧ v = 20 ∨ ∃ t, t < 5 ∧ u = nI t ∧ v = nI (sDist (S (41 + 8 * t)) 10))) (fun p q => ∃ r, p = some r ∧ q = some r) ?_ ?_ _ _ ⟨-9, 20, rfl, rfl, Or.inl ⟨rfl, rfl⟩⟩ 5000 5000 (by omega) (by omega)
  · rintro k j _ _ ⟨u, v, rfl, rfl, huv⟩
    have g : nI (S 1) ≤ nI (S 1) := (nle (by omega) (by omega)).mpr (Nat.le_refl _)
    refine ⟨u, ?_, ?_⟩
    · simp only [fX1_near_8, x0, e5, g, if_true]
    · simp only [fX2_near_5, y0, e6, g, if_true]
  · rintro k j i _ _ hi ⟨u, v, rfl, rfl, huv⟩
    have hi5 : i < 5 := by omega
    have g : ¬ nI (S 1) ≤ nI i := fun q => by have := (nle (by omega) (by omega)).mp q; omega
    have ha := (o1.2.2.2.2.2.2.1 i hi5).1
    have hd : ∀ a, a < 20 → sDist a 10 < 20 := by decide +kernel
    have hai := hd _ ha
    have r6 : ∀ {β : Type} {K : Int32 → Option β}, rd 5 (cv S 6) (nI i) K = K (nI (S (41 + 8 * i))) := rdV6 hi5
    have ab := absD _ ha
    have g0 : ∀ p, fX2_ofP (nI p) 0 = some (nI (41 + 8 * p)) := fun p => q_ofP p 0
    have mi : ∀ {β : Type} {K : Int32 → Option β}, rd 81 (lN8 S) (nI (41 + 8 * i)) K = K (nI (S (41 + 8 * i))) := rdM (by omega)
    have ai : fX2_apart (nI (S (41 + 8 * i))) 10 = some (nI (sDist (S (41 + 8 * i)) 10)) := q_apart _ ha 10 (by decide)
    right
    rcases huv with ⟨rfl, rfl⟩ | ⟨t, ht, rfl, rfl⟩
    · have n9 : (-9 : Int32) < 0 := by decide
      have z : ¬ (20 : Int32) ≤ nI (sDist (S (41 + 8 * i)) 10) := fun q => by have := (nle (a := 20) (by decide) (by omega)).mp q; omega
      refine ⟨(nI i, nI (sDist (S (41 + 8 * i)) 10), nI (i + 1)), (nI i, nI (i + 1)), ?_, ?_, _, _, rfl, rfl, Or.inr ⟨i, hi5, rfl, rfl⟩⟩
      · simp only [fX1_near_8, fX1_near_47, x0, e5, g, if_false, r6, ab, bnT, z, nI_1]
      · simp only [fX2_near_5, fX2_near_52, fX2_near_54, y0, e6, g, if_false, n9, if_true, bnT, nI_1]
    · have n0 : ¬ nI t < (0 : Int32) := nneg (by omega)
      have hat := (o1.2.2.2.2.2.2.1 t ht).1
      have mt : ∀ {β : Type} {K : Int32 → Option β}, rd 81 (lN8 S) (nI (41 + 8 * t)) K = K (nI (S (41 + 8 * t))) := rdM (by omega)
      have at' : fX2_apart (nI (S (41 + 8 * t))) 10 = some (nI (sDist (S (41 + 8 * t)) 10)) := q_apart _ hat 10 (by decide)
      by_cases z : nI (sDist (S (41 + 8 * t)) 10) ≤ nI (sDist (S (41 + 8 * i)) 10)
      · refine ⟨(nI t, nI (sDist (S (41 + 8 * t)) 10), nI (i + 1)), (nI t, nI (i + 1)), ?_, ?_, _, _, rfl, rfl, Or.inr ⟨t, ht, rfl, rfl⟩⟩
        · simp only [fX1_near_8, fX1_near_47, x0, e5, g, if_false, r6, ab, bnT, z, if_true, nI_1]
        · simp only [fX2_near_5, fX2_near_52, fX2_near_54, y0, e6, g, if_false, n0, g0, mi, mt, ai, at', clT, z, if_true, bnT, nI_1]
      · refine ⟨(nI i, nI (sDist (S (41 + 8 * i)) 10), nI (i + 1)), (nI i, nI (i + 1)), ?_, ?_, _, _, rfl, rfl, Or.inr ⟨i, hi5, rfl, rfl⟩⟩
        · simp only [fX1_near_8, fX1_near_47, x0, e5, g, if_false, r6, ab, bnT, z, nI_1]
        · simp only [fX2_near_5, fX2_near_52, fX2_near_54, y0, e6, g, if_false, n0, g0, mi, mt, ai, at', clT, z, bnT, nI_1]
/-- the cost of a set -/
def sCosts (S : Nat → Nat) (bit : Nat → Nat) : Nat := sumN (fun t => if bit t = 1 then sCost (S (5 + 4 * t)) else 0) (S 0)
theorem c_costs (o1 : Ok S) (x0 : X 0 = cv S) {q : Int32} {bit : Nat → Nat} (hb : ∀ t, t < S 0 → (q >>> (nI t &&& 31)) &&& (1 : Int32) = nI (bit t) ∧ bit t ≤ 1) : fX1_costOfChosen X q = some (nI (sCosts S bit)) := by
  have h0 := o1.1
  have e5 : cv S 0 0 = nI (S 0) := rfl
  rw [fX1_costOfChosen]
  refine lp_for (S 0) (fun i (a : Nat) => (q, nI a, nI i)) (fun t a => a + (if bit t = 1 then sCost (S (5 + 4 * t)) else 0)) 0 _ ?_ ?_ 5000 (by omega)
  · intro k
    rw [itr_sum (fun t => if bit t = 1 then sCost (S (5 + 4 * t)) else 0)]
    have g : nI (S 0) ≤ nI (S 0) := (nle (by omega) (by omega)).mpr (Nat.le_refl _)
    simp only [fX1_costOfChosen_4, x0, e5, g, if_true]
    rfl
  · intro k i hi
    generalize itr (fun t a => a + (if bit t = 1 then sCost (S (5 + 4 * t)) else 0)) i 0 = a
    have g : ¬ nI (S 0) ≤ nI i := fun q => by have := (nle (by omega) (by omega)).mp q; omega
    obtain ⟨hb1, hb2⟩ := hb i hi
    rcases (show bit i = 0 ∨ bit i = 1 by omega) with c | c
    · rw [c] at hb1
      have z : ¬ nI 0 = (1 : Int32) := by decide
      have z1 : ¬ bit i = 1 := by omega
      simp only [fX1_costOfChosen_4, fX1_costOfChosen_35, x0, e5, g, if_false, hb1, z, bnT, nI_1, z1, Nat.add_zero]
    · rw [c] at hb1
      have z : nI 1 = (1 : Int32) := rfl
      simp only [fX1_costOfChosen_4, fX1_costOfChosen_35, x0, e5, g, if_false, hb1, z, if_true, cv_costOf o1 (show i < 9 by omega), clT, bnT, nI_1, nI_add, c]
theorem r_costs (o1 : Ok S) (y0 : Y 0 = lN8 S) {q : Int32} {bit : Nat → Nat} (hb : ∀ t, t < S 0 → (q >>> (nI t &&& 31)) &&& (1 : Int32) = nI (bit t) ∧ bit t ≤ 1) : fX2_costOf Y q = some (nI (sCosts S bit)) := by
  have h0 := o1.1
  have e6 : ∀ {β : Type} {K : Int32 → Option β}, rd 81 (lN8 S) 0 K = K (nI (S 0)) := rdM (a := 0) (by decide)
  rw [fX2_costOf]
  refine lp_for (S 0) (fun i (a : Nat) => (q, nI a, nI i)) (fun t a => a + (if bit t = 1 then sCost (S (5 + 4 * t)) else 0)) 0 _ ?_ ?_ 5000 (by omega)
  · intro k
    rw [itr_sum (fun t => if bit t = 1 then sCost (S (5 + 4 * t)) else 0)]
    have g : nI (S 0) ≤ nI (S 0) := (nle (by omega) (by omega)).mpr (Nat.le_refl _)
    simp only [fX2_costOf_4, y0, e6, g, if_true]
    rfl
  · intro k i hi
    generalize itr (fun t a => a + (if bit t = 1 then sCost (S (5 + 4 * t)) else 0)) i 0 = a
    have g : ¬ nI (S 0) ≤ nI i := fun q => by have := (nle (by omega) (by omega)).mp q; omega
    obtain ⟨hb1, hb2⟩ := hb i hi
    have hh := has1 hb1 hb2
    have hk := (o1.2.2.2.2.1 i (by omega)).1
    have g0 : fX2_ofR (nI i) 0 = some (nI (5 + 4 * i)) := q_ofR i 0
    have mi : ∀ {β : Type} {K : Int32 → Option β}, rd 81 (lN8 S) (nI (5 + 4 * i)) K = K (nI (S (5 + 4 * i))) := rdM (by omega)
    rcases (show bit i = 0 ∨ bit i = 1 by omega) with c | c
    · rw [c] at hh
      have z : nI 0 = (0 : Int32) := rfl
      have z1 : ¬ bit i = 1 := by omega
      have za : nI a + (0 : Int32) = nI a := nI_add a 0
      simp only [fX2_costOf_4, fX2_costOf_40, y0, e6, g, if_false, hh, clT, z, if_true, bnT, nI_1, z1, Nat.add_zero, za]
    · rw [c] at hh
      have z : ¬ nI 1 = (0 : Int32) := by decide
      simp only [fX2_costOf_4, fX2_costOf_40, y0, e6, g, if_false, hh, clT, z, g0, mi, q_costBy _ hk, bnT, nI_1, nI_add, c, if_true]
theorem box_c : ∀ m, m < 512 → ∀ t, t < 9 → ((nI m ^^^ (-1 : Int32)) >>> (nI t &&& 31)) &&& (1 : Int32) = nI (1 - m / 2 ^ t % 2) := by decide +kernel
theorem box_r : ∀ R, R < 10 → ∀ m, m < 2 ^ R → (((1 : Int32) <<< (nI R &&& 31)) - (1 : Int32)) &&& (nI m ^^^ (-1 : Int32)) = nI (2 ^ R - 1 - m) := by decide +kernel
theorem box_b : ∀ R, R < 10 → ∀ m, m < 2 ^ R → ∀ t, t < R → (2 ^ R - 1 - m) / 2 ^ t % 2 = 1 - m / 2 ^ t % 2 := by decide +kernel
theorem sentN_lt (o1 : Ok S) : sentN S < 2 ^ S 0 := by
  have h0 := o1.1
  have e : bitsN (fun t => S (8 + 4 * t)) (S 0) = sentN S := by
    have q : ∀ n, S 0 + n ≤ 9 → bitsN (fun t => S (8 + 4 * t)) (S 0 + n) = bitsN (fun t => S (8 + 4 * t)) (S 0) := by
      intro n
      induction n with
      | zero => intro _; rfl
      | succ n ih =>
        intro hn
        show bitsN (fun t => S (8 + 4 * t)) (S 0 + n) + S (8 + 4 * (S 0 + n)) * _ = _
        rw [ih (by omega), (o1.2.2.2.2.2.1 (S 0 + n) (by omega) (by omega)).2.2.2, Nat.zero_mul, Nat.add_zero]
    have := q (9 - S 0) (by omega)
    rw [show S 0 + (9 - S 0) = 9 by omega] at this
    exact this.symm
  rw [← e]
  exact bitsN_lt (fun i hi => (o1.2.2.2.2.1 i (by omega)).2.2.2)
theorem sentN_512 (o1 : Ok S) : sentN S < 512 := bitsN_lt (n := 9) (fun i hi => (o1.2.2.2.2.1 i hi).2.2.2)
theorem r_boxed (o1 : Ok S) (y0 : Y 0 = lN8 S) : fX2_boxed Y = some (nI (2 ^ S 0 - 1 - sentN S)) := by
  have h0 := o1.1
  have e6 : ∀ {β : Type} {K : Int32 → Option β}, rd 81 (lN8 S) 0 K = K (nI (S 0)) := rdM (a := 0) (by decide)
  rw [fX2_boxed, y0, e6, r_sentIn o1, clT, box_r _ (by omega) _ (sentN_lt o1)]
theorem pw9 {n : Nat} (h : n ≤ 9) : 2 ^ n ≤ 512 := by
  have : ∀ n, n ≤ 9 → 2 ^ n ≤ 512 := by decide
  exact this n h
theorem p_longest (hR : Rel X Y) (b : Int32) : Ag (fX1_longest X b) (fX2_longest Y b) := by
  have hR' := hR
  obtain ⟨S, P, l, r, f, hp, nl, nr, hh⟩ := hR'
  have o1 := hh.1.1
  have x0 := hh.2.1.1
  have y0 := hh.2.2.1
  have h0 := o1.1
  rw [fX1_longest, fX2_longest]
  rcases one2 b with ⟨hb, e3, e4⟩ | ⟨b0, b1, e3, e4⟩
  · rw [e3, e4, clT, clT, if_neg ne10, if_neg ne10]
    rcases hb with rfl | rfl
    · have n01 : ¬ (0 : Int32) = 1 := by decide
      have e5 : cv S 0 0 = nI (S 0) := rfl
      have e6 : ∀ {β : Type} {K : Int32 → Option β}, rd 81 (lN8 S) 0 K = K (nI (S 0)) := rdM (a := 0) (by decide)
      rw [if_pos rfl, if_neg n01, fX1_longestDark]
      have key : ∃ r, lp (fX1_longestDark_7 X) 5000 (-9, -1, 0) = some r ∧ lp fX2_longest_35 5000 (Y, -9, 0) = some (r, Y) := by
        refine lp_gen (S 0) (fun i x y => ∃ u v, x = (u, v, nI i) ∧ y = (Y, u, nI i) ∧ (u = -9 ∧ v = -1 ∨ ∃ t, t < 9 ∧ u = nI t ∧ v = nI (sDark (S (5 + 4 * t)) (S (6 + 4 * t))))) (fun p q => ∃ r, p = some r ∧ q = some (r, Y)) ?_ ?_ _ _ ⟨-9, -1, rfl, rfl, Or.inl ⟨rfl, rfl⟩⟩ 5000 5000 (by omega) (by omega)
        · rintro k j _ _ ⟨u, v, rfl, rfl, huv⟩
          have g : nI (S 0) ≤ nI (S 0) := (nle (by omega) (by omega)).mpr (Nat.le_refl _)
          refine ⟨u, ?_, ?_⟩
          · simp only [fX1_longestDark_7, x0, e5, g, if_true]
          · simp only [fX2_longest_35, y0, e6, g, if_true]
        · rintro k j i _ _ hi ⟨u, v, rfl, rfl, huv⟩
          have hi9 : i < 9 := by omega
          have g : ¬ nI (S 0) ≤ nI i := fun q => by have := (nle (by omega) (by omega)).mp q; omega
          have hk := (o1.2.2.2.2.1 i hi9).1
          have hf := (o1.2.2.2.2.1 i hi9).2.1
          have hd : ∀ k, k < 6 → ∀ f, f < 10 → sDark k f < 100 := by decide +kernel
          have hdi := hd _ hk (S (6 + 4 * i)) (by omega)
          have rd' : ∀ t, t < 9 → fX2_darkOf Y (nI t) = some (nI (sDark (S (5 + 4 * t)) (S (6 + 4 * t)))) := by
            intro t ht
            have g0 : fX2_ofR (nI t) 0 = some (nI (5 + 4 * t)) := q_ofR t 0
            have g1 : fX2_ofR (nI t) 1 = some (nI (6 + 4 * t)) := by rw [show 6 + 4 * t = 5 + 4 * t + 1 by omega]; exact q_ofR t 1
            rw [fX2_darkOf, g0, clT, y0, rdM (show 5 + 4 * t < 81 by omega), g1, clT, rdM (show 6 + 4 * t < 81 by omega), q_darkBy _ (o1.2.2.2.2.1 t ht).1 _ (Nat.lt_succ_of_le (o1.2.2.2.2.1 t ht).2.1), clT]
          right
          rcases huv with ⟨rfl, rfl⟩ | ⟨t, ht, rfl, rfl⟩
          · have n9 : (-9 : Int32) < 0 := by decide
            have z : ¬ nI (sDark (S (5 + 4 * i)) (S (6 + 4 * i))) ≤ (-1 : Int32) := neg_le (by decide) (by omega)
            refine ⟨(nI i, nI (sDark (S (5 + 4 * i)) (S (6 + 4 * i))), nI (i + 1)), (Y, nI i, nI (i + 1)), ?_, ?_, _, _, rfl, rfl, Or.inr ⟨i, hi9, rfl, rfl⟩⟩
            · simp only [fX1_longestDark_7, fX1_longestDark_39, x0, e5, g, if_false, cv_darkOf o1 hi9, clT, z, bnT, nI_1]
            · simp only [fX2_longest_35, fX2_longest_62, fX2_longest_64, y0, e6, g, if_false, n9, if_true, bnT, nI_1]
          · have n0 : ¬ nI t < (0 : Int32) := nneg (by omega)
            by_cases z : nI (sDark (S (5 + 4 * i)) (S (6 + 4 * i))) ≤ nI (sDark (S (5 + 4 * t)) (S (6 + 4 * t)))
            · refine ⟨(nI t, nI (sDark (S (5 + 4 * t)) (S (6 + 4 * t))), nI (i + 1)), (Y, nI t, nI (i + 1)), ?_, ?_, _, _, rfl, rfl, Or.inr ⟨t, ht, rfl, rfl⟩⟩
              · simp only [fX1_longestDark_7, fX1_longestDark_39, x0, e5, g, if_false, cv_darkOf o1 hi9, clT, z, if_true, bnT, nI_1]
              · simp only [fX2_longest_35, fX2_longest_62, fX2_longest_64, y0, e6, g, if_false, n0, rd' i hi9, rd' t ht, clT, z, if_true, bnT, nI_1]
            · refine ⟨(nI i, nI (sDark (S (5 + 4 * i)) (S (6 + 4 * i))), nI (i + 1)), (Y, nI i, nI (i + 1)), ?_, ?_, _, _, rfl, rfl, Or.inr ⟨i, hi9, rfl, rfl⟩⟩
              · simp only [fX1_longestDark_7, fX1_longestDark_39, x0, e5, g, if_false, cv_darkOf o1 hi9, clT, z, bnT, nI_1]
              · simp only [fX2_longest_35, fX2_longest_62, fX2_longest_64, y0, e6, g, if_false, n0, rd' i hi9, rd' t ht, clT, z, bnT, nI_1]
      obtain ⟨r, q1, q2⟩ := key
      rw [q1, clT]
      exact agS hR r rfl q2
    · rw [if_neg ne10, if_pos rfl, fX1_costOfTheBox, r_boxed o1 y0, clT]
      have hs := sentN_lt o1
      have hs5 := sentN_512 o1
      have p9 := pw9 h0
      have e4 : X 0 4 0 = nI (sentN S) := by rw [x0]; rfl
      have q1 := c_costs (q := X 0 4 0 ^^^ (-1 : Int32)) (bit := fun t => 1 - sentN S / 2 ^ t % 2) o1 x0 (fun t ht => by
        rw [e4]
        exact ⟨box_c _ hs5 _ (by omega), by show 1 - sentN S / 2 ^ t % 2 ≤ 1; omega⟩)
      have q2 := r_costs (q := nI (2 ^ S 0 - 1 - sentN S)) (bit := fun t => 1 - sentN S / 2 ^ t % 2) o1 y0 (fun t ht => by
        refine ⟨?_, by show 1 - sentN S / 2 ^ t % 2 ≤ 1; omega⟩
        rw [shrB (by omega) (by omega), box_b _ (by omega) _ hs _ ht])
      rw [q1, q2, clT, clT, clT]
      exact agS hR _ rfl rfl
  · rw [e3, e4, clT, clT, if_pos rfl, if_pos rfl, cl_e, cl_e]
    exact refAg hR (by simp)
end
