/-! letters of a valley -/
def lb (c : Nat) : Nat := if c = 98 then 2 else if c = 103 then 4 else if c = 110 then 3 else if c = 112 then 4 else if c = 114 then 4 else if c = 115 then 2 else if c = 119 then 2 else 0
def kd (c : Nat) : Nat := if c = 114 then 0 else if c = 115 then 1 else if c = 103 then 2 else if c = 100 then 3 else if c = 113 then 4 else if c = 108 then 5 else 6
theorem q_lb : ∀ c, c < 256 → fX1_lettersBehind (nI c) = some (nI (lb c)) := by decide +kernel
theorem q_kindBy : ∀ c, c < 256 → fX2_kindBy (nI c) = some (if kd c < 6 then nI (kd c) else -9) := by decide +kernel
theorem q_kindOf2 : ∀ c, c < 256 → fX1_kindOf (nI c) = some (if kd c < 6 then nI (kd c) else -1) := by
  intro c hc
  rw [q_kindOf c hc]
  revert c
  decide +kernel
theorem q_kindNo : fX2_kindBy (-1) = some (-9) := by decide +kernel
theorem lb_le (c : Nat) : lb c ≤ 4 := by
  unfold lb
  repeat' split
  all_goals omega
theorem lb_c {c : Nat} (h : lb c ≠ 0) : c = 98 ∨ c = 103 ∨ c = 110 ∨ c = 112 ∨ c = 114 ∨ c = 115 ∨ c = 119 := by
  unfold lb at h
  by_cases h1 : c = 98
  · simp [h1]
  · by_cases h2 : c = 103
    · simp [h2]
    · by_cases h3 : c = 110
      · simp [h3]
      · by_cases h4 : c = 112
        · simp [h4]
        · by_cases h5 : c = 114
          · simp [h5]
          · by_cases h6 : c = 115
            · simp [h6]
            · by_cases h7 : c = 119
              · simp [h7]
              · simp [h1, h2, h3, h4, h5, h6, h7] at h
def stN (c f r : Nat) : Nat := if r = 1 then (if c = 59 then 1 else 0) else if f = 114 ∧ r = 4 then (if kd c < 6 then 1 else 0) else (if 48 ≤ c ∧ c ≤ 57 then 1 else 0)
theorem stN_le (c f r : Nat) : stN c f r ≤ 1 := by
  unfold stN
  repeat' split
  all_goals omega
theorem c_can {c f r : Nat} (hc : c < 256) (hf : f < 256) (hr : r < 10) : fX1_canStand (nI c) (nI f) (nI r) = some (nI (stN c f r)) := by
  have r1 : (nI r = (1 : Int32)) ↔ r = 1 := neq (b := 1) (by omega) (by decide)
  have r4 : (nI r = (4 : Int32)) ↔ r = 4 := neq (b := 4) (by omega) (by decide)
  have f1 : (nI f = (114 : Int32)) ↔ f = 114 := neq (b := 114) (by omega) (by decide)
  have c59 : (nI c = (59 : Int32)) ↔ c = 59 := neq (b := 59) (by omega) (by decide)
  have c48 : (nI c < (48 : Int32)) ↔ c < 48 := nlt (b := 48) (by omega) (by decide)
  have c57 : ((57 : Int32) < nI c) ↔ 57 < c := nlt (a := 57) (by decide) (by omega)
  have e41 : fX1_canStand_41 (nI c) = some (nI (if 48 ≤ c ∧ c ≤ 57 then 1 else 0)) := by
    rw [fX1_canStand_41]
    by_cases a : c < 48
    · rw [if_pos (c48.mpr a), if_neg (by omega)]; rfl
    · rw [if_neg (fun q => a (c48.mp q))]
      by_cases b : 57 < c
      · rw [if_pos (c57.mpr b), if_neg (by omega)]; rfl
      · rw [if_neg (fun q => b (c57.mp q)), if_pos (by omega)]; rfl
  rw [fX1_canStand]
  unfold stN
  by_cases a : r = 1
  · rw [if_pos (r1.mpr a), if_pos a]
    by_cases b : c = 59
    · rw [if_pos (c59.mpr b), if_pos b]; rfl
    · rw [if_neg (fun q => b (c59.mp q)), if_neg b]; rfl
  · rw [if_neg (fun q => a (r1.mp q)), if_neg a]
    by_cases b : f = 114
    · rw [if_pos (f1.mpr b)]
      by_cases d : r = 4
      · have bd : f = 114 ∧ r = 4 := ⟨b, d⟩
        rw [if_pos (r4.mpr d), q_kindOf2 c hc, clT, if_pos bd]
        by_cases k : kd c < 6
        · have n0 : ¬ nI (kd c) < (0 : Int32) := nneg (by omega)
          simp only [k, if_true, n0, if_false]
          rfl
        · have n0 : (-1 : Int32) < 0 := by decide
          simp only [k, if_false, n0, if_true]
          rfl
      · have bd : ¬ (f = 114 ∧ r = 4) := fun q => d q.2
        rw [if_neg (fun q => d (r4.mp q)), e41, if_neg bd]
    · have bd : ¬ (f = 114 ∧ r = 4) := fun q => b q.1
      rw [if_neg (fun q => b (f1.mp q)), e41, if_neg bd]
/-- in the statement from s the letter j can stand -/
def okj (l : Nat → Nat) (nl s j : Nat) : Prop := s + j < nl ∧ stN (l (s + j)) (l s) (lb (l s) + 1 - j) = 1
def Gd (l : Nat → Nat) (nl s : Nat) : Prop := s < nl ∧ lb (l s) ≠ 0 ∧ ∀ j, 1 ≤ j → j ≤ lb (l s) → okj l nl s j
def Bd (l : Nat → Nat) (nl s w : Nat) : Prop := (w = s ∧ (nl ≤ s ∨ lb (l s) = 0)) ∨ (s < nl ∧ lb (l s) ≠ 0 ∧ ∃ j, 1 ≤ j ∧ j ≤ lb (l s) ∧ (∀ i, 1 ≤ i → i < j → okj l nl s i) ∧ ¬ okj l nl s j ∧ w = s + j)
theorem gd_bd (l : Nat → Nat) (nl s : Nat) : Gd l nl s ∨ ∃ w, Bd l nl s w := by
  by_cases a : s < nl
  · by_cases b : lb (l s) = 0
    · exact Or.inr ⟨s, Or.inl ⟨rfl, Or.inr b⟩⟩
    · have key : ∀ k, (∀ j, 1 ≤ j → j ≤ k → okj l nl s j) ∨ ∃ j, 1 ≤ j ∧ j ≤ k ∧ (∀ i, 1 ≤ i → i < j → okj l nl s i) ∧ ¬ okj l nl s j := by
        intro k
        induction k with
        | zero => exact Or.inl (fun j h1 h2 => by omega)
        | succ k ih =>
          rcases ih with h | ⟨j, h1, h2, h3, h4⟩
          · by_cases c : okj l nl s (k + 1)
            · refine Or.inl (fun j h1 h2 => ?_)
              by_cases e : j = k + 1
              · rw [e]; exact c
              · exact h j h1 (by omega)
            · exact Or.inr ⟨k + 1, by omega, Nat.le_refl _, fun i h1 h2 => h i h1 (by omega), c⟩
          · exact Or.inr ⟨j, h1, by omega, h3, h4⟩
      rcases key (lb (l s)) with h | ⟨j, h1, h2, h3, h4⟩
      · exact Or.inl ⟨a, b, h⟩
      · exact Or.inr ⟨s + j, Or.inr ⟨a, b, j, h1, h2, h3, h4, rfl⟩⟩
  · exact Or.inr ⟨s, Or.inl ⟨rfl, Or.inl (by omega)⟩⟩
section
variable {X : Nat → VS} {Y : VS} {l : Nat → Nat} {nl : Nat}
/-- the class's search for a wrong letter, inside a statement -/
theorem c_run (x4 : X 3 4 = lN8 l) (hl : ∀ i, i < nl → l i < 256) (hnl : nl ≤ 96) {s : Nat} (hs : s < nl) : ∀ r j n, j + r = lb (l s) + 1 → 1 ≤ j → s + j ≤ nl → r < n → ((∀ i, j ≤ i → i ≤ lb (l s) → okj l nl s i) → lp (fX1_wrongLetter_8 X) n (nI nl, nI (l s), nI r, nI (s + j)) = lp (fX1_wrongLetter_8 X) (n - r) (nI nl, nI (l s), 0, nI (s + lb (l s) + 1))) ∧ ∀ i, j ≤ i → i ≤ lb (l s) → (∀ i', j ≤ i' → i' < i → okj l nl s i') → ¬ okj l nl s i → lp (fX1_wrongLetter_8 X) n (nI nl, nI (l s), nI r, nI (s + j)) = some (nI (s + i))
  | 0, j, n, hj, h1, h2, hn => by
    have e : j = lb (l s) + 1 := by omega
    subst e
    exact ⟨fun _ => rfl, fun i a b => by omega⟩
  | r + 1, j, n, hj, h1, h2, hn => by
    have hb := lb_le (l s)
    have hfs := hl s hs
    obtain ⟨n, rfl⟩ : ∃ m, n = m + 1 := ⟨n - 1, by omega⟩
    have nr : ¬ nI (r + 1) = (0 : Int32) := fun q => by have := (neq (b := 0) (by omega) (by decide)).mp q; omega
    have unf : lp (fX1_wrongLetter_8 X) (n + 1) (nI nl, nI (l s), nI (r + 1), nI (s + j)) = fX1_wrongLetter_8 X (lp (fX1_wrongLetter_8 X) n) (nI nl, nI (l s), nI (r + 1), nI (s + j)) := rfl
    rw [unf]
    have er : lb (l s) + 1 - j = r + 1 := by omega
    by_cases c : s + j < nl
    · have g : ¬ nI nl ≤ nI (s + j) := fun q => by have := (nle (by omega) (by omega)).mp q; omega
      have rx : ∀ {β : Type} {K : Int32 → Option β}, rd 96 (lN8 l) (nI (s + j)) K = K (nI (l (s + j))) := rdN (f := lN8 l) (by omega) (by decide)
      have cc := c_can (hl (s + j) c) hfs (show r + 1 < 10 by omega)
      by_cases ok : okj l nl s j
      · have st := ok.2
        rw [er] at st
        rw [st] at cc
        have z01 : ¬ nI 1 = (0 : Int32) := by decide
        have em : nI (r + 1) + (-1 : Int32) = nI r := by
          have : nI (r + 1) - (1 : Int32) = nI r := pk_sub (a := r + 1) (b := 1) (by omega)
          rw [← this, Int32.sub_eq_add_neg]
        have step : fX1_wrongLetter_8 X (lp (fX1_wrongLetter_8 X) n) (nI nl, nI (l s), nI (r + 1), nI (s + j)) = lp (fX1_wrongLetter_8 X) n (nI nl, nI (l s), nI r, nI (s + (j + 1))) := by
          simp only [fX1_wrongLetter_8, fX1_wrongLetter_59, g, if_false, x4, rx, nr, cc, clT, z01, em, bnT, nI_1]
          rfl
        rw [step]
        obtain ⟨i1, i2⟩ := c_run x4 hl hnl hs r (j + 1) n (by omega) (by omega) (by omega) (by omega)
        refine ⟨fun h => ?_, fun i a b h hno => ?_⟩
        · rw [i1 (fun i a b => h i (by omega) b), show n + 1 - (r + 1) = n - r by omega]
        · by_cases e : i = j
          · subst e; exact absurd ok hno
          · exact i2 i (by omega) b (fun i' a' b' => h i' (by omega) b') hno
      · have st : stN (l (s + j)) (l s) (r + 1) = 0 := by
          have q1 := stN_le (l (s + j)) (l s) (r + 1)
          have q2 : ¬ stN (l (s + j)) (l s) (r + 1) = 1 := fun q => ok ⟨c, by rw [er]; exact q⟩
          omega
        rw [st] at cc
        have step : fX1_wrongLetter_8 X (lp (fX1_wrongLetter_8 X) n) (nI nl, nI (l s), nI (r + 1), nI (s + j)) = some (nI (s + j)) := by
          simp only [fX1_wrongLetter_8, g, if_false, x4, rx, nr, cc, clT, z00, if_true]
        rw [step]
        refine ⟨fun h => absurd (h j (Nat.le_refl _) (by omega)) ok, fun i a b h hno => ?_⟩
        by_cases e : i = j
        · rw [e]
        · exact absurd (h j (Nat.le_refl _) (by omega)) ok
    · have e : s + j = nl := by omega
      have ok : ¬ okj l nl s j := fun q => c q.1
      have g : nI nl ≤ nI (s + j) := by rw [e]; exact (nle (by omega) (by omega)).mpr (Nat.le_refl _)
      have z : (0 : Int32) < nI (r + 1) := (nlt (a := 0) (by decide) (by omega)).mpr (by omega)
      have step : fX1_wrongLetter_8 X (lp (fX1_wrongLetter_8 X) n) (nI nl, nI (l s), nI (r + 1), nI (s + j)) = some (nI (s + j)) := by
        simp only [fX1_wrongLetter_8, fX1_wrongLetter_73, g, z, if_true]
        rw [e]
      rw [step]
      refine ⟨fun h => absurd (h j (Nat.le_refl _) (by omega)) ok, fun i a b h hno => ?_⟩
      by_cases e : i = j
      · rw [e]
      · exact absurd (h j (Nat.le_refl _) (by omega)) ok
/-- at the beginning of a statement -/
theorem c_stat (x4 : X 3 4 = lN8 l) (hl : ∀ i, i < nl → l i < 256) (hnl : nl ≤ 96) {s : Nat} (hs : s < nl) {f0 : Int32} {n : Nat} (hn : 10 < n) : (Gd l nl s → lp (fX1_wrongLetter_8 X) n (nI nl, f0, 0, nI s) = lp (fX1_wrongLetter_8 X) (n - (lb (l s) + 1)) (nI nl, nI (l s), 0, nI (s + lb (l s) + 1))) ∧ ∀ w, Bd l nl s w → lp (fX1_wrongLetter_8 X) n (nI nl, f0, 0, nI s) = some (nI w) := by
  obtain ⟨n, rfl⟩ : ∃ m, n = m + 1 := ⟨n - 1, by omega⟩
  have hb := lb_le (l s)
  have unf : lp (fX1_wrongLetter_8 X) (n + 1) (nI nl, f0, 0, nI s) = fX1_wrongLetter_8 X (lp (fX1_wrongLetter_8 X) n) (nI nl, f0, 0, nI s) := rfl
  rw [unf]
  have g : ¬ nI nl ≤ nI s := fun q => by have := (nle (by omega) (by omega)).mp q; omega
  have rx : ∀ {β : Type} {K : Int32 → Option β}, rd 96 (lN8 l) (nI s) K = K (nI (l s)) := rdN (f := lN8 l) (by omega) (by decide)
  have ql := q_lb _ (hl s hs)
  by_cases z : lb (l s) = 0
  · refine ⟨fun h => absurd z h.2.1, fun w hw => ?_⟩
    rcases hw with ⟨rfl, _⟩ | ⟨_, h, _⟩
    · rw [z] at ql
      simp only [fX1_wrongLetter_8, g, if_false, x4, rx, if_true, ql, clT, z00]
    · exact absurd z h
  · have nz : ¬ nI (lb (l s)) = (0 : Int32) := fun q => z ((neq (b := 0) (by omega) (by decide)).mp q)
    have step : fX1_wrongLetter_8 X (lp (fX1_wrongLetter_8 X) n) (nI nl, f0, 0, nI s) = lp (fX1_wrongLetter_8 X) n (nI nl, nI (l s), nI (lb (l s)), nI (s + 1)) := by
      simp only [fX1_wrongLetter_8, fX1_wrongLetter_59, g, if_false, x4, rx, if_true, ql, clT, nz, bnT, nI_1]
    rw [step]
    obtain ⟨i1, i2⟩ := c_run x4 hl hnl hs (lb (l s)) 1 n (by omega) (by omega) (by omega) (by omega)
    refine ⟨fun h => ?_, fun w hw => ?_⟩
    · rw [i1 (fun i a b => h.2.2 i a b), show n + 1 - (lb (l s) + 1) = n - lb (l s) by omega]
    · rcases hw with ⟨_, h | h⟩ | ⟨_, _, j, a, b, c, d, rfl⟩
      · omega
      · exact absurd h z
      · exact i2 j a b c d
-- the reference's reading
def dg (l : Nat → Nat) (nl i : Nat) : Prop := i < nl ∧ 48 ≤ l i ∧ l i ≤ 57
def val (l : Nat → Nat) (s : Nat) : Nat → Nat
  | 0 => 0
  | n + 1 => 10 * val l s n + (l (s + n) - 48)
def YP (Y Y' : VS) (s : Nat) : Prop := (∀ k, k ≠ 10 → k ≠ 11 → Y' k = Y k) ∧ Y' 10 0 = nI s
theorem YP_t {Y Y' Y'' : VS} {s t : Nat} (h : YP Y Y' s) (g : YP Y' Y'' t) : YP Y Y'' t := ⟨fun k a b => (g.1 k a b).trans (h.1 k a b), g.2⟩
theorem r_here (y5 : Y 5 = lN8 l) (y8 : Y 8 0 = nI nl) (hnl : nl ≤ 96) {s : Nat} (y10 : Y 10 0 = nI s) (hs : s ≤ nl) : fX2_here Y = some (if s < nl then nI (l s) else -1) := by
  rw [fX2_here, y8, y10]
  by_cases c : s < nl
  · have g : ¬ nI nl ≤ nI s := fun q => by have := (nle (by omega) (by omega)).mp q; omega
    rw [if_neg g, if_pos c, y5, rdN (f := lN8 l) (show s < 96 by omega) (by decide)]; rfl
  · have g : nI nl ≤ nI s := (nle (by omega) (by omega)).mpr (by omega)
    rw [if_pos g, if_neg c]
theorem isD {l : Nat → Nat} {nl s : Nat} (hl : ∀ i, i < nl → l i < 256) : (dg l nl s ∧ fX2_isIn (if s < nl then nI (l s) else -1) 48 57 = some 1) ∨ (¬ dg l nl s ∧ fX2_isIn (if s < nl then nI (l s) else -1) 48 57 = some 0) := by
  by_cases c : s < nl
  · have h := hl s c
    rw [if_pos c, fX2_isIn]
    have c48 : (nI (l s) < (48 : Int32)) ↔ l s < 48 := nlt (b := 48) (by omega) (by decide)
    have c57 : ((57 : Int32) < nI (l s)) ↔ 57 < l s := nlt (a := 57) (by decide) (by omega)
    by_cases a : l s < 48
    · refine Or.inr ⟨fun q => by have := q.2.1; omega, ?_⟩
      rw [if_pos (c48.mpr a)]
    · rw [if_neg (fun q => a (c48.mp q))]
      by_cases b : 57 < l s
      · refine Or.inr ⟨fun q => by have := q.2.2; omega, ?_⟩
        rw [if_pos (c57.mpr b)]
      · refine Or.inl ⟨⟨c, by omega, by omega⟩, ?_⟩
        rw [if_neg (fun q => b (c57.mp q))]
  · refine Or.inr ⟨fun q => c q.1, ?_⟩
    rw [if_neg c]; decide
theorem r_number (y5 : Y 5 = lN8 l) (y8 : Y 8 0 = nI nl) (hl : ∀ i, i < nl → l i < 256) (hnl : nl ≤ 96) {s k n : Nat} (y10 : Y 10 0 = nI s) (hs : s ≤ nl) (hk : k < 3) (hn : n ≤ 3) : (∃ j, j < n ∧ (∀ i, i < j → dg l nl (s + i)) ∧ ¬ dg l nl (s + j) ∧ ∃ Y', fX2_readsNumber Y (nI k) (nI n) = some (0, Y') ∧ YP Y Y' (s + j)) ∨ ((∀ i, i < n → dg l nl (s + i)) ∧ ∃ Y', fX2_readsNumber Y (nI k) (nI n) = some (1, Y') ∧ YP Y Y' (s + n) ∧ Y' 11 k = nI (val l s n) ∧ ∀ k', k' ≠ k → Y' 11 k' = Y 11 k') := by
  have kk : ∀ {β : Type} {K : Option β}, ck 3 (nI k) K = K := ckN hk (by decide)
  have t1 : (nI k).toNatClampNeg = k := ncl (by omega)
  rw [fX2_readsNumber, kk, bnT, t1]
  refine lp_one (F := fX2_readsNumber_9) n (fun i z => ∃ Y1, z = (Y1, nI k, nI n, nI i) ∧ YP Y Y1 (s + i) ∧ (∀ i', i' < i → dg l nl (s + i')) ∧ Y1 11 k = nI (val l s i) ∧ ∀ k', k' ≠ k → Y1 11 k' = Y 11 k') (fun o => (∃ j, j < n ∧ (∀ i, i < j → dg l nl (s + i)) ∧ ¬ dg l nl (s + j) ∧ ∃ Y', o = some (0, Y') ∧ YP Y Y' (s + j)) ∨ ((∀ i, i < n → dg l nl (s + i)) ∧ ∃ Y', o = some (1, Y') ∧ YP Y Y' (s + n) ∧ Y' 11 k = nI (val l s n) ∧ ∀ k', k' ≠ k → Y' 11 k' = Y 11 k')) ?_ ?_ _ ⟨_, rfl, ⟨fun k' a b => up_n _ _ b, by rw [up_n _ _ (by decide)]; exact y10⟩, fun i' hi => by omega, ?_, fun k' hk' => ?_⟩ 5000 (by omega)
  · rintro k0 z ⟨Y1, rfl, hP, hd, hv, ho⟩
    have g : nI n ≤ nI n := (nle (by omega) (by omega)).mpr (Nat.le_refl _)
    exact Or.inr ⟨hd, Y1, by simp only [fX2_readsNumber_9, g, if_true], hP, hv, ho⟩
  · rintro k0 i z hi ⟨Y1, rfl, hP, hd, hv, ho⟩
    have g : ¬ nI n ≤ nI i := fun q => by have := (nle (by omega) (by omega)).mp q; omega
    have hsi : s + i ≤ nl := by
      by_cases e : i = 0
      · omega
      · have := (hd (i - 1) (by omega)).1; omega
    have hh := r_here (l := l) (nl := nl) (Y := Y1) (by rw [hP.1 5 (by decide) (by decide)]; exact y5) (by rw [hP.1 8 (by decide) (by decide)]; exact y8) hnl hP.2 hsi
    rcases isD (l := l) (nl := nl) (s := s + i) hl with ⟨d, e⟩ | ⟨d, e⟩
    · rw [if_pos d.1] at hh e
      have rk : ∀ {β : Type} {K : Int32 → Option β}, rd 3 (Y1 11) (nI k) K = K (nI (val l s i)) := by
        intro β K
        rw [rdN hk (by decide), hv]
      have em : (10 : Int32) * nI (val l s i) + nI (l (s + i)) - (48 : Int32) = nI (val l s (i + 1)) := by
        have h48 := d.2.1
        have e10 : (10 : Int32) = nI 10 := rfl
        have e48 : (48 : Int32) = nI 48 := rfl
        rw [e10, e48, pk_mul, nI_add, pk_sub (by omega)]
        show _ = nI (10 * val l s i + (l (s + i) - 48))
        rw [show 10 * val l s i + l (s + i) - 48 = 10 * val l s i + (l (s + i) - 48) by omega]
      refine Or.inr ⟨(up (up Y1 11 (upd (Y1 11) k (nI (val l s (i + 1))))) 10 (fun _ => nI (s + i + 1)), nI k, nI n, nI (i + 1)), ?_, _, rfl, ⟨fun k' a b => ?_, ?_⟩, fun i' hi' => ?_, ?_, fun k' hk' => ?_⟩
      · have e10 : up Y1 11 (upd (Y1 11) k (nI (val l s (i + 1)))) 10 0 = nI (s + i) := by rw [up_n _ _ (by decide)]; exact hP.2
        simp only [fX2_readsNumber_9, g, if_false, hh, clT, e, ne10, rk, em, kk, t1, bnT, e10, nI_1]
      · rw [up_n _ _ a, up_n _ _ b]; exact hP.1 k' a b
      · rw [up_s]; rfl
      · by_cases q : i' = i
        · rw [q]; exact d
        · exact hd i' (by omega)
      · rw [up_n _ _ (by decide), up_s]
        show (if k = k then _ else _) = _
        rw [if_pos rfl]
      · rw [up_n _ _ (by decide), up_s]
        show (if k' = k then _ else _) = _
        rw [if_neg hk']; exact ho k' hk'
    · refine Or.inl (Or.inl ⟨i, hi, hd, d, Y1, ?_, hP⟩)
      simp only [fX2_readsNumber_9, g, if_false, hh, clT, e, if_true]
  · rw [up_s]
    show (if k = k then _ else _) = _
    rw [if_pos rfl]; rfl
  · rw [up_s]
    show (if k' = k then _ else _) = _
    rw [if_neg hk']
end
