/-! two loops side by side; a mind apart -/
theorem lp_gen {σ τ β γ : Type} {F : (σ → Option β) → σ → Option β} {G : (τ → Option γ) → τ → Option γ} (N : Nat) (I : Nat → σ → τ → Prop) (Q : Option β → Option γ → Prop) (h1 : ∀ k j x y, I N x y → Q (F k x) (G j y)) (h2 : ∀ k j i x y, i < N → I i x y → Q (F k x) (G j y) ∨ ∃ x' y', F k x = k x' ∧ G j y = j y' ∧ I (i + 1) x' y') : ∀ x y, I 0 x y → ∀ n m, N < n → N < m → Q (lp F n x) (lp G m y) := by
  have key : ∀ d i x y n m, i + d = N → d < n → d < m → I i x y → Q (lp F n x) (lp G m y) := by
    intro d
    induction d with
    | zero =>
      intro i x y n m hi hn hm hI
      have e : i = N := by omega
      subst e
      cases n with
      | zero => omega
      | succ n => cases m with
        | zero => omega
        | succ m => exact h1 (lp F n) (lp G m) x y hI
    | succ d ih =>
      intro i x y n m hi hn hm hI
      cases n with
      | zero => omega
      | succ n => cases m with
        | zero => omega
        | succ m =>
          rcases h2 (lp F n) (lp G m) i x y (by omega) hI with h | ⟨x', y', a, b, c⟩
          · exact h
          · have w := ih (i + 1) x' y' n m (by omega) (by omega) (by omega) c
            have a' : lp F (n + 1) x = lp F n x' := a
            have b' : lp G (m + 1) y = lp G m y' := b
            rw [a', b']; exact w
  intro x y h n m hn hm
  exact key N 0 x y n m (by omega) hn hm h
theorem up_self {α : Type} (g : Nat → α) (k : Nat) : up g k (g k) = g := funext fun j => by
  by_cases e : j = k
  · subst e; rw [up_s]
  · rw [up_n _ _ e]
theorem un10 {α : Type} (g : Nat → α) (a : α) : up g 1 a 0 = g 0 := rfl
theorem un13 {α : Type} (g : Nat → α) (a : α) : up g 1 a 3 = g 3 := rfl
def MM (X : Nat → VS) (Y : VS) (X' : Nat → VS) (Y' : VS) : Prop := (∃ T y, X' = up X 1 (cw T y)) ∧ ∃ g, (∀ j, 81 ≤ j → g j = 0) ∧ Y' = up Y 1 g
section
variable {X : Nat → VS} {Y : VS} {S : Nat → Nat}
theorem relMM {X' : Nat → VS} {Y' : VS} (hR : Rel X Y) (h : MM X Y X' Y') : Rel X' Y' := by
  obtain ⟨⟨T, y, rfl⟩, g, hg, rfl⟩ := h
  exact relM hR T y hg
theorem mm0 {P l r f : Nat → Nat} {hp nl nr : Nat} (hR : RR S P l r f hp nl nr X Y) : MM X Y X Y := by
  obtain ⟨_, ⟨_, ⟨T, y, x1⟩, _⟩, ⟨_, y1, _⟩⟩ := hR
  exact ⟨⟨T, y, by rw [← x1, up_self]⟩, Y 1, y1, (up_self Y 1).symm⟩
theorem mmT {T : Nat → Nat} (h : Ok T) : MM X Y (up X 1 (cv T)) (up Y 1 (lN8 T)) := ⟨⟨T, _, rfl⟩, _, lN8_z h, rfl⟩
theorem cpX {X' : Nat → VS} (x0 : X 0 = cv S) (h : ∃ T y, X' = up X 1 (cw T y)) : fX0_copyFrom (X' 1) (X' 0) = some (cv S) ∧ (∀ v, up X' 1 v = up X 1 v) ∧ X' 0 = cv S := by
  obtain ⟨T, y, rfl⟩ := h
  refine ⟨?_, fun v => up_up _ _ _ _, x0⟩
  rw [up_s, un10, x0]; exact c_copyFrom T y
theorem cpY {Y' : VS} (hS : Ok S) (y0 : Y 0 = lN8 S) (h : ∃ g, (∀ j, 81 ≤ j → g j = 0) ∧ Y' = up Y 1 g) : fX2_copies (Y' 0) (Y' 1) = some (lN8 S) ∧ (∀ v, up Y' 1 v = up Y 1 v) ∧ Y' 0 = lN8 S := by
  obtain ⟨g, hg, rfl⟩ := h
  refine ⟨?_, fun v => up_up _ _ _ _, y0⟩
  rw [up_s, un10, y0]; exact r_copies hS hg
theorem cv_isWhole (h : Ok S) {p : Nat} (hp : p < 5) : fX0_isWhole (cv S) (nI p) = some (nI (sWh S p)) := c_isWhole h hp
theorem cv_wordsOf (h : Ok S) {p : Nat} (hp : p < 5) : fX0_wordsOf (cv S) (nI p) = some (nI (sW S p)) := c_wordsOf h hp
theorem cv_countWhole (h : Ok S) : fX0_countWhole (cv S) = some (nI (sWhole S)) := c_countWhole h
theorem cv_countWords (h : Ok S) : fX0_countWords (cv S) = some (nI (sAll S)) := c_countWords h
theorem cv_isSent (h : Ok S) {t : Nat} (ht : t < 9) : fX0_isSent (cv S) (nI t) = some (nI (S (8 + 4 * t))) := c_isSent h ht
theorem cv_costOf (h : Ok S) {t : Nat} (ht : t < 9) : fX0_costOf (cv S) (nI t) = some (nI (sCost (S (5 + 4 * t)))) := c_costOf h ht
theorem cv_darkOf (h : Ok S) {t : Nat} (ht : t < 9) : fX0_darkOf (cv S) (nI t) = some (nI (sDark (S (5 + 4 * t)) (S (6 + 4 * t)))) := c_darkOf h ht
theorem cv_readersOf (h : Ok S) {t : Nat} (ht : t < 9) : fX0_readersOf (cv S) (nI t) = some (nI (sReaders S t)) := c_readersOf h ht
theorem cv_throw (h : Ok S) {t : Nat} (ht : t < 9) : fX0_throwAway (cv S) (nI t) = some (cv (setN S (8 + 4 * t) 1)) := by
  unfold cv
  rw [c_throwAway h ht, setN_n S 1 (by omega)]
theorem u10v (y : Nat) : up (cv S) 10 (fun _ => nI y) = cv (setN S 4 y) := by
  unfold cv
  rw [u10 y, setN_n S y (by decide)]
theorem u6v {p : Nat} (hp : p < 5) (y : Nat) : up (cv S) 6 (upd (cv S 6) p (nI y)) = cv (setN S (41 + 8 * p) y) := by
  unfold cv
  rw [u6 hp y, setN_n S y (by omega)]
theorem not9 {n : Nat} (hn : n < 2147483648) : ¬ nI n = (-9 : Int32) := fun q => by
  have h : (-9 : Int32) < 0 := by decide
  exact neg_ne h hn q.symm
/-- when is p whole -/
theorem whole1 (o1 : Ok S) (x0 : X 0 = cv S) (y0 : Y 0 = lN8 S) {X' : Nat → VS} {Y' : VS} (hM : MM X Y X' Y') {p : Nat} (hp : p < 5) : ∃ r X'' Y'', (r = -9 ∨ ∃ n, n ≤ 60 ∧ r = nI n) ∧ MM X Y X'' Y'' ∧ fX1_nightsUntilWhole X' (nI p) = some (r, X'') ∧ fX2_wholeOf Y' (nI p) = some (r, Y'') := by
  obtain ⟨a1, a2, a3⟩ := cpX x0 hM.1
  obtain ⟨b1, b2, b3⟩ := cpY o1 y0 hM.2
  rw [fX1_nightsUntilWhole, fX2_wholeOf, a1, b1, clS, clS, bnE, bnE, a2, b2]
  refine lp_gen 61 (fun i a b => ∃ T, Ok T ∧ a = (up X 1 (cv T), nI p, nI i) ∧ b = (up Y 1 (lN8 T), nI p, nI i)) (fun o1 o2 => ∃ r X'' Y'', (r = -9 ∨ ∃ n, n ≤ 60 ∧ r = nI n) ∧ MM X Y X'' Y'' ∧ o1 = some (r, X'') ∧ o2 = some (r, Y'')) ?_ ?_ _ _ ⟨S, o1, rfl, rfl⟩ 5000 5000 (by omega) (by omega)
  · rintro k j _ _ ⟨T, hT, rfl, rfl⟩
    have g : (60 : Int32) < nI 61 := by decide
    refine ⟨-9, _, _, Or.inl rfl, mmT hT, ?_, ?_⟩
    · simp only [fX1_nightsUntilWhole_13, g, if_true]
    · simp only [fX2_wholeOf_13, g, if_true]
  · rintro k j i _ _ hi ⟨T, hT, rfl, rfl⟩
    have g : ¬ (60 : Int32) < nI i := fun q => by have := (nlt (a := 60) (by decide) (by omega)).mp q; omega
    by_cases c : sW T p = 63
    · have w1 : sWh T p = 1 := if_pos c
      refine Or.inl ⟨nI i, _, _, Or.inr ⟨i, by omega, rfl⟩, mmT hT, ?_, ?_⟩
      · simp only [fX1_nightsUntilWhole_13, g, if_false, up_s, cv_isWhole hT hp, w1, clS]
        exact if_neg ne10
      · simp only [fX2_wholeOf_13, g, if_false, up_s, r_wordsOf hT hp, c, clS]
        exact if_pos rfl
    · have w1 : sWh T p = 0 := if_neg c
      have hl := sW_lt T p
      have c' : ¬ nI (sW T p) = (63 : Int32) := fun q => c ((neq (b := 63) (by omega) (by decide)).mp q)
      refine Or.inr ⟨(up X 1 (cv (sNight lkE T)), nI p, nI (i + 1)), (up Y 1 (lN8 (sNight lkE T)), nI p, nI (i + 1)), ?_, ?_, sNight lkE T, (sNight_ok hT).1, rfl, rfl⟩
      · simp only [fX1_nightsUntilWhole_13, g, if_false, up_s, cv_isWhole hT hp, w1, clS]
        rw [if_pos z00, c_night1 hT]
        simp only [clS, bnE, up_up, nI_1]
      · simp only [fX2_wholeOf_13, g, if_false, up_s, r_wordsOf hT hp, c', clS, r_night1 hT, bnE, up_up, nI_1]
theorem p_whole (hR : Rel X Y) (a : Int32) : Ag (fX1_whole X a) (fX2_whole Y a) := by
  have hR' := hR
  obtain ⟨S, P, l, r, f, hp, nl, nr, hh⟩ := hR'
  have o1 := hh.1.1
  have x0 := hh.2.1.1
  have y0 := hh.2.2.1
  have h1 := o1.2.1
  have hM := mm0 hh
  rw [fX1_whole, fX2_whole]
  by_cases ha : a = -1
  · rw [if_pos ha, if_pos ha, cl_e, cl_e, fX1_firstWhole, fX2_firstWhole]
    refine lp_gen (S 1) (fun i x y => ∃ X' Y' b c d, MM X Y X' Y' ∧ x = (X', b, c, nI i) ∧ y = (Y', b, d, nI i) ∧ (c = nI 61 ∧ d = nI 1000000000 ∨ ∃ n, n ≤ 60 ∧ c = nI n ∧ d = nI n)) Ag ?_ ?_ _ _ ⟨X, Y, -9, nI 61, nI 1000000000, hM, rfl, rfl, Or.inl ⟨rfl, rfl⟩⟩ 5000 5000 (by omega) (by omega)
    · rintro k j _ _ ⟨X', Y', b, c, d, hm, rfl, rfl, -⟩
      have e0 := (cpX x0 hm.1).2.2
      have e1 := (cpY o1 y0 hm.2).2.2
      have e5 : cv S 5 0 = nI (S 1) := rfl
      refine ⟨b, X', Y', ?_, ?_, relMM hR hm⟩
      · simp (disch := omega) only [fX1_firstWhole_8, e0, e5, nle, Nat.le_refl, if_true]
      · simp (disch := omega) only [fX2_firstWhole_8, e1, lit32, rdM, nle, Nat.le_refl, if_true]
    · rintro k j i _ _ hi ⟨X', Y', b, c, d, hm, rfl, rfl, hcd⟩
      have e0 := (cpX x0 hm.1).2.2
      have e1 := (cpY o1 y0 hm.2).2.2
      have e5 : cv S 5 0 = nI (S 1) := rfl
      have n1 : ¬ nI (S 1) ≤ nI i := fun q => by have := (nle (by omega) (by omega)).mp q; omega
      have e6 : ∀ {β : Type} {K : Int32 → Option β}, rd 81 (lN8 S) 1 K = K (nI (S 1)) := rdM (a := 1) (by decide)
      obtain ⟨r, X'', Y'', hr, hm2, q1, q2⟩ := whole1 o1 x0 y0 hm (p := i) (by omega)
      right
      rcases hr with rfl | ⟨n, hn, rfl⟩
      · refine ⟨(X'', b, c, nI (i + 1)), (Y'', b, d, nI (i + 1)), ?_, ?_, X'', Y'', b, c, d, hm2, rfl, rfl, hcd⟩
        · simp only [fX1_firstWhole_8, fX1_firstWhole_44, e0, e5, n1, if_false, q1, clS, bnE, if_true, nI_1]
        · have g : (-9 : Int32) < 0 := by decide
          simp only [fX2_firstWhole_8, fX2_firstWhole_44, e1, e6, n1, if_false, q2, clS, bnE, g, if_true, nI_1]
      · have g9 := not9 (n := n) (by omega)
        have g0 : ¬ nI n < (0 : Int32) := nneg (by omega)
        rcases hcd with ⟨rfl, rfl⟩ | ⟨m, hm', rfl, rfl⟩
        · have t1 : ¬ nI 61 ≤ nI n := fun q => by have := (nle (by omega) (by omega)).mp q; omega
          have t2 : nI n < nI 1000000000 := (nlt (by omega) (by omega)).mpr (by omega)
          refine ⟨(X'', nI i, nI n, nI (i + 1)), (Y'', nI i, nI n, nI (i + 1)), ?_, ?_, X'', Y'', nI i, nI n, nI n, hm2, rfl, rfl, Or.inr ⟨n, hn, rfl, rfl⟩⟩
          · simp only [fX1_firstWhole_8, fX1_firstWhole_44, e0, e5, n1, if_false, q1, clS, bnE, g9, t1, nI_1]
          · simp only [fX2_firstWhole_8, fX2_firstWhole_44, e1, e6, n1, if_false, q2, clS, bnE, g0, t2, if_true, nI_1]
        · by_cases z : m ≤ n
          · have t1 : nI m ≤ nI n := (nle (by omega) (by omega)).mpr z
            have t2 : ¬ nI n < nI m := fun q => by have := (nlt (by omega) (by omega)).mp q; omega
            refine ⟨(X'', b, nI m, nI (i + 1)), (Y'', b, nI m, nI (i + 1)), ?_, ?_, X'', Y'', b, nI m, nI m, hm2, rfl, rfl, Or.inr ⟨m, hm', rfl, rfl⟩⟩
            · simp only [fX1_firstWhole_8, fX1_firstWhole_44, e0, e5, n1, if_false, q1, clS, bnE, g9, t1, if_true, nI_1]
            · simp only [fX2_firstWhole_8, fX2_firstWhole_44, e1, e6, n1, if_false, q2, clS, bnE, g0, t2, nI_1]
          · have t1 : ¬ nI m ≤ nI n := fun q => z ((nle (by omega) (by omega)).mp q)
            have t2 : nI n < nI m := (nlt (by omega) (by omega)).mpr (by omega)
            refine ⟨(X'', nI i, nI n, nI (i + 1)), (Y'', nI i, nI n, nI (i + 1)), ?_, ?_, X'', Y'', nI i, nI n, nI n, hm2, rfl, rfl, Or.inr ⟨n, hn, rfl, rfl⟩⟩
            · simp only [fX1_firstWhole_8, fX1_firstWhole_44, e0, e5, n1, if_false, q1, clS, bnE, g9, t1, nI_1]
            · simp only [fX2_firstWhole_8, fX2_firstWhole_44, e1, e6, n1, if_false, q2, clS, bnE, g0, t2, if_true, nI_1]
  · rw [if_neg ha, if_neg ha, x0]
    rcases rdr (x := nI (S 3)) o1 y0 a with ⟨p, hp5, rfl, e1, e2⟩ | ⟨e1, e2⟩
    · rw [show fX0_hasReader (cv S) (nI p) = some 1 from e1, e2, clS, clS, if_neg ne10, if_neg ne10, cl_e, cl_e]
      obtain ⟨r, X'', Y'', hr, hm2, q1, q2⟩ := whole1 o1 x0 y0 hM (p := p) (by omega)
      exact ⟨r, X'', Y'', q1, q2, relMM hR hm2⟩
    · rw [show fX0_hasReader (cv S) a = some 0 from e1, e2, clS, clS, if_pos rfl, if_pos rfl, cl_e, cl_e]
      exact refAg hR (by simp)
theorem p_next (hR : Rel X Y) (a : Int32) : Ag (fX1_next X a) (fX2_next Y a) := by
  have hR' := hR
  obtain ⟨S, P, l, r, f, hp, nl, nr, hh⟩ := hR'
  have o1 := hh.1.1
  have x0 := hh.2.1.1
  have y0 := hh.2.2.1
  have hM := mm0 hh
  rw [fX1_next, fX2_next]
  rcases one2 a with ⟨ha, e3, e4⟩ | ⟨a0, a1, e3, e4⟩
  · rw [e3, e4, clS, clS, if_neg ne10, if_neg ne10]
    rcases ha with rfl | rfl
    · rw [if_pos rfl, if_pos rfl, x0, y0, c_upNext o1, r_nextOf o1, clS, clS]
      exact agS hR _ rfl rfl
    · obtain ⟨a1, a2, a3⟩ := cpX x0 hM.1
      obtain ⟨b1, b2, b3⟩ := cpY o1 y0 hM.2
      rw [if_neg ne10, if_neg ne10, cl_e, fX1_nightsUntilSpent, a1, b1, clS, clS, bnE, bnE]
      refine lp_gen 61 (fun i a b => ∃ T, Ok T ∧ a = (up X 1 (cv T), nI i) ∧ b = (up Y 1 (lN8 T), nI i)) Ag ?_ ?_ _ _ ⟨S, o1, rfl, rfl⟩ 5000 5000 (by omega) (by omega)
      · rintro k j _ _ ⟨T, hT, rfl, rfl⟩
        have g : (60 : Int32) < nI 61 := by decide
        refine ⟨-9, _, _, ?_, ?_, relT hR hT⟩
        · simp only [fX1_nightsUntilSpent_13, g, if_true]
        · simp only [fX2_next_41, g, if_true]
      · rintro k j i _ _ hi ⟨T, hT, rfl, rfl⟩
        have g : ¬ (60 : Int32) < nI i := fun q => by have := (nlt (a := 60) (by decide) (by omega)).mp q; omega
        have h0 := hT.1
        by_cases c : fst1 (sCan T) (T 0) < T 0
        · have ee : enc (fst1 (sCan T) (T 0)) (T 0) = nI (fst1 (sCan T) (T 0)) := if_pos c
          have g9 := not9 (n := fst1 (sCan T) (T 0)) (by omega)
          have g0 : (0 : Int32) ≤ nI (fst1 (sCan T) (T 0)) := nI_pos' (by omega)
          refine Or.inr ⟨(up X 1 (cv (sNight lkE T)), nI (i + 1)), (up Y 1 (lN8 (sNight lkE T)), nI (i + 1)), ?_, ?_, sNight lkE T, (sNight_ok hT).1, rfl, rfl⟩
          · simp only [fX1_nightsUntilSpent_13, g, if_false, up_s, c_upNext hT, ee, g9, clS, c_night1 hT, bnE, up_up, nI_1]
          · simp only [fX2_next_41, g, if_false, up_s, r_nextOf hT, ee, g0, if_true, clS, r_night1 hT, bnE, up_up, nI_1]
        · have ee : enc (fst1 (sCan T) (T 0)) (T 0) = -9 := if_neg c
          have g0 : ¬ (0 : Int32) ≤ -9 := by decide
          refine Or.inl ⟨nI i, _, _, ?_, ?_, relT hR hT⟩
          · simp only [fX1_nightsUntilSpent_13, g, if_false, up_s, c_upNext hT, ee, clS, if_true]
          · simp only [fX2_next_41, g, if_false, up_s, r_nextOf hT, ee, g0, clS]
  · rw [e3, e4, clS, clS, if_pos rfl, if_pos rfl, cl_e, cl_e]
    exact refAg hR (by simp)
end
