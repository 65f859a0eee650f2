/-! the law: every call, every run -/
section
variable {X : Nat → VS} {Y : VS} {L i : Nat} {xs : Nat → Int32}
theorem w_letter (hR : Rel X Y) (hi : i + 5 ≤ L) (hL : L ≤ 2560) (k : ((Nat → VS) × (VS) × (Int32)) → Option Unit) : ∃ X' Y', Rel X' Y' ∧ fL_law_200 L xs k (X, Y, nI i) = k (X', Y', nI (i + 5)) := by
  have e1 : nI i + (1 : Int32) = nI (i + 1) := nI_add i 1
  have r1 : ∀ {β : Type} {K : Int32 → Option β}, rd L xs (nI (i + 1)) K = K (xs (i + 1)) := rdN (by omega) (by omega)
  have e9 : nI i + (5 : Int32) = nI (i + 5) := nI_add i 5
  obtain ⟨r, X', Y', h1, h2, h3⟩ := p_letter hR (xs (i + 1))
  refine ⟨X', Y', h3, ?_⟩
  simp only [fL_law_200, fL_law_1196, e1, r1, h1, h2, clT, eq_self, if_true, bnT, e9]
theorem w_valley (hR : Rel X Y) (hi : i + 5 ≤ L) (hL : L ≤ 2560) (k : ((Nat → VS) × (VS) × (Int32)) → Option Unit) : ∃ X' Y', Rel X' Y' ∧ fL_law_223 L xs k (X, Y, nI i) = k (X', Y', nI (i + 5)) := by
  have e9 : nI i + (5 : Int32) = nI (i + 5) := nI_add i 5
  obtain ⟨r, X', Y', h1, h2, h3⟩ := p_valley hR
  refine ⟨X', Y', h3, ?_⟩
  simp only [fL_law_223, fL_law_1196, h1, h2, clT, eq_self, if_true, bnT, e9]
theorem w_rocket (hR : Rel X Y) (hi : i + 5 ≤ L) (hL : L ≤ 2560) (k : ((Nat → VS) × (VS) × (Int32)) → Option Unit) : ∃ X' Y', Rel X' Y' ∧ fL_law_236 L xs k (X, Y, nI i) = k (X', Y', nI (i + 5)) := by
  have e1 : nI i + (1 : Int32) = nI (i + 1) := nI_add i 1
  have r1 : ∀ {β : Type} {K : Int32 → Option β}, rd L xs (nI (i + 1)) K = K (xs (i + 1)) := rdN (by omega) (by omega)
  have e2 : nI i + (2 : Int32) = nI (i + 2) := nI_add i 2
  have r2 : ∀ {β : Type} {K : Int32 → Option β}, rd L xs (nI (i + 2)) K = K (xs (i + 2)) := rdN (by omega) (by omega)
  have e9 : nI i + (5 : Int32) = nI (i + 5) := nI_add i 5
  obtain ⟨r, X', Y', h1, h2, h3⟩ := p_rocket hR (xs (i + 1)) (xs (i + 2))
  refine ⟨X', Y', h3, ?_⟩
  simp only [fL_law_236, fL_law_1196, e1, r1, e2, r2, h1, h2, clT, eq_self, if_true, bnT, e9]
theorem w_reader (hR : Rel X Y) (hi : i + 5 ≤ L) (hL : L ≤ 2560) (k : ((Nat → VS) × (VS) × (Int32)) → Option Unit) : ∃ X' Y', Rel X' Y' ∧ fL_law_269 L xs k (X, Y, nI i) = k (X', Y', nI (i + 5)) := by
  have e1 : nI i + (1 : Int32) = nI (i + 1) := nI_add i 1
  have r1 : ∀ {β : Type} {K : Int32 → Option β}, rd L xs (nI (i + 1)) K = K (xs (i + 1)) := rdN (by omega) (by omega)
  have e2 : nI i + (2 : Int32) = nI (i + 2) := nI_add i 2
  have r2 : ∀ {β : Type} {K : Int32 → Option β}, rd L xs (nI (i + 2)) K = K (xs (i + 2)) := rdN (by omega) (by omega)
  have e9 : nI i + (5 : Int32) = nI (i + 5) := nI_add i 5
  obtain ⟨r, X', Y', h1, h2, h3⟩ := p_reader hR (xs (i + 1)) (xs (i + 2))
  refine ⟨X', Y', h3, ?_⟩
  simp only [fL_law_269, fL_law_1196, e1, r1, e2, r2, h1, h2, clT, eq_self, if_true, bnT, e9]
theorem w_keeps (hR : Rel X Y) (hi : i + 5 ≤ L) (hL : L ≤ 2560) (k : ((Nat → VS) × (VS) × (Int32)) → Option Unit) : ∃ X' Y', Rel X' Y' ∧ fL_law_302 L xs k (X, Y, nI i) = k (X', Y', nI (i + 5)) := by
  have e1 : nI i + (1 : Int32) = nI (i + 1) := nI_add i 1
  have r1 : ∀ {β : Type} {K : Int32 → Option β}, rd L xs (nI (i + 1)) K = K (xs (i + 1)) := rdN (by omega) (by omega)
  have e2 : nI i + (2 : Int32) = nI (i + 2) := nI_add i 2
  have r2 : ∀ {β : Type} {K : Int32 → Option β}, rd L xs (nI (i + 2)) K = K (xs (i + 2)) := rdN (by omega) (by omega)
  have e9 : nI i + (5 : Int32) = nI (i + 5) := nI_add i 5
  obtain ⟨r, X', Y', h1, h2, h3⟩ := p_keeps hR (xs (i + 1)) (xs (i + 2))
  refine ⟨X', Y', h3, ?_⟩
  simp only [fL_law_302, fL_law_1196, e1, r1, e2, r2, h1, h2, clT, eq_self, if_true, bnT, e9]
theorem w_sends (hR : Rel X Y) (hi : i + 5 ≤ L) (hL : L ≤ 2560) (k : ((Nat → VS) × (VS) × (Int32)) → Option Unit) : ∃ X' Y', Rel X' Y' ∧ fL_law_335 L xs k (X, Y, nI i) = k (X', Y', nI (i + 5)) := by
  have e1 : nI i + (1 : Int32) = nI (i + 1) := nI_add i 1
  have r1 : ∀ {β : Type} {K : Int32 → Option β}, rd L xs (nI (i + 1)) K = K (xs (i + 1)) := rdN (by omega) (by omega)
  have e9 : nI i + (5 : Int32) = nI (i + 5) := nI_add i 5
  obtain ⟨r, X', Y', h1, h2, h3⟩ := p_sends hR (xs (i + 1))
  refine ⟨X', Y', h3, ?_⟩
  simp only [fL_law_335, fL_law_1196, e1, r1, h1, h2, clT, eq_self, if_true, bnT, e9]
theorem w_boxes (hR : Rel X Y) (hi : i + 5 ≤ L) (hL : L ≤ 2560) (k : ((Nat → VS) × (VS) × (Int32)) → Option Unit) : ∃ X' Y', Rel X' Y' ∧ fL_law_358 L xs k (X, Y, nI i) = k (X', Y', nI (i + 5)) := by
  have e1 : nI i + (1 : Int32) = nI (i + 1) := nI_add i 1
  have r1 : ∀ {β : Type} {K : Int32 → Option β}, rd L xs (nI (i + 1)) K = K (xs (i + 1)) := rdN (by omega) (by omega)
  have e9 : nI i + (5 : Int32) = nI (i + 5) := nI_add i 5
  obtain ⟨r, X', Y', h1, h2, h3⟩ := p_boxes hR (xs (i + 1))
  refine ⟨X', Y', h3, ?_⟩
  simp only [fL_law_358, fL_law_1196, e1, r1, h1, h2, clT, eq_self, if_true, bnT, e9]
theorem w_wind (hR : Rel X Y) (hi : i + 5 ≤ L) (hL : L ≤ 2560) (k : ((Nat → VS) × (VS) × (Int32)) → Option Unit) : ∃ X' Y', Rel X' Y' ∧ fL_law_381 L xs k (X, Y, nI i) = k (X', Y', nI (i + 5)) := by
  have e1 : nI i + (1 : Int32) = nI (i + 1) := nI_add i 1
  have r1 : ∀ {β : Type} {K : Int32 → Option β}, rd L xs (nI (i + 1)) K = K (xs (i + 1)) := rdN (by omega) (by omega)
  have e9 : nI i + (5 : Int32) = nI (i + 5) := nI_add i 5
  obtain ⟨r, X', Y', h1, h2, h3⟩ := p_wind hR (xs (i + 1))
  refine ⟨X', Y', h3, ?_⟩
  simp only [fL_law_381, fL_law_1196, e1, r1, h1, h2, clT, eq_self, if_true, bnT, e9]
theorem w_grant (hR : Rel X Y) (hi : i + 5 ≤ L) (hL : L ≤ 2560) (k : ((Nat → VS) × (VS) × (Int32)) → Option Unit) : ∃ X' Y', Rel X' Y' ∧ fL_law_404 L xs k (X, Y, nI i) = k (X', Y', nI (i + 5)) := by
  have e1 : nI i + (1 : Int32) = nI (i + 1) := nI_add i 1
  have r1 : ∀ {β : Type} {K : Int32 → Option β}, rd L xs (nI (i + 1)) K = K (xs (i + 1)) := rdN (by omega) (by omega)
  have e9 : nI i + (5 : Int32) = nI (i + 5) := nI_add i 5
  obtain ⟨r, X', Y', h1, h2, h3⟩ := p_grant hR (xs (i + 1))
  refine ⟨X', Y', h3, ?_⟩
  simp only [fL_law_404, fL_law_1196, e1, r1, h1, h2, clT, eq_self, if_true, bnT, e9]
theorem w_stands (hR : Rel X Y) (hi : i + 5 ≤ L) (hL : L ≤ 2560) (k : ((Nat → VS) × (VS) × (Int32)) → Option Unit) : ∃ X' Y', Rel X' Y' ∧ fL_law_427 L xs k (X, Y, nI i) = k (X', Y', nI (i + 5)) := by
  have e1 : nI i + (1 : Int32) = nI (i + 1) := nI_add i 1
  have r1 : ∀ {β : Type} {K : Int32 → Option β}, rd L xs (nI (i + 1)) K = K (xs (i + 1)) := rdN (by omega) (by omega)
  have e2 : nI i + (2 : Int32) = nI (i + 2) := nI_add i 2
  have r2 : ∀ {β : Type} {K : Int32 → Option β}, rd L xs (nI (i + 2)) K = K (xs (i + 2)) := rdN (by omega) (by omega)
  have e9 : nI i + (5 : Int32) = nI (i + 5) := nI_add i 5
  obtain ⟨r, X', Y', h1, h2, h3⟩ := p_stands hR (xs (i + 1)) (xs (i + 2))
  refine ⟨X', Y', h3, ?_⟩
  simp only [fL_law_427, fL_law_1196, e1, r1, e2, r2, h1, h2, clT, eq_self, if_true, bnT, e9]
theorem w_turn (hR : Rel X Y) (hi : i + 5 ≤ L) (hL : L ≤ 2560) (k : ((Nat → VS) × (VS) × (Int32)) → Option Unit) : ∃ X' Y', Rel X' Y' ∧ fL_law_460 L xs k (X, Y, nI i) = k (X', Y', nI (i + 5)) := by
  have e1 : nI i + (1 : Int32) = nI (i + 1) := nI_add i 1
  have r1 : ∀ {β : Type} {K : Int32 → Option β}, rd L xs (nI (i + 1)) K = K (xs (i + 1)) := rdN (by omega) (by omega)
  have e2 : nI i + (2 : Int32) = nI (i + 2) := nI_add i 2
  have r2 : ∀ {β : Type} {K : Int32 → Option β}, rd L xs (nI (i + 2)) K = K (xs (i + 2)) := rdN (by omega) (by omega)
  have e3 : nI i + (3 : Int32) = nI (i + 3) := nI_add i 3
  have r3 : ∀ {β : Type} {K : Int32 → Option β}, rd L xs (nI (i + 3)) K = K (xs (i + 3)) := rdN (by omega) (by omega)
  have e9 : nI i + (5 : Int32) = nI (i + 5) := nI_add i 5
  obtain ⟨r, X', Y', h1, h2, h3⟩ := p_turn hR (xs (i + 1)) (xs (i + 2)) (xs (i + 3))
  refine ⟨X', Y', h3, ?_⟩
  simp only [fL_law_460, fL_law_1196, e1, r1, e2, r2, e3, r3, h1, h2, clT, eq_self, if_true, bnT, e9]
theorem w_nights (hR : Rel X Y) (hi : i + 5 ≤ L) (hL : L ≤ 2560) (k : ((Nat → VS) × (VS) × (Int32)) → Option Unit) : ∃ X' Y', Rel X' Y' ∧ fL_law_503 L xs k (X, Y, nI i) = k (X', Y', nI (i + 5)) := by
  have e1 : nI i + (1 : Int32) = nI (i + 1) := nI_add i 1
  have r1 : ∀ {β : Type} {K : Int32 → Option β}, rd L xs (nI (i + 1)) K = K (xs (i + 1)) := rdN (by omega) (by omega)
  have e9 : nI i + (5 : Int32) = nI (i + 5) := nI_add i 5
  obtain ⟨r, X', Y', h1, h2, h3⟩ := p_nights hR (xs (i + 1))
  refine ⟨X', Y', h3, ?_⟩
  simp only [fL_law_503, fL_law_1196, e1, r1, h1, h2, clT, eq_self, if_true, bnT, e9]
theorem w_wordsThen (hR : Rel X Y) (hi : i + 5 ≤ L) (hL : L ≤ 2560) (k : ((Nat → VS) × (VS) × (Int32)) → Option Unit) : ∃ X' Y', Rel X' Y' ∧ fL_law_526 L xs k (X, Y, nI i) = k (X', Y', nI (i + 5)) := by
  have e1 : nI i + (1 : Int32) = nI (i + 1) := nI_add i 1
  have r1 : ∀ {β : Type} {K : Int32 → Option β}, rd L xs (nI (i + 1)) K = K (xs (i + 1)) := rdN (by omega) (by omega)
  have e2 : nI i + (2 : Int32) = nI (i + 2) := nI_add i 2
  have r2 : ∀ {β : Type} {K : Int32 → Option β}, rd L xs (nI (i + 2)) K = K (xs (i + 2)) := rdN (by omega) (by omega)
  have e9 : nI i + (5 : Int32) = nI (i + 5) := nI_add i 5
  obtain ⟨r, X', Y', h1, h2, h3⟩ := p_wordsThen hR (xs (i + 1)) (xs (i + 2))
  refine ⟨X', Y', h3, ?_⟩
  simp only [fL_law_526, fL_law_1196, e1, r1, e2, r2, h1, h2, clT, eq_self, if_true, bnT, e9]
theorem w_then (hR : Rel X Y) (hi : i + 5 ≤ L) (hL : L ≤ 2560) (k : ((Nat → VS) × (VS) × (Int32)) → Option Unit) : ∃ X' Y', Rel X' Y' ∧ fL_law_559 L xs k (X, Y, nI i) = k (X', Y', nI (i + 5)) := by
  have e1 : nI i + (1 : Int32) = nI (i + 1) := nI_add i 1
  have r1 : ∀ {β : Type} {K : Int32 → Option β}, rd L xs (nI (i + 1)) K = K (xs (i + 1)) := rdN (by omega) (by omega)
  have e2 : nI i + (2 : Int32) = nI (i + 2) := nI_add i 2
  have r2 : ∀ {β : Type} {K : Int32 → Option β}, rd L xs (nI (i + 2)) K = K (xs (i + 2)) := rdN (by omega) (by omega)
  have e9 : nI i + (5 : Int32) = nI (i + 5) := nI_add i 5
  obtain ⟨r, X', Y', h1, h2, h3⟩ := p_then hR (xs (i + 1)) (xs (i + 2))
  refine ⟨X', Y', h3, ?_⟩
  simp only [fL_law_559, fL_law_1196, e1, r1, e2, r2, h1, h2, clT, eq_self, if_true, bnT, e9]
theorem w_whole (hR : Rel X Y) (hi : i + 5 ≤ L) (hL : L ≤ 2560) (k : ((Nat → VS) × (VS) × (Int32)) → Option Unit) : ∃ X' Y', Rel X' Y' ∧ fL_law_592 L xs k (X, Y, nI i) = k (X', Y', nI (i + 5)) := by
  have e1 : nI i + (1 : Int32) = nI (i + 1) := nI_add i 1
  have r1 : ∀ {β : Type} {K : Int32 → Option β}, rd L xs (nI (i + 1)) K = K (xs (i + 1)) := rdN (by omega) (by omega)
  have e9 : nI i + (5 : Int32) = nI (i + 5) := nI_add i 5
  obtain ⟨r, X', Y', h1, h2, h3⟩ := p_whole hR (xs (i + 1))
  refine ⟨X', Y', h3, ?_⟩
  simp only [fL_law_592, fL_law_1196, e1, r1, h1, h2, clT, eq_self, if_true, bnT, e9]
theorem w_next (hR : Rel X Y) (hi : i + 5 ≤ L) (hL : L ≤ 2560) (k : ((Nat → VS) × (VS) × (Int32)) → Option Unit) : ∃ X' Y', Rel X' Y' ∧ fL_law_615 L xs k (X, Y, nI i) = k (X', Y', nI (i + 5)) := by
  have e1 : nI i + (1 : Int32) = nI (i + 1) := nI_add i 1
  have r1 : ∀ {β : Type} {K : Int32 → Option β}, rd L xs (nI (i + 1)) K = K (xs (i + 1)) := rdN (by omega) (by omega)
  have e9 : nI i + (5 : Int32) = nI (i + 5) := nI_add i 5
  obtain ⟨r, X', Y', h1, h2, h3⟩ := p_next hR (xs (i + 1))
  refine ⟨X', Y', h3, ?_⟩
  simp only [fL_law_615, fL_law_1196, e1, r1, h1, h2, clT, eq_self, if_true, bnT, e9]
theorem w_fewest (hR : Rel X Y) (hi : i + 5 ≤ L) (hL : L ≤ 2560) (k : ((Nat → VS) × (VS) × (Int32)) → Option Unit) : ∃ X' Y', Rel X' Y' ∧ fL_law_638 L xs k (X, Y, nI i) = k (X', Y', nI (i + 5)) := by
  have e1 : nI i + (1 : Int32) = nI (i + 1) := nI_add i 1
  have r1 : ∀ {β : Type} {K : Int32 → Option β}, rd L xs (nI (i + 1)) K = K (xs (i + 1)) := rdN (by omega) (by omega)
  have e2 : nI i + (2 : Int32) = nI (i + 2) := nI_add i 2
  have r2 : ∀ {β : Type} {K : Int32 → Option β}, rd L xs (nI (i + 2)) K = K (xs (i + 2)) := rdN (by omega) (by omega)
  have e9 : nI i + (5 : Int32) = nI (i + 5) := nI_add i 5
  obtain ⟨r, X', Y', h1, h2, h3⟩ := p_fewest hR (xs (i + 1)) (xs (i + 2))
  refine ⟨X', Y', h3, ?_⟩
  simp only [fL_law_638, fL_law_1196, e1, r1, e2, r2, h1, h2, clT, eq_self, if_true, bnT, e9]
theorem w_windBest (hR : Rel X Y) (hi : i + 5 ≤ L) (hL : L ≤ 2560) (k : ((Nat → VS) × (VS) × (Int32)) → Option Unit) : ∃ X' Y', Rel X' Y' ∧ fL_law_671 L xs k (X, Y, nI i) = k (X', Y', nI (i + 5)) := by
  have e1 : nI i + (1 : Int32) = nI (i + 1) := nI_add i 1
  have r1 : ∀ {β : Type} {K : Int32 → Option β}, rd L xs (nI (i + 1)) K = K (xs (i + 1)) := rdN (by omega) (by omega)
  have e2 : nI i + (2 : Int32) = nI (i + 2) := nI_add i 2
  have r2 : ∀ {β : Type} {K : Int32 → Option β}, rd L xs (nI (i + 2)) K = K (xs (i + 2)) := rdN (by omega) (by omega)
  have e9 : nI i + (5 : Int32) = nI (i + 5) := nI_add i 5
  obtain ⟨r, X', Y', h1, h2, h3⟩ := p_windBest hR (xs (i + 1)) (xs (i + 2))
  refine ⟨X', Y', h3, ?_⟩
  simp only [fL_law_671, fL_law_1196, e1, r1, e2, r2, h1, h2, clT, eq_self, if_true, bnT, e9]
theorem w_move (hR : Rel X Y) (hi : i + 5 ≤ L) (hL : L ≤ 2560) (k : ((Nat → VS) × (VS) × (Int32)) → Option Unit) : ∃ X' Y', Rel X' Y' ∧ fL_law_704 L xs k (X, Y, nI i) = k (X', Y', nI (i + 5)) := by
  have e1 : nI i + (1 : Int32) = nI (i + 1) := nI_add i 1
  have r1 : ∀ {β : Type} {K : Int32 → Option β}, rd L xs (nI (i + 1)) K = K (xs (i + 1)) := rdN (by omega) (by omega)
  have e2 : nI i + (2 : Int32) = nI (i + 2) := nI_add i 2
  have r2 : ∀ {β : Type} {K : Int32 → Option β}, rd L xs (nI (i + 2)) K = K (xs (i + 2)) := rdN (by omega) (by omega)
  have e3 : nI i + (3 : Int32) = nI (i + 3) := nI_add i 3
  have r3 : ∀ {β : Type} {K : Int32 → Option β}, rd L xs (nI (i + 3)) K = K (xs (i + 3)) := rdN (by omega) (by omega)
  have e9 : nI i + (5 : Int32) = nI (i + 5) := nI_add i 5
  obtain ⟨r, X', Y', h1, h2, h3⟩ := p_move hR (xs (i + 1)) (xs (i + 2)) (xs (i + 3))
  refine ⟨X', Y', h3, ?_⟩
  simp only [fL_law_704, fL_law_1196, e1, r1, e2, r2, e3, r3, h1, h2, clT, eq_self, if_true, bnT, e9]
theorem w_forgo (hR : Rel X Y) (hi : i + 5 ≤ L) (hL : L ≤ 2560) (k : ((Nat → VS) × (VS) × (Int32)) → Option Unit) : ∃ X' Y', Rel X' Y' ∧ fL_law_747 L xs k (X, Y, nI i) = k (X', Y', nI (i + 5)) := by
  have e1 : nI i + (1 : Int32) = nI (i + 1) := nI_add i 1
  have r1 : ∀ {β : Type} {K : Int32 → Option β}, rd L xs (nI (i + 1)) K = K (xs (i + 1)) := rdN (by omega) (by omega)
  have e9 : nI i + (5 : Int32) = nI (i + 5) := nI_add i 5
  obtain ⟨r, X', Y', h1, h2, h3⟩ := p_forgo hR (xs (i + 1))
  refine ⟨X', Y', h3, ?_⟩
  simp only [fL_law_747, fL_law_1196, e1, r1, h1, h2, clT, eq_self, if_true, bnT, e9]
theorem w_firstUp (hR : Rel X Y) (hi : i + 5 ≤ L) (hL : L ≤ 2560) (k : ((Nat → VS) × (VS) × (Int32)) → Option Unit) : ∃ X' Y', Rel X' Y' ∧ fL_law_770 L xs k (X, Y, nI i) = k (X', Y', nI (i + 5)) := by
  have e1 : nI i + (1 : Int32) = nI (i + 1) := nI_add i 1
  have r1 : ∀ {β : Type} {K : Int32 → Option β}, rd L xs (nI (i + 1)) K = K (xs (i + 1)) := rdN (by omega) (by omega)
  have e9 : nI i + (5 : Int32) = nI (i + 5) := nI_add i 5
  obtain ⟨r, X', Y', h1, h2, h3⟩ := p_firstUp hR (xs (i + 1))
  refine ⟨X', Y', h3, ?_⟩
  simp only [fL_law_770, fL_law_1196, e1, r1, h1, h2, clT, eq_self, if_true, bnT, e9]
theorem w_longest (hR : Rel X Y) (hi : i + 5 ≤ L) (hL : L ≤ 2560) (k : ((Nat → VS) × (VS) × (Int32)) → Option Unit) : ∃ X' Y', Rel X' Y' ∧ fL_law_793 L xs k (X, Y, nI i) = k (X', Y', nI (i + 5)) := by
  have e1 : nI i + (1 : Int32) = nI (i + 1) := nI_add i 1
  have r1 : ∀ {β : Type} {K : Int32 → Option β}, rd L xs (nI (i + 1)) K = K (xs (i + 1)) := rdN (by omega) (by omega)
  have e9 : nI i + (5 : Int32) = nI (i + 5) := nI_add i 5
  obtain ⟨r, X', Y', h1, h2, h3⟩ := p_longest hR (xs (i + 1))
  refine ⟨X', Y', h3, ?_⟩
  simp only [fL_law_793, fL_law_1196, e1, r1, h1, h2, clT, eq_self, if_true, bnT, e9]
theorem w_seen (hR : Rel X Y) (hi : i + 5 ≤ L) (hL : L ≤ 2560) (k : ((Nat → VS) × (VS) × (Int32)) → Option Unit) : ∃ X' Y', Rel X' Y' ∧ fL_law_816 L xs k (X, Y, nI i) = k (X', Y', nI (i + 5)) := by
  have e1 : nI i + (1 : Int32) = nI (i + 1) := nI_add i 1
  have r1 : ∀ {β : Type} {K : Int32 → Option β}, rd L xs (nI (i + 1)) K = K (xs (i + 1)) := rdN (by omega) (by omega)
  have e9 : nI i + (5 : Int32) = nI (i + 5) := nI_add i 5
  obtain ⟨r, X', Y', h1, h2, h3⟩ := p_seen hR (xs (i + 1))
  refine ⟨X', Y', h3, ?_⟩
  simp only [fL_law_816, fL_law_1196, e1, r1, h1, h2, clT, eq_self, if_true, bnT, e9]
theorem w_words (hR : Rel X Y) (hi : i + 5 ≤ L) (hL : L ≤ 2560) (k : ((Nat → VS) × (VS) × (Int32)) → Option Unit) : ∃ X' Y', Rel X' Y' ∧ fL_law_839 L xs k (X, Y, nI i) = k (X', Y', nI (i + 5)) := by
  have e1 : nI i + (1 : Int32) = nI (i + 1) := nI_add i 1
  have r1 : ∀ {β : Type} {K : Int32 → Option β}, rd L xs (nI (i + 1)) K = K (xs (i + 1)) := rdN (by omega) (by omega)
  have e9 : nI i + (5 : Int32) = nI (i + 5) := nI_add i 5
  obtain ⟨r, X', Y', h1, h2, h3⟩ := p_words hR (xs (i + 1))
  refine ⟨X', Y', h3, ?_⟩
  simp only [fL_law_839, fL_law_1196, e1, r1, h1, h2, clT, eq_self, if_true, bnT, e9]
theorem w_near (hR : Rel X Y) (hi : i + 5 ≤ L) (hL : L ≤ 2560) (k : ((Nat → VS) × (VS) × (Int32)) → Option Unit) : ∃ X' Y', Rel X' Y' ∧ fL_law_862 L xs k (X, Y, nI i) = k (X', Y', nI (i + 5)) := by
  have e9 : nI i + (5 : Int32) = nI (i + 5) := nI_add i 5
  obtain ⟨r, h1, h2⟩ := p_near hR
  refine ⟨X, Y, hR, ?_⟩
  simp only [fL_law_862, fL_law_1196, h1, h2, clT, eq_self, if_true, bnT, e9]
theorem w_alone (hR : Rel X Y) (hi : i + 5 ≤ L) (hL : L ≤ 2560) (k : ((Nat → VS) × (VS) × (Int32)) → Option Unit) : ∃ X' Y', Rel X' Y' ∧ fL_law_875 L xs k (X, Y, nI i) = k (X', Y', nI (i + 5)) := by
  have e9 : nI i + (5 : Int32) = nI (i + 5) := nI_add i 5
  obtain ⟨r, h1, h2⟩ := p_alone hR
  refine ⟨X, Y, hR, ?_⟩
  simp only [fL_law_875, fL_law_1196, h1, h2, clT, eq_self, if_true, bnT, e9]
theorem w_tell (hR : Rel X Y) (hi : i + 5 ≤ L) (hL : L ≤ 2560) (k : ((Nat → VS) × (VS) × (Int32)) → Option Unit) : ∃ X' Y', Rel X' Y' ∧ fL_law_888 L xs k (X, Y, nI i) = k (X', Y', nI (i + 5)) := by
  have e9 : nI i + (5 : Int32) = nI (i + 5) := nI_add i 5
  obtain ⟨r, Y', h1, h2, h3⟩ := p_tell hR
  refine ⟨X, Y', h3, ?_⟩
  simp only [fL_law_888, fL_law_1196, h1, h2, clT, eq_self, if_true, bnT, e9]
theorem w_two (hR : Rel X Y) (hi : i + 5 ≤ L) (hL : L ≤ 2560) (k : ((Nat → VS) × (VS) × (Int32)) → Option Unit) : ∃ X' Y', Rel X' Y' ∧ fL_law_901 L xs k (X, Y, nI i) = k (X', Y', nI (i + 5)) := by
  have e1 : nI i + (1 : Int32) = nI (i + 1) := nI_add i 1
  have r1 : ∀ {β : Type} {K : Int32 → Option β}, rd L xs (nI (i + 1)) K = K (xs (i + 1)) := rdN (by omega) (by omega)
  have e2 : nI i + (2 : Int32) = nI (i + 2) := nI_add i 2
  have r2 : ∀ {β : Type} {K : Int32 → Option β}, rd L xs (nI (i + 2)) K = K (xs (i + 2)) := rdN (by omega) (by omega)
  have e3 : nI i + (3 : Int32) = nI (i + 3) := nI_add i 3
  have r3 : ∀ {β : Type} {K : Int32 → Option β}, rd L xs (nI (i + 3)) K = K (xs (i + 3)) := rdN (by omega) (by omega)
  have e9 : nI i + (5 : Int32) = nI (i + 5) := nI_add i 5
  obtain ⟨r, X', Y', h1, h2, h3⟩ := p_two hR (xs (i + 1)) (xs (i + 2)) (xs (i + 3))
  refine ⟨X', Y', h3, ?_⟩
  simp only [fL_law_901, fL_law_1196, e1, r1, e2, r2, e3, r3, h1, h2, clT, eq_self, if_true, bnT, e9]
theorem w_rain (hR : Rel X Y) (hi : i + 5 ≤ L) (hL : L ≤ 2560) (k : ((Nat → VS) × (VS) × (Int32)) → Option Unit) : ∃ X' Y', Rel X' Y' ∧ fL_law_944 L xs k (X, Y, nI i) = k (X', Y', nI (i + 5)) := by
  have e1 : nI i + (1 : Int32) = nI (i + 1) := nI_add i 1
  have r1 : ∀ {β : Type} {K : Int32 → Option β}, rd L xs (nI (i + 1)) K = K (xs (i + 1)) := rdN (by omega) (by omega)
  have e2 : nI i + (2 : Int32) = nI (i + 2) := nI_add i 2
  have r2 : ∀ {β : Type} {K : Int32 → Option β}, rd L xs (nI (i + 2)) K = K (xs (i + 2)) := rdN (by omega) (by omega)
  have e3 : nI i + (3 : Int32) = nI (i + 3) := nI_add i 3
  have r3 : ∀ {β : Type} {K : Int32 → Option β}, rd L xs (nI (i + 3)) K = K (xs (i + 3)) := rdN (by omega) (by omega)
  have e4 : nI i + (4 : Int32) = nI (i + 4) := nI_add i 4
  have r4 : ∀ {β : Type} {K : Int32 → Option β}, rd L xs (nI (i + 4)) K = K (xs (i + 4)) := rdN (by omega) (by omega)
  have e9 : nI i + (5 : Int32) = nI (i + 5) := nI_add i 5
  obtain ⟨r, X', Y', h1, h2, h3⟩ := p_rain hR (xs (i + 1)) (xs (i + 2)) (xs (i + 3)) (xs (i + 4))
  have c0 : lg_cmp r r = 0 := (lg_cmp_eq r r).mpr rfl
  refine ⟨X', Y', h3, ?_⟩
  simp only [fL_law_944, fL_law_1196, e1, r1, e2, r2, e3, r3, e4, r4, h1, h2, clT, c0, if_true, bnT, e9]
theorem w_mean (hR : Rel X Y) (hi : i + 5 ≤ L) (hL : L ≤ 2560) (k : ((Nat → VS) × (VS) × (Int32)) → Option Unit) : ∃ X' Y', Rel X' Y' ∧ fL_law_998 L xs k (X, Y, nI i) = k (X', Y', nI (i + 5)) := by
  have e1 : nI i + (1 : Int32) = nI (i + 1) := nI_add i 1
  have r1 : ∀ {β : Type} {K : Int32 → Option β}, rd L xs (nI (i + 1)) K = K (xs (i + 1)) := rdN (by omega) (by omega)
  have e9 : nI i + (5 : Int32) = nI (i + 5) := nI_add i 5
  obtain ⟨r, X', Y', h1, h2, h3⟩ := p_mean hR (xs (i + 1))
  have c0 : lg_cmp r r = 0 := (lg_cmp_eq r r).mpr rfl
  refine ⟨X', Y', h3, ?_⟩
  simp only [fL_law_998, fL_law_1196, e1, r1, h1, h2, clT, c0, if_true, bnT, e9]
theorem w_whatSaid (hR : Rel X Y) (hi : i + 5 ≤ L) (hL : L ≤ 2560) (k : ((Nat → VS) × (VS) × (Int32)) → Option Unit) : ∃ X' Y', Rel X' Y' ∧ fL_law_1022 L xs k (X, Y, nI i) = k (X', Y', nI (i + 5)) := by
  have e1 : nI i + (1 : Int32) = nI (i + 1) := nI_add i 1
  have r1 : ∀ {β : Type} {K : Int32 → Option β}, rd L xs (nI (i + 1)) K = K (xs (i + 1)) := rdN (by omega) (by omega)
  have e2 : nI i + (2 : Int32) = nI (i + 2) := nI_add i 2
  have r2 : ∀ {β : Type} {K : Int32 → Option β}, rd L xs (nI (i + 2)) K = K (xs (i + 2)) := rdN (by omega) (by omega)
  have e9 : nI i + (5 : Int32) = nI (i + 5) := nI_add i 5
  obtain ⟨r, X', Y', h1, h2, h3⟩ := p_whatSaid hR (xs (i + 1)) (xs (i + 2))
  refine ⟨X', Y', h3, ?_⟩
  simp only [fL_law_1022, fL_law_1196, e1, r1, e2, r2, h1, h2, clT, eq_self, if_true, bnT, e9]
theorem w_row (hR : Rel X Y) (hi : i + 5 ≤ L) (hL : L ≤ 2560) (k : ((Nat → VS) × (VS) × (Int32)) → Option Unit) : ∃ X' Y', Rel X' Y' ∧ fL_law_1055 L xs k (X, Y, nI i) = k (X', Y', nI (i + 5)) := by
  have e1 : nI i + (1 : Int32) = nI (i + 1) := nI_add i 1
  have r1 : ∀ {β : Type} {K : Int32 → Option β}, rd L xs (nI (i + 1)) K = K (xs (i + 1)) := rdN (by omega) (by omega)
  have e9 : nI i + (5 : Int32) = nI (i + 5) := nI_add i 5
  obtain ⟨r, X', Y', h1, h2, h3⟩ := p_row hR (xs (i + 1))
  refine ⟨X', Y', h3, ?_⟩
  simp only [fL_law_1055, fL_law_1196, e1, r1, h1, h2, clT, eq_self, if_true, bnT, e9]
theorem w_judge (hR : Rel X Y) (hi : i + 5 ≤ L) (hL : L ≤ 2560) (k : ((Nat → VS) × (VS) × (Int32)) → Option Unit) : ∃ X' Y', Rel X' Y' ∧ fL_law_1078 L xs k (X, Y, nI i) = k (X', Y', nI (i + 5)) := by
  have e9 : nI i + (5 : Int32) = nI (i + 5) := nI_add i 5
  obtain ⟨r, X', Y', h1, h2, h3⟩ := p_judge hR
  refine ⟨X', Y', h3, ?_⟩
  simp only [fL_law_1078, fL_law_1196, h1, h2, clT, eq_self, if_true, bnT, e9]
theorem w_clear (hR : Rel X Y) (hi : i + 5 ≤ L) (hL : L ≤ 2560) (k : ((Nat → VS) × (VS) × (Int32)) → Option Unit) : ∃ X' Y', Rel X' Y' ∧ fL_law_1091 L xs k (X, Y, nI i) = k (X', Y', nI (i + 5)) := by
  have e9 : nI i + (5 : Int32) = nI (i + 5) := nI_add i 5
  obtain ⟨r, X', Y', h1, h2, h3⟩ := p_clear hR
  refine ⟨X', Y', h3, ?_⟩
  simp only [fL_law_1091, fL_law_1196, h1, h2, clT, eq_self, if_true, bnT, e9]
theorem w_lots (hR : Rel X Y) (hi : i + 5 ≤ L) (hL : L ≤ 2560) (k : ((Nat → VS) × (VS) × (Int32)) → Option Unit) : ∃ X' Y', Rel X' Y' ∧ fL_law_1104 L xs k (X, Y, nI i) = k (X', Y', nI (i + 5)) := by
  have e1 : nI i + (1 : Int32) = nI (i + 1) := nI_add i 1
  have r1 : ∀ {β : Type} {K : Int32 → Option β}, rd L xs (nI (i + 1)) K = K (xs (i + 1)) := rdN (by omega) (by omega)
  have e2 : nI i + (2 : Int32) = nI (i + 2) := nI_add i 2
  have r2 : ∀ {β : Type} {K : Int32 → Option β}, rd L xs (nI (i + 2)) K = K (xs (i + 2)) := rdN (by omega) (by omega)
  have e3 : nI i + (3 : Int32) = nI (i + 3) := nI_add i 3
  have r3 : ∀ {β : Type} {K : Int32 → Option β}, rd L xs (nI (i + 3)) K = K (xs (i + 3)) := rdN (by omega) (by omega)
  have e9 : nI i + (5 : Int32) = nI (i + 5) := nI_add i 5
  obtain ⟨r, X', Y', h1, h2, h3⟩ := p_lots hR (xs (i + 1)) (xs (i + 2)) (xs (i + 3))
  refine ⟨X', Y', h3, ?_⟩
  simp only [fL_law_1104, fL_law_1196, e1, r1, e2, r2, e3, r3, h1, h2, clT, eq_self, if_true, bnT, e9]
theorem w_image (hR : Rel X Y) (hi : i + 5 ≤ L) (hL : L ≤ 2560) (k : ((Nat → VS) × (VS) × (Int32)) → Option Unit) : ∃ X' Y', Rel X' Y' ∧ fL_law_1147 L xs k (X, Y, nI i) = k (X', Y', nI (i + 5)) := by
  have e9 : nI i + (5 : Int32) = nI (i + 5) := nI_add i 5
  obtain ⟨r, X', Y', h1, h2, h3⟩ := p_image hR
  refine ⟨X', Y', h3, ?_⟩
  simp only [fL_law_1147, fL_law_1196, h1, h2, clT, eq_self, if_true, bnT, e9]
theorem w_on (hR : Rel X Y) (hi : i + 5 ≤ L) (hL : L ≤ 2560) (k : ((Nat → VS) × (VS) × (Int32)) → Option Unit) : ∃ X' Y', Rel X' Y' ∧ fL_law_1160 L xs k (X, Y, nI i) = k (X', Y', nI (i + 5)) := by
  have e9 : nI i + (5 : Int32) = nI (i + 5) := nI_add i 5
  obtain ⟨r, X', Y', h1, h2, h3⟩ := p_on hR
  refine ⟨X', Y', h3, ?_⟩
  simp only [fL_law_1160, fL_law_1196, h1, h2, clT, eq_self, if_true, bnT, e9]
theorem w_count (hR : Rel X Y) (hi : i + 5 ≤ L) (hL : L ≤ 2560) (k : ((Nat → VS) × (VS) × (Int32)) → Option Unit) : ∃ X' Y', Rel X' Y' ∧ fL_law_1173 L xs k (X, Y, nI i) = k (X', Y', nI (i + 5)) := by
  have e1 : nI i + (1 : Int32) = nI (i + 1) := nI_add i 1
  have r1 : ∀ {β : Type} {K : Int32 → Option β}, rd L xs (nI (i + 1)) K = K (xs (i + 1)) := rdN (by omega) (by omega)
  have e9 : nI i + (5 : Int32) = nI (i + 5) := nI_add i 5
  obtain ⟨r, h1, h2⟩ := p_count hR (xs (i + 1))
  refine ⟨X, Y, hR, ?_⟩
  simp only [fL_law_1173, fL_law_1196, e1, r1, h1, h2, clT, eq_self, if_true, bnT, e9]
theorem w_step (hR : Rel X Y) (hi : i + 5 ≤ L) (hL : L ≤ 2560) (k : ((Nat → VS) × (VS) × (Int32)) → Option Unit) : ∃ X' Y', Rel X' Y' ∧ fL_law_18 L xs k (X, Y, nI i) = k (X', Y', nI (i + 5)) := by
  have g : ¬ (Int32.ofNat L - (5 : Int32)) < nI i := by
    have e : Int32.ofNat L - (5 : Int32) = nI (L - 5) := pk_sub (a := L) (b := 5) (by omega)
    rw [e]
    exact fun q => by have := (nlt (by omega) (by omega)).mp q; omega
  have r0 : ∀ {β : Type} {K : Int32 → Option β}, rd L xs (nI i) K = K (xs i) := rdN (by omega) (by omega)
  simp only [fL_law_18, g, if_false, r0, bnT]
  generalize xs i &&& (63 : Int32) = c
  by_cases c0 : c = 0
  · rw [if_pos c0]; exact w_letter hR hi hL k
  rw [if_neg c0]
  by_cases c1 : c = 1
  · rw [if_pos c1]; exact w_valley hR hi hL k
  rw [if_neg c1]
  by_cases c2 : c = 2
  · rw [if_pos c2]; exact w_rocket hR hi hL k
  rw [if_neg c2]
  by_cases c3 : c = 3
  · rw [if_pos c3]; exact w_reader hR hi hL k
  rw [if_neg c3]
  by_cases c4 : c = 4
  · rw [if_pos c4]; exact w_keeps hR hi hL k
  rw [if_neg c4]
  by_cases c5 : c = 5
  · rw [if_pos c5]; exact w_sends hR hi hL k
  rw [if_neg c5]
  by_cases c6 : c = 6
  · rw [if_pos c6]; exact w_boxes hR hi hL k
  rw [if_neg c6]
  by_cases c7 : c = 7
  · rw [if_pos c7]; exact w_wind hR hi hL k
  rw [if_neg c7]
  by_cases c8 : c = 8
  · rw [if_pos c8]; exact w_grant hR hi hL k
  rw [if_neg c8]
  by_cases c9 : c = 9
  · rw [if_pos c9]; exact w_stands hR hi hL k
  rw [if_neg c9]
  by_cases c10 : c = 10
  · rw [if_pos c10]; exact w_turn hR hi hL k
  rw [if_neg c10]
  by_cases c11 : c = 11
  · rw [if_pos c11]; exact w_nights hR hi hL k
  rw [if_neg c11]
  by_cases c12 : c = 12
  · rw [if_pos c12]; exact w_wordsThen hR hi hL k
  rw [if_neg c12]
  by_cases c13 : c = 13
  · rw [if_pos c13]; exact w_then hR hi hL k
  rw [if_neg c13]
  by_cases c14 : c = 14
  · rw [if_pos c14]; exact w_whole hR hi hL k
  rw [if_neg c14]
  by_cases c15 : c = 15
  · rw [if_pos c15]; exact w_next hR hi hL k
  rw [if_neg c15]
  by_cases c16 : c = 16
  · rw [if_pos c16]; exact w_fewest hR hi hL k
  rw [if_neg c16]
  by_cases c17 : c = 17
  · rw [if_pos c17]; exact w_windBest hR hi hL k
  rw [if_neg c17]
  by_cases c18 : c = 18
  · rw [if_pos c18]; exact w_move hR hi hL k
  rw [if_neg c18]
  by_cases c19 : c = 19
  · rw [if_pos c19]; exact w_forgo hR hi hL k
  rw [if_neg c19]
  by_cases c20 : c = 20
  · rw [if_pos c20]; exact w_firstUp hR hi hL k
  rw [if_neg c20]
  by_cases c21 : c = 21
  · rw [if_pos c21]; exact w_longest hR hi hL k
  rw [if_neg c21]
  by_cases c22 : c = 22
  · rw [if_pos c22]; exact w_seen hR hi hL k
  rw [if_neg c22]
  by_cases c23 : c = 23
  · rw [if_pos c23]; exact w_words hR hi hL k
  rw [if_neg c23]
  by_cases c24 : c = 24
  · rw [if_pos c24]; exact w_near hR hi hL k
  rw [if_neg c24]
  by_cases c25 : c = 25
  · rw [if_pos c25]; exact w_alone hR hi hL k
  rw [if_neg c25]
  by_cases c26 : c = 26
  · rw [if_pos c26]; exact w_tell hR hi hL k
  rw [if_neg c26]
  by_cases c27 : c = 27
  · rw [if_pos c27]; exact w_two hR hi hL k
  rw [if_neg c27]
  by_cases c28 : c = 28
  · rw [if_pos c28]; exact w_rain hR hi hL k
  rw [if_neg c28]
  by_cases c29 : c = 29
  · rw [if_pos c29]; exact w_mean hR hi hL k
  rw [if_neg c29]
  by_cases c30 : c = 30
  · rw [if_pos c30]; exact w_whatSaid hR hi hL k
  rw [if_neg c30]
  by_cases c31 : c = 31
  · rw [if_pos c31]; exact w_row hR hi hL k
  rw [if_neg c31]
  by_cases c32 : c = 32
  · rw [if_pos c32]; exact w_judge hR hi hL k
  rw [if_neg c32]
  by_cases c33 : c = 33
  · rw [if_pos c33]; exact w_clear hR hi hL k
  rw [if_neg c33]
  by_cases c34 : c = 34
  · rw [if_pos c34]; exact w_lots hR hi hL k
  rw [if_neg c34]
  by_cases c35 : c = 35
  · rw [if_pos c35]; exact w_image hR hi hL k
  rw [if_neg c35]
  by_cases c36 : c = 36
  · rw [if_pos c36]; exact w_on hR hi hL k
  rw [if_neg c36]
  by_cases c37 : c = 37
  · rw [if_pos c37]; exact w_count hR hi hL k
  rw [if_neg c37]
  have e9 : nI i + (5 : Int32) = nI (i + 5) := nI_add i 5
  refine ⟨X, Y, hR, ?_⟩
  simp only [fL_law_1196, bnT, e9]
end
theorem pure_all (L : Nat) (xs : Nat → Int32) (hL : L ≤ 2560) : lp (fL_law_18 L xs) 5000 (X00, Y00, 0) = some () := by
  refine lp_one (F := fL_law_18 L xs) (L / 5) (fun j x => ∃ X Y, Rel X Y ∧ x = (X, Y, nI (5 * j))) (fun o => o = some ()) ?_ ?_ _ ⟨X00, Y00, rel00, rfl⟩ 5000 (by omega)
  · rintro k x ⟨X, Y, hR, rfl⟩
    have g : (Int32.ofNat L - (5 : Int32)) < nI (5 * (L / 5)) := by
      by_cases c : 5 ≤ L
      · have e : Int32.ofNat L - (5 : Int32) = nI (L - 5) := pk_sub (a := L) (b := 5) (by omega)
        rw [e]
        exact (nlt (by omega) (by omega)).mpr (by omega)
      · rcases (show L = 0 ∨ L = 1 ∨ L = 2 ∨ L = 3 ∨ L = 4 by omega) with rfl | rfl | rfl | rfl | rfl <;> decide
    simp only [fL_law_18, g, if_true]
  · rintro k j x hj ⟨X, Y, hR, rfl⟩
    obtain ⟨X', Y', h1, h2⟩ := w_step (xs := xs) hR (show 5 * j + 5 ≤ L by omega) hL k
    exact Or.inr ⟨_, h2, X', Y', h1, by rw [show 5 * (j + 1) = 5 * j + 5 by omega]⟩
