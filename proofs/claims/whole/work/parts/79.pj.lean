/-! calls that change something -/
theorem Ok_r {S : Nat → Nat} (h : Ok S) {t j y : Nat} (ht : t < S 0) (hj : (j = 5 + 4 * t ∧ y < 6) ∨ (j = 6 + 4 * t ∧ y ≤ 9) ∨ (j = 7 + 4 * t ∧ y < 6) ∨ (j = 8 + 4 * t ∧ y ≤ 1)) : Ok (setN S j y) := by
  obtain ⟨h0, h1, h3, h4, hk, hz, ha, hb, hc⟩ := h
  have e : ∀ i, i ≠ j → setN S j y i = S i := fun i hi => setN_n S y hi
  have v : ∀ i, setN S j y i = y ∧ i = j ∨ setN S j y i = S i ∧ i ≠ j := fun i => by
    by_cases c : i = j
    · exact Or.inl ⟨by rw [c, setN_s], c⟩
    · exact Or.inr ⟨e i c, c⟩
  refine ⟨by rw [e _ (by omega)]; exact h0, by rw [e _ (by omega)]; exact h1, by rw [e _ (by omega)]; exact h3, by rw [e _ (by omega)]; exact h4, fun i hi => ?_, fun i h1 hi => ?_, fun q hq => ?_, fun q h2 hq => ?_, fun i hi => ?_⟩
  · have a1 := v (5 + 4 * i)
    have a2 := v (6 + 4 * i)
    have a3 := v (7 + 4 * i)
    have a4 := v (8 + 4 * i)
    have b := hk i hi
    refine ⟨?_, ?_, ?_, ?_⟩ <;> omega
  · rw [e _ (by omega)] at h1
    rw [e _ (by omega), e _ (by omega), e _ (by omega), e _ (by omega)]; exact hz i h1 hi
  · rw [e _ (by omega), e _ (by omega)]
    refine ⟨(ha q hq).1, (ha q hq).2.1, fun v hv => ?_⟩
    rw [e _ (by omega)]; exact (ha q hq).2.2 v hv
  · rw [e _ (by omega)] at h2
    rw [e _ (by omega), e _ (by omega)]
    refine ⟨(hb q h2 hq).1, (hb q h2 hq).2.1, fun v hv => ?_⟩
    rw [e _ (by omega)]; exact (hb q h2 hq).2.2 v hv
  · rw [e _ (by omega)]; exact hc i hi
theorem Ok_p {S : Nat → Nat} (h : Ok S) {t j y : Nat} (ht : t < S 1) (hj : (j = 41 + 8 * t ∧ y < 20) ∨ (j = 42 + 8 * t ∧ y ≤ 9)) : Ok (setN S j y) := by
  obtain ⟨h0, h1, h3, h4, hk, hz, ha, hb, hc⟩ := h
  have e : ∀ i, i ≠ j → setN S j y i = S i := fun i hi => setN_n S y hi
  have v : ∀ i, setN S j y i = y ∧ i = j ∨ setN S j y i = S i ∧ i ≠ j := fun i => by
    by_cases c : i = j
    · exact Or.inl ⟨by rw [c, setN_s], c⟩
    · exact Or.inr ⟨e i c, c⟩
  refine ⟨by rw [e _ (by omega)]; exact h0, by rw [e _ (by omega)]; exact h1, by rw [e _ (by omega)]; exact h3, by rw [e _ (by omega)]; exact h4, fun i hi => ?_, fun i h1 hi => ?_, fun q hq => ?_, fun q h2 hq => ?_, fun i hi => ?_⟩
  · rw [e _ (by omega), e _ (by omega), e _ (by omega), e _ (by omega)]; exact hk i hi
  · rw [e _ (by omega)] at h1
    rw [e _ (by omega), e _ (by omega), e _ (by omega), e _ (by omega)]; exact hz i h1 hi
  · have a1 := v (41 + 8 * q)
    have a2 := v (42 + 8 * q)
    have b := ha q hq
    refine ⟨by omega, by omega, fun w hw => ?_⟩
    rw [e _ (by omega)]; exact (ha q hq).2.2 w hw
  · rw [e _ (by omega)] at h2
    rw [e _ (by omega), e _ (by omega)]
    refine ⟨(hb q h2 hq).1, (hb q h2 hq).2.1, fun v hv => ?_⟩
    rw [e _ (by omega)]; exact (hb q h2 hq).2.2 v hv
  · rw [e _ (by omega)]; exact hc i hi
theorem cv_set {S : Nat → Nat} {j y : Nat} (h : j ≠ 3) : cw (setN S j y) (nI (S 3)) = cv (setN S j y) := by
  unfold cv; rw [setN_n _ _ (fun q => h q.symm)]
theorem cv_set3 {S : Nat → Nat} {y : Nat} : cw S (nI y) = cv (setN S 3 y) := by
  unfold cv; rw [setN_s]
  exact cw_cong (fun i _ hn => (setN_n _ _ hn).symm)
/-- another valley now, the rest as it was -/
theorem relS {S P l r f : Nat → Nat} {hp nl nr : Nat} {X : Nat → VS} {Y : VS} (hR : RR S P l r f hp nl nr X Y) {S' : Nat → Nat} (hS : Ok S') (h2 : S' 2 ≤ 999) : Rel (up X 0 (cv S')) (up Y 0 (lN8 S')) := by
  obtain ⟨⟨_, _, o3⟩, ⟨_, x1, x2, x2', x3, x4, x5, x6, x7, x8⟩, ⟨_, y1, y2, y3, y2', y4, y5, y6, y7, y8, y9⟩⟩ := hR
  exact ⟨S', P, l, r, f, hp, nl, nr, ⟨hS, h2, o3⟩, ⟨rfl, x1, x2, x2', x3, x4, x5, x6, x7, x8⟩, ⟨rfl, y1, y2, y3, y2', y4, y5, y6, y7, y8, y9⟩⟩
theorem relM {X : Nat → VS} {Y : VS} (hR : Rel X Y) (T : Nat → Nat) (y : Int32) {g : Nat → Int32} (hg : ∀ j, 81 ≤ j → g j = 0) : Rel (up X 1 (cw T y)) (up Y 1 g) := by
  obtain ⟨S, P, l, r, f, hp, nl, nr, o, ⟨x0, _, x2, x2', x3, x4, x5, x6, x7, x8⟩, ⟨y0, _, y2, y3, y2', y4, y5, y6, y7, y8, y9⟩⟩ := hR
  exact ⟨S, P, l, r, f, hp, nl, nr, o, ⟨x0, ⟨T, y, rfl⟩, x2, x2', x3, x4, x5, x6, x7, x8⟩, ⟨y0, hg, y2, y3, y2', y4, y5, y6, y7, y8, y9⟩⟩
theorem lN8_z {S : Nat → Nat} (h : Ok S) : ∀ j, 81 ≤ j → lN8 S j = 0 := fun j hj => congrArg nI (h.2.2.2.2.2.2.2.2 j hj)
