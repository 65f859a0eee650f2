/-! valley -/
theorem lp_gen2 {σ τ β γ : Type} {F : (σ → Option β) → σ → Option β} {G : (τ → Option γ) → τ → Option γ} (N : Nat) (I : Nat → σ → τ → Prop) (Q : Option β → Option γ → Prop) (h1 : ∀ n m x y, I N x y → Q (F (lp F n) x) (G (lp G (m + 1)) y)) (h2 : ∀ n m i x y, i < N → I i x y → Q (F (lp F n) x) (G (lp G (m + 1)) y) ∨ ∃ x' y', F (lp F n) x = lp F n x' ∧ G (lp G (m + 1)) y = lp G (m + 1) y' ∧ I (i + 1) x' y') : ∀ x y, I 0 x y → ∀ n m, N < n → N + 1 < m → Q (lp F n x) (lp G m y) := by
  have key : ∀ d i x y n m, i + d = N → d < n → d + 1 < m → I i x y → Q (lp F n x) (lp G m y) := by
    intro d
    induction d with
    | zero =>
      intro i x y n m hi hn hm hI
      have e : i = N := by omega
      subst e
      obtain ⟨n, rfl⟩ : ∃ k, n = k + 1 := ⟨n - 1, by omega⟩
      obtain ⟨m, rfl⟩ : ∃ k, m = k + 2 := ⟨m - 2, by omega⟩
      exact h1 n m x y hI
    | succ d ih =>
      intro i x y n m hi hn hm hI
      obtain ⟨n, rfl⟩ : ∃ k, n = k + 1 := ⟨n - 1, by omega⟩
      obtain ⟨m, rfl⟩ : ∃ k, m = k + 2 := ⟨m - 2, by omega⟩
      rcases h2 n m i x y (by omega) hI with h | ⟨x', y', a, b, c⟩
      · exact h
      · have w := ih (i + 1) x' y' n (m + 1) (by omega) (by omega) (by omega) c
        have a' : lp F (n + 1) x = lp F n x' := a
        have b' : lp G (m + 2) y = lp G (m + 1) y' := b
        rw [a', b']; exact w
  intro x y h n m hn hm
  exact key N 0 x y n m (by omega) hn hm h
def WF (l : Nat → Nat) (nl : Nat) : Nat → Nat → Prop
  | 0, s => s = nl
  | m + 1, s => Gd l nl s ∧ WF l nl m (s + lb (l s) + 1)
theorem f1000 : ∀ w, w < 101 → ¬ (-1000 : Int32) - nI w = -9 := by decide +kernel
theorem f2000 : ∀ w, w < 101 → ¬ (-2000 : Int32) - nI w = -9 := by decide +kernel
section
variable {X : Nat → VS} {Y : VS} {S l : Nat → Nat} {nl : Nat}
theorem bd_le {s w : Nat} (hs : s ≤ 96) (h : Bd l nl s w) : w < 101 := by
  rcases h with ⟨rfl, _⟩ | ⟨_, _, j, _, b, _, _, rfl⟩
  · omega
  · have := lb_le (l s); omega
theorem ph1 (x4 : X 3 4 = lN8 l) (hl : ∀ i, i < nl → l i < 256) (hnl : nl ≤ 96) : ∀ d s, nl - s ≤ d → s < nl → ∀ (f0 : Int32) (cnt : Nat) (Y' : VS) (n m : Nat), Y' 10 0 = nI s → Y' 5 = lN8 l → Y' 8 0 = nI nl → nl - s + 20 < n → nl - s + 5 < m → (∃ w Y'' c', w < 101 ∧ lp (fX1_wrongLetter_8 X) n (nI nl, f0, 0, nI s) = some (nI w) ∧ lp fX2_valley_10 m (Y', nI cnt, -9) = fX2_valley_46 (Y'', c', (-1000 : Int32) - nI w) ∧ ∀ k, k ≠ 10 → k ≠ 11 → Y'' k = Y' k) ∨ ∃ k Y'', 1 ≤ k ∧ k ≤ nl - s ∧ WF l nl k s ∧ lp (fX1_wrongLetter_8 X) n (nI nl, f0, 0, nI s) = some (-1) ∧ lp fX2_valley_10 m (Y', nI cnt, -9) = fX2_valley_46 (Y'', nI (cnt + k), -9) ∧ ∀ k, k ≠ 10 → k ≠ 11 → Y'' k = Y' k
  | 0, s, hd, hs => by omega
  | d + 1, s, hd, hs => by
    intro f0 cnt Y' n m y10 y5 y8 hn hm
    obtain ⟨m, rfl⟩ : ∃ k, m = k + 1 := ⟨m - 1, by omega⟩
    have hb := lb_le (l s)
    obtain ⟨c1, c2⟩ := c_stat x4 hl hnl hs (f0 := f0) (n := n) (by omega)
    have unf : lp fX2_valley_10 (m + 1) (Y', nI cnt, -9) = fX2_valley_10 (lp fX2_valley_10 m) (Y', nI cnt, -9) := rfl
    rw [unf]
    rcases r_stat y5 y8 hl hnl y10 (Nat.le_of_lt hs) with ⟨g, Y'', e, hP, -⟩ | ⟨w, g, Y'', e, hP⟩
    · have hs' : s + lb (l s) + 1 ≤ nl := by
        have := (g.2.2 (lb (l s)) (by have := g.2.1; omega) (Nat.le_refl _)).1
        omega
      have q8 : Y'' 8 0 = nI nl := by rw [hP.1 8 (by decide) (by decide)]; exact y8
      rw [c1 g]
      by_cases z : s + lb (l s) + 1 < nl
      · have zz : Y'' 10 0 < Y'' 8 0 := by rw [hP.2, q8]; exact (nlt (by omega) (by omega)).mpr z
        have step : fX2_valley_10 (lp fX2_valley_10 m) (Y', nI cnt, -9) = lp fX2_valley_10 m (Y'', nI (cnt + 1), -9) := by
          simp only [fX2_valley_10, fX2_valley_26, e, clT, ne10, if_false, bnT, if_true, zz, nI_1]
        rw [step]
        have q5 : Y'' 5 = lN8 l := by rw [hP.1 5 (by decide) (by decide)]; exact y5
        rcases ph1 x4 hl hnl d (s + lb (l s) + 1) (by omega) z (nI (l s)) (cnt + 1) Y'' (n - (lb (l s) + 1)) m hP.2 q5 q8 (by omega) (by omega) with ⟨w, Y3, c', h1, h2, h3, h4⟩ | ⟨k, Y3, h0, h1, h2, h3, h4, h5⟩
        · exact Or.inl ⟨w, Y3, c', h1, h2, h3, fun k a b => (h4 k a b).trans (hP.1 k a b)⟩
        · refine Or.inr ⟨k + 1, Y3, by omega, by omega, ⟨g, h2⟩, h3, ?_, fun k a b => (h5 k a b).trans (hP.1 k a b)⟩
          rw [h4, show cnt + 1 + k = cnt + (k + 1) by omega]
      · have ze : s + lb (l s) + 1 = nl := by omega
        have zz : ¬ Y'' 10 0 < Y'' 8 0 := by rw [hP.2, q8]; exact fun q => by have := (nlt (by omega) (by omega)).mp q; omega
        refine Or.inr ⟨1, Y'', by omega, by omega, ⟨g, ze⟩, ?_, ?_, hP.1⟩
        · rw [ze]
          obtain ⟨n', hn'⟩ : ∃ k, n - (lb (l s) + 1) = k + 1 := ⟨n - (lb (l s) + 1) - 1, by omega⟩
          rw [hn']
          show fX1_wrongLetter_8 X (lp (fX1_wrongLetter_8 X) n') (nI nl, nI (l s), 0, nI nl) = _
          have g1 : nI nl ≤ nI nl := (nle (by omega) (by omega)).mpr (Nat.le_refl _)
          have g2 : ¬ (0 : Int32) < 0 := by decide
          have g3 : ¬ nI nl = (0 : Int32) := fun q => by have := (neq (b := 0) (by omega) (by decide)).mp q; omega
          simp only [fX1_wrongLetter_8, g1, if_true, g2, if_false, g3]
        · simp only [fX2_valley_10, fX2_valley_26, e, clT, ne10, if_false, bnT, if_true, zz, nI_1]
    · have hw := bd_le (by omega) g
      have ff := f1000 w hw
      have e10 := hP.2
      refine Or.inl ⟨w, Y'', nI (cnt + 1), hw, c2 w g, ?_, hP.1⟩
      simp only [fX2_valley_10, fX2_valley_26, e, clT, if_true, bnT, e10, ff, if_false, nI_1]
theorem relVal {P r f : Nat → Nat} {hp nr : Nat} (hR : RR S P l r f hp nl nr X Y) {T : Nat → Nat} (hT : Ok T) (h2 : T 2 ≤ 999) {X' : Nat → VS} {Y' : VS} (a0 : X' 0 = cv T) (a1 : ∃ T y, X' 1 = cw T y) (a2 : X' 2 = X 2) (a5 : X' 3 5 = fun _ => 0) (a3 : ∀ k, k ≠ 5 → X' 3 k = X 3 k) (b0 : Y' 0 = lN8 T) (b3 : ∀ j, 81 ≤ j → Y' 3 j = 0) (b8 : Y' 8 = fun _ => 0) (bk : ∀ k, k ≠ 0 → k ≠ 3 → k ≠ 8 → k ≠ 10 → k ≠ 11 → Y' k = Y k) : Rel X' Y' := by
  obtain ⟨⟨o1, o2, o3, o4, o5, o6, o7, o8, o9⟩, ⟨x0, x1, x2, x2', x3, x4, x5, x6, x7, x8⟩, ⟨y0, y1, y2, y3, y2', y4, y5, y6, y7, y8, y9⟩⟩ := hR
  refine ⟨T, P, l, r, f, hp, 0, nr, ⟨hT, h2, o3, o4, o5, by omega, o7, fun i hi => by omega, o9⟩, ⟨a0, a1, by rw [a2]; exact x2, by rw [a2]; exact x2', ?_, ?_, a5, ?_, ?_, ?_⟩, ⟨b0, ?_, ?_, b3, ?_, ?_, ?_, ?_, ?_, b8, ?_⟩⟩
  · rw [a3 3 (by decide), x3]
  · rw [a3 4 (by decide), x4]
  · rw [a3 6 (by decide), x6]
  · rw [a3 7 (by decide), x7]
  · rw [a3 8 (by decide), x8]
  · rw [bk 1 (by decide) (by decide) (by decide) (by decide) (by decide)]; exact y1
  · rw [bk 2 (by decide) (by decide) (by decide) (by decide) (by decide)]; exact y2
  · rw [bk 2 (by decide) (by decide) (by decide) (by decide) (by decide)]; exact y2'
  · rw [bk 4 (by decide) (by decide) (by decide) (by decide) (by decide), y4]
  · rw [bk 5 (by decide) (by decide) (by decide) (by decide) (by decide), y5]
  · rw [bk 6 (by decide) (by decide) (by decide) (by decide) (by decide), y6]
  · rw [bk 7 (by decide) (by decide) (by decide) (by decide) (by decide), y7]
  · rw [bk 9 (by decide) (by decide) (by decide) (by decide) (by decide), y9]
/-- a valley refused for a letter -/
theorem v46_no (hS : Ok S) {Y' : VS} (y0 : Y' 0 = lN8 S) (y3 : ∀ j, 81 ≤ j → Y' 3 j = 0) {c F : Int32} (hF : ¬ F = -9) : fX2_valley_46 (Y', c, F) = some (F, up (up (up Y' 3 (lN8 S)) 10 (fun _ => 0)) 8 (fun _ => 0)) := by
  have e : fX2_copies (Y' 0) (Y' 3) = some (lN8 S) := by rw [y0]; exact r_copies hS y3
  simp only [fX2_valley_46, e, clT, bnT]
  show fX2_valley_62 (lp fX2_valley_62 4999) (up (up Y' 3 (lN8 S)) 10 (fun _ => 0), c, F) = _
  simp only [fX2_valley_62, hF, if_false, fX2_valley_128, bnT]
theorem p_valley (hR : Rel X Y) : Ag (fX1_valley X) (fX2_valley Y) := by
  have hR' := hR
  obtain ⟨S, P, l, r, f, hp, nl, nr, hh⟩ := hR'
  have hh' := hh
  obtain ⟨⟨o1, o2, o3, o4, o5, o6, o7, o8, o9⟩, ⟨x0, ⟨T0, yy, x1⟩, x2, x2', x3, x4, x5, x6, x7, x8⟩, ⟨y0, y1, y2, y3, y2', y4, y5, y6, y7, y8, y9⟩⟩ := hh'
  have ex : X 3 5 0 = nI nl := congrFun x5 0
  rw [fX1_valley, fX2_valley, bnT, bnT, bnT, ex]
  have c0 : up X 3 (up (X 3) 5 (fun _ => 0)) 0 = cv S := by rw [up_n _ _ (by decide), x0]
  have c1 : up X 3 (up (X 3) 5 (fun _ => 0)) 1 = cw T0 yy := by rw [up_n _ _ (by decide), x1]
  have c2 : up X 3 (up (X 3) 5 (fun _ => 0)) 2 = X 2 := by rw [up_n _ _ (by decide)]
  have c35 : up X 3 (up (X 3) 5 (fun _ => 0)) 3 5 = fun _ => 0 := by rw [up_s, up_s]
  have c3 : ∀ k, k ≠ 5 → up X 3 (up (X 3) 5 (fun _ => 0)) 3 k = X 3 k := fun k hk => by rw [up_s, up_n _ _ hk]
  generalize up X 3 (up (X 3) 5 (fun _ => 0)) = Xb at c0 c1 c2 c35 c3
  have x4b : Xb 3 4 = lN8 l := by rw [c3 4 (by decide), x4]
  have b0 : up Y 10 (fun _ => 0) 0 = lN8 S := by rw [up_n _ _ (by decide), y0]
  have b3 : ∀ j, 81 ≤ j → up Y 10 (fun _ => 0) 3 j = 0 := by rw [up_n _ _ (by decide)]; exact y3
  have b5 : up Y 10 (fun _ => 0) 5 = lN8 l := by rw [up_n _ _ (by decide), y5]
  have b8 : up Y 10 (fun _ => 0) 8 0 = nI nl := by rw [up_n _ _ (by decide), y8]
  have b10 : up Y 10 (fun _ => 0) 10 0 = nI 0 := by rw [up_s]; rfl
  have bk : ∀ k, k ≠ 10 → up Y 10 (fun _ => 0) k = Y k := fun k hk => up_n _ _ hk
  generalize up Y 10 (fun _ => 0) = Yb at b0 b3 b5 b8 b10 bk
  -- refused for a letter
  have no : ∀ (w : Nat) (Y'' : VS) (c' : Int32), w < 101 → (∀ k, k ≠ 10 → k ≠ 11 → Y'' k = Yb k) → Ag (some ((-1000 : Int32) - nI w, Xb)) (fX2_valley_46 (Y'', c', (-1000 : Int32) - nI w)) := by
    intro w Y'' c' hw hk
    rw [v46_no o1 (by rw [hk 0 (by decide) (by decide)]; exact b0) (by rw [hk 3 (by decide) (by decide)]; exact b3) (f1000 w hw)]
    refine ⟨_, Xb, _, rfl, rfl, relVal hh o1 o2 c0 ⟨T0, yy, c1⟩ c2 c35 c3 ?_ ?_ ?_ ?_⟩
    · rw [up_n _ _ (by decide), up_n _ _ (by decide), up_n _ _ (by decide), hk 0 (by decide) (by decide)]; exact b0
    · rw [up_n _ _ (by decide), up_n _ _ (by decide), up_s]; exact lN8_z o1
    · rw [up_s]
    · intro k h0 h3 h8 h10 h11
      rw [up_n _ _ h8, up_n _ _ h10, up_n _ _ h3, hk k h10 h11, bk k h10]
  rw [fX1_wrongLetter]
  by_cases z : nl = 0
  · subst z
    have e1 : lp (fX1_wrongLetter_8 Xb) 5000 (nI 0, 59, 0, 0) = some (nI 0) := by
      show fX1_wrongLetter_8 Xb (lp (fX1_wrongLetter_8 Xb) 4999) (nI 0, 59, 0, 0) = _
      have g1 : nI 0 ≤ (0 : Int32) := by decide
      have g2 : ¬ (0 : Int32) < 0 := by decide
      have g3 : nI 0 = (0 : Int32) := rfl
      have g4 : (0 : Int32) ≤ 0 := by decide
      simp only [fX1_wrongLetter_8, fX1_wrongLetter_73, g4, if_true, g2, if_false, g3]
    have n0 : ¬ nI 0 < (0 : Int32) := by decide
    rw [e1, clT, if_neg n0]
    have e2 : ∃ Y'', lp fX2_valley_10 5000 (Yb, 0, -9) = fX2_valley_46 (Y'', nI 1, (-1000 : Int32) - nI 0) ∧ ∀ k, k ≠ 10 → k ≠ 11 → Y'' k = Yb k := by
      rcases r_stat b5 b8 o8 o6 b10 (Nat.le_refl 0) with ⟨g, _⟩ | ⟨w, g, Y'', e, hP⟩
      · exact absurd g.1 (by omega)
      · have w0 : w = 0 := by
          rcases g with ⟨h, _⟩ | ⟨h, _⟩
          · exact h
          · omega
        subst w0
        refine ⟨Y'', ?_, hP.1⟩
        show fX2_valley_10 (lp fX2_valley_10 4999) (Yb, nI 0, -9) = _
        have ff := f1000 0 (by decide)
        have e10 := hP.2
        simp only [fX2_valley_10, fX2_valley_26, e, clT, if_true, bnT, e10, ff, if_false, nI_1]
    obtain ⟨Y'', e2, hk⟩ := e2
    rw [e2]
    exact no 0 Y'' _ (by decide) hk
  · rcases ph1 x4b o8 o6 nl 0 (by omega) (by omega) 59 0 Yb 5000 5000 b10 b5 b8 (by omega) (by omega) with ⟨w, Y'', c', hw, q1, q2, hk⟩ | ⟨N, Y'', hN1, hN2, hWF, q1, q2, hk⟩
    · have q1' : lp (fX1_wrongLetter_8 Xb) 5000 (nI nl, 59, 0, 0) = some (nI w) := q1
      have q2' : lp fX2_valley_10 5000 (Yb, 0, -9) = _ := q2
      have n0 : ¬ nI w < (0 : Int32) := nneg (by omega)
      rw [q1', q2', clT, if_neg n0]
      exact no w Y'' c' hw hk
    · have q1' : lp (fX1_wrongLetter_8 Xb) 5000 (nI nl, 59, 0, 0) = some (-1) := q1
      have q2' : lp fX2_valley_10 5000 (Yb, 0, -9) = fX2_valley_46 (Y'', nI (0 + N), -9) := q2
      have n0 : (-1 : Int32) < 0 := by decide
      have d1 : fX0_copyFrom (Xb 1) (Xb 0) = some (cv S) := by rw [c1, c0]; exact c_copyFrom T0 yy
      have z0 : Y'' 0 = lN8 S := by rw [hk 0 (by decide) (by decide)]; exact b0
      have z3 : ∀ j, 81 ≤ j → Y'' 3 j = 0 := by rw [hk 3 (by decide) (by decide)]; exact b3
      have d2 : fX2_copies (Y'' 0) (Y'' 3) = some (lN8 S) := by rw [z0]; exact r_copies o1 z3
      rw [q1', q2', clT, if_pos n0, d1, clT, bnT, Nat.zero_add]
      have w46 : fX2_valley_46 (Y'', nI N, -9) = lp fX2_valley_62 5000 (up (up Y'' 3 (lN8 S)) 10 (fun _ => 0), nI N, -9) := by
        simp only [fX2_valley_46, d2, clT, bnT]
      rw [w46]
      refine lp_gen2 N (fun i x y => ∃ T s Y', Ok T ∧ T 2 ≤ 999 ∧ WF l nl (N - i) s ∧ x = (up Xb 1 (cv T), nI nl, nI i, nI s) ∧ y = (Y', nI N, -9) ∧ Y' 0 = lN8 T ∧ Y' 3 = lN8 S ∧ Y' 10 0 = nI s ∧ ∀ k, k ≠ 0 → k ≠ 3 → k ≠ 10 → k ≠ 11 → Y' k = Y k) Ag ?_ ?_ _ _ ⟨S, 0, _, o1, o2, hWF, rfl, rfl, by rw [up_n _ _ (by decide), up_n _ _ (by decide)]; exact z0, by rw [up_n _ _ (by decide), up_s], by rw [up_s]; rfl, fun k h0 h3 h10 h11 => by rw [up_n _ _ h10, up_n _ _ h3, hk k h10 h11, bk k h10]⟩ 5000 5000 (by omega) (by omega)
      · rintro n m _ _ ⟨T, s, Y', hT, hT2, hW, rfl, rfl, p0, p3, p10, pk⟩
        rw [Nat.sub_self] at hW
        have hW : s = nl := hW
        subst hW
        have g : nI s ≤ nI s := (nle (by omega) (by omega)).mpr (Nat.le_refl _)
        have p8 : Y' 8 0 = nI s := by rw [pk 8 (by decide) (by decide) (by decide) (by decide), y8]
        have d3 : fX0_copyFrom (up Xb 1 (cv T) 0) (up Xb 1 (cv T) 1) = some (cv T) := by rw [un10, up_s, c0]; exact c_copyFrom S _
        refine ⟨nI N, up (up Xb 1 (cv T)) 0 (cv T), up Y' 8 (fun _ => 0), ?_, ?_, relVal hh hT hT2 ?_ ⟨T, nI (T 3), ?_⟩ ?_ ?_ ?_ ?_ ?_ ?_ ?_⟩
        · simp only [fX1_valley_42, g, if_true, d3, clT, bnT]
        · simp only [fX2_valley_62, fX2_valley_128, if_true, p8, p10, g, bnT]
        · rw [up_s]
        · rw [up_n _ _ (by decide), up_s]; rfl
        · rw [up_n _ _ (by decide), up_n _ _ (by decide), c2]
        · rw [up_n _ _ (by decide), up_n _ _ (by decide), c35]
        · intro k hk5
          rw [up_n _ _ (by decide), up_n _ _ (by decide), c3 k hk5]
        · rw [up_n _ _ (by decide), p0]
        · rw [up_n _ _ (by decide), p3]; exact lN8_z o1
        · rw [up_s]
        · intro k h0 h3 h8 h10 h11
          rw [up_n _ _ h8, pk k h0 h3 h10 h11]
      · rintro n m i _ _ hi ⟨T, s, Y', hT, hT2, hW, rfl, rfl, p0, p3, p10, pk⟩
        rw [show N - i = (N - (i + 1)) + 1 by omega] at hW
        obtain ⟨hg, hW'⟩ := hW
        have hsl := hg.1
        have hb := lb_le (l s)
        have g : ¬ nI nl ≤ nI s := fun q => by have := (nle (by omega) (by omega)).mp q; omega
        have p8 : Y' 8 0 = nI nl := by rw [pk 8 (by decide) (by decide) (by decide) (by decide), y8]
        have p5 : Y' 5 = lN8 l := by rw [pk 5 (by decide) (by decide) (by decide) (by decide), y5]
        have hhere := r_here p5 p8 o6 p10 (Nat.le_of_lt hsl)
        rw [if_pos hsl] at hhere
        rcases r_stat p5 p8 o8 o6 p10 (Nat.le_of_lt hsl) with ⟨-, Y3, e3, hP, hNum⟩ | ⟨w, gb, _⟩
        · have xb4 : up Xb 1 (cv T) 3 4 = lN8 l := by rw [un13]; exact x4b
          have a0 : Y3 0 = lN8 T := by rw [hP.1 0 (by decide) (by decide), p0]
          have a3 : Y3 3 = lN8 S := by rw [hP.1 3 (by decide) (by decide), p3]
          rcases act hT hT2 (up_s _ _ _) xb4 a0 o8 o6 hg hNum with ⟨t1, t2⟩ | ⟨T', hT', hT2', t1, t2⟩
          · left
            have ff := f2000 s (by omega)
            have d4 : fX2_copies (Y3 3) (Y3 0) = some (lN8 S) := by rw [a3, a0]; exact r_copies o1 (lN8_z hT)
            have step : fX2_valley_62 (lp fX2_valley_62 (m + 1)) (Y', nI N, -9) = lp fX2_valley_62 (m + 1) (up Y3 0 (lN8 S), nI N, (-2000 : Int32) - nI s) := by
              simp only [fX2_valley_62, if_true, p8, p10, g, if_false, bnT, hhere, clT, e3, t2, d4]
            have step2 : ∀ F : Int32, ¬ F = -9 → lp fX2_valley_62 (m + 1) (up Y3 0 (lN8 S), nI N, F) = some (F, up (up Y3 0 (lN8 S)) 8 (fun _ => 0)) := by
              intro F hF
              show fX2_valley_62 (lp fX2_valley_62 m) (up Y3 0 (lN8 S), nI N, F) = _
              simp only [fX2_valley_62, fX2_valley_128, hF, if_false, bnT]
            rw [step, step2 _ ff]
            refine ⟨(-2000 : Int32) - nI s, up Xb 1 (cv T), _, ?_, rfl, relVal hh o1 o2 ?_ ⟨T, nI (T 3), ?_⟩ ?_ ?_ ?_ ?_ ?_ ?_ ?_⟩
            · simp only [fX1_valley_42, g, if_false, t1, clT, if_true]
            · rw [un10, c0]
            · rw [up_s]; rfl
            · rw [up_n _ _ (by decide), c2]
            · rw [un13, c35]
            · intro k hk5
              rw [un13, c3 k hk5]
            · rw [up_n _ _ (by decide), up_s]
            · rw [up_n _ _ (by decide), up_n _ _ (by decide), a3]; exact lN8_z o1
            · rw [up_s]
            · intro k h0 h3 h8 h10 h11
              rw [up_n _ _ h8, up_n _ _ h0, hP.1 k h10 h11, pk k h0 h3 h10 h11]
          · right
            rw [up_up] at t1
            have xb4' : up Xb 1 (cv T') 3 4 = lN8 l := by rw [un13]; exact x4b
            have rx : ∀ {β : Type} {K : Int32 → Option β}, rd 96 (lN8 l) (nI s) K = K (nI (l s)) := rdN (f := lN8 l) (by omega) (by decide)
            have ql := q_lb _ (o8 s hsl)
            have em : nI s + ((1 : Int32) + nI (lb (l s))) = nI (s + lb (l s) + 1) := by
              have e1 : (1 : Int32) = nI 1 := rfl
              rw [e1, nI_add, nI_add, show s + (1 + lb (l s)) = s + lb (l s) + 1 by omega]
            refine ⟨(up Xb 1 (cv T'), nI nl, nI (i + 1), nI (s + lb (l s) + 1)), (up Y3 0 (lN8 T'), nI N, -9), ?_, ?_, T', s + lb (l s) + 1, _, hT', hT2', hW', rfl, rfl, by rw [up_s], by rw [up_n _ _ (by decide), a3], by rw [up_n _ _ (by decide)]; exact hP.2, fun k h0 h3 h10 h11 => ?_⟩
            · simp only [fX1_valley_42, g, if_false, t1, clT, ne10, bnT, xb4', rx, ql, em, nI_1]
            · simp only [fX2_valley_62, if_true, p8, p10, g, if_false, bnT, hhere, clT, e3, t2, ne10]
            · rw [up_n _ _ h0, hP.1 k h10 h11, pk k h0 h3 h10 h11]
        · exact (gd_nbd hg gb).elim
end
