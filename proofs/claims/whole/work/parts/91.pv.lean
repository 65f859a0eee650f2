/-! tell -/
def sGd (S : Nat → Nat) (a b : Nat) : Prop := sW S b ≠ 63 ∧ (sW S b ||| sW S a) = 63
def NoG (S : Nat → Nat) (a b : Nat) : Prop := ∀ a' b', a' < S 1 → b' < S 1 → (a' < a ∨ (a' = a ∧ b' < b)) → ¬ sGd S a' b'
def Fst (S : Nat → Nat) (r : Int32) : Prop := (∃ a b, a < S 1 ∧ b < S 1 ∧ sGd S a b ∧ NoG S a b ∧ r = nI (10 * a + b)) ∨ ((∀ a b, a < S 1 → b < S 1 → ¬ sGd S a b) ∧ r = -9)
theorem Fst_u {S : Nat → Nat} {r s : Int32} (h : Fst S r) (g : Fst S s) : r = s := by
  rcases h with ⟨a, b, ha, hb, hg, hn, rfl⟩ | ⟨hn, rfl⟩
  · rcases g with ⟨c, d, hc, hd, hg', hn', rfl⟩ | ⟨hn', rfl⟩
    · have n1 : ¬ (c < a ∨ (c = a ∧ d < b)) := fun q => hn c d hc hd q hg'
      have n2 : ¬ (a < c ∨ (a = c ∧ b < d)) := fun q => hn' a b ha hb q hg
      have : a = c := by omega
      have : b = d := by omega
      subst_vars; rfl
    · exact absurd hg (hn' a b ha hb)
  · rcases g with ⟨c, d, hc, hd, hg', hn', rfl⟩ | ⟨hn', rfl⟩
    · exact absurd hg' (hn c d hc hd)
    · rfl
theorem NoG_s {S : Nat → Nat} {i j : Nat} (h : NoG S i j) (hg : ¬ sGd S i j) : NoG S i (j + 1) := by
  intro a b ha hb hq
  by_cases c : a = i ∧ b = j
  · obtain ⟨rfl, rfl⟩ := c; exact hg
  · exact h a b ha hb (by omega)
theorem NoG_n {S : Nat → Nat} {i : Nat} (h : NoG S i (S 1)) : NoG S (i + 1) 0 := fun a b ha hb hq => h a b ha hb (by omega)
theorem NoG_0 {S : Nat → Nat} : NoG S 0 0 := fun a b ha hb hq => by omega
theorem NoG_e {S : Nat → Nat} (h : NoG S (S 1) 0) : ∀ a b, a < S 1 → b < S 1 → ¬ sGd S a b := fun a b ha hb => h a b ha hb (Or.inl ha)
def tl (a b w : Nat) (T : Nat → Nat) : Nat → Nat := if T (43 + 8 * b + w) < T (43 + 8 * a + w) then setN T (43 + 8 * b + w) (T (43 + 8 * a + w)) else T
theorem tl_p {S : Nat → Nat} (h : Ok S) {a b : Nat} (ha : a < S 1) (hb : b < S 1) (hne : a ≠ b) : ∀ w, w ≤ 6 → Ok (itr (tl a b) w S) ∧ (∀ j, (j < 43 + 8 * b ∨ 43 + 8 * b + w ≤ j) → itr (tl a b) w S j = S j) ∧ ∀ v, v < w → itr (tl a b) w S (43 + 8 * b + v) = max (S (43 + 8 * b + v)) (S (43 + 8 * a + v))
  | 0, _ => ⟨h, fun _ _ => rfl, fun v hv => by omega⟩
  | w + 1, hw => by
    obtain ⟨h1, h2, h3⟩ := tl_p h ha hb hne w (by omega)
    have e : itr (tl a b) (w + 1) S = tl a b w (itr (tl a b) w S) := rfl
    rw [e]
    generalize itr (tl a b) w S = T at h1 h2 h3
    have hS1 := h.2.1
    have e1 : T 1 = S 1 := h2 1 (by omega)
    have ea : T (43 + 8 * a + w) = S (43 + 8 * a + w) := h2 _ (by omega)
    have eb : T (43 + 8 * b + w) = S (43 + 8 * b + w) := h2 _ (by omega)
    have h99 := (h.2.2.2.2.2.2.1 a (by omega)).2.2 w (by omega)
    unfold tl
    rw [ea, eb]
    by_cases c : S (43 + 8 * b + w) < S (43 + 8 * a + w)
    · rw [if_pos c]
      refine ⟨Ok_w h1 (by omega) (by omega) h99, fun j hj => ?_, fun v hv => ?_⟩
      · rw [setN_n _ _ (by omega)]; exact h2 j (by omega)
      · by_cases q : v = w
        · subst q; rw [setN_s]; omega
        · rw [setN_n _ _ (by omega)]; exact h3 v (by omega)
    · rw [if_neg c]
      refine ⟨h1, fun j hj => h2 j (by omega), fun v hv => ?_⟩
      by_cases q : v = w
      · subst q; rw [eb]; omega
      · exact h3 v (by omega)
theorem sum_diff {f g : Nat → Nat} {b : Nat} : ∀ {n : Nat}, b < n → (∀ q, q < n → q ≠ b → f q = g q) → sumN f n + g b = sumN g n + f b
  | 0, h, _ => by omega
  | n + 1, h, hq => by
    show sumN f n + f n + g b = sumN g n + g n + f b
    by_cases c : b = n
    · subst c
      have : ∀ m, m ≤ b → sumN f m = sumN g m := by
        intro m
        induction m with
        | zero => intro _; rfl
        | succ m ih =>
          intro hm
          show sumN f m + f m = sumN g m + g m
          rw [ih (by omega), hq m (by omega) (by omega)]
      rw [this b (Nat.le_refl _)]; omega
    · have := sum_diff (f := f) (g := g) (n := n) (by omega) (fun q h1 h2 => hq q (by omega) h2)
      have := hq n (by omega) (fun q => c q.symm)
      omega
theorem or63 : ∀ x, x < 64 → (63 ||| x) = 63 := by decide +kernel
section
variable {X : Nat → VS} {Y : VS} {S : Nat → Nat}
theorem tl_whole (h : Ok S) {a b : Nat} (ha : a < S 1) (hb : b < S 1) (hne : a ≠ b) : Ok (itr (tl a b) 6 S) ∧ ((sGd S a b ∧ sWhole (itr (tl a b) 6 S) = sWhole S + 1) ∨ (¬ sGd S a b ∧ sWhole (itr (tl a b) 6 S) = sWhole S)) := by
  obtain ⟨h1, h2, h3⟩ := tl_p h ha hb hne 6 (Nat.le_refl _)
  refine ⟨h1, ?_⟩
  generalize itr (tl a b) 6 S = T at h1 h2 h3
  have e1 : T 1 = S 1 := h2 1 (by omega)
  have hq : ∀ q, q < S 1 → q ≠ b → sWh T q = sWh S q := by
    intro q hq hqb
    unfold sWh
    have : sW T q = sW S q := bitsN_cong (fun i hi => by unfold sWb; rw [h2 _ (by omega)])
    rw [this]
  have hb' : sW T b = sW S b ||| sW S a := by
    apply Nat.eq_of_testBit_eq
    intro i
    rw [Nat.testBit_or]
    have t1 := (bitsN_tb (f := sWb T b) (n := 6) (fun i _ => sWb_le T b i)).2 i
    have t2 := (bitsN_tb (f := sWb S b) (n := 6) (fun i _ => sWb_le S b i)).2 i
    have t3 := (bitsN_tb (f := sWb S a) (n := 6) (fun i _ => sWb_le S a i)).2 i
    unfold sW
    rw [t1, t2, t3]
    by_cases c : i < 6
    · have := h3 i c
      unfold sWb
      rw [this]
      by_cases c1 : 0 < S (43 + 8 * b + i)
      · have c2 : 0 < max (S (43 + 8 * b + i)) (S (43 + 8 * a + i)) := by omega
        simp [c, c1, c2]
      · by_cases c3 : 0 < S (43 + 8 * a + i)
        · have c2 : 0 < max (S (43 + 8 * b + i)) (S (43 + 8 * a + i)) := by omega
          simp [c, c1, c2, c3]
        · have c2 : ¬ 0 < max (S (43 + 8 * b + i)) (S (43 + 8 * a + i)) := by omega
          simp [c, c1, c2, c3]
    · simp [c]
  have sd := sum_diff (f := sWh T) (g := sWh S) hb hq
  have ew : sWhole T = sumN (sWh T) (S 1) := by unfold sWhole; rw [e1]
  have ew2 : sWhole S = sumN (sWh S) (S 1) := rfl
  rw [ew, ew2]
  have hT : sWh T b = if (sW S b ||| sW S a) = 63 then 1 else 0 := by unfold sWh; rw [hb']
  have hS : sWh S b = if sW S b = 63 then 1 else 0 := rfl
  by_cases c : sW S b = 63
  · have c2 : (sW S b ||| sW S a) = 63 := by rw [c]; exact or63 _ (sW_lt S a)
    rw [if_pos c2] at hT
    rw [if_pos c] at hS
    exact Or.inr ⟨fun q => q.1 c, by omega⟩
  · rw [if_neg c] at hS
    by_cases c2 : (sW S b ||| sW S a) = 63
    · rw [if_pos c2] at hT
      exact Or.inl ⟨⟨c, c2⟩, by omega⟩
    · rw [if_neg c2] at hT
      exact Or.inr ⟨fun q => c2 q.2, by omega⟩
theorem c_tell (o1 : Ok S) (x0 : X 0 = cv S) : ∃ r, fX1_tell X = some r ∧ Fst S r := by
  have h1 := o1.2.1
  have e5 : cv S 5 0 = nI (S 1) := rfl
  have gn : nI (S 1) ≤ nI (S 1) := (nle (by omega) (by omega)).mpr (Nat.le_refl _)
  rw [fX1_tell]
  refine lp_inv (F := fX1_tell_2 X) (S 1) (fun i x => x = nI i ∧ NoG S i 0) (Fst S) ?_ ?_ (0 : Int32) ⟨rfl, NoG_0⟩ 5000 (by omega)
  · rintro k x ⟨rfl, hn⟩
    exact ⟨-9, by rw [fX1_tell_2, x0, e5, if_pos gn], Or.inr ⟨NoG_e hn, rfl⟩⟩
  · rintro k i x hi ⟨rfl, hn⟩
    have hi5 : i < 5 := by omega
    have g : ¬ nI (S 1) ≤ nI i := fun q => by have := (nle (by omega) (by omega)).mp q; omega
    rw [fX1_tell_2, x0, e5, if_neg g]
    have hli := sW_lt S i
    refine lp_one (F := fX1_tell_15 X k) (S 1) (fun j x => x = (nI i, nI j) ∧ NoG S i j) (fun o => (∃ r, o = some r ∧ Fst S r) ∨ ∃ y, o = k y ∧ y = nI (i + 1) ∧ NoG S (i + 1) 0) ?_ ?_ (nI i, 0) ⟨rfl, hn⟩ 5000 (by omega)
    · rintro k2 x ⟨rfl, hn2⟩
      refine Or.inr ⟨nI (i + 1), ?_, rfl, NoG_n hn2⟩
      simp only [fX1_tell_15, x0, e5, gn, if_true, bnT, nI_1]
    · rintro k2 j x hj ⟨rfl, hn2⟩
      have hj5 : j < 5 := by omega
      have gj : ¬ nI (S 1) ≤ nI j := fun q => by have := (nle (by omega) (by omega)).mp q; omega
      have hlj := sW_lt S j
      have i63 : (nI (sW S j) = (63 : Int32)) ↔ sW S j = 63 := neq (b := 63) (by omega) (by decide)
      have hor : sW S j ||| sW S i < 64 := (or6 _ hlj _ hli).1
      have o63 : (nI (sW S j ||| sW S i) = (63 : Int32)) ↔ (sW S j ||| sW S i) = 63 := neq (b := 63) (by omega) (by decide)
      by_cases c : sW S j = 63
      · refine Or.inr ⟨(nI i, nI (j + 1)), ?_, rfl, NoG_s hn2 (fun q => q.1 c)⟩
        have c' := i63.mpr c
        simp only [fX1_tell_15, fX1_tell_63, x0, e5, gj, if_false, cv_wordsOf o1 hj5, clT, c', if_true, bnT, nI_1]
      · have c' : ¬ nI (sW S j) = (63 : Int32) := fun q => c (i63.mp q)
        by_cases d : (sW S j ||| sW S i) = 63
        · have d' := o63.mpr d
          refine Or.inl (Or.inl ⟨nI (10 * i + j), ?_, Or.inl ⟨i, j, hi, hj, ⟨c, d⟩, hn2, rfl⟩⟩)
          have em : (10 : Int32) * nI i + nI j = nI (10 * i + j) := by rw [lit32, pk_mul, nI_add]
          simp only [fX1_tell_15, fX1_tell_63, x0, e5, gj, if_false, cv_wordsOf o1 hj5, cv_wordsOf o1 hi5, clT, c', fa_or, d', if_true, em]
        · have d' : ¬ nI (sW S j ||| sW S i) = (63 : Int32) := fun q => d (o63.mp q)
          refine Or.inr ⟨(nI i, nI (j + 1)), ?_, rfl, NoG_s hn2 (fun q => d q.2)⟩
          simp only [fX1_tell_15, fX1_tell_63, x0, e5, gj, if_false, cv_wordsOf o1 hj5, cv_wordsOf o1 hi5, clT, c', fa_or, d', bnT, nI_1]
def HH (S : Nat → Nat) (a b : Nat) (u v : Int32) : Prop := (u = nI (sWhole S) ∧ v = -9 ∧ NoG S a b) ∨ (u = nI (sWhole S + 1) ∧ ∃ a0 b0, a0 < S 1 ∧ b0 < S 1 ∧ sGd S a0 b0 ∧ NoG S a0 b0 ∧ v = nI (10 * a0 + b0))
theorem r_tell (o1 : Ok S) (y0 : Y 0 = lN8 S) (y1 : ∀ j, 81 ≤ j → Y 1 j = 0) : ∃ r g, (∀ j, 81 ≤ j → g j = 0) ∧ fX2_tell Y = some (r, up Y 1 g) ∧ Fst S r := by
  have h1 := o1.2.1
  have e6 : ∀ {β : Type} {K : Int32 → Option β}, rd 81 (lN8 S) 1 K = K (nI (S 1)) := rdM (a := 1) (by decide)
  have gn : nI (S 1) ≤ nI (S 1) := (nle (by omega) (by omega)).mpr (Nat.le_refl _)
  have hW := sWhole_le o1
  rw [fX2_tell, y0, r_wholeOnes o1, clT]
  refine lp_one (F := fX2_tell_13) (S 1) (fun i y => ∃ g u v, (∀ j, 81 ≤ j → g j = 0) ∧ y = (up Y 1 g, u, v, nI i) ∧ HH S i 0 u v) (fun o => ∃ r g, (∀ j, 81 ≤ j → g j = 0) ∧ o = some (r, up Y 1 g) ∧ Fst S r) ?_ ?_ _ ⟨Y 1, nI (sWhole S), -9, y1, by rw [up_self]; rfl, Or.inl ⟨rfl, rfl, NoG_0⟩⟩ 5000 (by omega)
  · rintro k y ⟨g, u, v, hg, rfl, hH⟩
    refine ⟨v, g, hg, ?_, ?_⟩
    · simp only [fX2_tell_13, un10, y0, e6, gn, if_true]
    · rcases hH with ⟨_, rfl, hn⟩ | ⟨_, a0, b0, ha, hb, hgd, hn, rfl⟩
      · exact Or.inr ⟨NoG_e hn, rfl⟩
      · exact Or.inl ⟨a0, b0, ha, hb, hgd, hn, rfl⟩
  · rintro k i y hi ⟨g, u, v, hg, rfl, hH⟩
    have hi5 : i < 5 := by omega
    have gi : ¬ nI (S 1) ≤ nI i := fun q => by have := (nle (by omega) (by omega)).mp q; omega
    have w1 : fX2_tell_13 k (up Y 1 g, u, v, nI i) = lp (fX2_tell_26 k) 5000 (up Y 1 g, u, v, nI i, 0) := by
      simp only [fX2_tell_13, un10, y0, e6, gi, if_false]
    rw [w1]
    right
    refine lp_one (F := fX2_tell_26 k) (S 1) (fun j y => ∃ g u v, (∀ j, 81 ≤ j → g j = 0) ∧ y = (up Y 1 g, u, v, nI i, nI j) ∧ HH S i j u v) (fun o => ∃ y, o = k y ∧ ∃ g u v, (∀ j, 81 ≤ j → g j = 0) ∧ y = (up Y 1 g, u, v, nI (i + 1)) ∧ HH S (i + 1) 0 u v) ?_ ?_ _ ⟨g, u, v, hg, rfl, hH⟩ 5000 (by omega)
    · rintro k2 y ⟨g, u, v, hg, rfl, hH⟩
      refine ⟨(up Y 1 g, u, v, nI (i + 1)), ?_, g, u, v, hg, rfl, ?_⟩
      · simp only [fX2_tell_26, un10, y0, e6, gn, if_true, bnT, nI_1]
      · rcases hH with ⟨a1, a2, hn⟩ | hH
        · exact Or.inl ⟨a1, a2, NoG_n hn⟩
        · exact Or.inr hH
    · rintro k2 j y hj ⟨g, u, v, hg, rfl, hH⟩
      have hj5 : j < 5 := by omega
      have gj : ¬ nI (S 1) ≤ nI j := fun q => by have := (nle (by omega) (by omega)).mp q; omega
      right
      by_cases c : i = j
      · subst c
        refine ⟨(up Y 1 g, u, v, nI i, nI (i + 1)), ?_, g, u, v, hg, rfl, ?_⟩
        · simp only [fX2_tell_26, fX2_tell_160, un10, y0, e6, gj, if_false, eq_self, if_true, bnT, nI_1]
        · rcases hH with ⟨a1, a2, hn⟩ | hH
          · exact Or.inl ⟨a1, a2, NoG_s hn (fun q => by have := q.2; rw [Nat.or_self] at this; exact q.1 this)⟩
          · exact Or.inr hH
      · have c' : ¬ nI i = nI j := fun q => c ((neq (by omega) (by omega)).mp q)
        have d2 : fX2_copies (lN8 S) (up Y 1 g 1) = some (lN8 S) := by rw [up_s]; exact r_copies o1 hg
        have w2 : fX2_tell_26 k k2 (up Y 1 g, u, v, nI i, nI j) = lp (fX2_tell_60 k k2) 5000 (up Y 1 (lN8 S), u, v, nI i, nI j, 0) := by
          simp only [fX2_tell_26, un10, y0, e6, gj, if_false, c', d2, clT, bnT, up_up]
        obtain ⟨hT, hTw⟩ := tl_whole o1 hi hj c
        have w3 : lp (fX2_tell_60 k k2) 5000 (up Y 1 (lN8 S), u, v, nI i, nI j, 0) = if u < nI (sWhole (itr (tl i j) 6 S)) then k2 (up Y 1 (lN8 (itr (tl i j) 6 S)), nI (sWhole (itr (tl i j) 6 S)), nI (10 * i + j), nI i, nI (j + 1)) else k2 (up Y 1 (lN8 (itr (tl i j) 6 S)), u, v, nI i, nI (j + 1)) := by
          refine lp_for 6 (fun w (T : Nat → Nat) => (up Y 1 (lN8 T), u, v, nI i, nI j, nI w)) (tl i j) S _ ?_ ?_ 5000 (by omega)
          · intro k3
            have g6 : (6 : Int32) ≤ nI 6 := by decide
            generalize itr (tl i j) 6 S = T at hT
            have em : (10 : Int32) * nI i + nI j = nI (10 * i + j) := by rw [lit32, pk_mul, nI_add]
            by_cases z : u < nI (sWhole T)
            · simp only [fX2_tell_60, fX2_tell_160, g6, if_true, up_s, r_wholeOnes hT, clT, z, bnT, em, nI_1]
            · simp only [fX2_tell_60, fX2_tell_160, g6, if_true, up_s, r_wholeOnes hT, clT, z, if_false, bnT, nI_1]
          · intro k3 w hw
            obtain ⟨hO, h2, h3⟩ := tl_p o1 hi hj c w (by omega)
            generalize itr (tl i j) w S = T at hO h2 h3
            have g6 : ¬ (6 : Int32) ≤ nI w := fun q => by have := (nle (a := 6) (by decide) (by omega)).mp q; omega
            have ea : fX2_ofP (nI i) ((2 : Int32) + nI w) = some (nI (43 + 8 * i + w)) := by
              rw [lit32, nI_add, q_ofP, show 41 + 8 * i + (2 + w) = 43 + 8 * i + w by omega]
            have eb : fX2_ofP (nI j) ((2 : Int32) + nI w) = some (nI (43 + 8 * j + w)) := by
              rw [lit32, nI_add, q_ofP, show 41 + 8 * j + (2 + w) = 43 + 8 * j + w by omega]
            have ma : ∀ {β : Type} {K : Int32 → Option β}, rd 81 (lN8 T) (nI (43 + 8 * i + w)) K = K (nI (T (43 + 8 * i + w))) := rdM (by omega)
            have mb : ∀ {β : Type} {K : Int32 → Option β}, rd 81 (lN8 T) (nI (43 + 8 * j + w)) K = K (nI (T (43 + 8 * j + w))) := rdM (by omega)
            have kk : ∀ {β : Type} {K : Option β}, ck 81 (nI (43 + 8 * j + w)) K = K := ckN (by omega) (by decide)
            have t2 : (nI (43 + 8 * j + w)).toNatClampNeg = 43 + 8 * j + w := ncl (by omega)
            have b1 := (hO.2.2.2.2.2.2.1 i hi5).2.2 w hw
            have b2 := (hO.2.2.2.2.2.2.1 j hj5).2.2 w hw
            unfold tl
            by_cases z : T (43 + 8 * j + w) < T (43 + 8 * i + w)
            · have z' : ¬ nI (T (43 + 8 * i + w)) ≤ nI (T (43 + 8 * j + w)) := fun q => by have := (nle (by omega) (by omega)).mp q; omega
              rw [if_pos z]
              simp only [fX2_tell_60, fX2_tell_124, g6, if_false, ea, eb, clT, up_s, ma, mb, z', kk, t2, lN8_up, bnT, up_up, nI_1]
            · have z' : nI (T (43 + 8 * i + w)) ≤ nI (T (43 + 8 * j + w)) := (nle (by omega) (by omega)).mpr (by omega)
              rw [if_neg z]
              simp only [fX2_tell_60, fX2_tell_124, g6, if_false, ea, eb, clT, up_s, ma, mb, z', if_true, bnT, nI_1]
        rw [w2, w3]
        rcases hTw with ⟨hg1, ew⟩ | ⟨hg1, ew⟩
        · rw [ew]
          rcases hH with ⟨rfl, rfl, hn⟩ | ⟨rfl, hH⟩
          · rw [if_pos ((nlt (by omega) (by omega)).mpr (by omega))]
            exact ⟨_, rfl, _, _, _, lN8_z hT, rfl, Or.inr ⟨rfl, i, j, hi, hj, hg1, hn, rfl⟩⟩
          · rw [if_neg (fun q => by have := (nlt (by omega) (by omega)).mp q; omega)]
            exact ⟨_, rfl, _, _, _, lN8_z hT, rfl, Or.inr ⟨rfl, hH⟩⟩
        · rw [ew]
          rcases hH with ⟨rfl, rfl, hn⟩ | ⟨rfl, hH⟩
          · rw [if_neg (fun q => by have := (nlt (by omega) (by omega)).mp q; omega)]
            exact ⟨_, rfl, _, _, _, lN8_z hT, rfl, Or.inl ⟨rfl, rfl, NoG_s hn hg1⟩⟩
          · rw [if_neg (fun q => by have := (nlt (by omega) (by omega)).mp q; omega)]
            exact ⟨_, rfl, _, _, _, lN8_z hT, rfl, Or.inr ⟨rfl, hH⟩⟩
theorem relY1 (hR : Rel X Y) {g : Nat → Int32} (hg : ∀ j, 81 ≤ j → g j = 0) : Rel X (up Y 1 g) := by
  obtain ⟨S, P, l, r, f, hp, nl, nr, o, x, ⟨y0, _, y2, y3, y2', y4, y5, y6, y7, y8, y9⟩⟩ := hR
  exact ⟨S, P, l, r, f, hp, nl, nr, o, x, ⟨y0, hg, y2, y3, y2', y4, y5, y6, y7, y8, y9⟩⟩
theorem p_tell (hR : Rel X Y) : ∃ r Y', fX1_tell X = some r ∧ fX2_tell Y = some (r, Y') ∧ Rel X Y' := by
  have hR' := hR
  obtain ⟨S, P, l, r, f, hp, nl, nr, hh⟩ := hR'
  obtain ⟨r1, e1, f1⟩ := c_tell hh.1.1 hh.2.1.1
  obtain ⟨r2, g, hg, e2, f2⟩ := r_tell hh.1.1 hh.2.2.1 hh.2.2.2.1
  have e := Fst_u f1 f2
  subst e
  exact ⟨r1, up Y 1 g, e1, e2, relY1 hR hg⟩
end
