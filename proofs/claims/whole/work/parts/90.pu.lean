/-! words, alone -/
theorem lp_one {σ β : Type} {F : (σ → Option β) → σ → Option β} (N : Nat) (I : Nat → σ → Prop) (Q : Option β → Prop) (h1 : ∀ k x, I N x → Q (F k x)) (h2 : ∀ k i x, i < N → I i x → Q (F k x) ∨ ∃ y, F k x = k y ∧ I (i + 1) y) : ∀ x, I 0 x → ∀ n, N < n → Q (lp F n x) := by
  have key : ∀ j i x n, i + j = N → j < n → I i x → Q (lp F n x) := by
    intro j
    induction j with
    | zero =>
      intro i x n hi hn hI
      cases n with
      | zero => omega
      | succ n =>
        have e : i = N := by omega
        subst e
        exact h1 (lp F n) x hI
    | succ j ih =>
      intro i x n hi hn hI
      cases n with
      | zero => omega
      | succ n =>
        rcases h2 (lp F n) i x (by omega) hI with h | ⟨y, h, hy⟩
        · exact h
        · have w := ih (i + 1) y n (by omega) (by omega) hy
          have a' : lp F (n + 1) x = lp F n y := h
          rw [a']; exact w
  intro x hx n hn
  exact key N 0 x n (by omega) hn hx
def sMany (S : Nat → Nat) (w : Nat) : Nat := sumN (fun p => sW S p / 2 ^ w % 2) (S 1)
def sRst (S : Nat → Nat) (w q : Nat) : Nat := if sMany S w < sMany S q then w else q
theorem sRst_lt (S : Nat → Nat) : ∀ i, i ≤ 6 → itr (sRst S) i 0 < 6
  | 0, _ => by show 0 < 6; decide
  | i + 1, h => by
    have ih := sRst_lt S i (by omega)
    show sRst S i (itr (sRst S) i 0) < 6
    generalize itr (sRst S) i 0 = a at ih ⊢
    unfold sRst
    split <;> omega
section
variable {X : Nat → VS} {Y : VS} {S : Nat → Nat}
theorem sMany_le (o1 : Ok S) (w : Nat) : sMany S w ≤ 5 := by
  have h1 := o1.2.1
  have := sumN_le (f := fun p => sW S p / 2 ^ w % 2) (c := 1) (n := S 1) (fun i _ => by show sW S i / 2 ^ w % 2 ≤ 1; omega)
  unfold sMany
  omega
theorem r_many (o1 : Ok S) (y0 : Y 0 = lN8 S) {w : Nat} (hw : w < 6) : fX2_manyWith Y (nI w) = some (nI (sMany S w)) := by
  have h1 := o1.2.1
  have e6 : ∀ {β : Type} {K : Int32 → Option β}, rd 81 (lN8 S) 1 K = K (nI (S 1)) := rdM (a := 1) (by decide)
  rw [fX2_manyWith]
  refine lp_for (S 1) (fun i (a : Nat) => (nI w, nI a, nI i)) (fun p a => a + sW S p / 2 ^ w % 2) 0 _ ?_ ?_ 5000 (by omega)
  · intro k
    rw [itr_sum (fun p => sW S p / 2 ^ w % 2)]
    have g : nI (S 1) ≤ nI (S 1) := (nle (by omega) (by omega)).mpr (Nat.le_refl _)
    simp only [fX2_manyWith_4, y0, e6, g, if_true]
    rfl
  · intro k i hi
    generalize itr (fun p a => a + sW S p / 2 ^ w % 2) i 0 = a
    have g : ¬ nI (S 1) ≤ nI i := fun q => by have := (nle (by omega) (by omega)).mp q; omega
    have hl := sW_lt S i
    have hh := hasN (m := sW S i) (t := w) (by omega) (by omega)
    rcases (show sW S i / 2 ^ w % 2 = 0 ∨ sW S i / 2 ^ w % 2 = 1 by omega) with c | c
    · rw [c] at hh
      have z : nI 0 = (0 : Int32) := rfl
      have za : nI a + (0 : Int32) = nI a := nI_add a 0
      simp only [fX2_manyWith_4, fX2_manyWith_35, y0, e6, g, if_false, r_wordsOf o1 (show i < 5 by omega), clT, hh, z, if_true, bnT, nI_1, za, c, Nat.add_zero]
    · rw [c] at hh
      have z : ¬ nI 1 = (0 : Int32) := by decide
      simp only [fX2_manyWith_4, fX2_manyWith_35, y0, e6, g, if_false, r_wordsOf o1 (show i < 5 by omega), clT, hh, z, bnT, nI_1, c]
theorem c_rare (o1 : Ok S) (x0 : X 0 = cv S) : fX1_rarestWord X = some (nI (itr (sRst S) 6 0)) := by
  have h1 := o1.2.1
  have e5 : cv S 5 0 = nI (S 1) := rfl
  rw [fX1_rarestWord]
  refine lp_for 6 (fun i (a : Nat) => (nI a, if i = 0 then (6 : Int32) else nI (sMany S a), nI i)) (sRst S) 0 _ ?_ ?_ 5000 (by omega)
  · intro k
    have g : (6 : Int32) ≤ nI 6 := by decide
    simp only [fX1_rarestWord_7, g, if_true]
  · intro k i hi
    have ha := sRst_lt S i (by omega)
    have hz : i = 0 → itr (sRst S) i 0 = 0 := fun q => by subst q; rfl
    generalize itr (sRst S) i 0 = a at ha hz
    have g6 : ¬ (6 : Int32) ≤ nI i := fun q => by have := (nle (a := 6) (by decide) (by omega)).mp q; omega
    have hm := sMany_le o1 i
    have hma := sMany_le o1 a
    generalize hL : (if i = 0 then (6 : Int32) else nI (sMany S a)) = L
    have w1 : fX1_rarestWord_7 X k (nI a, L, nI i) = lp (fX1_rarestWord_19 X k) 5000 (nI a, L, nI i, 0, 0) := by
      simp only [fX1_rarestWord_7, g6, if_false]
    show fX1_rarestWord_7 X k (nI a, L, nI i) = _
    rw [w1]
    refine lp_for (S 1) (fun p (c : Nat) => (nI a, L, nI i, nI c, nI p)) (fun p c => c + sW S p / 2 ^ i % 2) 0 _ ?_ ?_ 5000 (by omega)
    · intro k2
      rw [itr_sum (fun p => sW S p / 2 ^ i % 2)]
      have g : nI (S 1) ≤ nI (S 1) := (nle (by omega) (by omega)).mpr (Nat.le_refl _)
      show fX1_rarestWord_19 X k k2 (nI a, L, nI i, nI (sMany S i), nI (S 1)) = _
      have nz : ¬ i + 1 = 0 := by omega
      by_cases c : i = 0
      · rw [if_pos c] at hL
        subst hL
        have z : ¬ (6 : Int32) ≤ nI (sMany S i) := fun q => by have := (nle (a := 6) (by decide) (by omega)).mp q; omega
        have ea := hz c
        subst ea
        have es : sRst S i 0 = i := by unfold sRst; rw [c]; split <;> rfl
        simp only [fX1_rarestWord_19, fX1_rarestWord_66, x0, e5, g, if_true, z, if_false, bnT, nI_1, nz, es]
      · rw [if_neg c] at hL
        subst hL
        by_cases d : sMany S i < sMany S a
        · have z : ¬ nI (sMany S a) ≤ nI (sMany S i) := fun q => by have := (nle (by omega) (by omega)).mp q; omega
          have es : sRst S i a = i := if_pos d
          simp only [fX1_rarestWord_19, fX1_rarestWord_66, x0, e5, g, if_true, z, if_false, bnT, nI_1, nz, es]
        · have z : nI (sMany S a) ≤ nI (sMany S i) := (nle (by omega) (by omega)).mpr (by omega)
          have es : sRst S i a = a := if_neg d
          simp only [fX1_rarestWord_19, fX1_rarestWord_66, x0, e5, g, if_true, z, if_false, bnT, nI_1, nz, es]
    · intro k2 p hp
      generalize itr (fun p c => c + sW S p / 2 ^ i % 2) p 0 = c
      have g : ¬ nI (S 1) ≤ nI p := fun q => by have := (nle (by omega) (by omega)).mp q; omega
      have hl := sW_lt S p
      have hb := shrB (m := sW S p) (t := i) (by omega) (by omega)
      simp only [fX1_rarestWord_19, x0, e5, g, if_false, cv_wordsOf o1 (show p < 5 by omega), clT, hb, bnT, nI_add, nI_1]
def sLk (S : Nat → Nat) (t : Nat) (a : Int32) : Int32 := a &&& (((1 : Int32) <<< (nI (S (7 + 4 * t)) &&& 31)) ^^^ (-1 : Int32))
def sKn (S : Nat → Nat) (p : Nat) (a : Int32) : Int32 := a &&& nI (sW S p)
theorem c_lack (o1 : Ok S) (x0 : X 0 = cv S) : fX1_lackingWords X = some (itr (sLk S) (S 0) 63) := by
  have h0 := o1.1
  have e5 : cv S 0 0 = nI (S 0) := rfl
  rw [fX1_lackingWords]
  refine lp_for (S 0) (fun i (a : Int32) => (a, nI i)) (sLk S) 63 _ ?_ ?_ 5000 (by omega)
  · intro k
    have g : nI (S 0) ≤ nI (S 0) := (nle (by omega) (by omega)).mpr (Nat.le_refl _)
    simp only [fX1_lackingWords_5, x0, e5, g, if_true]
  · intro k i hi
    have g : ¬ nI (S 0) ≤ nI i := fun q => by have := (nle (by omega) (by omega)).mp q; omega
    have q3 : ∀ {β : Type} {K : Int32 → Option β}, rd 9 (cv S 3) (nI i) K = K (nI (S (7 + 4 * i))) := rdV3 (by omega)
    generalize itr (sLk S) i 63 = a
    simp only [fX1_lackingWords_5, x0, e5, g, if_false, q3, bnT, nI_1, sLk]
theorem c_known (o1 : Ok S) (x0 : X 0 = cv S) : fX1_knownWords X = some (itr (sKn S) (S 1) 63) := by
  have h1 := o1.2.1
  have e5 : cv S 5 0 = nI (S 1) := rfl
  rw [fX1_knownWords]
  refine lp_for (S 1) (fun i (a : Int32) => (a, nI i)) (sKn S) 63 _ ?_ ?_ 5000 (by omega)
  · intro k
    have g : nI (S 1) ≤ nI (S 1) := (nle (by omega) (by omega)).mpr (Nat.le_refl _)
    simp only [fX1_knownWords_5, x0, e5, g, if_true]
  · intro k i hi
    have g : ¬ nI (S 1) ≤ nI i := fun q => by have := (nle (by omega) (by omega)).mp q; omega
    generalize itr (sKn S) i 63 = a
    simp only [fX1_knownWords_5, x0, e5, g, if_false, cv_wordsOf o1 (show i < 5 by omega), clT, bnT, nI_1, sKn]
theorem r_words (o1 : Ok S) (y0 : Y 0 = lN8 S) (b : Int32) : lp fX2_words_28 5000 (Y, b, 63, 63, 0, 0) = (if b = 0 then some (itr (sLk S) (S 0) 63, Y) else if b = 1 then some (itr (sKn S) (S 1) 63, Y) else some (nI (itr (sRst S) 6 0), Y)) := by
  have h0 := o1.1
  have h1 := o1.2.1
  have e6 : ∀ {β : Type} {K : Int32 → Option β}, rd 81 (lN8 S) 1 K = K (nI (S 1)) := rdM (a := 1) (by decide)
  have e7 : ∀ {β : Type} {K : Int32 → Option β}, rd 81 (lN8 S) 0 K = K (nI (S 0)) := rdM (a := 0) (by decide)
  have l3 : ∀ L K : Int32, lp fX2_words_98 5000 (Y, b, L, K, 0, 0) = (if b = 0 then some (L, Y) else if b = 1 then some (K, Y) else some (nI (itr (sRst S) 6 0), Y)) := by
    intro L K
    refine lp_for 6 (fun i (a : Nat) => (Y, b, L, K, nI a, nI i)) (sRst S) 0 _ ?_ ?_ 5000 (by omega)
    · intro k
      have g : (6 : Int32) ≤ nI 6 := by decide
      simp only [fX2_words_98, g, if_true]
    · intro k i hi
      have ha := sRst_lt S i (by omega)
      generalize itr (sRst S) i 0 = a at ha
      have g6 : ¬ (6 : Int32) ≤ nI i := fun q => by have := (nle (a := 6) (by decide) (by omega)).mp q; omega
      have hm := sMany_le o1 i
      have hma := sMany_le o1 a
      by_cases d : sMany S i < sMany S a
      · have z : ¬ nI (sMany S a) ≤ nI (sMany S i) := fun q => by have := (nle (by omega) (by omega)).mp q; omega
        have es : sRst S i a = i := if_pos d
        simp only [fX2_words_98, fX2_words_124, g6, if_false, r_many o1 y0 hi, r_many o1 y0 ha, clT, z, bnT, nI_1, es]
      · have z : nI (sMany S a) ≤ nI (sMany S i) := (nle (by omega) (by omega)).mpr (by omega)
        have es : sRst S i a = a := if_neg d
        simp only [fX2_words_98, fX2_words_124, g6, if_false, r_many o1 y0 hi, r_many o1 y0 ha, clT, z, if_true, bnT, nI_1, es]
  have l2 : ∀ L : Int32, lp fX2_words_66 5000 (Y, b, L, 63, 0, 0) = lp fX2_words_98 5000 (Y, b, L, itr (sKn S) (S 1) 63, 0, 0) := by
    intro L
    refine lp_for (S 1) (fun i (a : Int32) => (Y, b, L, a, (0 : Int32), nI i)) (sKn S) 63 _ ?_ ?_ 5000 (by omega)
    · intro k
      have g : nI (S 1) ≤ nI (S 1) := (nle (by omega) (by omega)).mpr (Nat.le_refl _)
      simp only [fX2_words_66, y0, e6, g, if_true]
    · intro k i hi
      have g : ¬ nI (S 1) ≤ nI i := fun q => by have := (nle (by omega) (by omega)).mp q; omega
      generalize itr (sKn S) i 63 = a
      simp only [fX2_words_66, y0, e6, g, if_false, r_wordsOf o1 (show i < 5 by omega), clT, bnT, nI_1, sKn]
  have l1 : lp fX2_words_28 5000 (Y, b, 63, 63, 0, 0) = lp fX2_words_66 5000 (Y, b, itr (sLk S) (S 0) 63, 63, 0, 0) := by
    refine lp_for (S 0) (fun i (a : Int32) => (Y, b, a, (63 : Int32), (0 : Int32), nI i)) (sLk S) 63 _ ?_ ?_ 5000 (by omega)
    · intro k
      have g : nI (S 0) ≤ nI (S 0) := (nle (by omega) (by omega)).mpr (Nat.le_refl _)
      simp only [fX2_words_28, y0, e7, g, if_true]
    · intro k i hi
      have g : ¬ nI (S 0) ≤ nI i := fun q => by have := (nle (by omega) (by omega)).mp q; omega
      have g2 : fX2_ofR (nI i) 2 = some (nI (7 + 4 * i)) := by rw [show 7 + 4 * i = 5 + 4 * i + 2 by omega]; exact q_ofR i 2
      have mi : ∀ {β : Type} {K : Int32 → Option β}, rd 81 (lN8 S) (nI (7 + 4 * i)) K = K (nI (S (7 + 4 * i))) := rdM (by omega)
      generalize itr (sLk S) i 63 = a
      simp only [fX2_words_28, y0, e7, g, if_false, g2, clT, mi, bnT, nI_1, sLk]
  rw [l1, l2, l3]
theorem p_words (hR : Rel X Y) (a : Int32) : Ag (fX1_words X a) (fX2_words Y a) := by
  have hR' := hR
  obtain ⟨S, P, l, r, f, hp, nl, nr, hh⟩ := hR'
  have o1 := hh.1.1
  have x0 := hh.2.1.1
  have y0 := hh.2.2.1
  rw [fX1_words, fX2_words]
  rcases isn a 2 (by decide) with ⟨n, hn, rfl, e⟩ | ⟨ha, e⟩
  · have e' : fX2_isIn (nI n) 0 2 = some 1 := e
    rw [e', clT, if_neg ne10, r_words o1 y0, c_lack o1 x0, c_known o1 x0, c_rare o1 x0, clT, clT, clT]
    rcases (show n = 0 ∨ n = 1 ∨ n = 2 by omega) with rfl | rfl | rfl
    · have q0 : nI 0 = (0 : Int32) := rfl
      rw [if_pos q0, if_pos q0]
      exact agS hR _ rfl rfl
    · have q0 : ¬ nI 1 = (0 : Int32) := by decide
      have q1 : nI 1 = (1 : Int32) := rfl
      rw [if_neg q0, if_neg q0, if_pos q1, if_pos q1]
      exact agS hR _ rfl rfl
    · have q0 : ¬ nI 2 = (0 : Int32) := by decide
      have q1 : ¬ nI 2 = (1 : Int32) := by decide
      have q2 : nI 2 = (2 : Int32) := rfl
      rw [if_neg q0, if_neg q0, if_neg q1, if_neg q1, if_pos q2]
      exact agS hR _ rfl rfl
  · have e' : fX2_isIn a 0 2 = some 0 := e
    have a0 : ¬ a = 0 := ha 0 (by omega)
    have a1 : ¬ a = 1 := ha 1 (by omega)
    have a2 : ¬ a = 2 := ha 2 (by omega)
    rw [e', clT, if_pos rfl, if_neg a0, if_neg a1, if_neg a2, cl_e, cl_e]
    exact refAg hR (by simp)
-- alone
theorem and6 : ∀ a, a < 64 → ∀ b, b < 64 → ((nI a &&& (nI b ^^^ (-1 : Int32)) = 0) ↔ (∀ w, w < 6 → a / 2 ^ w % 2 = 1 → b / 2 ^ w % 2 = 1)) := by decide +kernel
theorem or6 : ∀ a, a < 64 → ∀ b, b < 64 → (a ||| b < 64) ∧ (∀ w, w < 6 → ((a ||| b) / 2 ^ w % 2 = 1 ↔ (a / 2 ^ w % 2 = 1 ∨ b / 2 ^ w % 2 = 1))) := by decide +kernel
theorem sum1 {f : Nat → Nat} {n p : Nat} (hn : n ≤ 5) (hf : ∀ i, f i ≤ 1) (hp : p < n) (h1 : f p = 1) : sumN f n = 1 ↔ ∀ q, q < n → q ≠ p → f q = 0 := by
  have f0 := hf 0
  have f1 := hf 1
  have f2 := hf 2
  have f3 := hf 3
  have f4 := hf 4
  constructor
  · intro h q hq hne
    have fq := hf q
    rcases (show n = 1 ∨ n = 2 ∨ n = 3 ∨ n = 4 ∨ n = 5 by omega) with rfl | rfl | rfl | rfl | rfl <;> simp only [sumN] at h <;>
    rcases (show p = 0 ∨ p = 1 ∨ p = 2 ∨ p = 3 ∨ p = 4 by omega) with rfl | rfl | rfl | rfl | rfl <;>
    rcases (show q = 0 ∨ q = 1 ∨ q = 2 ∨ q = 3 ∨ q = 4 by omega) with rfl | rfl | rfl | rfl | rfl <;> omega
  · intro h
    have g0 := h 0
    have g1 := h 1
    have g2 := h 2
    have g3 := h 3
    have g4 := h 4
    rcases (show n = 1 ∨ n = 2 ∨ n = 3 ∨ n = 4 ∨ n = 5 by omega) with rfl | rfl | rfl | rfl | rfl <;> simp only [sumN] <;>
    rcases (show p = 0 ∨ p = 1 ∨ p = 2 ∨ p = 3 ∨ p = 4 by omega) with rfl | rfl | rfl | rfl | rfl <;> omega
def sOth (S : Nat → Nat) (p q a : Nat) : Nat := if q = p then a else a ||| sW S q
theorem sOth_b (S : Nat → Nat) (p : Nat) : ∀ n, itr (sOth S p) n 0 < 64 ∧ ∀ w, w < 6 → (itr (sOth S p) n 0 / 2 ^ w % 2 = 1 ↔ ∃ q, q < n ∧ q ≠ p ∧ sW S q / 2 ^ w % 2 = 1)
  | 0 => ⟨by show 0 < 64; decide, fun w hw => ⟨fun h => by
      have : (0 : Nat) / 2 ^ w % 2 = 1 := h
      rw [Nat.zero_div] at this; omega, fun ⟨q, hq, _⟩ => by omega⟩⟩
  | n + 1 => by
    obtain ⟨h1, h2⟩ := sOth_b S p n
    have e : itr (sOth S p) (n + 1) 0 = sOth S p n (itr (sOth S p) n 0) := rfl
    rw [e]
    generalize itr (sOth S p) n 0 = a at h1 h2
    unfold sOth
    by_cases c : n = p
    · rw [if_pos c]
      refine ⟨h1, fun w hw => (h2 w hw).trans ⟨fun ⟨q, a1, a2, a3⟩ => ⟨q, by omega, a2, a3⟩, fun ⟨q, a1, a2, a3⟩ => ⟨q, by omega, a2, a3⟩⟩⟩
    · rw [if_neg c]
      obtain ⟨h3, h4⟩ := or6 a h1 (sW S n) (sW_lt S n)
      refine ⟨h3, fun w hw => (h4 w hw).trans ⟨?_, ?_⟩⟩
      · rintro (h | h)
        · obtain ⟨q, a1, a2, a3⟩ := (h2 w hw).mp h
          exact ⟨q, by omega, a2, a3⟩
        · exact ⟨n, by omega, c, h⟩
      · rintro ⟨q, a1, a2, a3⟩
        by_cases d : q = n
        · subst d; exact Or.inr a3
        · exact Or.inl ((h2 w hw).mpr ⟨q, by omega, a2, a3⟩)
def sAl (S : Nat → Nat) (p w : Nat) : Nat := if sW S p / 2 ^ w % 2 = 1 ∧ sMany S w = 1 then 1 else 0
theorem alone_iff (o1 : Ok S) {p : Nat} (hp : p < S 1) : (nI (sW S p) &&& (nI (itr (sOth S p) (S 1) 0) ^^^ (-1 : Int32)) = 0) ↔ ∀ w, w < 6 → sAl S p w = 0 := by
  obtain ⟨h1, h2⟩ := sOth_b S p (S 1)
  rw [and6 _ (sW_lt S p) _ h1]
  refine ⟨fun h w hw => ?_, fun h w hw hb => ?_⟩
  · unfold sAl
    rw [if_neg]
    rintro ⟨hb, hm⟩
    obtain ⟨q, q1, q2, q3⟩ := (h2 w hw).mp (h w hw hb)
    have := (sum1 (f := fun p => sW S p / 2 ^ w % 2) o1.2.1 (fun i => by show sW S i / 2 ^ w % 2 ≤ 1; omega) hp hb).mp hm q q1 q2
    have : sW S q / 2 ^ w % 2 = 0 := this
    omega
  · have h3 := h w hw
    apply (h2 w hw).mpr
    apply Classical.byContradiction
    intro hn
    have hm : sMany S w = 1 := (sum1 (f := fun p => sW S p / 2 ^ w % 2) o1.2.1 (fun i => by show sW S i / 2 ^ w % 2 ≤ 1; omega) hp hb).mpr (fun q q1 q2 => by
      show sW S q / 2 ^ w % 2 = 0
      have : ¬ sW S q / 2 ^ w % 2 = 1 := fun q3 => hn ⟨q, q1, q2, q3⟩
      omega)
    unfold sAl at h3
    rw [if_pos ⟨hb, hm⟩] at h3
    omega
theorem itr_any {f : Nat → Nat} (hf : ∀ w, f w = 0 ∨ f w = 1) : ∀ n, (itr (fun w a => if f w = 1 then 1 else a) n 0 = 0 ∧ ∀ w, w < n → f w = 0) ∨ (itr (fun w a => if f w = 1 then 1 else a) n 0 = 1 ∧ ¬ ∀ w, w < n → f w = 0)
  | 0 => Or.inl ⟨rfl, fun w hw => by omega⟩
  | n + 1 => by
    have e : itr (fun w a => if f w = 1 then 1 else a) (n + 1) 0 = if f n = 1 then 1 else itr (fun w a => if f w = 1 then 1 else a) n 0 := rfl
    rw [e]
    rcases hf n with c | c
    · rw [if_neg (by omega)]
      rcases itr_any hf n with ⟨d, d2⟩ | ⟨d, d2⟩
      · exact Or.inl ⟨d, fun w hw => by
          by_cases e : w = n
          · subst e; exact c
          · exact d2 w (by omega)⟩
      · exact Or.inr ⟨d, fun q => d2 (fun w hw => q w (by omega))⟩
    · rw [if_pos c]
      exact Or.inr ⟨rfl, fun q => by have := q n (by omega); omega⟩
def sAlA (S : Nat → Nat) (p : Nat) : Nat := itr (fun w a => if sAl S p w = 1 then 1 else a) 6 0
theorem sAlA_c (S : Nat → Nat) (p : Nat) : (sAlA S p = 0 ∧ ∀ w, w < 6 → sAl S p w = 0) ∨ (sAlA S p = 1 ∧ ¬ ∀ w, w < 6 → sAl S p w = 0) := itr_any (f := sAl S p) (fun w => by unfold sAl; split <;> simp) 6
theorem p_alone (hR : Rel X Y) : ∃ r, fX1_alone X = some r ∧ fX2_alone Y = some r := by
  obtain ⟨S, P, l, r, f, hp, nl, nr, hh⟩ := hR
  have o1 := hh.1.1
  have x0 := hh.2.1.1
  have y0 := hh.2.2.1
  have h1 := o1.2.1
  rw [fX1_alone, fX2_alone]
  have e5 : cv S 5 0 = nI (S 1) := rfl
  have e6 : ∀ {β : Type} {K : Int32 → Option β}, rd 81 (lN8 S) 1 K = K (nI (S 1)) := rdM (a := 1) (by decide)
  refine lp_gen (S 1) (fun i x y => ∃ B : Nat, x = (nI B, nI i) ∧ y = (nI B, nI i)) (fun p q => ∃ r, p = some r ∧ q = some r) ?_ ?_ _ _ ⟨0, rfl, rfl⟩ 5000 5000 (by omega) (by omega)
  · rintro k j _ _ ⟨B, rfl, rfl⟩
    have g : nI (S 1) ≤ nI (S 1) := (nle (by omega) (by omega)).mpr (Nat.le_refl _)
    refine ⟨nI B, ?_, ?_⟩
    · simp only [fX1_alone_4, x0, e5, g, if_true]
    · simp only [fX2_alone_4, y0, e6, g, if_true]
  · rintro k j i _ _ hi ⟨B, rfl, rfl⟩
    have hi5 : i < 5 := by omega
    have g : ¬ nI (S 1) ≤ nI i := fun q => by have := (nle (by omega) (by omega)).mp q; omega
    have gn : nI (S 1) ≤ nI (S 1) := (nle (by omega) (by omega)).mpr (Nat.le_refl _)
    have w1 : fX1_alone_4 X k (nI B, nI i) = lp (fX1_alone_20 X k) 5000 (nI B, nI i, 0, 0) := by
      simp only [fX1_alone_4, x0, e5, g, if_false]
    have w2 : fX2_alone_4 Y j (nI B, nI i) = lp (fX2_alone_16 Y j) 5000 (nI B, nI i, 0) := by
      simp only [fX2_alone_4, y0, e6, g, if_false]
    have hsh : (1 : Int32) <<< (nI i &&& 31) = nI (2 ^ i) := shl1 i (by omega)
    have r1 : lp (fX1_alone_20 X k) 5000 (nI B, nI i, 0, 0) = k (nI (if sAlA S i = 1 then B ||| 2 ^ i else B), nI (i + 1)) := by
      refine lp_for (S 1) (fun q (a : Nat) => (nI B, nI i, nI a, nI q)) (sOth S i) 0 _ ?_ ?_ 5000 (by omega)
      · intro k2
        have hal := alone_iff o1 hi
        rcases sAlA_c S i with ⟨c0, c⟩ | ⟨c0, c⟩
        · have c' := hal.mpr c
          rw [if_neg (show ¬ sAlA S i = 1 by omega)]
          simp only [fX1_alone_20, fX1_alone_77, x0, e5, gn, if_true, cv_wordsOf o1 hi5, clT, c', bnT, nI_1]
        · have c' : ¬ _ := fun q => c (hal.mp q)
          rw [if_pos c0]
          simp only [fX1_alone_20, fX1_alone_77, x0, e5, gn, if_true, cv_wordsOf o1 hi5, clT, c', if_false, bnT, nI_1, hsh, fa_or]
      · intro k2 q hq
        generalize itr (sOth S i) q 0 = a
        have g2 : ¬ nI (S 1) ≤ nI q := fun q' => by have := (nle (by omega) (by omega)).mp q'; omega
        unfold sOth
        by_cases c : q = i
        · rw [if_pos c]
          subst c
          simp only [fX1_alone_20, fX1_alone_50, x0, e5, g2, if_false, eq_self, if_true, bnT, nI_1]
        · have c' : ¬ nI q = nI i := fun q' => c ((neq (by omega) (by omega)).mp q')
          rw [if_neg c]
          simp only [fX1_alone_20, fX1_alone_50, x0, e5, g2, if_false, c', cv_wordsOf o1 (show q < 5 by omega), clT, bnT, fa_or, nI_1]
    have r2 : lp (fX2_alone_16 Y j) 5000 (nI B, nI i, 0) = j (nI (if sAlA S i = 1 then B ||| 2 ^ i else B), nI (i + 1)) := by
      refine lp_for 6 (fun w (a : Nat) => (nI (if a = 1 then B ||| 2 ^ i else B), nI i, nI w)) (fun w a => if sAl S i w = 1 then 1 else a) 0 _ ?_ ?_ 5000 (by omega)
      · intro k2
        have g6 : (6 : Int32) ≤ nI 6 := by decide
        show fX2_alone_16 Y j k2 (nI (if sAlA S i = 1 then B ||| 2 ^ i else B), nI i, nI 6) = _
        simp only [fX2_alone_16, g6, if_true, bnT, nI_1]
      · intro k2 w hw
        generalize itr (fun w a => if sAl S i w = 1 then 1 else a) w 0 = a
        have g6 : ¬ (6 : Int32) ≤ nI w := fun q => by have := (nle (a := 6) (by decide) (by omega)).mp q; omega
        have hl := sW_lt S i
        have hh := hasN (m := sW S i) (t := w) (by omega) (by omega)
        have z0 : ∀ n : Nat, nI n ||| (0 : Int32) = nI n := fun n => (fa_or n 0).trans (congrArg nI (Nat.or_zero n))
        rcases (show sW S i / 2 ^ w % 2 = 0 ∨ sW S i / 2 ^ w % 2 = 1 by omega) with c | c
        · have es : ¬ sAl S i w = 1 := by unfold sAl; rw [if_neg (by omega)]; decide
          rw [c] at hh
          have z : nI 0 = (0 : Int32) := rfl
          simp only [fX2_alone_16, fX2_alone_53, fX2_alone_54, g6, if_false, y0, r_wordsOf o1 hi5, clT, hh, z, if_true, bnT, nI_1, z0, es]
        · rw [c] at hh
          have z : ¬ nI 1 = (0 : Int32) := by decide
          have hm := sMany_le o1 w
          by_cases d : sMany S w = 1
          · have es : sAl S i w = 1 := if_pos ⟨c, d⟩
            have d' : nI (sMany S w) = (1 : Int32) := by rw [d]; rfl
            have hor : (if a = 1 then B ||| 2 ^ i else B) ||| 2 ^ i = B ||| 2 ^ i := by
              split
              · rw [Nat.or_assoc, Nat.or_self]
              · rfl
            simp only [fX2_alone_16, fX2_alone_53, fX2_alone_54, g6, if_false, y0, r_wordsOf o1 hi5, clT, hh, z, r_many o1 y0 hw, d', if_true, bnT, nI_1, hsh, fa_or, hor, es]
          · have es : ¬ sAl S i w = 1 := by unfold sAl; rw [if_neg (fun q => d q.2)]; decide
            have d' : ¬ nI (sMany S w) = (1 : Int32) := fun q => d ((neq (b := 1) (by omega) (by decide)).mp q)
            simp only [fX2_alone_16, fX2_alone_53, fX2_alone_54, g6, if_false, y0, r_wordsOf o1 hi5, clT, hh, z, r_many o1 y0 hw, d', bnT, nI_1, z0, es]
    rw [w1, w2, r1, r2]
    exact Or.inr ⟨_, _, rfl, rfl, _, rfl, rfl⟩
end
