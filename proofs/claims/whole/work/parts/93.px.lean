/-! fewest -/
theorem lkE1 : ∀ p, p < 5 → lkE p = 1 := by decide +kernel
theorem mm_pos {m : Nat} : 0 < mm m ↔ 0 < m := by unfold mm; split <;> omega
def br (S : Nat → Nat) (p t : Nat) : Nat := if sRd S t p = 1 ∧ 0 < S (42 + 8 * p) then 2 ^ S (7 + 4 * t) else 0
def hst (S : Nat → Nat) (p i t a : Nat) : Nat := if i / 2 ^ t % 2 = 1 then a ||| br S p t else a
def hwN (S : Nat → Nat) (p i n : Nat) : Nat := itr (hst S p i) n (sW S p)
section
variable {X : Nat → VS} {Y : VS} {S : Nat → Nat}
theorem sBs_at (h : Ok S) {t : Nat} (ht : t < 9) : ∀ n, n ≤ S 1 → ∀ p v, p < 5 → v < 6 → itr (sB t lkE) n S (43 + 8 * p + v) = if p < n ∧ sRd S t p = 1 ∧ v = S (7 + 4 * t) ∧ S (43 + 8 * p + v) < mm (S (42 + 8 * p)) then mm (S (42 + 8 * p)) else S (43 + 8 * p + v)
  | 0, _, p, v, _, _ => by rw [if_neg (by omega)]; rfl
  | n + 1, hn, p, v, hp, hv => by
    have h1 := h.2.1
    have ih := sBs_at h ht n (by omega)
    obtain ⟨hO, hs⟩ := itr_sB (lk := lkE) h ht n (by omega)
    have e : itr (sB t lkE) (n + 1) S = sB t lkE n (itr (sB t lkE) n S) := rfl
    rw [e]
    generalize itr (sB t lkE) n S = T at ih hO hs
    have hw := (h.2.2.2.2.1 t ht).2.2.1
    have e1 : T (7 + 4 * t) = S (7 + 4 * t) := hs _ (by unfold nW; omega)
    have e2 : T (42 + 8 * n) = S (42 + 8 * n) := hs _ (by unfold nW; omega)
    have e3 : T (43 + 8 * n + S (7 + 4 * t)) = S (43 + 8 * n + S (7 + 4 * t)) := by
      rw [ih n _ (by omega) hw, if_neg (by omega)]
    unfold sB
    rw [sRd_same hs ht (show n < 5 by omega), e1, e2, e3]
    have hl := lkE1 n (by omega)
    have ihp := ih p v hp hv
    by_cases c : sRd S t n = 1 ∧ S (43 + 8 * n + S (7 + 4 * t)) < mm (S (42 + 8 * n))
    · rw [if_pos ⟨hl, c⟩]
      by_cases d : p = n ∧ v = S (7 + 4 * t)
      · obtain ⟨rfl, d2⟩ := d
        rw [d2, setN_s, if_pos ⟨by omega, c.1, rfl, c.2⟩]
      · rw [setN_n _ _ (by omega), ihp]
        by_cases q : p < n ∧ sRd S t p = 1 ∧ v = S (7 + 4 * t) ∧ S (43 + 8 * p + v) < mm (S (42 + 8 * p))
        · rw [if_pos q, if_pos ⟨by omega, q.2⟩]
        · rw [if_neg q, if_neg (fun z => q ⟨by omega, z.2⟩)]
    · rw [if_neg (fun z => c z.2), ihp]
      by_cases q : p < n ∧ sRd S t p = 1 ∧ v = S (7 + 4 * t) ∧ S (43 + 8 * p + v) < mm (S (42 + 8 * p))
      · rw [if_pos q, if_pos ⟨by omega, q.2⟩]
      · rw [if_neg q, if_neg]
        intro z
        by_cases d : p = n
        · subst d
          apply c
          refine ⟨z.2.1, ?_⟩
          rw [← z.2.2.1]; exact z.2.2.2
        · exact q ⟨by omega, z.2⟩
theorem sW_sBs (h : Ok S) {t p : Nat} (ht : t < 9) (hp : p < S 1) : sW (sBs lkE t S) p = sW S p ||| br S p t := by
  have h1 := h.2.1
  have hw := (h.2.2.2.2.1 t ht).2.2.1
  apply Nat.eq_of_testBit_eq
  intro i
  rw [Nat.testBit_or]
  have t1 := (bitsN_tb (f := sWb (sBs lkE t S) p) (n := 6) (fun i _ => sWb_le _ p i)).2 i
  have t2 := (bitsN_tb (f := sWb S p) (n := 6) (fun i _ => sWb_le S p i)).2 i
  unfold sW
  rw [t1, t2]
  by_cases c : i < 6
  · have e : sBs lkE t S (43 + 8 * p + i) = _ := sBs_at h ht (S 1) (Nat.le_refl _) p i (by omega) c
    unfold sWb br
    rw [e]
    by_cases c1 : 0 < S (43 + 8 * p + i)
    · have c2 : 0 < (if p < S 1 ∧ sRd S t p = 1 ∧ i = S (7 + 4 * t) ∧ S (43 + 8 * p + i) < mm (S (42 + 8 * p)) then mm (S (42 + 8 * p)) else S (43 + 8 * p + i)) := by
        split
        · omega
        · exact c1
      simp [c, c1, c2]
    · by_cases c3 : sRd S t p = 1 ∧ 0 < S (42 + 8 * p)
      · rw [if_pos c3, Nat.testBit_two_pow]
        by_cases c4 : i = S (7 + 4 * t)
        · have hm := mm_pos.mpr c3.2
          have c5 : p < S 1 ∧ sRd S t p = 1 ∧ i = S (7 + 4 * t) ∧ S (43 + 8 * p + i) < mm (S (42 + 8 * p)) := ⟨hp, c3.1, c4, by omega⟩
          rw [if_pos c5, if_pos hm]
          simp [c, c1, c4]
          omega
        · have c5 : ¬ (p < S 1 ∧ sRd S t p = 1 ∧ i = S (7 + 4 * t) ∧ S (43 + 8 * p + i) < mm (S (42 + 8 * p))) := fun z => c4 z.2.2.1
          rw [if_neg c5, if_neg c1]
          have c6 : ¬ S (7 + 4 * t) = i := fun z => c4 z.symm
          simp [c6]
      · rw [if_neg c3]
        have c5 : ¬ (p < S 1 ∧ sRd S t p = 1 ∧ i = S (7 + 4 * t) ∧ S (43 + 8 * p + i) < mm (S (42 + 8 * p))) := by
          intro z
          have : 0 < mm (S (42 + 8 * p)) := by omega
          exact c3 ⟨z.2.1, mm_pos.mp this⟩
        rw [if_neg c5]
        simp [c1]
  · have : (br S p t).testBit i = false := by
      unfold br
      split
      · rw [Nat.testBit_two_pow]
        have : ¬ S (7 + 4 * t) = i := by omega
        simp [this]
      · simp
    simp [c, this]
theorem br_lt (h : Ok S) {p t : Nat} (ht : t < 9) : br S p t < 64 := by
  have hw := (h.2.2.2.2.1 t ht).2.2.1
  have key : ∀ w, w < 6 → 2 ^ w < 64 := by decide
  unfold br
  split
  · exact key _ hw
  · decide
theorem hwN_lt (h : Ok S) {p i : Nat} : ∀ n, n ≤ 9 → hwN S p i n < 64
  | 0, _ => sW_lt S p
  | n + 1, hn => by
    have ih := hwN_lt h (p := p) (i := i) n (by omega)
    show hst S p i n (hwN S p i n) < 64
    unfold hst
    split
    · exact (or6 _ ih _ (br_lt h (by omega))).1
    · exact ih
theorem c_makes {X' : Nat → VS} (h : Ok S) (x0 : X' 0 = cv S) {p i : Nat} (hp : p < 5) (hi : i < 512) (hs : i &&& sentN S = 0) (h9 : ∀ j, j < 9 → X' 3 9 j = nI (if j < S 0 ∧ S (8 + 4 * j) = 0 then br S p j else 0)) : fX1_makesWhole X' (nI p) (nI i) = some (nI (if hwN S p i (S 0) = 63 then 1 else 0)) := by
  have h0 := h.1
  have e5 : cv S 0 0 = nI (S 0) := rfl
  rw [fX1_makesWhole, x0, cv_wordsOf h hp, clT]
  refine lp_for (S 0) (fun t (a : Nat) => (nI i, nI a, nI t)) (hst S p i) (sW S p) _ ?_ ?_ 5000 (by omega)
  · intro k
    have g : nI (S 0) ≤ nI (S 0) := (nle (by omega) (by omega)).mpr (Nat.le_refl _)
    have hl := hwN_lt h (p := p) (i := i) (S 0) h0
    show fX1_makesWhole_12 X' k (nI i, nI (hwN S p i (S 0)), nI (S 0)) = _
    generalize hwN S p i (S 0) = a at hl
    have i63 : (nI a = (63 : Int32)) ↔ a = 63 := neq (b := 63) (by omega) (by decide)
    by_cases c : a = 63
    · have c' := i63.mpr c
      simp only [fX1_makesWhole_12, x0, e5, g, if_true, c']
      rw [if_pos c]; rfl
    · have c' : ¬ nI a = (63 : Int32) := fun q => c (i63.mp q)
      simp only [fX1_makesWhole_12, x0, e5, g, if_true, c', if_false]
      rw [if_neg c]; rfl
  · intro k t ht
    generalize itr (hst S p i) t (sW S p) = a
    have g : ¬ nI (S 0) ≤ nI t := fun q => by have := (nle (by omega) (by omega)).mp q; omega
    have hb := shrB (m := i) (t := t) (by omega) (by omega)
    unfold hst
    rcases (show i / 2 ^ t % 2 = 0 ∨ i / 2 ^ t % 2 = 1 by omega) with c | c
    · rw [c] at hb
      have z : ¬ nI 0 = (1 : Int32) := by decide
      rw [if_neg (by omega)]
      simp only [fX1_makesWhole_12, fX1_makesWhole_44, x0, e5, g, if_false, hb, z, bnT, nI_1]
    · rw [c] at hb
      have z : nI 1 = (1 : Int32) := rfl
      have s0 : S (8 + 4 * t) = 0 := by
        have q := and_bit i (sentN S) t
        rw [hs, c, Nat.zero_div] at q
        have q2 : sentN S / 2 ^ t % 2 = S (8 + 4 * t) := bitsN_bit (f := fun t => S (8 + 4 * t)) (n := 9) (fun i hi => (h.2.2.2.2.1 i hi).2.2.2) (by omega)
        omega
      have e9 := h9 t (by omega)
      rw [if_pos ⟨ht, s0⟩] at e9
      have r9 : ∀ {β : Type} {K : Int32 → Option β}, rd 9 (X' 3 9) (nI t) K = K (nI (br S p t)) := by
        intro β K
        rw [rdN (show t < 9 by omega) (by decide), e9]
      rw [if_pos c]
      simp only [fX1_makesWhole_12, fX1_makesWhole_44, x0, e5, g, if_false, hb, z, if_true, r9, bnT, fa_or, nI_1]
theorem r_wholeBy {Y' : VS} (h : Ok S) (y0 : Y 0 = lN8 S) (hM : ∃ g, (∀ j, 81 ≤ j → g j = 0) ∧ Y' = up Y 1 g) {p i : Nat} (hp : p < S 1) (hi : i < 512) : ∃ T, Ok T ∧ fX2_isWholeBy Y' (nI i) (nI p) = some (nI (if hwN S p i (S 0) = 63 then 1 else 0), up Y 1 (lN8 T)) := by
  have h0 := h.1
  have h1 := h.2.1
  have e6 : ∀ {β : Type} {K : Int32 → Option β}, rd 81 (lN8 S) 0 K = K (nI (S 0)) := rdM (a := 0) (by decide)
  obtain ⟨b1, b2, b3⟩ := cpY h y0 hM
  rw [fX2_isWholeBy, b1, clT, bnT, b2]
  refine lp_one (F := fX2_isWholeBy_13) (S 0) (fun t y => ∃ T, Ok T ∧ (∀ j, nW j → T j = S j) ∧ sW T p = hwN S p i t ∧ y = (up Y 1 (lN8 T), nI i, nI p, nI t)) (fun o => ∃ T, Ok T ∧ o = some (nI (if hwN S p i (S 0) = 63 then 1 else 0), up Y 1 (lN8 T))) ?_ ?_ _ ⟨S, h, fun _ _ => rfl, rfl, rfl⟩ 5000 (by omega)
  · rintro k y ⟨T, hT, hs, hw, rfl⟩
    have g : nI (S 0) ≤ nI (S 0) := (nle (by omega) (by omega)).mpr (Nat.le_refl _)
    refine ⟨T, hT, ?_⟩
    have hl := sW_lt T p
    rw [← hw]
    have i63 : (nI (sW T p) = (63 : Int32)) ↔ sW T p = 63 := neq (b := 63) (by omega) (by decide)
    by_cases c : sW T p = 63
    · have c' := i63.mpr c
      simp only [fX2_isWholeBy_13, un10, y0, e6, g, if_true, up_s, r_wordsOf hT (show p < 5 by omega), clT, c']
      rw [if_pos c]; rfl
    · have c' : ¬ nI (sW T p) = (63 : Int32) := fun q => c (i63.mp q)
      simp only [fX2_isWholeBy_13, un10, y0, e6, g, if_true, up_s, r_wordsOf hT (show p < 5 by omega), clT, c', if_false]
      rw [if_neg c]; rfl
  · rintro k t y ht ⟨T, hT, hs, hw, rfl⟩
    have g : ¬ nI (S 0) ≤ nI t := fun q => by have := (nle (by omega) (by omega)).mp q; omega
    have hh := hasN (m := i) (t := t) (by omega) (by omega)
    right
    rcases (show i / 2 ^ t % 2 = 0 ∨ i / 2 ^ t % 2 = 1 by omega) with c | c
    · rw [c] at hh
      have z : nI 0 = (0 : Int32) := rfl
      refine ⟨(up Y 1 (lN8 T), nI i, nI p, nI (t + 1)), ?_, T, hT, hs, ?_, rfl⟩
      · simp only [fX2_isWholeBy_13, fX2_isWholeBy_40, un10, y0, e6, g, if_false, hh, clT, z, if_true, bnT, nI_1]
      · show sW T p = hst S p i t (hwN S p i t)
        unfold hst
        rw [if_neg (by omega)]; exact hw
    · rw [c] at hh
      have z : ¬ nI 1 = (0 : Int32) := by decide
      have ht9 : t < 9 := by omega
      have rb : fX2_bursts (lN8 T) (nI t) (-1) = some (lN8 (sBs lkE t T)) := r_bursts hT ht9 (lkA rfl)
      obtain ⟨hB, hB2⟩ := sBs_ok (lk := lkE) hT ht9
      refine ⟨(up Y 1 (lN8 (sBs lkE t T)), nI i, nI p, nI (t + 1)), ?_, sBs lkE t T, hB, fun j hj => (hB2 j hj).trans (hs j hj), ?_, rfl⟩
      · simp only [fX2_isWholeBy_13, fX2_isWholeBy_40, un10, y0, e6, g, if_false, hh, clT, z, up_s, rb, bnT, up_up, nI_1]
      · have eb : br T p t = br S p t := by
          unfold br
          rw [sRd_same hs ht9 (show p < 5 by omega), hs (42 + 8 * p) (by unfold nW; omega), hs (7 + 4 * t) (by unfold nW; omega)]
        rw [sW_sBs hT ht9 (by rw [hs 1 (by unfold nW; omega)]; exact hp), hw, eb]
        show _ = hst S p i t (hwN S p i t)
        unfold hst
        rw [if_pos c]
theorem c_fill (f : Nat → Int32) : ∃ g, fJ7_fill_53178 f 0 = some g ∧ ∀ j, j < 9 → g j = 0 := by
  rw [fJ7_fill_53178]
  refine lp_one (F := fJ7_fill_53178_5) 9 (fun i z => ∃ g, z = (g, 0, nI i, 9) ∧ ∀ j, j < i → g j = 0) (fun o => ∃ g, o = some g ∧ ∀ j, j < 9 → g j = 0) ?_ ?_ _ ⟨f, rfl, fun j hj => by omega⟩ 5000 (by omega)
  · rintro k z ⟨g, rfl, hg⟩
    have q : (9 : Int32) ≤ nI 9 := by decide
    exact ⟨g, by simp only [fJ7_fill_53178_5, q, if_true], hg⟩
  · rintro k i z hi ⟨g, rfl, hg⟩
    have q : ¬ (9 : Int32) ≤ nI i := fun q => by have := (nle (a := 9) (by decide) (by omega)).mp q; omega
    have kk : ∀ {β : Type} {K : Option β}, ck 9 (nI i) K = K := ckN hi (by decide)
    have t1 : (nI i).toNatClampNeg = i := ncl (by omega)
    refine Or.inr ⟨(upd g i 0, 0, nI (i + 1), 9), ?_, upd g i 0, rfl, fun j hj => ?_⟩
    · simp only [fJ7_fill_53178_5, q, if_false, kk, t1, bnT, nI_1]
    · unfold upd
      by_cases e : j = i
      · rw [if_pos e]
      · rw [if_neg e]; exact hg j (by omega)
theorem VX_9 {X' : Nat → VS} (h : VX X X') (g : Nat → Int32) : VX X (up X' 3 (up (X' 3) 9 g)) := by
  obtain ⟨v0, ⟨T, y, v1⟩, v2, v3⟩ := h
  refine ⟨by rw [up_n _ _ (by decide), v0], ⟨T, y, by rw [up_n _ _ (by decide), v1]⟩, by rw [up_n _ _ (by decide), v2], fun k h3 h9 => ?_⟩
  rw [up_s, up_n _ _ (by omega), v3 k h3 h9]
theorem c_brought (h : Ok S) (x0 : X 0 = cv S) (x1 : ∃ T y, X 1 = cw T y) {p : Nat} (hp : p < S 1) : ∃ X', fX1_noteWhatIsBrought X (nI p) = some X' ∧ VX X X' ∧ ∀ j, j < 9 → X' 3 9 j = nI (if j < S 0 ∧ S (8 + 4 * j) = 0 then br S p j else 0) := by
  have h0 := h.1
  have h1 := h.2.1
  have hp5 : p < 5 := by omega
  have e5 : cv S 0 0 = nI (S 0) := rfl
  obtain ⟨g, q1, q2⟩ := c_fill (X 3 9)
  have hV0 : VX X X := ⟨rfl, x1, rfl, fun _ _ _ => rfl⟩
  rw [fX1_noteWhatIsBrought, q1, clT, bnT]
  refine lp_one (F := fX1_noteWhatIsBrought_10) (S 0) (fun i z => ∃ X', z = (X', nI p, nI i) ∧ VX X X' ∧ ∀ j, j < 9 → X' 3 9 j = nI (if j < i ∧ S (8 + 4 * j) = 0 then br S p j else 0)) (fun o => ∃ X', o = some X' ∧ VX X X' ∧ ∀ j, j < 9 → X' 3 9 j = nI (if j < S 0 ∧ S (8 + 4 * j) = 0 then br S p j else 0)) ?_ ?_ _ ⟨_, rfl, VX_9 hV0 g, fun j hj => ?_⟩ 5000 (by omega)
  · rintro k z ⟨X', rfl, hV, hj⟩
    have g : nI (S 0) ≤ nI (S 0) := (nle (by omega) (by omega)).mpr (Nat.le_refl _)
    have e0 : X' 0 = cv S := by rw [hV.1, x0]
    exact ⟨X', by simp only [fX1_noteWhatIsBrought_10, e0, e5, g, if_true], hV, hj⟩
  · rintro k i z hi ⟨X', rfl, hV, hj⟩
    have hi9 : i < 9 := by omega
    have gi : ¬ nI (S 0) ≤ nI i := fun q => by have := (nle (by omega) (by omega)).mp q; omega
    have e0 : X' 0 = cv S := by rw [hV.1, x0]
    have hl := sReaders_lt h i
    have hb : (nI (sReaders S i) >>> (nI p &&& 31)) &&& (1 : Int32) = nI (sRd S i p) := by
      rw [shrB (by omega) (by omega), show sReaders S i / 2 ^ p % 2 = sRd S i p from bitsN_bit (fun j _ => sRd_le S i j) hp]
    have hrl := sRd_le S i p
    have hs := (h.2.2.2.2.1 i hi9).2.2.2
    have hw := (h.2.2.2.2.1 i hi9).2.2.1
    have hm := (h.2.2.2.2.2.2.1 p hp5).2.1
    have r7 : ∀ {β : Type} {K : Int32 → Option β}, rd 5 (cv S 7) (nI p) K = K (nI (S (42 + 8 * p))) := rdV7 hp5
    have r3 : ∀ {β : Type} {K : Int32 → Option β}, rd 9 (cv S 3) (nI i) K = K (nI (S (7 + 4 * i))) := rdV3 hi9
    have k9 : ∀ {β : Type} {K : Option β}, ck 9 (nI i) K = K := ckN hi9 (by decide)
    have t1 : (nI i).toNatClampNeg = i := ncl (by omega)
    have hsh : (1 : Int32) <<< (nI (S (7 + 4 * i)) &&& 31) = nI (2 ^ S (7 + 4 * i)) := shl1 _ (by omega)
    have z10 : ¬ nI 0 = (1 : Int32) := by decide
    have n01 : ¬ (0 : Int32) = 1 := by decide
    have z11 : nI 1 = (1 : Int32) := rfl
    have z01 : ¬ nI 1 = (0 : Int32) := by decide
    right
    -- nothing brought
    have skip : (S (8 + 4 * i) = 0 → br S p i = 0) → fX1_noteWhatIsBrought_10 k (X', nI p, nI i) = k (X', nI p, nI (i + 1)) → ∃ y, fX1_noteWhatIsBrought_10 k (X', nI p, nI i) = k y ∧ ∃ X', y = (X', nI p, nI (i + 1)) ∧ VX X X' ∧ ∀ j, j < 9 → X' 3 9 j = nI (if j < i + 1 ∧ S (8 + 4 * j) = 0 then br S p j else 0) := by
      intro hz hk
      refine ⟨_, hk, X', rfl, hV, fun j hj9 => ?_⟩
      rw [hj j hj9]
      by_cases c : j = i
      · subst c
        rw [if_neg (by omega)]
        by_cases d : S (8 + 4 * j) = 0
        · rw [if_pos ⟨by omega, d⟩, hz d]
        · rw [if_neg (fun z => d z.2)]
      · by_cases d : j < i ∧ S (8 + 4 * j) = 0
        · rw [if_pos d, if_pos ⟨by omega, d.2⟩]
        · rw [if_neg d, if_neg (fun z => d ⟨by omega, z.2⟩)]
    rcases (show S (8 + 4 * i) = 0 ∨ S (8 + 4 * i) = 1 by omega) with s | s
    · rcases (show sRd S i p = 0 ∨ sRd S i p = 1 by omega) with c | c
      · refine skip (fun _ => if_neg (by omega)) ?_
        rw [c] at hb
        simp only [fX1_noteWhatIsBrought_10, fX1_noteWhatIsBrought_42, fX1_noteWhatIsBrought_87, e0, e5, gi, if_false, cv_readersOf h hi9, clT, hb, n01, cv_isSent h hi9, s, z00, if_true, bnT, nI_1]
      · rw [c] at hb
        by_cases d : 0 < S (42 + 8 * p)
        · have d' : ¬ nI (S (42 + 8 * p)) ≤ (0 : Int32) := fun q => by have := (nle (b := 0) (by omega) (by decide)).mp q; omega
          have hbr : br S p i = 2 ^ S (7 + 4 * i) := if_pos ⟨c, d⟩
          refine ⟨(up X' 3 (up (X' 3) 9 (upd (X' 3 9) i (nI (2 ^ S (7 + 4 * i))))), nI p, nI (i + 1)), ?_, _, rfl, VX_9 hV _, fun j hj9 => ?_⟩
          · simp only [fX1_noteWhatIsBrought_10, fX1_noteWhatIsBrought_42, fX1_noteWhatIsBrought_87, e0, e5, gi, if_false, cv_readersOf h hi9, clT, hb, z11, cv_isSent h hi9, s, z00, if_true, ne10, r7, d', r3, k9, t1, hsh, bnT, nI_1]
          · rw [up_s, up_s]
            unfold upd
            by_cases e : j = i
            · rw [if_pos e, e, if_pos ⟨by omega, s⟩, hbr]
            · rw [if_neg e, hj j hj9]
              by_cases d : j < i ∧ S (8 + 4 * j) = 0
              · rw [if_pos d, if_pos ⟨by omega, d.2⟩]
              · rw [if_neg d, if_neg (fun z => d ⟨by omega, z.2⟩)]
        · have d' : nI (S (42 + 8 * p)) ≤ (0 : Int32) := (nle (b := 0) (by omega) (by decide)).mpr (by omega)
          refine skip (fun _ => if_neg (fun z => d z.2)) ?_
          simp only [fX1_noteWhatIsBrought_10, fX1_noteWhatIsBrought_42, fX1_noteWhatIsBrought_87, e0, e5, gi, if_false, cv_readersOf h hi9, clT, hb, z11, cv_isSent h hi9, s, z00, if_true, ne10, r7, d', bnT, nI_1]
    · refine skip (fun q => by omega) ?_
      rcases (show sRd S i p = 0 ∨ sRd S i p = 1 by omega) with c | c
      · rw [c] at hb
        simp only [fX1_noteWhatIsBrought_10, fX1_noteWhatIsBrought_42, fX1_noteWhatIsBrought_87, e0, e5, gi, if_false, cv_readersOf h hi9, clT, hb, z10, cv_isSent h hi9, s, z01, bnT, nI_1]
      · rw [c] at hb
        simp only [fX1_noteWhatIsBrought_10, fX1_noteWhatIsBrought_42, fX1_noteWhatIsBrought_87, e0, e5, gi, if_false, cv_readersOf h hi9, clT, hb, z11, cv_isSent h hi9, s, ne10, if_true, bnT, nI_1]
  · rw [up_s, up_s, q2 j hj, if_neg (by omega)]; rfl
theorem not511 : ∀ a, a < 512 → nI 511 &&& (nI a ^^^ (-1 : Int32)) = nI (511 - a) := by decide +kernel
theorem and511 : ∀ i, i < 512 → i &&& 511 = i := by decide +kernel
theorem set_t {R i m : Nat} (hR : R ≤ 9) (hi : i < 2 ^ R) (hm : m < 2 ^ R) : nI i &&& (nI (2 ^ R - 1 - m) ^^^ (-1 : Int32)) = nI (i &&& m) := by
  have p9 := pw9 hR
  have e1 : nI i = nI i &&& nI 511 := by rw [fa_and, and511 i (by omega)]
  have pk : 0 < 2 ^ (9 - R) := Nat.two_pow_pos _
  have e2 : 511 - (2 ^ R - 1 - m) = 2 ^ R * (2 ^ (9 - R) - 1) + m := by
    have e3 : 2 ^ R * 2 ^ (9 - R) = 512 := by rw [← Nat.pow_add, show R + (9 - R) = 9 by omega]
    rw [Nat.mul_sub, Nat.mul_one, e3]
    omega
  rw [e1, Int32.and_assoc, not511 _ (by omega), fa_and, e2]
  refine congrArg nI (Nat.eq_of_testBit_eq fun j => ?_)
  rw [Nat.testBit_and, Nat.testBit_and, Nat.testBit_two_pow_mul_add _ hm]
  by_cases c : j < R
  · rw [if_pos c]
  · have : i.testBit j = false := Nat.testBit_lt_two_pow (Nat.lt_of_lt_of_le hi (Nat.pow_le_pow_right (by decide) (by omega)))
    rw [this]; simp
theorem sCosts_lt (h : Ok S) (bit : Nat → Nat) : sCosts S bit ≤ 189 := by
  have h0 := h.1
  have : sCosts S bit ≤ S 0 * 21 := sumN_le (fun i hi => by
    split
    · exact sCost_le _ (h.2.2.2.2.1 i (by omega)).1
    · omega)
  omega
theorem p_fewest (hR : Rel X Y) (a b : Int32) : Ag (fX1_fewest X a b) (fX2_fewest Y a b) := by
  have hR' := hR
  obtain ⟨S, P, l, r, f, hp, nl, nr, hh⟩ := hR'
  have o1 := hh.1.1
  have x0 := hh.2.1.1
  have y0 := hh.2.2.1
  have h0 := o1.1
  have h1 := o1.2.1
  rw [fX1_fewest, fX2_fewest, x0]
  rcases rdr (x := nI (S 3)) o1 y0 a with ⟨p, hpS, rfl, e1, e2⟩ | ⟨e1, e2⟩
  · have hp5 : p < 5 := by omega
    rw [show fX0_hasReader (cv S) (nI p) = some 1 from e1, e2, clT, clT, if_neg ne10, if_neg ne10]
    rcases one2 b with ⟨hb, e3, e4⟩ | ⟨b0, b1, e3, e4⟩
    · rw [e3, e4, clT, clT, if_neg ne10, if_neg ne10]
      obtain ⟨X', q1, hV, h9⟩ := c_brought o1 x0 hh.2.1.2.1 hpS
      have hRV := relV hR hV
      have z0 : X' 0 = cv S := by rw [hV.1, x0]
      rw [q1, clT]
      have hsl := sentN_lt o1
      have hs5 := sentN_512 o1
      have p9 := pw9 h0
      have e5 : cv S 0 0 = nI (S 0) := rfl
      have e44 : cv S 4 0 = nI (sentN S) := rfl
      have e6 : ∀ {β : Type} {K : Int32 → Option β}, rd 81 (lN8 S) 0 K = K (nI (S 0)) := rdM (a := 0) (by decide)
      have hshR : (1 : Int32) <<< (nI (S 0) &&& 31) = nI (2 ^ S 0) := shl1 _ (by omega)
      have gN : nI (2 ^ S 0) ≤ nI (2 ^ S 0) := (nle (by omega) (by omega)).mpr (Nat.le_refl _)
      have z01 : ¬ nI 1 = (0 : Int32) := by decide
      -- facts at a set
      have at_ : ∀ i, i < 2 ^ S 0 → (¬ nI (2 ^ S 0) ≤ nI i) ∧ fJ6_bitCount_0f7a4 (nI i) = some (nI (pop i)) ∧ fX2_bits (nI i) = some (nI (pop i)) ∧ nI i &&& nI (sentN S) = nI (i &&& sentN S) ∧ i &&& sentN S < 512 ∧ nI i &&& (nI (2 ^ S 0 - 1 - sentN S) ^^^ (-1 : Int32)) = nI (i &&& sentN S) := by
        intro i hi
        have ha : i &&& sentN S ≤ sentN S := Nat.and_le_right
        exact ⟨fun q => by have := (nle (by omega) (by omega)).mp q; omega, q_bitCount _ (by omega), q_bits _ (by omega), fa_and _ _, by omega, set_t h0 hi hsl⟩
      have cst : ∀ i, i < 2 ^ S 0 → fX1_costOfChosen X' (nI i) = some (nI (sCosts S (fun t => i / 2 ^ t % 2))) ∧ ∀ g, fX2_costOf (up Y 1 g) (nI i) = some (nI (sCosts S (fun t => i / 2 ^ t % 2))) := by
        intro i hi
        have hbit : ∀ t, t < S 0 → (nI i >>> (nI t &&& 31)) &&& (1 : Int32) = nI ((fun t => i / 2 ^ t % 2) t) ∧ (fun t => i / 2 ^ t % 2) t ≤ 1 := fun t ht => ⟨shrB (by omega) (by omega), by show i / 2 ^ t % 2 ≤ 1; omega⟩
        exact ⟨c_costs o1 z0 hbit, fun g => r_costs o1 (by rw [un10, y0]) hbit⟩
      rcases hb with rfl | rfl
      · rw [if_pos rfl, fX1_fewestRockets]
        have key : ∃ r g, (∀ j, 81 ≤ j → g j = 0) ∧ lp (fX1_fewestRockets_9 X') 5000 (nI p, -9, 10, 0) = some r ∧ lp fX2_fewest_40 5000 (Y, nI p, 0, -9, 1000000000, 0) = some (r, up Y 1 g) := by
          refine lp_gen (2 ^ S 0) (fun i x y => ∃ u v c g, (∀ j, 81 ≤ j → g j = 0) ∧ x = (nI p, u, v, nI i) ∧ y = (up Y 1 g, nI p, 0, u, c, nI i) ∧ (u = -9 ∧ v = 10 ∨ ∃ s, s < 2 ^ S 0 ∧ u = nI s ∧ v = nI (pop s))) (fun o1 o2 => ∃ r g, (∀ j, 81 ≤ j → g j = 0) ∧ o1 = some r ∧ o2 = some (r, up Y 1 g)) ?_ ?_ _ _ ⟨-9, 10, 1000000000, Y 1, hh.2.2.2.1, rfl, by rw [up_self]; rfl, Or.inl ⟨rfl, rfl⟩⟩ 5000 5000 (by omega) (by omega)
          · rintro k j _ _ ⟨u, v, c, g, hg, rfl, rfl, huv⟩
            refine ⟨u, g, hg, ?_, ?_⟩
            · simp only [fX1_fewestRockets_9, z0, e5, hshR, gN, if_true]
            · simp only [fX2_fewest_40, fX2_fewest_135, un10, y0, e6, hshR, gN, if_true]
              split <;> rfl
          · rintro k j i _ _ hi ⟨u, v, c, g, hg, rfl, rfl, huv⟩
            obtain ⟨gi, bc, bt, ac, al, ar⟩ := at_ i hi
            have box := r_boxed (Y := up Y 1 g) o1 (by rw [un10, y0])
            have hpi := pop_le i
            right
            by_cases s0 : i &&& sentN S = 0
            · have s1 : nI (i &&& sentN S) = (0 : Int32) := by rw [s0]; rfl
              obtain ⟨T, hT, wb⟩ := r_wholeBy (Y' := up Y 1 g) o1 y0 ⟨g, hg, rfl⟩ hpS (show i < 512 by omega)
              have mk := c_makes o1 z0 hp5 (show i < 512 by omega) s0 h9
              obtain ⟨cc, cr⟩ := cst i hi
              have cr' := cr (lN8 T)
              -- the cost goes on somehow
              have c97 : ∀ u' : Int32, ∃ c', fX2_fewest_97 j (up Y 1 (lN8 T), nI p, 0, u', c, nI i) = j (up Y 1 (lN8 T), nI p, 0, u', c', nI (i + 1)) := by
                intro u'
                by_cases z : c ≤ nI (sCosts S (fun t => i / 2 ^ t % 2))
                · exact ⟨c, by simp only [fX2_fewest_97, fX2_fewest_119, fX2_fewest_121, cr', clT, z, if_true, bnT, nI_1]⟩
                · exact ⟨nI (sCosts S (fun t => i / 2 ^ t % 2)), by simp only [fX2_fewest_97, fX2_fewest_119, fX2_fewest_121, cr', clT, z, if_false, bnT, nI_1]⟩
              have c94 : fX2_fewest_94 j (up Y 1 (lN8 T), nI p, 0, c, nI i) = fX2_fewest_97 j (up Y 1 (lN8 T), nI p, 0, nI i, c, nI i) := by simp only [fX2_fewest_94]
              by_cases w : hwN S p i (S 0) = 63
              · rw [if_pos w] at wb mk
                rcases huv with ⟨rfl, rfl⟩ | ⟨s, hs, rfl, rfl⟩
                · have n10 : ¬ (10 : Int32) ≤ nI (pop i) := fun q => by have := (nle (a := 10) (by decide) (by omega)).mp q; omega
                  have n9 : (-9 : Int32) < 0 := by decide
                  obtain ⟨c', hc'⟩ := c97 (nI i)
                  refine ⟨(nI p, nI i, nI (pop i), nI (i + 1)), (up Y 1 (lN8 T), nI p, 0, nI i, c', nI (i + 1)), ?_, ?_, _, _, c', _, lN8_z hT, rfl, rfl, Or.inr ⟨i, hi, rfl, rfl⟩⟩
                  · simp only [fX1_fewestRockets_9, fX1_fewestRockets_37, fX1_fewestRockets_76, z0, e5, e44, hshR, gi, if_false, bc, clT, n10, ne10, ac, s1, if_true, mk, z01, bnT, nI_1]
                  · rw [← hc', ← c94]
                    simp only [fX2_fewest_40, un10, y0, e6, hshR, gi, if_false, box, clT, ar, s1, if_true, wb, z01, n9]
                · obtain ⟨gs, bcs, bts, -⟩ := at_ s hs
                  have n9 : ¬ nI s < (0 : Int32) := nneg (by omega)
                  have hps := pop_le s
                  by_cases z : pop s ≤ pop i
                  · have z' : nI (pop s) ≤ nI (pop i) := (nle (by omega) (by omega)).mpr z
                    obtain ⟨c', hc'⟩ := c97 (nI s)
                    refine ⟨(nI p, nI s, nI (pop s), nI (i + 1)), (up Y 1 (lN8 T), nI p, 0, nI s, c', nI (i + 1)), ?_, ?_, _, _, c', _, lN8_z hT, rfl, rfl, Or.inr ⟨s, hs, rfl, rfl⟩⟩
                    · simp only [fX1_fewestRockets_9, fX1_fewestRockets_37, fX1_fewestRockets_76, z0, e5, hshR, gi, if_false, bc, clT, z', if_true, bnT, nI_1]
                    · rw [← hc']
                      simp only [fX2_fewest_40, un10, y0, e6, hshR, gi, if_false, box, clT, ar, s1, if_true, wb, z01, n9, bt, bts, z']
                  · have z' : ¬ nI (pop s) ≤ nI (pop i) := fun q => z ((nle (by omega) (by omega)).mp q)
                    obtain ⟨c', hc'⟩ := c97 (nI i)
                    refine ⟨(nI p, nI i, nI (pop i), nI (i + 1)), (up Y 1 (lN8 T), nI p, 0, nI i, c', nI (i + 1)), ?_, ?_, _, _, c', _, lN8_z hT, rfl, rfl, Or.inr ⟨i, hi, rfl, rfl⟩⟩
                    · simp only [fX1_fewestRockets_9, fX1_fewestRockets_37, fX1_fewestRockets_76, z0, e5, e44, hshR, gi, if_false, bc, clT, z', ne10, ac, s1, if_true, mk, z01, bnT, nI_1]
                    · rw [← hc', ← c94]
                      simp only [fX2_fewest_40, un10, y0, e6, hshR, gi, if_false, box, clT, ar, s1, if_true, wb, z01, n9, bt, bts, z']
              · rw [if_neg w] at wb mk
                refine ⟨(nI p, u, v, nI (i + 1)), (up Y 1 (lN8 T), nI p, 0, u, c, nI (i + 1)), ?_, ?_, u, v, c, _, lN8_z hT, rfl, rfl, huv⟩
                · simp only [fX1_fewestRockets_9, fX1_fewestRockets_37, fX1_fewestRockets_76, z0, e5, e44, hshR, gi, if_false, bc, clT, ne10, ac, s1, if_true, mk, z00, bnT, nI_1]
                  split <;> rfl
                · simp only [fX2_fewest_40, fX2_fewest_121, un10, y0, e6, hshR, gi, if_false, box, clT, ar, s1, if_true, wb, z00, bnT, nI_1]
            · have s1 : ¬ nI (i &&& sentN S) = (0 : Int32) := fun q => s0 ((neq (b := 0) (by omega) (by decide)).mp q)
              refine ⟨(nI p, u, v, nI (i + 1)), (up Y 1 g, nI p, 0, u, c, nI (i + 1)), ?_, ?_, u, v, c, g, hg, rfl, rfl, huv⟩
              · simp only [fX1_fewestRockets_9, fX1_fewestRockets_37, fX1_fewestRockets_76, z0, e5, e44, hshR, gi, if_false, bc, clT, ne10, ac, s1, if_true, bnT, nI_1]
                split <;> rfl
              · simp only [fX2_fewest_40, fX2_fewest_121, un10, y0, e6, hshR, gi, if_false, box, clT, ar, s1, bnT, nI_1]
        obtain ⟨r, g, hg, k1, k2⟩ := key
        rw [k1, k2, clT]
        exact ⟨r, X', up Y 1 g, rfl, rfl, relY1 hRV hg⟩
      · rw [if_neg ne10, fX1_leastCost]
        have key : ∃ r g, (∀ j, 81 ≤ j → g j = 0) ∧ lp (fX1_leastCost_5 X') 5000 (nI p, -9, 0) = some r ∧ lp fX2_fewest_40 5000 (Y, nI p, 1, -9, 1000000000, 0) = some (r, up Y 1 g) := by
          refine lp_gen (2 ^ S 0) (fun i x y => ∃ v u c g, (∀ j, 81 ≤ j → g j = 0) ∧ x = (nI p, v, nI i) ∧ y = (up Y 1 g, nI p, 1, u, c, nI i) ∧ (u = -9 ∧ v = -9 ∧ c = nI 1000000000 ∨ ∃ s m, s < 2 ^ S 0 ∧ m ≤ 189 ∧ u = nI s ∧ v = nI m ∧ c = nI m)) (fun o1 o2 => ∃ r g, (∀ j, 81 ≤ j → g j = 0) ∧ o1 = some r ∧ o2 = some (r, up Y 1 g)) ?_ ?_ _ _ ⟨-9, -9, nI 1000000000, Y 1, hh.2.2.2.1, rfl, by rw [up_self]; rfl, Or.inl ⟨rfl, rfl, rfl⟩⟩ 5000 5000 (by omega) (by omega)
          · rintro k j _ _ ⟨v, u, c, g, hg, rfl, rfl, huv⟩
            refine ⟨v, g, hg, ?_, ?_⟩
            · simp only [fX1_leastCost_5, z0, e5, hshR, gN, if_true]
            · rcases huv with ⟨rfl, rfl, rfl⟩ | ⟨s, m, hs, hm, rfl, rfl, rfl⟩
              · have n9 : (-9 : Int32) < 0 := by decide
                simp only [fX2_fewest_40, fX2_fewest_135, un10, y0, e6, hshR, gN, if_true, n9]
              · have n9 : ¬ nI s < (0 : Int32) := nneg (by omega)
                simp only [fX2_fewest_40, fX2_fewest_135, un10, y0, e6, hshR, gN, if_true, n9, if_false, ne10]
          · rintro k j i _ _ hi ⟨v, u, c, g, hg, rfl, rfl, huv⟩
            obtain ⟨gi, bc, bt, ac, al, ar⟩ := at_ i hi
            have box := r_boxed (Y := up Y 1 g) o1 (by rw [un10, y0])
            have hpi := pop_le i
            right
            by_cases s0 : i &&& sentN S = 0
            · have s1 : nI (i &&& sentN S) = (0 : Int32) := by rw [s0]; rfl
              obtain ⟨T, hT, wb⟩ := r_wholeBy (Y' := up Y 1 g) o1 y0 ⟨g, hg, rfl⟩ hpS (show i < 512 by omega)
              have mk := c_makes o1 z0 hp5 (show i < 512 by omega) s0 h9
              obtain ⟨cc, cr⟩ := cst i hi
              have cr' := cr (lN8 T)
              have hK := sCosts_lt o1 (fun t => i / 2 ^ t % 2)
              generalize sCosts S (fun t => i / 2 ^ t % 2) = K at cc cr' hK
              have c97 : ∀ u' : Int32, fX2_fewest_97 j (up Y 1 (lN8 T), nI p, 1, u', c, nI i) = j (up Y 1 (lN8 T), nI p, 1, u', if c ≤ nI K then c else nI K, nI (i + 1)) := by
                intro u'
                by_cases z : c ≤ nI K
                · simp only [fX2_fewest_97, fX2_fewest_119, fX2_fewest_121, cr', clT, z, if_true, bnT, nI_1]
                · simp only [fX2_fewest_97, fX2_fewest_119, fX2_fewest_121, cr', clT, z, if_false, bnT, nI_1]
              have c94 : fX2_fewest_94 j (up Y 1 (lN8 T), nI p, 1, c, nI i) = fX2_fewest_97 j (up Y 1 (lN8 T), nI p, 1, nI i, c, nI i) := by simp only [fX2_fewest_94]
              by_cases w : hwN S p i (S 0) = 63
              · rw [if_pos w] at wb mk
                rcases huv with ⟨rfl, rfl, rfl⟩ | ⟨s, m, hs, hm, rfl, rfl, rfl⟩
                · have n9 : (-9 : Int32) < 0 := by decide
                  have zF : ¬ nI 1000000000 ≤ nI K := fun q => by have := (nle (by omega) (by omega)).mp q; omega
                  have hc := c97 (nI i)
                  rw [if_neg zF] at hc
                  refine ⟨(nI p, nI K, nI (i + 1)), (up Y 1 (lN8 T), nI p, 1, nI i, nI K, nI (i + 1)), ?_, ?_, _, _, _, _, lN8_z hT, rfl, rfl, Or.inr ⟨i, K, hi, hK, rfl, rfl, rfl⟩⟩
                  · simp only [fX1_leastCost_5, fX1_leastCost_58, fX1_leastCost_61, z0, e5, e44, hshR, gi, if_false, ac, s1, if_true, mk, clT, z01, cc, bnT, nI_1]
                  · rw [← hc, ← c94]
                    simp only [fX2_fewest_40, un10, y0, e6, hshR, gi, if_false, box, clT, ar, s1, if_true, wb, z01, n9]
                · obtain ⟨gs, bcs, bts, -⟩ := at_ s hs
                  have n9 : ¬ nI s < (0 : Int32) := nneg (by omega)
                  have m9 := not9 (n := m) (by omega)
                  -- which set is found
                  have hu : ∃ s', s' < 2 ^ S 0 ∧ fX2_fewest_40 j (up Y 1 g, nI p, 1, nI s, nI m, nI i) = fX2_fewest_97 j (up Y 1 (lN8 T), nI p, 1, nI s', nI m, nI i) := by
                    by_cases z : nI (pop s) ≤ nI (pop i)
                    · exact ⟨s, hs, by simp only [fX2_fewest_40, un10, y0, e6, hshR, gi, if_false, box, clT, ar, s1, if_true, wb, z01, n9, bt, bts, z]⟩
                    · exact ⟨i, hi, by rw [← c94]; simp only [fX2_fewest_40, un10, y0, e6, hshR, gi, if_false, box, clT, ar, s1, if_true, wb, z01, n9, bt, bts, z]⟩
                  obtain ⟨s', hs', hu⟩ := hu
                  rw [hu, c97]
                  by_cases z : nI m ≤ nI K
                  · rw [if_pos z]
                    refine ⟨(nI p, nI m, nI (i + 1)), _, ?_, rfl, _, _, _, _, lN8_z hT, rfl, rfl, Or.inr ⟨s', m, hs', hm, rfl, rfl, rfl⟩⟩
                    simp only [fX1_leastCost_5, fX1_leastCost_58, fX1_leastCost_61, z0, e5, e44, hshR, gi, if_false, ac, s1, if_true, mk, clT, z01, cc, m9, z, bnT, nI_1]
                  · rw [if_neg z]
                    refine ⟨(nI p, nI K, nI (i + 1)), _, ?_, rfl, _, _, _, _, lN8_z hT, rfl, rfl, Or.inr ⟨s', K, hs', hK, rfl, rfl, rfl⟩⟩
                    simp only [fX1_leastCost_5, fX1_leastCost_58, fX1_leastCost_61, z0, e5, e44, hshR, gi, if_false, ac, s1, if_true, mk, clT, z01, cc, m9, z, bnT, nI_1]
              · rw [if_neg w] at wb mk
                refine ⟨(nI p, v, nI (i + 1)), (up Y 1 (lN8 T), nI p, 1, u, c, nI (i + 1)), ?_, ?_, v, u, c, _, lN8_z hT, rfl, rfl, huv⟩
                · simp only [fX1_leastCost_5, fX1_leastCost_61, z0, e5, e44, hshR, gi, if_false, ac, s1, if_true, mk, clT, z00, bnT, nI_1]
                · simp only [fX2_fewest_40, fX2_fewest_121, un10, y0, e6, hshR, gi, if_false, box, clT, ar, s1, if_true, wb, z00, bnT, nI_1]
            · have s1 : ¬ nI (i &&& sentN S) = (0 : Int32) := fun q => s0 ((neq (b := 0) (by omega) (by decide)).mp q)
              refine ⟨(nI p, v, nI (i + 1)), (up Y 1 g, nI p, 1, u, c, nI (i + 1)), ?_, ?_, v, u, c, g, hg, rfl, rfl, huv⟩
              · simp only [fX1_leastCost_5, fX1_leastCost_61, z0, e5, e44, hshR, gi, if_false, ac, s1, bnT, nI_1]
              · simp only [fX2_fewest_40, fX2_fewest_121, un10, y0, e6, hshR, gi, if_false, box, clT, ar, s1, bnT, nI_1]
        obtain ⟨r, g, hg, k1, k2⟩ := key
        rw [k1, k2, clT]
        exact ⟨r, X', up Y 1 g, rfl, rfl, relY1 hRV hg⟩
    · rw [e3, e4, clT, clT, if_pos rfl, if_pos rfl, cl_e, cl_e]
      exact refAg hR (by simp)
  · rw [show fX0_hasReader (cv S) a = some 0 from e1, e2, clT, clT, if_pos rfl, if_pos rfl, cl_e, cl_e]
    exact refAg hR (by simp)
end
