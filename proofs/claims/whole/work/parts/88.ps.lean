/-! whatSaid -/
theorem bz1 {β : Type} {K : Option β} : bz (1 : Int32) K = K := if_pos (Or.inr rfl)
theorem bz0 {β : Type} {K : Option β} : bz (0 : Int32) K = K := if_pos (Or.inl rfl)
section
variable {X : Nat → VS} {Y : VS} {S : Nat → Nat} {lk : Nat → Nat}
theorem sB_8 {t p y : Nat} (ht : t < 9) (hp : p < 5) : sB t lk p (setN S (8 + 4 * t) y) = setN (sB t lk p S) (8 + 4 * t) y := by
  have e : ∀ i, i ≠ 8 + 4 * t → setN S (8 + 4 * t) y i = S i := fun i hi => setN_n S y hi
  unfold sB
  rw [sRd_s ht hp ht, e (7 + 4 * t) (by omega), e (43 + 8 * p + S (7 + 4 * t)) (by omega), e (42 + 8 * p) (by omega)]
  split
  · exact (setN_swap S (by omega) _ _)
  · rfl
theorem itr_8 {t y : Nat} (ht : t < 9) : ∀ n, n ≤ 5 → itr (sB t lk) n (setN S (8 + 4 * t) y) = setN (itr (sB t lk) n S) (8 + 4 * t) y
  | 0, _ => rfl
  | n + 1, h => by
    show sB t lk n (itr (sB t lk) n (setN S (8 + 4 * t) y)) = setN (sB t lk n (itr (sB t lk) n S)) (8 + 4 * t) y
    rw [itr_8 ht n (by omega), sB_8 ht (by omega)]
theorem sBs_8 {t y : Nat} (ht : t < 9) (h1 : S 1 ≤ 5) : sBs lk t (setN S (8 + 4 * t) y) = setN (sBs lk t S) (8 + 4 * t) y := by
  unfold sBs
  rw [setN_n S y (show (1 : Nat) ≠ 8 + 4 * t by omega)]
  exact itr_8 ht (S 1) h1
theorem sW_8 {t y p : Nat} (ht : t < 9) : sW (setN S (8 + 4 * t) y) p = sW S p := by
  unfold sW
  refine bitsN_cong (fun i hi => ?_)
  unfold sWb
  rw [setN_n S y (by omega)]
theorem r_isReader (h : Ok S) (y0 : Y 0 = lN8 S) {i : Nat} (hi : i < 100) : fX2_isReader Y (nI i) = some (if i < S 1 then 1 else 0) := by
  have h0 := h.2.1
  have ei : ∀ {β : Type} {K : Int32 → Option β}, rd 81 (lN8 S) 1 K = K (nI (S 1)) := rdM (a := 1) (by decide)
  have n0 : ¬ nI i < (0 : Int32) := nneg (by omega)
  rw [fX2_isReader, y0, ei, fX2_isIn, if_neg n0]
  by_cases c : i < S 1
  · have e : nI (S 1) - (1 : Int32) = nI (S 1 - 1) := pk_sub (b := 1) (by omega)
    rw [e, if_neg (by rw [nlt (by omega) (by omega)]; omega), if_pos c, clT, bz1]
  · rw [if_neg c]
    by_cases z : S 1 = 0
    · rw [z]
      have e : nI 0 - (1 : Int32) = -1 := by decide
      have q : (-1 : Int32) < nI i := neg_lt (by decide) (by omega)
      rw [e, if_pos q, clT, bz0]
    · have e : nI (S 1) - (1 : Int32) = nI (S 1 - 1) := pk_sub (b := 1) (by omega)
      rw [e, if_pos (by rw [nlt (by omega) (by omega)]; omega), clT, bz0]
theorem c_fit {B : Nat → Nat} {y : Int32} {r : Nat → Nat} {nr : Nat} (hB : Ok B) (h1 : X 1 = cw B y) (h7 : X 3 7 0 = nI nr) (h6 : X 3 6 = lN8 r) (hnr : nr ≤ 16) (hr : ∀ i, i < nr → r i ≤ 99) : ((∀ p, p < nr → p < B 1 ∧ pop (sW B p) = r p) ∧ fX1_rowFitsMind X = some 1) ∨ ((¬ ∀ p, p < nr → p < B 1 ∧ pop (sW B p) = r p) ∧ fX1_rowFitsMind X = some 0) := by
  have hb1 := hB.2.1
  have e5 : cw B y 5 0 = nI (B 1) := rfl
  rw [fX1_rowFitsMind, h7, h1, e5]
  by_cases c : nr ≤ B 1
  · rw [if_pos ((nle (by omega) (by omega)).mpr c)]
    have key := lp_inv (F := fX1_rowFitsMind_18 X) nr (fun i z => z = nI i ∧ ∀ p, p < i → p < B 1 ∧ pop (sW B p) = r p) (fun q => (q = 1 ∧ ∀ p, p < nr → p < B 1 ∧ pop (sW B p) = r p) ∨ (q = 0 ∧ ¬ ∀ p, p < nr → p < B 1 ∧ pop (sW B p) = r p)) ?_ ?_ (0 : Int32) ⟨rfl, fun j hj => by omega⟩ 5000 (by omega)
    · obtain ⟨q, h1, h2⟩ := key
      rcases h2 with ⟨rfl, h2⟩ | ⟨rfl, h2⟩
      · exact Or.inl ⟨h2, h1⟩
      · exact Or.inr ⟨h2, h1⟩
    · rintro k z ⟨rfl, hn⟩
      have g : nI nr ≤ nI nr := (nle (by omega) (by omega)).mpr (Nat.le_refl _)
      refine ⟨1, ?_, Or.inl ⟨rfl, hn⟩⟩
      rw [fX1_rowFitsMind_18, h7, if_pos g]
    · rintro k i z hi ⟨rfl, hn⟩
      have g : ¬ nI nr ≤ nI i := fun q => by have := (nle (by omega) (by omega)).mp q; omega
      have hl := sW_lt B i
      have rx : ∀ {β : Type} {K : Int32 → Option β}, rd 16 (lN8 r) (nI i) K = K (nI (r i)) := rdN (f := lN8 r) (show i < 16 by omega) (by decide)
      have hp9 := pop_le (sW B i)
      have hri := hr i hi
      rw [fX1_rowFitsMind_18, h7, if_neg g, h1, c_wordsOf hB (show i < 5 by omega), clT, q_bitCount _ (by omega), clT, h6, rx]
      by_cases e : pop (sW B i) = r i
      · refine Or.inr ⟨nI (i + 1), ?_, rfl, fun p hp => ?_⟩
        · rw [if_pos (by rw [e]), bnT, nI_1]
        · by_cases q : p = i
          · subst q; exact ⟨by omega, e⟩
          · exact hn p (by omega)
      · refine Or.inl ⟨0, ?_, Or.inr ⟨rfl, fun q => e (q i hi).2⟩⟩
        rw [if_neg (fun q => e ((neq (by omega) (by omega)).mp q))]
  · rw [if_neg (fun q => c ((nle (by omega) (by omega)).mp q))]
    refine Or.inr ⟨fun q => ?_, rfl⟩
    have := (q (B 1) (by omega)).1
    omega
theorem r_fit {B : Nat → Nat} {r : Nat → Nat} {nr : Nat} (hS : Ok S) (hB : Ok B) (y0 : Y 0 = lN8 S) (e1 : B 1 = S 1) (h1 : Y 1 = lN8 B) (h9 : Y 9 0 = nI nr) (h6 : Y 6 = lN8 r) (hnr : nr ≤ 16) (hr : ∀ i, i < nr → r i ≤ 99) : ((∀ p, p < nr → p < B 1 ∧ pop (sW B p) = r p) ∧ fX2_isSaidSo Y = some 1) ∨ ((¬ ∀ p, p < nr → p < B 1 ∧ pop (sW B p) = r p) ∧ fX2_isSaidSo Y = some 0) := by
  have hb1 := hB.2.1
  rw [fX2_isSaidSo]
  have key := lp_inv (F := fX2_isSaidSo_4 Y) nr (fun i z => (z = (1, nI i) ∧ ∀ p, p < i → p < B 1 ∧ pop (sW B p) = r p) ∨ (z = (0, nI i) ∧ ∃ p, p < i ∧ ¬ (p < B 1 ∧ pop (sW B p) = r p))) (fun q => (q = 1 ∧ ∀ p, p < nr → p < B 1 ∧ pop (sW B p) = r p) ∨ (q = 0 ∧ ¬ ∀ p, p < nr → p < B 1 ∧ pop (sW B p) = r p)) ?_ ?_ ((1 : Int32), (0 : Int32)) (Or.inl ⟨rfl, fun j hj => by omega⟩) 5000 (by omega)
  · obtain ⟨q, h1, h2⟩ := key
    rcases h2 with ⟨rfl, h2⟩ | ⟨rfl, h2⟩
    · exact Or.inl ⟨h2, h1⟩
    · exact Or.inr ⟨h2, h1⟩
  · have g : nI nr ≤ nI nr := (nle (by omega) (by omega)).mpr (Nat.le_refl _)
    have z1 : ((1 : Int32) = 0 ∨ (1 : Int32) = 1) := Or.inr rfl
    have z0 : ((0 : Int32) = 0 ∨ (0 : Int32) = 1) := Or.inl rfl
    rintro k z (⟨rfl, hn⟩ | ⟨rfl, p, hp, hn⟩)
    · refine ⟨1, ?_, Or.inl ⟨rfl, hn⟩⟩
      simp only [fX2_isSaidSo_4, h9, g, if_true, bz1]
    · refine ⟨0, ?_, Or.inr ⟨rfl, fun q => hn (q p hp)⟩⟩
      simp only [fX2_isSaidSo_4, h9, g, if_true, bz0]
  · have a11 : (1 : Int32) &&& 1 = 1 := by decide
    have a10 : (1 : Int32) &&& 0 = 0 := by decide
    have a01 : (0 : Int32) &&& 1 = 0 := by decide
    have a00 : (0 : Int32) &&& 0 = 0 := by decide
    intro k i z hi hz
    have g : ¬ nI nr ≤ nI i := fun q => by have := (nle (by omega) (by omega)).mp q; omega
    have hl := sW_lt B i
    have rx : ∀ {β : Type} {K : Int32 → Option β}, rd 16 (lN8 r) (nI i) K = K (nI (r i)) := rdN (f := lN8 r) (show i < 16 by omega) (by decide)
    have hp9 := pop_le (sW B i)
    have hri := hr i hi
    have hrd := r_isReader hS y0 (i := i) (by omega)
    right
    by_cases e : i < B 1 ∧ pop (sW B i) = r i
    · have en : nI (pop (sW B i)) = nI (r i) := by rw [e.2]
      have step : ∀ b : Int32, fX2_isSaidSo_4 Y k (b, nI i) = k (b &&& 1, nI (i + 1)) := by
        intro b
        rw [if_pos (by omega)] at hrd
        simp only [fX2_isSaidSo_4, fX2_isSaidSo_46, h9, g, if_false, hrd, clT, ne10, h1, r_wordsOf hB (show i < 5 by omega), q_bits _ (show sW B i < 512 by omega), h6, rx, en, if_true, bnT, nI_1]
      rcases hz with ⟨rfl, hn⟩ | ⟨rfl, p, hp, hn⟩
      · refine ⟨(1, nI (i + 1)), by rw [step, a11], Or.inl ⟨rfl, fun p hp => ?_⟩⟩
        by_cases q : p = i
        · subst q; exact e
        · exact hn p (by omega)
      · exact ⟨(0, nI (i + 1)), by rw [step, a01], Or.inr ⟨rfl, p, by omega, hn⟩⟩
    · have step : ∀ b : Int32, fX2_isSaidSo_4 Y k (b, nI i) = k (b &&& 0, nI (i + 1)) := by
        intro b
        by_cases d : i < S 1
        · have en : ¬ nI (pop (sW B i)) = nI (r i) := fun q => e ⟨by omega, (neq (by omega) (by omega)).mp q⟩
          rw [if_pos d] at hrd
          simp only [fX2_isSaidSo_4, fX2_isSaidSo_45, fX2_isSaidSo_46, h9, g, if_false, hrd, clT, ne10, h1, r_wordsOf hB (show i < 5 by omega), q_bits _ (show sW B i < 512 by omega), h6, rx, en, bnT, nI_1]
        · rw [if_neg d] at hrd
          simp only [fX2_isSaidSo_4, fX2_isSaidSo_45, fX2_isSaidSo_46, h9, g, if_false, hrd, clT, if_true, bnT, nI_1]
      rcases hz with ⟨rfl, hn⟩ | ⟨rfl, p, hp, hn⟩
      · exact ⟨(0, nI (i + 1)), by rw [step, a10], Or.inr ⟨rfl, i, by omega, e⟩⟩
      · exact ⟨(0, nI (i + 1)), by rw [step, a00], Or.inr ⟨rfl, p, by omega, hn⟩⟩
theorem u3v {t : Nat} (ht : t < 9) (y : Nat) : up (cv S) 3 (upd (cv S 3) t (nI y)) = cv (setN S (7 + 4 * t) y) := by
  unfold cv
  rw [u3 ht y, setN_n S y (by omega)]
theorem u1v {t : Nat} (ht : t < 9) (y : Nat) : up (cv S) 1 (upd (cv S 1) t (nI y)) = cv (setN S (5 + 4 * t) y) := by
  unfold cv
  rw [u1 ht y, setN_n S y (by omega)]
theorem p_whatSaid (hR : Rel X Y) (a b : Int32) : Ag (fX1_whatSaid X a b) (fX2_whatSaid Y a b) := by
  have hR' := hR
  obtain ⟨S, P, l, r, f, hp, nl, nr, hh⟩ := hR'
  have o1 := hh.1.1
  have o7 := hh.1.2.2.2.2.2.2.1
  have o9 := hh.1.2.2.2.2.2.2.2.2
  have x0 := hh.2.1.1
  have y0 := hh.2.2.1
  obtain ⟨_, _, _, _, _, _, _, x6, x7, _⟩ := hh.2.1
  obtain ⟨_, _, _, _, _, _, _, y6, _, _, y9⟩ := hh.2.2
  have h0 := o1.1
  have h1 := o1.2.1
  have hM := mm0 hh
  rw [fX1_whatSaid, fX2_whatSaid, x0]
  rcases rkt (x := nI (S 3)) o1 y0 a with ⟨t, ht, rfl, e1, e2⟩ | ⟨e1, e2⟩
  · have ht9 : t < 9 := by omega
    rw [show fX0_hasRocket (cv S) (nI t) = some 1 from e1, e2, clT, clT, if_neg ne10, if_neg ne10]
    rcases one2 b with ⟨hb, e3, e4⟩ | ⟨b0, b1, e3, e4⟩
    · rw [e3, e4, clT, clT, if_neg ne10, if_neg ne10]
      have hl : (if b = 0 then fX1_whatSaid_44 (X, nI t, b, 0, 6) else fX1_whatSaid_44 (X, nI t, b, 0, 6)) = lp fX1_whatSaid_49 5000 (X, nI t, b, 0, 6, 0) := by
        split <;> rfl
      rw [hl]
      have hr48 : ∀ (j : _) (Y' : VS) (v w : Int32), fX2_whatSaid_35 j (Y', nI t, b, v, w) = fX2_whatSaid_48 j (Y', nI t, b, v, w, 6, w) := by
        intro j Y' v w
        simp only [fX2_whatSaid_35]
        split <;> rfl
      refine lp_gen 6 (fun i x y => ∃ X' Y' v, MM X Y X' Y' ∧ x = (X', nI t, b, v, 6, nI i) ∧ y = (Y', nI t, b, v, nI i)) Ag ?_ ?_ _ _ ⟨X, Y, 0, hM, rfl, rfl⟩ 5000 5000 (by omega) (by omega)
      · rintro k j _ _ ⟨X', Y', v, hm, rfl, rfl⟩
        have g : (6 : Int32) ≤ nI 6 := by decide
        rw [hr48]
        refine ⟨v, X', Y', ?_, ?_, relMM hR hm⟩
        · simp only [fX1_whatSaid_49, g, if_true]
        · simp only [fX2_whatSaid_48, g, if_true]
      · rintro k j i _ _ hi ⟨X', Y', v, hm, rfl, rfl⟩
        have g : ¬ (6 : Int32) ≤ nI i := fun q => by have := (nle (a := 6) (by decide) (by omega)).mp q; omega
        obtain ⟨a1, a2, a3⟩ := cpX x0 hm.1
        obtain ⟨b1, b2, b3⟩ := cpY o1 y0 hm.2
        rw [hr48]
        right
        have fin : ∀ T off, T = setN S (5 + 4 * t + off) i → off < 3 → Ok T → T 0 = S 0 → T 1 = S 1 → ∃ x' y', fX1_whatSaid_96 k (up X 1 (cv T), nI t, b, v, 6, nI i) = k x' ∧ fX2_whatSaid_76 j (up Y 1 (lN8 S), nI t, b, v, nI i, nI off, nI t) = j y' ∧ ∃ X' Y' v, MM X Y X' Y' ∧ x' = (X', nI t, b, v, 6, nI (i + 1)) ∧ y' = (Y', nI t, b, v, nI (i + 1)) := by
          intro T off eT hoff hT q0 q1
          have hB := sBs_ok (lk := lkE) hT ht9
          have hB1 : sBs lkE t T 1 = S 1 := by rw [hB.2 1 (by unfold nW; omega), q1]
          have hT8 : Ok (setN T (8 + 4 * t) 1) := Ok_s hT (by omega) (Nat.le_refl 1)
          have hB8 := sBs_ok (lk := lkE) hT8 ht9
          have sd : fX0_sendUp (cv T) (nI t) 31 = some (cw (sBs lkE t (setN T (8 + 4 * t) 1)) (nI (T 3) - nI (sCost (T (5 + 4 * t))))) := c_sendUp (e := 31) hT (show t < T 0 by omega) (by decide)
          have rb : fX2_bursts (lN8 T) (nI t) (-1) = some (lN8 (sBs lkE t T)) := r_bursts hT ht9 (lkA rfl)
          have hu : upd (lN8 S) (5 + 4 * t + off) (nI i) = lN8 T := by rw [eT]; exact lN8_up S _ i
          have kk : ∀ {β : Type} {K : Option β}, ck 81 (nI (5 + 4 * t + off)) K = K := ckN (by omega) (by decide)
          have t2 : (nI (5 + 4 * t + off)).toNatClampNeg = 5 + 4 * t + off := ncl (by omega)
          rw [sBs_8 ht9 (by omega)] at sd hB8
          generalize hy : nI (T 3) - nI (sCost (T (5 + 4 * t))) = yy at sd
          have cf := c_fit (X := up X 1 (cw (setN (sBs lkE t T) (8 + 4 * t) 1) yy)) (r := r) (nr := nr) hB8.1 (up_s _ _ _) (by rw [un13, x7]) (by rw [un13, x6]) o7 o9
          have rf := r_fit (Y := up Y 1 (lN8 (sBs lkE t T))) (r := r) (nr := nr) o1 hB.1 (by rw [un10, y0]) hB1 (up_s _ _ _) (by rw [up_n _ _ (by decide), y9]) (by rw [up_n _ _ (by decide), y6]) o7 o9
          have same : (∀ p, p < nr → p < setN (sBs lkE t T) (8 + 4 * t) 1 1 ∧ pop (sW (setN (sBs lkE t T) (8 + 4 * t) 1) p) = r p) ↔ (∀ p, p < nr → p < sBs lkE t T 1 ∧ pop (sW (sBs lkE t T) p) = r p) := by
            rw [setN_n _ _ (show (1 : Nat) ≠ 8 + 4 * t by omega)]
            constructor
            · intro q p hp
              have := q p hp
              rw [sW_8 ht9] at this
              exact this
            · intro q p hp
              rw [sW_8 ht9]
              exact q p hp
          have mm : MM X Y (up X 1 (cw (setN (sBs lkE t T) (8 + 4 * t) 1) yy)) (up Y 1 (lN8 (sBs lkE t T))) := ⟨⟨_, _, rfl⟩, _, lN8_z hB.1, rfl⟩
          rcases cf with ⟨cf, cf2⟩ | ⟨cf, cf2⟩
          · rcases rf with ⟨rf, rf2⟩ | ⟨rf, rf2⟩
            · refine ⟨(up X 1 (cw (setN (sBs lkE t T) (8 + 4 * t) 1) yy), nI t, b, v ||| ((1 : Int32) <<< (nI i &&& 31)), 6, nI (i + 1)), (up Y 1 (lN8 (sBs lkE t T)), nI t, b, v ||| ((1 : Int32) <<< (nI i &&& 31)), nI (i + 1)), ?_, ?_, _, _, _, mm, rfl, rfl⟩
              · simp only [fX1_whatSaid_96, fX1_whatSaid_120, up_s, sd, clT, bnT, up_up, cf2, ne10, if_false, nI_1]
              · simp only [fX2_whatSaid_76, fX2_whatSaid_107, q_ofR, clT, kk, t2, up_s, hu, bnT, up_up, rb, rf2, ne10, if_false, nI_1]
            · exact absurd (same.mp cf) rf
          · rcases rf with ⟨rf, rf2⟩ | ⟨rf, rf2⟩
            · exact absurd (same.mpr rf) cf
            · have v0 : v ||| (0 : Int32) = v := by
                apply Int32.toBitVec_inj.1
                show v.toBitVec ||| 0#32 = v.toBitVec
                simp
              refine ⟨(up X 1 (cw (setN (sBs lkE t T) (8 + 4 * t) 1) yy), nI t, b, v, 6, nI (i + 1)), (up Y 1 (lN8 (sBs lkE t T)), nI t, b, v, nI (i + 1)), ?_, ?_, _, _, _, mm, rfl, rfl⟩
              · simp only [fX1_whatSaid_96, fX1_whatSaid_120, up_s, sd, clT, bnT, up_up, cf2, if_true, nI_1]
              · simp only [fX2_whatSaid_76, fX2_whatSaid_107, q_ofR, clT, kk, t2, up_s, hu, bnT, up_up, rb, rf2, if_true, v0, nI_1]
        have k9 : ∀ {β : Type} {K : Option β}, ck 9 (nI t) K = K := ckN ht9 (by decide)
        have t1 : (nI t).toNatClampNeg = t := ncl (by omega)
        rcases hb with rfl | rfl
        · have w1 : fX1_whatSaid_49 k (X', nI t, 0, v, 6, nI i) = fX1_whatSaid_96 k (up X 1 (cv (setN S (7 + 4 * t) i)), nI t, 0, v, 6, nI i) := by
            simp only [fX1_whatSaid_49, g, if_false, a1, clT, bnT, a2, if_true, k9, t1, up_s, u3v ht9, up_up]
          have w2 : fX2_whatSaid_48 j (Y', nI t, 0, v, nI i, 6, nI i) = fX2_whatSaid_76 j (up Y 1 (lN8 S), nI t, 0, v, nI i, nI 2, nI t) := by
            simp only [fX2_whatSaid_48, g, if_false, b1, clT, bnT, b2, if_true]
            rfl
          rw [w1, w2]
          exact fin _ 2 (congrArg (fun q => setN S q i) (show 7 + 4 * t = 5 + 4 * t + 2 by omega)) (by omega) (Ok_r o1 ht (Or.inr (Or.inr (Or.inl ⟨rfl, hi⟩)))) (setN_n _ _ (by omega)) (setN_n _ _ (by omega))
        · have w1 : fX1_whatSaid_49 k (X', nI t, 1, v, 6, nI i) = fX1_whatSaid_96 k (up X 1 (cv (setN S (5 + 4 * t) i)), nI t, 1, v, 6, nI i) := by
            simp only [fX1_whatSaid_49, g, if_false, a1, clT, bnT, a2, ne10, k9, t1, up_s, u1v ht9, up_up]
          have w2 : fX2_whatSaid_48 j (Y', nI t, 1, v, nI i, 6, nI i) = fX2_whatSaid_76 j (up Y 1 (lN8 S), nI t, 1, v, nI i, nI 0, nI t) := by
            simp only [fX2_whatSaid_48, g, if_false, b1, clT, bnT, b2, ne10]
            rfl
          rw [w1, w2]
          exact fin _ 0 rfl (by omega) (Ok_r o1 ht (Or.inl ⟨rfl, hi⟩)) (setN_n _ _ (by omega)) (setN_n _ _ (by omega))
    · rw [e3, e4, clT, clT, if_pos rfl, if_pos rfl, cl_e, cl_e]
      exact refAg hR (by simp)
  · rw [show fX0_hasRocket (cv S) a = some 0 from e1, e2, clT, clT, if_pos rfl, if_pos rfl, cl_e, cl_e]
    exact refAg hR (by simp)
end
