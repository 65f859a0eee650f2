/-! the best of some minds -/
theorem clT {α β : Type} (x : α) (K : α → Option β) : cl (some x) K = K x := by rw [clS]
theorem bnT {α β : Type} (x : α) (K : α → β) : bn x K = K x := by rw [bnE]
section
variable {X : Nat → VS} {Y : VS} {S : Nat → Nat}
theorem ck4 {β : Type} {K : Option β} : ck 81 (4 : Int32) K = K := ckN (a := 4) (by decide) (by decide)
theorem tn4 : (4 : Int32).toNatClampNeg = 4 := by decide
theorem p_windBest (hR : Rel X Y) (a b : Int32) : Ag (fX1_windBest X a b) (fX2_windBest Y a b) := by
  have hR' := hR
  obtain ⟨S, P, l, r, f, hp, nl, nr, hh⟩ := hR'
  have o1 := hh.1.1
  have x0 := hh.2.1.1
  have y0 := hh.2.2.1
  have hM := mm0 hh
  rw [fX1_windBest, fX2_windBest]
  rcases wrg a 0 30 (by decide) (by decide) with ⟨n, -, hn, rfl, hw⟩ | ⟨c, hc, hw⟩
  · have hw1 : fX1_outside (nI n) 0 30 = some 0 := hw
    have hw2 : fX2_wrongBy (nI n) 0 30 = some 0 := hw
    rw [hw1, hw2, clT, clT, if_pos rfl, if_pos rfl]
    rcases one2 b with ⟨-, e3, e4⟩ | ⟨b0, b1, e3, e4⟩
    · rw [e3, e4, clT, clT, if_neg ne10, if_neg ne10, fX2_windBest_24]
      simp only [if_true]
      refine lp_gen 10 (fun i x y => ∃ X' Y' u v, MM X Y X' Y' ∧ x = (X', nI n, b, u, v, nI i) ∧ y = (Y', nI n, b, u, v, nI i)) Ag ?_ ?_ _ _ ⟨X, Y, 0, -1, hM, rfl, rfl⟩ 5000 5000 (by omega) (by omega)
      · rintro k j _ _ ⟨X', Y', u, v, hm, rfl, rfl⟩
        have g : (10 : Int32) ≤ nI 10 := by decide
        by_cases hb : b = 0
        · refine ⟨u, X', Y', ?_, ?_, relMM hR hm⟩
          · simp only [fX1_windBest_41, g, if_true, hb]
          · simp only [fX2_windBest_43, g, if_true, hb]
        · refine ⟨v, X', Y', ?_, ?_, relMM hR hm⟩
          · simp only [fX1_windBest_41, g, if_true, hb, if_false]
          · simp only [fX2_windBest_43, g, if_true, hb, if_false]
      · rintro k j i _ _ hi ⟨X', Y', u, v, hm, rfl, rfl⟩
        have g : ¬ (10 : Int32) ≤ nI i := fun q => by have := (nle (a := 10) (by decide) (by omega)).mp q; omega
        obtain ⟨a1, a2, a3⟩ := cpX x0 hm.1
        obtain ⟨b1, b2, b3⟩ := cpY o1 y0 hm.2
        have hT : Ok (setN S 4 i) := Ok_o o1 (Or.inr (Or.inr ⟨rfl, by omega⟩))
        have hT2 := (sNights_ok (lk := lkE) hT n).1
        right
        by_cases z : nI (sWhole (sNights lkE n (setN S 4 i))) ≤ v
        · have z' : ¬ v < nI (sWhole (sNights lkE n (setN S 4 i))) := Int32.not_lt.mpr z
          refine ⟨(up X 1 (cv (sNights lkE n (setN S 4 i))), nI n, b, u, v, nI (i + 1)), (up Y 1 (lN8 (sNights lkE n (setN S 4 i))), nI n, b, u, v, nI (i + 1)), ?_, ?_, _, _, u, v, mmT hT2, rfl, rfl⟩
          · simp only [fX1_windBest_41, fX1_windBest_102, g, if_false, a1, a2, clT, bnT, up_s, u10v, up_up, c_pass hT (show n ≤ 60 by omega), cv_countWhole hT2, z, if_true, nI_1]
          · simp only [fX2_windBest_43, fX2_windBest_106, g, if_false, b1, b2, clT, bnT, up_s, ck4, tn4, lN8_up, up_up, r_pass hT (show n ≤ 60 by omega), r_wholeOnes hT2, z', nI_1]
        · have z' : v < nI (sWhole (sNights lkE n (setN S 4 i))) := Int32.not_le.mp z
          refine ⟨(up X 1 (cv (sNights lkE n (setN S 4 i))), nI n, b, nI i, nI (sWhole (sNights lkE n (setN S 4 i))), nI (i + 1)), (up Y 1 (lN8 (sNights lkE n (setN S 4 i))), nI n, b, nI i, nI (sWhole (sNights lkE n (setN S 4 i))), nI (i + 1)), ?_, ?_, _, _, _, _, mmT hT2, rfl, rfl⟩
          · simp only [fX1_windBest_41, fX1_windBest_102, g, if_false, a1, a2, clT, bnT, up_s, u10v, up_up, c_pass hT (show n ≤ 60 by omega), cv_countWhole hT2, z, nI_1]
          · simp only [fX2_windBest_43, fX2_windBest_106, g, if_false, b1, b2, clT, bnT, up_s, ck4, tn4, lN8_up, up_up, r_pass hT (show n ≤ 60 by omega), r_wholeOnes hT2, z', if_true, nI_1]
    · have hm : ¬ (-2 : Int32) = 0 := by decide
      rw [e3, e4, clT, clT, if_pos rfl, if_pos rfl, fX2_windBest_24]
      simp only [hm, if_false]
      rw [cl_e, cl_e]
      exact refAg hR (by simp)
  · have hw1 : fX1_outside a 0 30 = some c := hw
    have hw2 : fX2_wrongBy a 0 30 = some c := hw
    have hc0 := c46_ne hc
    rw [hw1, hw2, clT, clT, if_neg hc0, if_neg hc0, fX2_windBest_24]
    simp only [hc0, if_false]
    rw [cl_e, cl_e]
    exact refAg hR (c46 hc)
theorem p_move (hR : Rel X Y) (a d b : Int32) : Ag (fX1_move X a d b) (fX2_move Y a d b) := by
  have hR' := hR
  obtain ⟨S, P, l, r, f, hp, nl, nr, hh⟩ := hR'
  have o1 := hh.1.1
  have x0 := hh.2.1.1
  have y0 := hh.2.2.1
  have hM := mm0 hh
  have h1 := o1.2.1
  rw [fX1_move, fX2_move, x0]
  rcases rdr (x := nI (S 3)) o1 y0 a with ⟨p, hp5, rfl, e1, e2⟩ | ⟨e1, e2⟩
  · have hp5' : p < 5 := by omega
    rw [show fX0_hasReader (cv S) (nI p) = some 1 from e1, e2, clT, clT, if_neg ne10, if_neg ne10]
    rcases wrg d 0 30 (by decide) (by decide) with ⟨n, -, hn, rfl, hw⟩ | ⟨c, hc, hw⟩
    · have hw1 : fX1_outside (nI n) 0 30 = some 0 := hw
      have hw2 : fX2_wrongBy (nI n) 0 30 = some 0 := hw
      rw [hw1, hw2, clT, clT, if_pos rfl, fX2_move_19]
      simp only [if_true]
      rcases one2 b with ⟨-, e3, e4⟩ | ⟨b0, b1, e3, e4⟩
      · rw [e3, e4, clT, clT, if_neg ne10, if_neg ne10, fX2_move_39]
        simp only [if_true]
        refine lp_gen 20 (fun i x y => ∃ X' Y' u v, MM X Y X' Y' ∧ x = (X', nI p, nI n, b, u, v, nI i) ∧ y = (Y', nI p, nI n, b, u, v, nI i)) Ag ?_ ?_ _ _ ⟨X, Y, 0, -1, hM, rfl, rfl⟩ 5000 5000 (by omega) (by omega)
        · rintro k j _ _ ⟨X', Y', u, v, hm, rfl, rfl⟩
          have g : (20 : Int32) ≤ nI 20 := by decide
          by_cases hb : b = 0
          · refine ⟨u, X', Y', ?_, ?_, relMM hR hm⟩
            · simp only [fX1_move_61, g, if_true, hb]
            · simp only [fX2_move_60, g, if_true, hb]
          · refine ⟨v, X', Y', ?_, ?_, relMM hR hm⟩
            · simp only [fX1_move_61, g, if_true, hb, if_false]
            · simp only [fX2_move_60, g, if_true, hb, if_false]
        · rintro k j i _ _ hi ⟨X', Y', u, v, hm, rfl, rfl⟩
          have g : ¬ (20 : Int32) ≤ nI i := fun q => by have := (nle (a := 20) (by decide) (by omega)).mp q; omega
          obtain ⟨a1, a2, a3⟩ := cpX x0 hm.1
          obtain ⟨b1, b2, b3⟩ := cpY o1 y0 hm.2
          have hT : Ok (setN S (41 + 8 * p) i) := Ok_p o1 hp5 (Or.inl ⟨rfl, by omega⟩)
          have hT2 := (sNights_ok (lk := lkE) hT n).1
          have hl := sW_lt (sNights lkE n (setN S (41 + 8 * p) i)) p
          have k1 : ∀ {β : Type} {K : Option β}, ck 5 (nI p) K = K := ckN hp5' (by decide)
          have k2 : ∀ {β : Type} {K : Option β}, ck 81 (nI (41 + 8 * p)) K = K := ckN (by omega) (by decide)
          have t1 : (nI p).toNatClampNeg = p := ncl (by omega)
          have t2 : (nI (41 + 8 * p)).toNatClampNeg = 41 + 8 * p := ncl (by omega)
          have e6 : fX2_ofP (nI p) 0 = some (nI (41 + 8 * p)) := q_ofP p 0
          right
          by_cases z : nI (pop (sW (sNights lkE n (setN S (41 + 8 * p) i)) p)) ≤ v
          · have z' : ¬ v < nI (pop (sW (sNights lkE n (setN S (41 + 8 * p) i)) p)) := Int32.not_lt.mpr z
            refine ⟨(up X 1 (cv (sNights lkE n (setN S (41 + 8 * p) i))), nI p, nI n, b, u, v, nI (i + 1)), (up Y 1 (lN8 (sNights lkE n (setN S (41 + 8 * p) i))), nI p, nI n, b, u, v, nI (i + 1)), ?_, ?_, _, _, u, v, mmT hT2, rfl, rfl⟩
            · simp only [fX1_move_61, fX1_move_128, g, if_false, a1, a2, clT, bnT, up_s, k1, t1, u6v hp5', up_up, c_pass hT (show n ≤ 60 by omega), cv_wordsOf hT2 hp5', q_bitCount _ (show sW (sNights lkE n (setN S (41 + 8 * p) i)) p < 512 by omega), z, if_true, nI_1]
            · simp only [fX2_move_60, fX2_move_135, g, if_false, b1, b2, clT, bnT, up_s, e6, k2, t2, lN8_up, up_up, r_pass hT (show n ≤ 60 by omega), r_wordsOf hT2 hp5', q_bits _ (show sW (sNights lkE n (setN S (41 + 8 * p) i)) p < 512 by omega), z', nI_1]
          · have z' : v < nI (pop (sW (sNights lkE n (setN S (41 + 8 * p) i)) p)) := Int32.not_le.mp z
            refine ⟨(up X 1 (cv (sNights lkE n (setN S (41 + 8 * p) i))), nI p, nI n, b, nI i, nI (pop (sW (sNights lkE n (setN S (41 + 8 * p) i)) p)), nI (i + 1)), (up Y 1 (lN8 (sNights lkE n (setN S (41 + 8 * p) i))), nI p, nI n, b, nI i, nI (pop (sW (sNights lkE n (setN S (41 + 8 * p) i)) p)), nI (i + 1)), ?_, ?_, _, _, _, _, mmT hT2, rfl, rfl⟩
            · simp only [fX1_move_61, fX1_move_128, g, if_false, a1, a2, clT, bnT, up_s, k1, t1, u6v hp5', up_up, c_pass hT (show n ≤ 60 by omega), cv_wordsOf hT2 hp5', q_bitCount _ (show sW (sNights lkE n (setN S (41 + 8 * p) i)) p < 512 by omega), z, nI_1]
            · simp only [fX2_move_60, fX2_move_135, g, if_false, b1, b2, clT, bnT, up_s, e6, k2, t2, lN8_up, up_up, r_pass hT (show n ≤ 60 by omega), r_wordsOf hT2 hp5', q_bits _ (show sW (sNights lkE n (setN S (41 + 8 * p) i)) p < 512 by omega), z', if_true, nI_1]
      · have hm : ¬ (-2 : Int32) = 0 := by decide
        rw [e3, e4, clT, clT, if_pos rfl, if_pos rfl, fX2_move_39]
        simp only [hm, if_false]
        rw [cl_e, cl_e]
        exact refAg hR (by simp)
    · have hw1 : fX1_outside d 0 30 = some c := hw
      have hw2 : fX2_wrongBy d 0 30 = some c := hw
      have hc0 := c46_ne hc
      rw [hw1, hw2, clT, clT, if_neg hc0, fX2_move_19]
      simp only [fX2_move_39, hc0, if_false]
      rw [cl_e, cl_e]
      exact refAg hR (c46 hc)
  · have hm : ¬ (-1 : Int32) = 0 := by decide
    rw [show fX0_hasReader (cv S) a = some 0 from e1, e2, clT, clT, if_pos rfl, if_pos rfl, fX2_move_19]
    simp only [fX2_move_39, hm, if_false]
    rw [cl_e, cl_e]
    exact refAg hR (by simp)
/-- bestToSpend and bestNow -/
theorem best1 (hR : Rel X Y) (o1 : Ok S) (x0 : X 0 = cv S) (y0 : Y 0 = lN8 S) (x1 : ∃ T y, X 1 = cw T y) (y1 : ∀ j, 81 ≤ j → Y 1 j = 0) {n : Nat} (hn : n ≤ 30) {s t : Int32} (hst : (s = 0 ∧ t = 1) ∨ (s = 1 ∧ t = 0)) : Ag (fX1_bestToSpend X (nI n) s) (fX2_bestNow Y (nI n) t) := by
  have h0 := o1.1
  have hS2 := (sNights_ok (lk := lkE) o1 n).1
  rw [fX1_bestToSpend, fX2_bestNow, c_think o1 x0 x1 (show n ≤ 60 by omega), r_takes o1 y0 y1 (show n ≤ 60 by omega), clT, clT, up_s, up_s, cv_countWords hS2, r_allWords hS2, clT, clT]
  refine lp_gen (S 0) (fun i x y => ∃ X' Y' u v, MM X Y X' Y' ∧ x = (X', nI n, s, u, v, nI i) ∧ y = (Y', nI n, t, u, v, nI i)) Ag ?_ ?_ _ _ ⟨_, _, _, -9, mmT hS2, rfl, rfl⟩ 5000 5000 (by omega) (by omega)
  · rintro k j _ _ ⟨X', Y', u, v, hm, rfl, rfl⟩
    have e0 := (cpX x0 hm.1).2.2
    have e1 := (cpY o1 y0 hm.2).2.2
    have e5 : cv S 0 0 = nI (S 0) := rfl
    refine ⟨v, X', Y', ?_, ?_, relMM hR hm⟩
    · simp (disch := omega) only [fX1_bestToSpend_20, e0, e5, nle, Nat.le_refl, if_true]
    · simp (disch := omega) only [fX2_bestNow_20, e1, lit32, rdM, nle, Nat.le_refl, if_true]
  · rintro k j i _ _ hi ⟨X', Y', u, v, hm, rfl, rfl⟩
    have hi9 : i < 9 := by omega
    obtain ⟨a1, a2, a3⟩ := cpX x0 hm.1
    obtain ⟨b1, b2, b3⟩ := cpY o1 y0 hm.2
    have e5 : cv S 0 0 = nI (S 0) := rfl
    have n1 : ¬ nI (S 0) ≤ nI i := fun q => by have := (nle (by omega) (by omega)).mp q; omega
    have e6 : ∀ {β : Type} {K : Int32 → Option β}, rd 81 (lN8 S) 0 K = K (nI (S 0)) := rdM (a := 0) (by decide)
    have g3 : fX2_ofR (nI i) 3 = some (nI (8 + 4 * i)) := by rw [show 8 + 4 * i = 5 + 4 * i + 3 by omega]; exact q_ofR i 3
    have m3 : ∀ {β : Type} {K : Int32 → Option β}, rd 81 (lN8 S) (nI (8 + 4 * i)) K = K (nI (S (8 + 4 * i))) := rdM (by omega)
    have k2 : ∀ {β : Type} {K : Option β}, ck 81 (nI (8 + 4 * i)) K = K := ckN (by omega) (by decide)
    have t2 : (nI (8 + 4 * i)).toNatClampNeg = 8 + 4 * i := ncl (by omega)
    have hs := (o1.2.2.2.2.1 i hi9).2.2.2
    have hl := sCan_le S i
    have n01 : ¬ (0 : Int32) = 1 := by decide
    right
    -- what follows, once the mind is T
    have fin : ∀ T, Ok T → (∀ k2 : _, fX1_bestToSpend_63 k2 (X', nI n, s, u, v, nI i) = cl (fX0_countWords (cv (sNights lkE n T))) (fun r3 => if r3 ≤ u then fX1_bestToSpend_86 k2 (up X 1 (cv (sNights lkE n T)), nI n, s, u, v, nI i) else fX1_bestToSpend_86 k2 (up X 1 (cv (sNights lkE n T)), nI n, s, r3, nI i, nI i))) → (∀ j2 : _, fX2_bestNow_65 j2 (Y', nI n, t, u, v, nI i) = fX2_bestNow_105 j2 (up Y 1 (lN8 T), nI n, t, u, v, nI i)) → ∃ x' y', fX1_bestToSpend_63 k (X', nI n, s, u, v, nI i) = k x' ∧ fX2_bestNow_65 j (Y', nI n, t, u, v, nI i) = j y' ∧ ∃ X' Y' u v, MM X Y X' Y' ∧ x' = (X', nI n, s, u, v, nI (i + 1)) ∧ y' = (Y', nI n, t, u, v, nI (i + 1)) := by
      intro T hT q1 q2
      have hT2 := (sNights_ok (lk := lkE) hT n).1
      rw [q1, q2, cv_countWords hT2, clT]
      by_cases z : nI (sAll (sNights lkE n T)) ≤ u
      · have z' : ¬ u < nI (sAll (sNights lkE n T)) := Int32.not_lt.mpr z
        refine ⟨(up X 1 (cv (sNights lkE n T)), nI n, s, u, v, nI (i + 1)), (up Y 1 (lN8 (sNights lkE n T)), nI n, t, u, v, nI (i + 1)), ?_, ?_, _, _, u, v, mmT hT2, rfl, rfl⟩
        · simp only [fX1_bestToSpend_86, z, if_true, bnT, nI_1]
        · simp only [fX2_bestNow_105, fX2_bestNow_140, up_s, up_up, r_pass hT (show n ≤ 60 by omega), clT, bnT, r_allWords hT2, z', if_false, nI_1]
      · have z' : u < nI (sAll (sNights lkE n T)) := Int32.not_le.mp z
        refine ⟨(up X 1 (cv (sNights lkE n T)), nI n, s, nI (sAll (sNights lkE n T)), nI i, nI (i + 1)), (up Y 1 (lN8 (sNights lkE n T)), nI n, t, nI (sAll (sNights lkE n T)), nI i, nI (i + 1)), ?_, ?_, _, _, _, _, mmT hT2, rfl, rfl⟩
        · simp only [fX1_bestToSpend_86, z, if_false, bnT, nI_1]
        · simp only [fX2_bestNow_105, fX2_bestNow_140, up_s, up_up, r_pass hT (show n ≤ 60 by omega), clT, bnT, r_allWords hT2, z', if_true, nI_1]
    have skip1 : fX1_bestToSpend_86 k (X', nI n, s, u, v, nI i) = k (X', nI n, s, u, v, nI (i + 1)) := by
      simp only [fX1_bestToSpend_86, bnT, nI_1]
    have skip2 : fX2_bestNow_140 j (Y', nI n, t, u, v, nI i) = j (Y', nI n, t, u, v, nI (i + 1)) := by
      simp only [fX2_bestNow_140, bnT, nI_1]
    rcases hst with ⟨rfl, rfl⟩ | ⟨rfl, rfl⟩
    · rcases (show S (8 + 4 * i) = 0 ∨ S (8 + 4 * i) = 1 by omega) with c | c
      · have hT : Ok (setN S (8 + 4 * i) 1) := Ok_s o1 hi (Nat.le_refl 1)
        have z1 : nI 0 = (0 : Int32) := rfl
        have z2 : ¬ nI 0 = (1 : Int32) := by decide
        have w1 : fX1_bestToSpend_20 k (X', nI n, 0, u, v, nI i) = fX1_bestToSpend_63 k (X', nI n, 0, u, v, nI i) := by
          simp only [fX1_bestToSpend_20, a3, e5, n1, if_false, if_true, cv_isSent o1 hi9, c, clT, z1]
        have w2 : fX2_bestNow_20 j (Y', nI n, 1, u, v, nI i) = fX2_bestNow_65 j (Y', nI n, 1, u, v, nI i) := by
          simp only [fX2_bestNow_20, b3, e6, n1, if_false, g3, clT, m3, c, z2, ne10]
        rw [w1, w2]
        refine fin _ hT (fun k2 => ?_) (fun j2 => ?_)
        · simp only [fX1_bestToSpend_63, fX1_wordsHadBySpending, fX1_wordsHadBySpending_36, a1, a2, clT, bnT, if_true, up_s, cv_throw o1 hi9, up_up, c_pass hT (show n ≤ 60 by omega), cv_countWords (sNights_ok (lk := lkE) hT n).1]
        · have hu : upd (lN8 S) (8 + 4 * i) (1 : Int32) = lN8 (setN S (8 + 4 * i) 1) := lN8_up S _ 1
          simp only [fX2_bestNow_65, b1, b2, clT, bnT, ne10, if_false, up_s, g3, k2, t2, hu, up_up]
      · have z1 : ¬ nI 1 = (0 : Int32) := by decide
        have z2 : nI 1 = (1 : Int32) := rfl
        refine ⟨_, _, ?_, ?_, X', Y', u, v, hm, rfl, rfl⟩
        · rw [← skip1]
          simp only [fX1_bestToSpend_20, a3, e5, n1, if_false, if_true, cv_isSent o1 hi9, c, clT, z1]
        · rw [← skip2]
          simp only [fX2_bestNow_20, b3, e6, n1, if_false, g3, clT, m3, c, z2, if_true]
    · rcases (show sCan S i = 0 ∨ sCan S i = 1 by omega) with c | c
      · refine ⟨_, _, ?_, ?_, X', Y', u, v, hm, rfl, rfl⟩
        · rw [← skip1]
          have z1 : nI 0 = (0 : Int32) := rfl
          simp only [fX1_bestToSpend_20, a3, e5, n1, if_false, ne10, c_canSend o1 (show i < 100 by omega), hi, if_true, c, clT, z1]
        · rw [← skip2]
          have z1 : nI 0 = (0 : Int32) := rfl
          simp only [fX2_bestNow_20, b3, e6, n1, if_false, g3, clT, m3, r_canGo o1 hi9, c, z1, if_true]
          split <;> rfl
      · have hT := (sSend_ok (lk := lkE) o1 hi).1
        have c8 : S (8 + 4 * i) = 0 := by
          unfold sCan at c
          by_cases d : S (8 + 4 * i) = 0 ∧ sCost (S (5 + 4 * i)) ≤ S 3
          · exact d.1
          · rw [if_neg d] at c; omega
        have z1 : ¬ nI 1 = (0 : Int32) := by decide
        have z2 : ¬ nI 0 = (1 : Int32) := by decide
        have w1 : fX1_bestToSpend_20 k (X', nI n, 1, u, v, nI i) = fX1_bestToSpend_63 k (X', nI n, 1, u, v, nI i) := by
          simp only [fX1_bestToSpend_20, a3, e5, n1, if_false, ne10, c_canSend o1 (show i < 100 by omega), hi, if_true, c, clT, z1]
        have w2 : fX2_bestNow_20 j (Y', nI n, 0, u, v, nI i) = fX2_bestNow_65 j (Y', nI n, 0, u, v, nI i) := by
          simp only [fX2_bestNow_20, b3, e6, n1, if_false, g3, clT, m3, c8, z2, r_canGo o1 hi9, c, z1, if_true]
        rw [w1, w2]
        refine fin _ hT (fun k2 => ?_) (fun j2 => ?_)
        · have hsd : fX0_sendUp (cv S) (nI i) 31 = some (cv (sSend lkE S i)) := c_send o1 (e := 31) hi (by decide) c
          simp only [fX1_bestToSpend_63, fX1_wordsHadBySpending, fX1_wordsHadBySpending_36, a1, a2, clT, bnT, ne10, if_false, up_s, hsd, up_up, c_pass hT (show n ≤ 60 by omega), cv_countWords (sNights_ok (lk := lkE) hT n).1]
        · have hsd : fX2_sendsIn (lN8 S) (nI i) (-1) = some (lN8 (sSend lkE S i)) := r_sendsIn o1 hi (lkA rfl) c
          simp only [fX2_bestNow_65, b1, b2, clT, bnT, if_true, up_s, hsd, up_up]
theorem p_forgo (hR : Rel X Y) (a : Int32) : Ag (fX1_forgo X a) (fX2_forgo Y a) := by
  have hR' := hR
  obtain ⟨S, P, l, r, f, hp, nl, nr, hh⟩ := hR'
  rw [fX1_forgo, fX2_forgo]
  rcases wrg a 1 30 (by decide) (by decide) with ⟨n, -, hn, rfl, hw⟩ | ⟨c, hc, hw⟩
  · have hw1 : fX1_outside (nI n) 1 30 = some 0 := hw
    have hw2 : fX2_wrongBy (nI n) 1 30 = some 0 := hw
    rw [hw1, hw2, clT, clT, if_pos rfl, if_pos rfl, cl_e, cl_e]
    exact best1 hR hh.1.1 hh.2.1.1 hh.2.2.1 hh.2.1.2.1 hh.2.2.2.1 hn (Or.inl ⟨rfl, rfl⟩)
  · have hw1 : fX1_outside a 1 30 = some c := hw
    have hw2 : fX2_wrongBy a 1 30 = some c := hw
    have hc0 := c46_ne hc
    rw [hw1, hw2, clT, clT, if_neg hc0, if_neg hc0, cl_e, cl_e]
    exact refAg hR (c46 hc)
theorem p_firstUp (hR : Rel X Y) (a : Int32) : Ag (fX1_firstUp X a) (fX2_firstUp Y a) := by
  have hR' := hR
  obtain ⟨S, P, l, r, f, hp, nl, nr, hh⟩ := hR'
  rw [fX1_firstUp, fX2_firstUp]
  rcases wrg a 1 30 (by decide) (by decide) with ⟨n, -, hn, rfl, hw⟩ | ⟨c, hc, hw⟩
  · have hw1 : fX1_outside (nI n) 1 30 = some 0 := hw
    have hw2 : fX2_wrongBy (nI n) 1 30 = some 0 := hw
    rw [hw1, hw2, clT, clT, if_pos rfl, if_pos rfl, cl_e, cl_e]
    exact best1 hR hh.1.1 hh.2.1.1 hh.2.2.1 hh.2.1.2.1 hh.2.2.2.1 hn (Or.inr ⟨rfl, rfl⟩)
  · have hw1 : fX1_outside a 1 30 = some c := hw
    have hw2 : fX2_wrongBy a 1 30 = some c := hw
    have hc0 := c46_ne hc
    rw [hw1, hw2, clT, clT, if_neg hc0, if_neg hc0, cl_e, cl_e]
    exact refAg hR (c46 hc)
end
