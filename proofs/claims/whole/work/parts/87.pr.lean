/-! judge, lots, whatSaid -/
theorem draw_lt (z : Int32) : ∃ m : Nat, m ≤ 9 ∧ ((z &&& (2147483647 : Int32)) / (256 : Int32)) - ((z &&& (2147483647 : Int32)) / (256 : Int32)) / (10 : Int32) * (10 : Int32) = nI m := by
  obtain ⟨j, hj, e⟩ := pk_andE z (m := (2147483647 : Int32)) 31 (by decide)
  rw [e]
  have e1 : nI j / (256 : Int32) = nI (j / 256) := pk_div (d := 256) hj (by decide) (by decide)
  rw [e1]
  refine ⟨j / 256 % 10, by omega, ?_⟩
  exact pk_rem (d := 10) (Nat.lt_of_le_of_lt (Nat.div_le_self _ _) hj) (by decide) (by decide)
theorem up12 {α : Type} (Y : Nat → α) (a b g : α) : up (up (up Y 12 a) 1 g) 12 b = up (up Y 12 b) 1 g := funext fun j => by
  by_cases e : j = 12
  · subst e; rw [up_s, up_n _ _ (by decide), up_s]
  · rw [up_n _ _ e]
    by_cases e1 : j = 1
    · subst e1; rw [up_s, up_s]
    · rw [up_n _ _ e1, up_n _ _ e1, up_n _ _ e, up_n _ _ e]
theorem un1c {α : Type} (g : Nat → α) (a : α) : up g 1 a 12 = g 12 := up_n _ _ (by decide)
theorem unc1 {α : Type} (g : Nat → α) (a : α) : up g 12 a 1 = g 1 := up_n _ _ (by decide)
theorem unc0 {α : Type} (g : Nat → α) (a : α) : up g 12 a 0 = g 0 := up_n _ _ (by decide)
theorem rel12 {X : Nat → VS} {Y : VS} (hR : Rel X Y) (z : Nat → Int32) : Rel X (up Y 12 z) := by
  obtain ⟨S, P, l, r, f, hp, nl, nr, o, x, ⟨y0, y1, y2, y3, y2', y4, y5, y6, y7, y8, y9⟩⟩ := hR
  exact ⟨S, P, l, r, f, hp, nl, nr, o, x, ⟨y0, y1, y2, y3, y2', y4, y5, y6, y7, y8, y9⟩⟩
section
variable {X : Nat → VS} {Y : VS} {S : Nat → Nat}
theorem p_judge (hR : Rel X Y) : Ag (fX1_judge X) (fX2_judge Y) := by
  obtain ⟨S, P, l, r, f, hp, nl, nr, ⟨o1, o2, o3, o4, o5, o6, o7, o8, o9⟩, ⟨x0, ⟨T0, yy, x1⟩, x2, x2', x3, x4, x5, x6, x7, x8⟩, ⟨y0, y1, y2, y3, y2', y4, y5, y6, y7, y8, y9⟩⟩ := hR
  have ex : X 3 7 0 = nI nr := congrFun x7 0
  have ey : Y 9 0 = nI nr := congrFun y9 0
  rw [fX1_judge, fX2_judge, bnT, bnT, bnT, bnT, ex, ey]
  have hR2 : Rel (up X 3 (up (X 3) 7 (fun _ => 0))) (up Y 9 (fun _ => 0)) := ⟨S, P, l, r, f, hp, nl, 0, ⟨o1, o2, o3, o4, o5, o6, by omega, o8, fun i hi => by omega⟩, ⟨x0, ⟨T0, yy, x1⟩, x2, x2', x3, x4, x5, x6, rfl, x8⟩, ⟨y0, y1, y2, y3, y2', y4, y5, y6, y7, y8, rfl⟩⟩
  have c1 : up X 3 (up (X 3) 7 (fun _ => 0)) 3 6 = lN8 r := x6
  have c2 : up Y 9 (fun _ => 0) 6 = lN8 r := y6
  have c3 : up X 3 (up (X 3) 7 (fun _ => 0)) 0 = cv S := x0
  have c4 : up Y 9 (fun _ => 0) 0 = lN8 S := y0
  have c5 : up X 3 (up (X 3) 7 (fun _ => 0)) 1 = cw T0 yy := x1
  have c6 : ∀ j, 81 ≤ j → up Y 9 (fun _ => 0) 1 j = 0 := y1
  generalize up X 3 (up (X 3) 7 (fun _ => 0)) = X2 at *
  generalize up Y 9 (fun _ => 0) = Y2 at *
  have d1 : fX0_copyFrom (X2 1) (X2 0) = some (cv S) := by rw [c5, c3]; exact c_copyFrom T0 yy
  have d2 : fX2_copies (Y2 0) (Y2 1) = some (lN8 S) := by rw [c4]; exact r_copies o1 c6
  rw [d1, d2, clT, clT, bnT, bnT]
  have un16 : ∀ g : Nat → Int32, up Y2 1 g 6 = Y2 6 := fun _ => rfl
  refine lp_gen nr (fun i x y => ∃ T, Ok T ∧ x = (up X2 1 (cv T), nI nr, nI i) ∧ y = (up Y2 1 (lN8 T), nI nr, nI i)) Ag ?_ ?_ _ _ ⟨S, o1, rfl, rfl⟩ 5000 5000 (by omega) (by omega)
  · rintro k j _ _ ⟨T, hT, rfl, rfl⟩
    have g : nI nr ≤ nI nr := (nle (by omega) (by omega)).mpr (Nat.le_refl _)
    refine ⟨-9, _, _, ?_, ?_, relT hR2 hT⟩
    · simp only [fX1_judge_23, g, if_true]
    · simp only [fX2_judge_23, g, if_true]
  · rintro k j i _ _ hi ⟨T, hT, rfl, rfl⟩
    have g : ¬ nI nr ≤ nI i := fun q => by have := (nle (by omega) (by omega)).mp q; omega
    have h3 := hT.2.2.1
    have e9 : cv T 9 0 = nI (T 3) := rfl
    have rx : ∀ {β : Type} {K : Int32 → Option β}, rd 16 (lN8 r) (nI i) K = K (nI (r i)) := rdN (f := lN8 r) (show i < 16 by omega) (by decide)
    have r3 : ∀ {β : Type} {K : Int32 → Option β}, rd 81 (lN8 T) 3 K = K (nI (T 3)) := rdM (a := 3) (by decide)
    have i1 : ((99 : Int32) < nI (T 3)) ↔ 99 < T 3 := nlt (a := 99) (by decide) (by omega)
    have i2 : (nI (T 3) ≤ (99 : Int32)) ↔ T 3 ≤ 99 := nle (b := 99) (by omega) (by decide)
    have key : ∃ v : Int32, (∀ k : _, fX1_judge_23 k (up X2 1 (cv T), nI nr, nI i) = if nI (r i) = v then k (up X2 1 (cv (sNight lkE T)), nI nr, nI (i + 1)) else some (nI i, up X2 1 (cv T))) ∧ (∀ j : _, fX2_judge_23 j (up Y2 1 (lN8 T), nI nr, nI i) = if v = nI (r i) then j (up Y2 1 (lN8 (sNight lkE T)), nI nr, nI (i + 1)) else some (nI i, up Y2 1 (lN8 T))) := by
      by_cases c : T 3 ≤ 99
      · have c' : ¬ (99 : Int32) < nI (T 3) := fun q => by have := i1.mp q; omega
        have c2' := i2.mpr c
        refine ⟨nI (T 3), fun k => ?_, fun j => ?_⟩
        · simp only [fX1_judge_23, g, if_false, un13, c1, rx, up_s, e9, c', bnT, c_night1 hT, clT, up_up, nI_1]
        · simp only [fX2_judge_23, fX2_judge_50, g, if_false, up_s, r3, c2', if_true, un16, c2, rx, r_night1 hT, clT, bnT, up_up, nI_1]
      · have c' : (99 : Int32) < nI (T 3) := i1.mpr (by omega)
        have c2' : ¬ nI (T 3) ≤ (99 : Int32) := fun q => c (i2.mp q)
        refine ⟨99, fun k => ?_, fun j => ?_⟩
        · simp only [fX1_judge_23, g, if_false, un13, c1, rx, up_s, e9, c', if_true, bnT, c_night1 hT, clT, up_up, nI_1]
        · simp only [fX2_judge_23, fX2_judge_50, g, if_false, up_s, r3, c2', un16, c2, rx, r_night1 hT, clT, bnT, up_up, nI_1]
    obtain ⟨v, q1, q2⟩ := key
    rw [q1, q2]
    by_cases e : nI (r i) = v
    · rw [if_pos e, if_pos e.symm]
      exact Or.inr ⟨_, _, rfl, rfl, sNight lkE T, (sNight_ok hT).1, rfl, rfl⟩
    · rw [if_neg e, if_neg (fun q => e q.symm)]
      exact Or.inl ⟨nI i, _, _, rfl, rfl, relT hR2 hT⟩
theorem lots_d {T : Nat → Nat} {z : Int32} {m : Nat} (em : ((z * (1664525 : Int32) + (1013904223 : Int32)) &&& (2147483647 : Int32)) / (256 : Int32) - (((z * (1664525 : Int32) + (1013904223 : Int32)) &&& (2147483647 : Int32)) / (256 : Int32)) / (10 : Int32) * (10 : Int32) = nI m) : fX2_drawn (up (up Y 12 (fun _ => z)) 1 (lN8 T)) 10 = some (nI m, up (up Y 12 (fun _ => z * (1664525 : Int32) + (1013904223 : Int32))) 1 (lN8 T)) := by
  have n10 : ¬ (10 : Int32) = 0 := by decide
  have e0 : up (up Y 12 (fun _ => z)) 1 (lN8 T) 12 0 = z := by rw [un1c, up_s]
  rw [fX2_drawn, e0, up12, bnT, un1c, up_s, em, dv, if_neg n10]
theorem lots_c {T : Nat → Nat} (hT : Ok T) {z : Int32} {m n i q : Nat} {b v : Int32} (hT2 : Ok (setN T 4 m)) (g8 : ¬ (8 : Int32) ≤ nI q) (em : ((z * (1664525 : Int32) + (1013904223 : Int32)) &&& (2147483647 : Int32)) / (256 : Int32) - (((z * (1664525 : Int32) + (1013904223 : Int32)) &&& (2147483647 : Int32)) / (256 : Int32)) / (10 : Int32) * (10 : Int32) = nI m) (k k2 : _) : fX1_lots_64 k k2 (up X 1 (cv T), nI n, b, z, v, nI i, nI q) = k2 (up X 1 (cv (sNight lkE (setN T 4 m))), nI n, b, z * (1664525 : Int32) + (1013904223 : Int32), v, nI i, nI (q + 1)) := by
  simp only [fX1_lots_64, g8, if_false, bnT]
  rw [em]
  generalize (z * (1664525 : Int32) + (1013904223 : Int32)) = z'
  simp only [up_s, u10v, up_up, c_night1 hT2, clT, nI_1]
theorem lots_r {T : Nat → Nat} (hT : Ok T) {z : Int32} {m n i q : Nat} {b v : Int32} (hT2 : Ok (setN T 4 m)) (g8 : ¬ (8 : Int32) ≤ nI q) (ed : fX2_drawn (up (up Y 12 (fun _ => z)) 1 (lN8 T)) 10 = some (nI m, up (up Y 12 (fun _ => z * (1664525 : Int32) + (1013904223 : Int32))) 1 (lN8 T))) (k k2 : _) : fX2_lots_72 k k2 (up (up Y 12 (fun _ => z)) 1 (lN8 T), nI n, b, v, nI i, nI q) = k2 (up (up Y 12 (fun _ => z * (1664525 : Int32) + (1013904223 : Int32))) 1 (lN8 (sNight lkE (setN T 4 m))), nI n, b, v, nI i, nI (q + 1)) := by
  simp only [fX2_lots_72, g8, if_false]
  rw [ed, clT, ck4, tn4]
  generalize (z * (1664525 : Int32) + (1013904223 : Int32)) = z'
  simp only [up_s, lN8_up, bnT, up_up, r_night1 hT2, clT, nI_1]
theorem p_lots (hR : Rel X Y) (a z0 b : Int32) : Ag (fX1_lots X a z0 b) (fX2_lots Y a z0 b) := by
  have hR' := hR
  obtain ⟨S, P, l, r, f, hp, nl, nr, hh⟩ := hR'
  have o1 := hh.1.1
  have x0 := hh.2.1.1
  have y0 := hh.2.2.1
  obtain ⟨T0, yy, x1⟩ := hh.2.1.2.1
  have y1 := hh.2.2.2.1
  rw [fX1_lots, fX2_lots]
  rcases wrg a 1 20 (by decide) (by decide) with ⟨n, hn1, hn2, rfl, hw⟩ | ⟨c, hc, hw⟩
  · have hw1 : fX1_outside (nI n) 1 20 = some 0 := hw
    have g1 : (1 : Int32) ≤ nI n := (nle (a := 1) (by decide) (by omega)).mpr hn1
    have g2 : nI n ≤ (20 : Int32) := (nle (b := 20) (by omega) (by decide)).mpr hn2
    rw [hw1, clT, if_pos rfl, if_pos g1, if_pos g2]
    rcases one2 b with ⟨-, e3, e4⟩ | ⟨b0, b1, e3, e4⟩
    · rw [e3, e4, clT, clT, if_neg ne10, if_neg ne10, bnT]
      refine lp_gen n (fun i x y => ∃ T t g z v, (∀ j, 81 ≤ j → g j = 0) ∧ x = (up X 1 (cw T t), nI n, b, z, v, nI i) ∧ y = (up (up Y 12 (fun _ => z)) 1 g, nI n, b, v, nI i)) Ag ?_ ?_ _ _ ⟨T0, yy, Y 1, z0, 0, y1, by rw [← x1, up_self]; rfl, by rw [show up (up Y 12 (fun _ => z0)) 1 (Y 1) = up Y 12 (fun _ => z0) from up_self (up Y 12 (fun _ => z0)) 1]; rfl⟩ 5000 5000 (by omega) (by omega)
      · rintro k j _ _ ⟨T, t, g, z, v, hg, rfl, rfl⟩
        have gg : nI n ≤ nI n := (nle (by omega) (by omega)).mpr (Nat.le_refl _)
        refine ⟨v, _, _, ?_, ?_, relM (rel12 hR (fun _ => z)) T t hg⟩
        · simp only [fX1_lots_44, gg, if_true]
        · simp only [fX2_lots_52, gg, if_true]
      · rintro k j i _ _ hi ⟨T, t, g, z, v, hg, rfl, rfl⟩
        have gg : ¬ nI n ≤ nI i := fun q => by have := (nle (by omega) (by omega)).mp q; omega
        have d1 : fX0_copyFrom (up X 1 (cw T t) 1) (up X 1 (cw T t) 0) = some (cv S) := by rw [up_s, un10, x0]; exact c_copyFrom T t
        have d2 : fX2_copies (up (up Y 12 (fun _ => z)) 1 g 0) (up (up Y 12 (fun _ => z)) 1 g 1) = some (lN8 S) := by rw [up_s, un10, unc0, y0]; exact r_copies o1 hg
        right
        have w1 : fX1_lots_44 k (up X 1 (cw T t), nI n, b, z, v, nI i) = lp (fX1_lots_64 k) 5000 (up X 1 (cv S), nI n, b, z, v, nI i, 0) := by
          simp only [fX1_lots_44, gg, if_false, d1, clT, bnT, up_up]
        have w2 : fX2_lots_52 j (up (up Y 12 (fun _ => z)) 1 g, nI n, b, v, nI i) = lp (fX2_lots_72 j) 5000 (up (up Y 12 (fun _ => z)) 1 (lN8 S), nI n, b, v, nI i, 0) := by
          simp only [fX2_lots_52, gg, if_false, d2, clT, bnT, up_up]
        rw [w1, w2]
        refine lp_gen 8 (fun q x y => ∃ T z, Ok T ∧ x = (up X 1 (cv T), nI n, b, z, v, nI i, nI q) ∧ y = (up (up Y 12 (fun _ => z)) 1 (lN8 T), nI n, b, v, nI i, nI q)) (fun p1 p2 => ∃ x' y', p1 = k x' ∧ p2 = j y' ∧ ∃ T t g z v, (∀ j, 81 ≤ j → g j = 0) ∧ x' = (up X 1 (cw T t), nI n, b, z, v, nI (i + 1)) ∧ y' = (up (up Y 12 (fun _ => z)) 1 g, nI n, b, v, nI (i + 1))) ?_ ?_ _ _ ⟨S, z, o1, rfl, rfl⟩ 5000 5000 (by omega) (by omega)
        · rintro k2 j2 _ _ ⟨T, z, hT, rfl, rfl⟩
          have g8 : (8 : Int32) ≤ nI 8 := by decide
          by_cases hb : b = 0
          · refine ⟨(up X 1 (cv T), nI n, b, z, v + nI (sWhole T), nI (i + 1)), (up (up Y 12 (fun _ => z)) 1 (lN8 T), nI n, b, v + nI (sWhole T), nI (i + 1)), ?_, ?_, T, _, _, z, _, lN8_z hT, rfl, rfl⟩
            · simp only [fX1_lots_64, fX1_lots_139, g8, if_true, hb, up_s, cv_countWhole hT, clT, bnT, nI_1]
            · simp only [fX2_lots_72, fX2_lots_128, g8, if_true, hb, up_s, r_wholeOnes hT, clT, bnT, nI_1]
          · refine ⟨(up X 1 (cv T), nI n, b, z, v + nI (sAll T), nI (i + 1)), (up (up Y 12 (fun _ => z)) 1 (lN8 T), nI n, b, v + nI (sAll T), nI (i + 1)), ?_, ?_, T, _, _, z, _, lN8_z hT, rfl, rfl⟩
            · simp only [fX1_lots_64, fX1_lots_139, g8, if_true, hb, if_false, up_s, cv_countWords hT, clT, bnT, nI_1]
            · simp only [fX2_lots_72, fX2_lots_128, g8, if_true, hb, if_false, up_s, r_allWords hT, clT, bnT, nI_1]
        · rintro k2 j2 q _ _ hq ⟨T, z, hT, rfl, rfl⟩
          have g8 : ¬ (8 : Int32) ≤ nI q := fun q' => by have := (nle (a := 8) (by decide) (by omega)).mp q'; omega
          obtain ⟨m, hm, em⟩ := draw_lt (z * (1664525 : Int32) + (1013904223 : Int32))
          have hT2 : Ok (setN T 4 m) := Ok_o hT (Or.inr (Or.inr ⟨rfl, hm⟩))
          have ed := lots_d (Y := Y) (T := T) em
          right
          refine ⟨(up X 1 (cv (sNight lkE (setN T 4 m))), nI n, b, z * (1664525 : Int32) + (1013904223 : Int32), v, nI i, nI (q + 1)), (up (up Y 12 (fun _ => z * (1664525 : Int32) + (1013904223 : Int32))) 1 (lN8 (sNight lkE (setN T 4 m))), nI n, b, v, nI i, nI (q + 1)), ?_, ?_, _, _, (sNight_ok hT2).1, rfl, rfl⟩
          · exact lots_c hT hT2 g8 em k k2
          · exact lots_r hT hT2 g8 ed j j2
    · rw [e3, e4, clT, clT, if_pos rfl, if_pos rfl, cl_e, cl_e]
      exact refAg hR (by simp)
  · have hw1 : fX1_outside a 1 20 = some c := hw
    rw [hw1, clT, if_neg (c46_ne hc), cl_e]
    unfold fX1_outside at hw1
    by_cases g1 : (1 : Int32) ≤ a
    · rw [if_pos g1] at hw1 ⊢
      by_cases g2 : a ≤ (20 : Int32)
      · rw [if_pos g2] at hw1
        exact absurd (some_e hw1) (c46_ne hc)
      · rw [if_neg g2] at hw1
        have hc6 := some_e hw1
        rw [if_neg g2, cl_e, hc6]
        exact refAg hR (by simp)
    · rw [if_neg g1] at hw1 ⊢
      have hc4 := some_e hw1
      rw [cl_e, hc4]
      exact refAg hR (by simp)
end
