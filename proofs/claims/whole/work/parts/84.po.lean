section
variable {X : Nat → VS} {Y : VS}
theorem p_turn (hR : Rel X Y) (a b d : Int32) : Ag (fX1_turn X a b d) (fX2_turn Y a b d) := by
  have hR' := hR
  obtain ⟨S, P, l, r, f, hp, nl, nr, hh⟩ := hR'
  have o1 := hh.1.1
  have x0 := hh.2.1.1
  have y0 := hh.2.2.1
  have h0 := o1.1
  rw [fX1_turn, fX2_turn, x0]
  rcases rkt (x := nI (S 3)) o1 y0 a with ⟨t, ht, rfl, e1, e2⟩ | ⟨e1, e2⟩
  · have ht9 : t < 9 := by omega
    rw [show fX0_hasRocket (cv S) (nI t) = some 1 from e1, e2, clS, clS, if_neg ne10, if_neg ne10]
    rcases isn b 5 (by decide) with ⟨k, hk, rfl, e3⟩ | ⟨hb, e3⟩
    · have e3' : fX2_isIn (nI k) 0 5 = some 1 := e3
      have n1 : ¬ nI k < (0 : Int32) := nneg (by omega)
      have n2 : nI k < (6 : Int32) := (nlt (b := 6) (by omega) (by decide)).mpr (by omega)
      rw [if_neg n1, if_pos n2, e3', clS, if_neg ne10]
      rcases wrg d 0 9 (by decide) (by decide) with ⟨g, -, hg, rfl, hw⟩ | ⟨c, hc, hw⟩
      · have hw1 : fX1_outside (nI g) 0 9 = some 0 := hw
        have hw2 : fX2_wrongBy (nI g) 0 9 = some 0 := hw
        have ok1 : Ok (setN S (5 + 4 * t) k) := Ok_r o1 ht (Or.inl ⟨rfl, by omega⟩)
        have ok2 : Ok (setN (setN S (5 + 4 * t) k) (6 + 4 * t) g) := Ok_r ok1 (t := t) (by rw [setN_n _ _ (by omega)]; exact ht) (Or.inr (Or.inl ⟨rfl, hg⟩))
        refine ⟨nI (10 * S (5 + 4 * t) + S (6 + 4 * t)), up X 0 (cv (setN (setN S (5 + 4 * t) k) (6 + 4 * t) g)), up Y 0 (lN8 (setN (setN S (5 + 4 * t) k) (6 + 4 * t) g)), ?_, ?_, relS hh ok2 (by rw [setN_n _ _ (by omega), setN_n _ _ (by omega)]; exact hh.1.2.1)⟩
        · have hu1 : up (cv S) 1 (upd (cv S 1) t (nI k)) = cv (setN S (5 + 4 * t) k) := by
            unfold cv
            rw [u1 ht9 k, setN_n S k (by omega)]
          have hu2 : up (cv (setN S (5 + 4 * t) k)) 2 (upd (cv (setN S (5 + 4 * t) k) 2) t (nI g)) = cv (setN (setN S (5 + 4 * t) k) (6 + 4 * t) g) := by
            unfold cv
            rw [u2 ht9 g, setN_n (setN S (5 + 4 * t) k) g (by omega)]
          have q1 : ∀ {β : Type} {K : Int32 → Option β}, rd 9 (cv S 1) (nI t) K = K (nI (S (5 + 4 * t))) := rdV1 ht9
          have q2 : ∀ {β : Type} {K : Int32 → Option β}, rd 9 (cv S 2) (nI t) K = K (nI (S (6 + 4 * t))) := rdV2 ht9
          rw [hw1, clS, if_pos rfl]
          simp (disch := omega) only [lit32, q1, q2, bnE, ckN, ncl, hu1, up_s, up_up, hu2, pk_mul, nI_add]
        · have ix : fX2_ofR (nI t) (nI 1) = some (nI (6 + 4 * t)) := by rw [show 6 + 4 * t = 5 + 4 * t + 1 by omega]; exact q_ofR t 1
          rw [hw2, clS, fX2_turn_33]
          simp (disch := omega) only [if_true, lit32, ix, q_ofR, Nat.add_zero, clS, y0, rdM, bnE, ckN, ncl, lN8_up, up_s, up_up, pk_mul, nI_add]
      · have hw1 : fX1_outside d 0 9 = some c := hw
        have hw2 : fX2_wrongBy d 0 9 = some c := hw
        have hc0 := c46_ne hc
        rw [hw1, hw2, clS, clS, if_neg hc0, fX2_turn_33]
        simp only [hc0, if_false]
        rw [cl_e, cl_e]
        exact refAg hR (c46 hc)
    · have e3' : fX2_isIn b 0 5 = some 0 := e3
      have hm : ¬ (-2 : Int32) = 0 := by decide
      rw [e3', clS, if_pos rfl, fX2_turn_33]
      have hc : ∀ z : Option (Int32 × (Nat → VS)), (if b < 0 then fX1_turn_27 X else if b < 6 then z else fX1_turn_27 X) = fX1_turn_27 X := by
        intro z
        rcases argN b with hn | ⟨n, hn, rfl⟩
        · rw [if_pos hn]
        · rw [if_neg (nneg hn), if_neg]
          intro q
          have := (nlt (b := 6) hn (by decide)).mp q
          exact hb n (by omega) rfl
      simp only [hm, if_false]
      rw [hc, fX1_turn_27, cl_e, cl_e]
      exact refAg hR (by simp)
  · have hm : ¬ (-1 : Int32) = 0 := by decide
    rw [show fX0_hasRocket (cv S) a = some 0 from e1, e2, clS, clS, if_pos rfl, if_pos rfl, fX2_turn_33]
    simp only [hm, if_false]
    rw [cl_e, cl_e]
    exact refAg hR (by simp)
theorem p_rocket (hR : Rel X Y) (a b : Int32) : Ag (fX1_rocket X a b) (fX2_rocket Y a b) := by
  have hR' := hR
  obtain ⟨S, P, l, r, f, hp, nl, nr, hh⟩ := hR'
  have o1 := hh.1.1
  have x0 := hh.2.1.1
  have y0 := hh.2.2.1
  have h0 := o1.1
  rw [fX1_rocket, fX2_rocket, x0]
  rcases rkt (x := nI (S 3)) o1 y0 a with ⟨t, ht, rfl, e1, e2⟩ | ⟨e1, e2⟩
  · have ht9 : t < 9 := by omega
    have hk := (o1.2.2.2.2.1 t ht9).1
    have hf := (o1.2.2.2.2.1 t ht9).2.1
    have hs := (o1.2.2.2.2.1 t ht9).2.2.2
    have g0 : fX2_ofR (nI t) 0 = some (nI (5 + 4 * t)) := q_ofR t 0
    have g1 : fX2_ofR (nI t) 1 = some (nI (6 + 4 * t)) := by rw [show 6 + 4 * t = 5 + 4 * t + 1 by omega]; exact q_ofR t 1
    have g2 : fX2_ofR (nI t) 2 = some (nI (7 + 4 * t)) := by rw [show 7 + 4 * t = 5 + 4 * t + 2 by omega]; exact q_ofR t 2
    have g3 : fX2_ofR (nI t) 3 = some (nI (8 + 4 * t)) := by rw [show 8 + 4 * t = 5 + 4 * t + 3 by omega]; exact q_ofR t 3
    have m0 : ∀ {β : Type} {K : Int32 → Option β}, rd 81 (Y 0) (nI (5 + 4 * t)) K = K (nI (S (5 + 4 * t))) := by intro β K; rw [y0]; exact rdM (by omega)
    have m1 : ∀ {β : Type} {K : Int32 → Option β}, rd 81 (Y 0) (nI (6 + 4 * t)) K = K (nI (S (6 + 4 * t))) := by intro β K; rw [y0]; exact rdM (by omega)
    have m2 : ∀ {β : Type} {K : Int32 → Option β}, rd 81 (Y 0) (nI (7 + 4 * t)) K = K (nI (S (7 + 4 * t))) := by intro β K; rw [y0]; exact rdM (by omega)
    have m3 : ∀ {β : Type} {K : Int32 → Option β}, rd 81 (Y 0) (nI (8 + 4 * t)) K = K (nI (S (8 + 4 * t))) := by intro β K; rw [y0]; exact rdM (by omega)
    have q1 : ∀ {β : Type} {K : Int32 → Option β}, rd 9 (cv S 1) (nI t) K = K (nI (S (5 + 4 * t))) := rdV1 ht9
    have q2 : ∀ {β : Type} {K : Int32 → Option β}, rd 9 (cv S 2) (nI t) K = K (nI (S (6 + 4 * t))) := rdV2 ht9
    have q3 : ∀ {β : Type} {K : Int32 → Option β}, rd 9 (cv S 3) (nI t) K = K (nI (S (7 + 4 * t))) := rdV3 ht9
    rw [show fX0_hasRocket (cv S) (nI t) = some 1 from e1, e2, clS, clS, if_neg ne10, if_neg ne10, g0, clS, m0, g1, clS, m1]
    by_cases c0 : b = 0
    · subst c0
      exact agS hR (nI (S (5 + 4 * t))) (by rw [if_pos rfl, q1]) (by rw [if_pos rfl, fX2_rocket_88]; simp only [g0, clS, m0])
    rw [if_neg c0, if_neg c0]
    by_cases c1 : b = 1
    · subst c1
      exact agS hR (nI (S (6 + 4 * t))) (by rw [if_pos rfl, q2]) (by rw [if_pos rfl, fX2_rocket_88]; simp only [g1, clS, m1])
    rw [if_neg c1, if_neg c1]
    by_cases c2 : b = 2
    · subst c2
      exact agS hR (nI (S (7 + 4 * t))) (by rw [if_pos rfl, q3]) (by rw [if_pos rfl, fX2_rocket_88]; simp only [g2, clS, m2])
    rw [if_neg c2, if_neg c2]
    by_cases c3 : b = 3
    · subst c3
      refine agS hR (nI (S (8 + 4 * t))) ?_ (by rw [if_pos rfl, fX2_rocket_88]; simp only [g3, clS, m3])
      rw [if_pos rfl, show fX0_isSent (cv S) (nI t) = some (nI (S (8 + 4 * t))) from c_isSent o1 ht9, clS]
      rcases (show S (8 + 4 * t) = 0 ∨ S (8 + 4 * t) = 1 by omega) with c | c <;> rw [c] <;> rfl
    rw [if_neg c3, if_neg c3]
    by_cases c4 : b = 4
    · subst c4
      exact agS hR (nI (sCost (S (5 + 4 * t)))) (by rw [if_pos rfl, show fX0_costOf (cv S) (nI t) = _ from c_costOf o1 ht9, clS]) (by rw [if_pos rfl, q_costBy _ hk, clS])
    rw [if_neg c4, if_neg c4]
    by_cases c5 : b = 5
    · subst c5
      exact agS hR (nI (sReach (S (5 + 4 * t)) (S (6 + 4 * t)))) (by rw [if_pos rfl, show fX0_reachOf (cv S) (nI t) = _ from c_reachOf o1 ht9, clS]) (by rw [if_pos rfl, q_reachBy _ hk _ (by omega), clS])
    rw [if_neg c5, if_neg c5]
    by_cases c6 : b = 6
    · subst c6
      exact agS hR (nI (sDark (S (5 + 4 * t)) (S (6 + 4 * t)))) (by rw [if_pos rfl, show fX0_darkOf (cv S) (nI t) = _ from c_darkOf o1 ht9, clS]) (by rw [if_pos rfl, q_darkBy _ hk _ (by omega), clS])
    rw [if_neg c6, if_neg c6]
    by_cases c7 : b = 7
    · subst c7
      exact agS hR (nI (sBurst (S (5 + 4 * t)) (S 4))) (by rw [if_pos rfl, show fX0_burstOf (cv S) (nI t) = _ from c_burstOf o1 ht9, clS]) (by rw [if_pos rfl, y0, r_burstsAt o1 ht9, clS])
    rw [if_neg c7, if_neg c7]
    by_cases c8 : b = 8
    · subst c8
      exact agS hR (nI (sReaders S t)) (by rw [if_pos rfl, show fX0_readersOf (cv S) (nI t) = _ from c_readersOf o1 ht9, clS]) (by rw [if_pos rfl, y0, r_readers o1 ht9, clS])
    rw [if_neg c8, if_neg c8, cl_e, cl_e]
    exact refAg hR (by simp)
  · rw [show fX0_hasRocket (cv S) a = some 0 from e1, e2, clS, clS, if_pos rfl, if_pos rfl, cl_e, cl_e]
    exact refAg hR (by simp)
theorem p_count (hR : Rel X Y) (a : Int32) : ∃ r, fX1_count X a = some r ∧ fX2_count Y a = some r := by
  obtain ⟨S, P, l, r, f, hp, nl, nr, ⟨o1, o2, o3, o4, o5, o6, o7, o8, o9⟩, ⟨x0, x1, x2, x2', x3, x4, x5, x6, x7, x8⟩, ⟨y0, y1, y2, y3, y2', y4, y5, y6, y7, y8, y9⟩⟩ := hR
  have i1 : ∀ {k : Nat}, k < 11 → fX2_isIn (nI k) 11 16 = some 0 := fun {k} hk => by
    have q : nI k < (11 : Int32) := (nlt (b := 11) (by omega) (by decide)).mpr hk
    unfold fX2_isIn
    rw [if_pos q]
  have m : ∀ {k : Nat}, k < 81 → fX2_count_68 Y (nI k) = some (nI (S k)) := fun {k} hk => by
    rw [fX2_count_68, y0]; exact rdM hk
  rw [fX1_count, fX2_count, x0]
  by_cases c0 : a = 0
  · subst c0
    exact ⟨nI (S 0), by rw [if_pos rfl]; rfl, by rw [show fX2_isIn 0 11 16 = some 0 from i1 (k := 0) (by decide), clS, if_pos rfl, if_pos rfl]; exact m (k := 0) (by decide)⟩
  rw [if_neg c0, if_neg c0]
  by_cases c1 : a = 1
  · subst c1
    exact ⟨nI (S 1), by rw [if_pos rfl]; rfl, by rw [show fX2_isIn 1 11 16 = some 0 from i1 (k := 1) (by decide), clS, if_pos rfl, if_pos rfl]; exact m (k := 1) (by decide)⟩
  rw [if_neg c1, if_neg c1]
  by_cases c2 : a = 2
  · subst c2
    exact ⟨nI (S 2), by rw [if_pos rfl]; rfl, by rw [show fX2_isIn 2 11 16 = some 0 from i1 (k := 2) (by decide), clS, if_pos rfl, if_pos rfl]; exact m (k := 2) (by decide)⟩
  rw [if_neg c2, if_neg c2]
  by_cases c3 : a = 3
  · subst c3
    exact ⟨nI (S 3), by rw [if_pos rfl]; rfl, by rw [show fX2_isIn 3 11 16 = some 0 from i1 (k := 3) (by decide), clS, if_pos rfl, if_pos rfl]; exact m (k := 3) (by decide)⟩
  rw [if_neg c3, if_neg c3]
  by_cases c4 : a = 4
  · subst c4
    exact ⟨nI (sentN S), by rw [if_pos rfl]; rfl, by rw [show fX2_isIn 4 11 16 = some 0 from i1 (k := 4) (by decide), clS, if_pos rfl, if_pos rfl, y0, r_sentIn o1, clS]⟩
  rw [if_neg c4, if_neg c4]
  by_cases c5 : a = 5
  · subst c5
    exact ⟨nI (sAll S), by rw [if_pos rfl, show fX0_countWords (cv S) = _ from c_countWords o1, clS], by rw [show fX2_isIn 5 11 16 = some 0 from i1 (k := 5) (by decide), clS, if_pos rfl, if_pos rfl, y0, r_allWords o1, clS]⟩
  rw [if_neg c5, if_neg c5]
  by_cases c6 : a = 6
  · subst c6
    exact ⟨nI nr, by rw [if_pos rfl, x7], by rw [show fX2_isIn 6 11 16 = some 0 from i1 (k := 6) (by decide), clS, if_pos rfl, if_pos rfl, y9]⟩
  rw [if_neg c6, if_neg c6]
  by_cases c7 : a = 7
  · subst c7
    exact ⟨nI nl, by rw [if_pos rfl, x5], by rw [show fX2_isIn 7 11 16 = some 0 from i1 (k := 7) (by decide), clS, if_pos rfl, if_pos rfl, y8]⟩
  rw [if_neg c7, if_neg c7, cl_e1]
  -- 11 .. 16, or none
  by_cases hin : ∃ k, 1 ≤ k ∧ k ≤ 6 ∧ a = nI (10 + k)
  · obtain ⟨k, hk1, hk2, rfl⟩ := hin
    have e1 : nI (10 + k) - (10 : Int32) = nI k := by
      have := pk_sub (a := 10 + k) (b := 10) (by omega)
      rw [show 10 + k - 10 = k by omega] at this
      exact this
    have e2 : fX2_isIn (nI (10 + k)) 11 16 = some 1 := by
      unfold fX2_isIn
      rw [if_neg (fun q => by have := (nlt (b := 11) (by omega) (by decide)).mp q; omega), if_neg (fun q => by have := (nlt (a := 16) (by decide) (by omega)).mp q; omega)]
    refine ⟨nI (f k), ?_, ?_⟩
    · rw [e1, fX1_refusalsOf, if_neg (fun q => by have := (nlt (b := 1) (by omega) (by decide)).mp q; omega), if_neg (fun q => by have := (nlt (a := 6) (by decide) (by omega)).mp q; omega), x8]
      exact rdN (f := lN8 f) (show k < 7 by omega) (by decide)
    · rw [e2, clS, if_neg ne10, e1, y7]
      exact rdN (f := lN8 f) (show k < 7 by omega) (by decide)
  · refine ⟨-9, ?_, ?_⟩
    · rw [fX1_refusalsOf]
      by_cases g1 : a - (10 : Int32) < 1
      · rw [if_pos g1]; rfl
      · rw [if_neg g1]
        by_cases g2 : (6 : Int32) < a - (10 : Int32)
        · rw [if_pos g2]; rfl
        · exfalso
          rcases argN (a - (10 : Int32)) with hn | ⟨n, hn, e⟩
          · exact g1 (neg_lt (n := 1) hn (by decide))
          · rw [e] at g1 g2
            have q1 : 1 ≤ n := by
              by_cases z : 1 ≤ n
              · exact z
              · exact absurd ((nlt (b := 1) hn (by decide)).mpr (by omega)) g1
            have q2 : n ≤ 6 := by
              by_cases z : n ≤ 6
              · exact z
              · exact absurd ((nlt (a := 6) (by decide) hn).mpr (by omega)) g2
            refine hin ⟨n, q1, q2, ?_⟩
            have : a = nI n + (10 : Int32) := by rw [← e, Int32.sub_add_cancel]
            rw [this, lit32, nI_add, Nat.add_comm]
    · have e2 : fX2_isIn a 11 16 = some 0 := by
        unfold fX2_isIn
        rcases argN a with hn | ⟨n, hn, rfl⟩
        · have q : a < (11 : Int32) := neg_lt (n := 11) hn (by decide)
          rw [if_pos q]
        · by_cases z : n < 11
          · have q : nI n < (11 : Int32) := (nlt (b := 11) hn (by decide)).mpr z
            rw [if_pos q]
          · have q : ¬ nI n < (11 : Int32) := fun q => z ((nlt (b := 11) hn (by decide)).mp q)
            rw [if_neg q]
            by_cases z2 : 16 < n
            · have q2 : (16 : Int32) < nI n := (nlt (a := 16) (by decide) hn).mpr z2
              rw [if_pos q2]
            · exact absurd ⟨n - 10, by omega, by omega, by rw [show 10 + (n - 10) = n by omega]⟩ hin
      rw [e2, clS, if_pos rfl]
end
