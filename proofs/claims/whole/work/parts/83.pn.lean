def lkE : Nat → Nat := fun p => 31 / 2 ^ p % 2
section
variable {X : Nat → VS} {Y : VS} {S : Nat → Nat}
theorem c_pass (h : Ok S) {n : Nat} (hn : n ≤ 60) : fX0_passNights (cv S) (nI n) 31 = some (cv (sNights lkE n S)) := c_passNights (e := 31) h hn (by decide)
theorem r_pass (h : Ok S) {n : Nat} (hn : n ≤ 60) : fX2_nightsOn (lN8 S) (nI n) (-1) = some (lN8 (sNights lkE n S)) := r_nightsOn h hn (lkA rfl)
theorem r_night1 (h : Ok S) : fX2_night (lN8 S) (-1) = some (lN8 (sNight lkE S)) := r_night h (lkA rfl)
theorem c_night1 (h : Ok S) : fX0_passNights (cv S) 1 31 = some (cv (sNight lkE S)) := c_pass (n := 1) h (by decide)
theorem c_think (h : Ok S) (x0 : X 0 = cv S) (x1 : ∃ T y, X 1 = cw T y) {n : Nat} (hn : n ≤ 60) : fX1_thinkOn X (nI n) = some (up X 1 (cv (sNights lkE n S))) := by
  obtain ⟨T, y, x1⟩ := x1
  have e : fX0_copyFrom (X 1) (X 0) = some (cv S) := by rw [x1, x0]; exact c_copyFrom T y
  rw [fX1_thinkOn, e, clS, bnE, up_s, c_pass h hn, clS, bnE, up_up]
theorem r_takes (h : Ok S) (y0 : Y 0 = lN8 S) (y1 : ∀ j, 81 ≤ j → Y 1 j = 0) {n : Nat} (hn : n ≤ 60) : fX2_takes Y (nI n) = some (up Y 1 (lN8 (sNights lkE n S))) := by
  have e : fX2_copies (Y 0) (Y 1) = some (lN8 S) := by rw [y0]; exact r_copies h y1
  rw [fX2_takes, e, clS, bnE, up_s, r_pass h hn, clS, bnE, up_up]
theorem relT (hR : Rel X Y) {T : Nat → Nat} (h : Ok T) : Rel (up X 1 (cv T)) (up Y 1 (lN8 T)) := relM hR T _ (lN8_z h)
theorem p_nights (hR : Rel X Y) (a : Int32) : Ag (fX1_nights X a) (fX2_nights Y a) := by
  have hR' := hR
  obtain ⟨S, P, l, r, f, hp, nl, nr, hh⟩ := hR'
  have o1 := hh.1.1
  have o2 := hh.1.2.1
  have x0 := hh.2.1.1
  have y0 := hh.2.2.1
  rw [fX1_nights, fX2_nights, y0]
  have e2 : ∀ {β : Type} {K : Int32 → Option β}, rd 81 (lN8 S) 2 K = K (nI (S 2)) := rdM (a := 2) (by decide)
  rcases wrg a 1 60 (by decide) (by decide) with ⟨n, hn1, hn2, rfl, hw⟩ | ⟨c, hc, hw⟩
  · have hw1 : fX1_outside (nI n) 1 60 = some 0 := hw
    have g1 : (1 : Int32) ≤ nI n := (nle (a := 1) (by decide) (by omega)).mpr hn1
    have g2 : ¬ (60 : Int32) < nI n := fun q => by have := (nlt (a := 60) (by decide) (by omega)).mp q; omega
    have e11 : X 0 11 0 = nI (S 2) := by rw [x0]; rfl
    have g3 : (nI (S 2) + nI n ≤ (999 : Int32)) ↔ S 2 + n ≤ 999 := by rw [nI_add]; exact nle (b := 999) (by omega) (by decide)
    rw [hw1, clS, if_pos rfl, if_pos g1, if_neg g2, e2, e11]
    by_cases c : S 2 + n ≤ 999
    · have ok := sNights_ok (lk := lkE) o1 n
      rw [if_pos (g3.mpr c), if_pos (g3.mpr c), x0, c_pass o1 hn2, r_pass o1 hn2, clS, clS, bnE, bnE]
      refine ⟨nI (sNights lkE n S 3), up X 0 (cv (sNights lkE n S)), up Y 0 (lN8 (sNights lkE n S)), ?_, ?_, relS hh ok.1 (by rw [ok.2.2.2.1]; exact c)⟩
      · rw [up_s]; rfl
      · rw [up_s]
        exact rdM (S := sNights lkE n S) (a := 3) (by decide)
    · rw [if_neg (fun q => c (g3.mp q)), if_neg (fun q => c (g3.mp q)), fX2_nights_32, cl_e, cl_e]
      exact refAg hR (by simp)
  · have hw1 : fX1_outside a 1 60 = some c := hw
    rw [hw1, clS, if_neg (c46_ne hc), cl_e]
    unfold fX1_outside at hw1
    by_cases g1 : (1 : Int32) ≤ a
    · rw [if_pos g1] at hw1 ⊢
      by_cases g2 : a ≤ (60 : Int32)
      · rw [if_pos g2] at hw1
        exact absurd (some_e hw1) (c46_ne hc)
      · rw [if_neg g2] at hw1
        have hc6 := some_e hw1
        rw [if_pos (Int32.not_le.mp g2), fX2_nights_32, cl_e, hc6]
        exact refAg hR (by simp)
    · rw [if_neg g1] at hw1 ⊢
      have hc4 := some_e hw1
      rw [cl_e, hc4]
      exact refAg hR (by simp)
theorem p_wordsThen (hR : Rel X Y) (a b : Int32) : Ag (fX1_wordsThen X a b) (fX2_wordsThen Y a b) := by
  have hR' := hR
  obtain ⟨S, P, l, r, f, hp, nl, nr, hh⟩ := hR'
  have o1 := hh.1.1
  have x0 := hh.2.1.1
  have y0 := hh.2.2.1
  have h1 := o1.2.1
  rw [fX1_wordsThen, fX2_wordsThen, x0]
  rcases rdr (x := nI (S 3)) o1 y0 a with ⟨p, hp5, rfl, e1, e2⟩ | ⟨e1, e2⟩
  · have hp5' : p < 5 := by omega
    rw [show fX0_hasReader (cv S) (nI p) = some 1 from e1, e2, clS, clS, if_neg ne10, if_neg ne10]
    rcases wrg b 0 60 (by decide) (by decide) with ⟨n, -, hn, rfl, hw⟩ | ⟨c, hc, hw⟩
    · have hw1 : fX1_outside (nI n) 0 60 = some 0 := hw
      have hw2 : fX2_wrongBy (nI n) 0 60 = some 0 := hw
      have ok := (sNights_ok (lk := lkE) o1 n).1
      rw [hw1, hw2, clS, clS, if_pos rfl, fX2_wordsThen_19]
      simp only [if_true]
      rw [c_think o1 x0 hh.2.1.2.1 hn, r_takes o1 y0 hh.2.2.2.1 hn, clS, clS, up_s, up_s, show fX0_wordsOf (cv (sNights lkE n S)) (nI p) = some (nI (sW (sNights lkE n S) p)) from c_wordsOf ok hp5', r_wordsOf ok hp5', clS, clS]
      exact ⟨_, _, _, rfl, rfl, relT hR ok⟩
    · have hw1 : fX1_outside b 0 60 = some c := hw
      have hw2 : fX2_wrongBy b 0 60 = some c := hw
      have hc0 := c46_ne hc
      rw [hw1, hw2, clS, clS, if_neg hc0, fX2_wordsThen_19]
      simp only [hc0, if_false]
      rw [cl_e, cl_e]
      exact refAg hR (c46 hc)
  · have hm : ¬ (-1 : Int32) = 0 := by decide
    rw [show fX0_hasReader (cv S) a = some 0 from e1, e2, clS, clS, if_pos rfl, if_pos rfl, fX2_wordsThen_19]
    simp only [hm, if_false]
    rw [cl_e, cl_e]
    exact refAg hR (by simp)
theorem p_then (hR : Rel X Y) (a b : Int32) : Ag (fX1_then X a b) (fX2_then Y a b) := by
  have hR' := hR
  obtain ⟨S, P, l, r, f, hp, nl, nr, hh⟩ := hR'
  have o1 := hh.1.1
  have x0 := hh.2.1.1
  have y0 := hh.2.2.1
  rw [fX1_then, fX2_then]
  rcases wrg a 0 60 (by decide) (by decide) with ⟨n, -, hn, rfl, hw⟩ | ⟨c, hc, hw⟩
  · have hw1 : fX1_outside (nI n) 0 60 = some 0 := hw
    have hw2 : fX2_wrongBy (nI n) 0 60 = some 0 := hw
    have ok := (sNights_ok (lk := lkE) o1 n).1
    rw [hw1, hw2, clS, clS, if_pos rfl, if_pos rfl]
    rcases one2 b with ⟨hb, e3, e4⟩ | ⟨b0, b1, e3, e4⟩
    · rw [e3, e4, clS, clS, if_neg ne10, if_neg ne10, fX2_then_24]
      simp only [if_true]
      rw [c_think o1 x0 hh.2.1.2.1 hn, r_takes o1 y0 hh.2.2.2.1 hn, clS, clS, up_s, up_s]
      rcases hb with rfl | rfl
      · rw [if_pos rfl, if_pos rfl]
        refine ⟨nI (sNights lkE n S 3), _, _, rfl, ?_, relT hR ok⟩
        exact rdM (S := sNights lkE n S) (a := 3) (by decide)
      · rw [if_neg ne10, if_neg ne10, r_sentIn ok, clS]
        exact ⟨nI (sentN (sNights lkE n S)), _, _, rfl, rfl, relT hR ok⟩
    · have hm : ¬ (-2 : Int32) = 0 := by decide
      rw [e3, e4, clS, clS, if_pos rfl, if_pos rfl, fX2_then_24]
      simp only [hm, if_false]
      rw [cl_e, cl_e]
      exact refAg hR (by simp)
  · have hw1 : fX1_outside a 0 60 = some c := hw
    have hw2 : fX2_wrongBy a 0 60 = some c := hw
    have hc0 := c46_ne hc
    rw [hw1, hw2, clS, clS, if_neg hc0, if_neg hc0, fX2_then_24]
    simp only [hc0, if_false]
    rw [cl_e, cl_e]
    exact refAg hR (c46 hc)
theorem p_boxes (hR : Rel X Y) (a : Int32) : Ag (fX1_boxes X a) (fX2_boxes Y a) := by
  have hR' := hR
  obtain ⟨S, P, l, r, f, hp, nl, nr, hh⟩ := hR'
  have o1 := hh.1.1
  have x0 := hh.2.1.1
  have y0 := hh.2.2.1
  have h0 := o1.1
  rw [fX1_boxes, fX2_boxes, x0, y0]
  rcases rkt (x := nI (S 3)) o1 y0 a with ⟨t, ht, rfl, e1, e2⟩ | ⟨e1, e2⟩
  · have ht9 : t < 9 := by omega
    have hs := (o1.2.2.2.2.1 t ht9).2.2.2
    have ix : fX2_ofR (nI t) 3 = some (nI (8 + 4 * t)) := by rw [show 8 + 4 * t = 5 + 4 * t + 3 by omega]; exact q_ofR t 3
    rw [show fX0_hasRocket (cv S) (nI t) = some 1 from e1, e2, clS, clS, if_neg ne10, if_neg ne10, show fX0_isSent (cv S) (nI t) = some (nI (S (8 + 4 * t))) from c_isSent o1 ht9, ix, clS, clS, rdM (show 8 + 4 * t < 81 by omega)]
    rcases (show S (8 + 4 * t) = 0 ∨ S (8 + 4 * t) = 1 by omega) with c | c
    · rw [c, if_pos z00, if_pos z00, cl_e, cl_e]
      exact refAg hR (by simp)
    · have n1 : ¬ nI 1 = (0 : Int32) := ne10
      have ok : Ok (setN S (8 + 4 * t) 0) := Ok_s o1 ht (by omega)
      have hl : sentN (setN S (8 + 4 * t) 0) < 512 := bitsN_lt (n := 9) (fun i hi => (ok.2.2.2.2.1 i hi).2.2.2)
      have hpb : fX0_putBack (cv S) (nI t) = some (cv (setN S (8 + 4 * t) 0)) := by
        unfold cv
        rw [c_putBack o1 ht9, setN_n S 0 (by omega)]
      rw [c, if_neg n1, if_neg n1, hpb, clS, clS, bnE, up_s, ckN (show 8 + 4 * t < 81 by omega) (by decide), bnE, ncl (by omega), show upd (lN8 S) (8 + 4 * t) 0 = lN8 (setN S (8 + 4 * t) 0) from lN8_up S (8 + 4 * t) 0, up_s, r_sentIn ok]
      simp only [clS, q_bits _ hl]
      have e4 : cv (setN S (8 + 4 * t) 0) 4 0 = nI (sentN (setN S (8 + 4 * t) 0)) := rfl
      rw [e4, q_bitCount _ hl, clS]
      refine ⟨nI (setN S (8 + 4 * t) 0 0) - nI (pop (sentN (setN S (8 + 4 * t) 0))), up X 0 (cv (setN S (8 + 4 * t) 0)), up Y 0 (lN8 (setN S (8 + 4 * t) 0)), rfl, ?_, relS hh ok (by rw [setN_n _ _ (by omega)]; exact hh.1.2.1)⟩
      exact rdM (S := setN S (8 + 4 * t) 0) (a := 0) (by decide)
  · rw [show fX0_hasRocket (cv S) a = some 0 from e1, e2, clS, clS, if_pos rfl, if_pos rfl, cl_e, cl_e]
    exact refAg hR (by simp)
end
