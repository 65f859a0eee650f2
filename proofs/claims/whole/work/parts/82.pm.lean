section
variable {X : Nat → VS} {Y : VS}
/-- an answer that changes nothing -/
theorem agS {X : Nat → VS} {Y : VS} (hR : Rel X Y) {o1 : Option (Int32 × (Nat → VS))} {o2 : Option (Int32 × VS)} (r : Int32) (h1 : o1 = some (r, X)) (h2 : o2 = some (r, Y)) : Ag o1 o2 := ⟨r, X, Y, h1, h2, hR⟩
theorem z00 : nI 0 = (0 : Int32) := rfl
theorem ne10 : ¬ (1 : Int32) = 0 := by decide
theorem p_keeps (hR : Rel X Y) (a b : Int32) : Ag (fX1_keeps X a b) (fX2_keeps Y a b) := by
  have hR' := hR
  obtain ⟨S, P, l, r, f, hp, nl, nr, hh⟩ := hR'
  have o1 := hh.1.1
  have x0 := hh.2.1.1
  have y0 := hh.2.2.1
  have h1 := o1.2.1
  rw [fX1_keeps, fX2_keeps, x0]
  rcases rdr (x := nI (S 3)) o1 y0 a with ⟨p, hp5, rfl, e1, e2⟩ | ⟨e1, e2⟩
  · rw [show fX0_hasReader (cv S) (nI p) = some 1 from e1, e2, clS, clS, if_neg ne10, if_neg ne10]
    rcases isn b 5 (by decide) with ⟨w, hw, rfl, e3⟩ | ⟨hb, e3⟩
    · have e3' : fX2_isIn (nI w) 0 5 = some 1 := e3
      have n1 : ¬ nI w < (0 : Int32) := nneg (by omega)
      have n2 : nI w < (6 : Int32) := (nlt (b := 6) (by omega) (by decide)).mpr (by omega)
      have ix : p * 6 + w = 6 * p + w := by omega
      have iy : 41 + 8 * p + (2 + w) = 43 + 8 * p + w := by omega
      refine agS hR (nI (S (43 + 8 * p + w))) ?_ ?_
      · rw [if_neg n1, if_pos n2]
        unfold cv
        simp (disch := omega) only [lit32, pk_mul, nI_add, ix, rdV8]
      · rw [e3', clS, if_neg ne10, y0]
        simp (disch := omega) only [lit32, nI_add, q_ofP, iy, clS, rdM]
    · have e3' : fX2_isIn b 0 5 = some 0 := e3
      rw [e3', clS, if_pos rfl]
      have hc : (if b < 0 then fX1_keeps_21 X else if b < 6 then rd 30 (cv S 8) (nI p * (6 : Int32) + b) (fun r5 => some (r5, X)) else fX1_keeps_21 X) = fX1_keeps_21 X := by
        rcases argN b with hn | ⟨n, hn, rfl⟩
        · rw [if_pos hn]
        · rw [if_neg (nneg hn), if_neg]
          intro q
          have := (nlt (b := 6) hn (by decide)).mp q
          exact hb n (by omega) rfl
      rw [hc, fX1_keeps_21, fX2_keeps_32, cl_e, cl_e]
      exact refAg hR (by simp)
  · rw [show fX0_hasReader (cv S) a = some 0 from e1, e2, clS, clS, if_pos rfl, if_pos rfl, fX1_keeps_21, fX2_keeps_32, cl_e, cl_e]
    exact refAg hR (by simp)
theorem p_reader (hR : Rel X Y) (a b : Int32) : Ag (fX1_reader X a b) (fX2_reader Y a b) := by
  have hR' := hR
  obtain ⟨S, P, l, r, f, hp, nl, nr, hh⟩ := hR'
  have o1 := hh.1.1
  have x0 := hh.2.1.1
  have y0 := hh.2.2.1
  have h1 := o1.2.1
  rw [fX1_reader, fX2_reader, x0]
  rcases rdr (x := nI (S 3)) o1 y0 a with ⟨p, hp5, rfl, e1, e2⟩ | ⟨e1, e2⟩
  · rw [show fX0_hasReader (cv S) (nI p) = some 1 from e1, e2, clS, clS, if_neg ne10, if_neg ne10]
    have hp5' : p < 5 := by omega
    rcases one2 b with ⟨hb, -, e3⟩ | ⟨b0, b1, -, e3⟩
    · rcases hb with rfl | rfl
      · refine agS hR (nI (S (41 + 8 * p))) ?_ ?_
        · rw [if_pos rfl]; exact rdV6 hp5'
        · rw [if_neg (by decide), e3, clS, if_neg ne10, y0]
          simp (disch := omega) only [lit32, q_ofP, Nat.add_zero, clS, rdM]
      · have iy : 41 + 8 * p + 1 = 42 + 8 * p := by omega
        refine agS hR (nI (S (42 + 8 * p))) ?_ ?_
        · rw [if_neg ne10, if_pos rfl]; exact rdV7 hp5'
        · rw [if_neg (by decide), e3, clS, if_neg ne10, y0]
          simp (disch := omega) only [lit32, q_ofP, iy, clS, rdM]
    · by_cases b2 : b = 2
      · subst b2
        refine agS hR (nI (sW S p)) ?_ ?_
        · rw [if_neg b0, if_neg b1, if_pos rfl, show fX0_wordsOf (cv S) (nI p) = some (nI (sW S p)) from c_wordsOf o1 hp5', clS]
        · rw [if_pos rfl, y0, r_wordsOf o1 hp5', clS]
      · rw [if_neg b0, if_neg b1, if_neg b2, if_neg b2, e3, clS, if_pos rfl, cl_e, cl_e]
        exact refAg hR (by simp)
  · rw [show fX0_hasReader (cv S) a = some 0 from e1, e2, clS, clS, if_pos rfl, if_pos rfl, cl_e, cl_e]
    exact refAg hR (by simp)
theorem p_stands (hR : Rel X Y) (a b : Int32) : Ag (fX1_stands X a b) (fX2_stands Y a b) := by
  have hR' := hR
  obtain ⟨S, P, l, r, f, hp, nl, nr, hh⟩ := hR'
  have o1 := hh.1.1
  have x0 := hh.2.1.1
  have y0 := hh.2.2.1
  have h1 := o1.2.1
  rw [fX1_stands, fX2_stands, x0]
  rcases rdr (x := nI (S 3)) o1 y0 a with ⟨p, hp5, rfl, e1, e2⟩ | ⟨e1, e2⟩
  · have hp5' : p < 5 := by omega
    rw [show fX0_hasReader (cv S) (nI p) = some 1 from e1, e2, clS, clS, if_neg ne10, if_neg ne10]
    rcases isn b 19 (by decide) with ⟨w, hw, rfl, e3⟩ | ⟨hb, e3⟩
    · have e3' : fX2_isIn (nI w) 0 19 = some 1 := e3
      have n1 : ¬ nI w < (0 : Int32) := nneg (by omega)
      have n2 : nI w < (20 : Int32) := (nlt (b := 20) (by omega) (by decide)).mpr (by omega)
      have hw2 : fX2_wrongBy (nI w) 0 20 = some 0 := by
        rcases wrg (nI w) 0 20 (by decide) (by decide) with ⟨n, -, -, -, q⟩ | ⟨c, hc, q⟩
        · exact q
        · unfold fX1_outside at q
          rw [if_pos ((nle (a := 0) (by omega) (by omega)).mpr (by omega)), if_pos ((nle (b := 20) (by omega) (by omega)).mpr (by omega))] at q
          exact absurd (some_e q) (c46_ne hc)
      refine ⟨nI (S (41 + 8 * p)), up X 0 (cv (setN S (41 + 8 * p) w)), up Y 0 (lN8 (setN S (41 + 8 * p) w)), ?_, ?_, relS hh (Ok_p o1 hp5 (Or.inl ⟨rfl, by omega⟩)) (by rw [setN_n _ _ (by omega)]; exact hh.1.2.1)⟩
      · rw [if_neg n1, if_pos n2]
        have hu : up (cv S) 6 (upd (cv S 6) p (nI w)) = cv (setN S (41 + 8 * p) w) := by
          unfold cv
          rw [u6 hp5' w, setN_n S w (by omega)]
        rw [show rd 5 (cv S 6) (nI p) (fun r5 => ck 5 (nI p) (bn (up X 0 (up (cv S) 6 (upd (cv S 6) (nI p).toNatClampNeg (nI w)))) (fun w6 => some (r5, w6)))) = _ from rdV6 hp5', ckN hp5' (by decide), bnE, ncl (by omega), hu]
      · rw [e3', clS, if_neg ne10]
        simp only [lit32, q_ofP, Nat.add_zero, clS]
        rw [cl_e, fX2_sets, show fX2_wrongBy (nI w) 0 (nI 20) = some 0 from hw2, clS, if_pos rfl, y0]
        simp (disch := omega) only [rdM, ckN, ncl, lN8_up, bnE]
    · have e3' : fX2_isIn b 0 19 = some 0 := e3
      rw [e3', clS, if_pos rfl]
      have hc : ∀ z : Option (Int32 × (Nat → VS)), (if b < 0 then fX1_stands_21 X else if b < 20 then z else fX1_stands_21 X) = fX1_stands_21 X := by
        intro z
        rcases argN b with hn | ⟨n, hn, rfl⟩
        · rw [if_pos hn]
        · rw [if_neg (nneg hn), if_neg]
          intro q
          have := (nlt (b := 20) hn (by decide)).mp q
          exact hb n (by omega) rfl
      rw [hc, fX1_stands_21, fX2_stands_33, cl_e, cl_e]
      exact refAg hR (by simp)
  · rw [show fX0_hasReader (cv S) a = some 0 from e1, e2, clS, clS, if_pos rfl, if_pos rfl, fX1_stands_21, fX2_stands_33, cl_e, cl_e]
    exact refAg hR (by simp)
theorem p_sends (hR : Rel X Y) (a : Int32) : Ag (fX1_sends X a) (fX2_sends Y a) := by
  have hR' := hR
  obtain ⟨S, P, l, r, f, hp, nl, nr, hh⟩ := hR'
  have o1 := hh.1.1
  have x0 := hh.2.1.1
  have y0 := hh.2.2.1
  have h0 := o1.1
  rw [fX1_sends, fX2_sends, x0, y0]
  rcases rkt (x := nI (S 3)) o1 y0 a with ⟨t, ht, rfl, e1, e2⟩ | ⟨e1, e2⟩
  · have hl := sCan_le S t
    rw [show fX0_hasRocket (cv S) (nI t) = some 1 from e1, e2, clS, clS, if_neg ne10, if_neg ne10, c_canSend o1 (show t < 100 by omega), r_canGo o1 (show t < 9 by omega), clS, clS, if_pos ht]
    rcases (show sCan S t = 0 ∨ sCan S t = 1 by omega) with c | c
    · rw [c, if_pos z00, if_pos z00, cl_e, cl_e]
      exact refAg hR (by simp)
    · have ok := sSend_ok (lk := fun p => 31 / 2 ^ p % 2) o1 ht
      have n1 : ¬ nI 1 = (0 : Int32) := ne10
      rw [c, if_neg n1, if_neg n1, show fX0_sendUp (cv S) (nI t) 31 = some (cv (sSend (fun p => 31 / 2 ^ p % 2) S t)) from c_send o1 (e := 31) ht (by decide) c, r_sendsIn o1 ht (lkA rfl) c, clS, clS, bnE, bnE]
      refine ⟨nI (sSend (fun p => 31 / 2 ^ p % 2) S t 3), up X 0 (cv (sSend (fun p => 31 / 2 ^ p % 2) S t)), up Y 0 (lN8 (sSend (fun p => 31 / 2 ^ p % 2) S t)), ?_, ?_, relS hh ok.1 (by rw [ok.2.2.2.1]; exact hh.1.2.1)⟩
      · rw [up_s]; rfl
      · rw [up_s]
        exact rdM (S := sSend (fun p => 31 / 2 ^ p % 2) S t) (a := 3) (by decide)
  · rw [show fX0_hasRocket (cv S) a = some 0 from e1, e2, clS, clS, if_pos rfl, if_pos rfl, cl_e, cl_e]
    exact refAg hR (by simp)
end
