theorem up_up {α : Type} (g : Nat → α) (k : Nat) (a b : α) : up (up g k a) k b = up g k b := funext fun j => by
  by_cases e : j = k
  · subst e; rw [up_s, up_s]
  · rw [up_n _ _ e, up_n _ _ e, up_n _ _ e]
theorem un45 {α : Type} (g : Nat → α) (a : α) : up g 4 a 5 = g 5 := rfl
theorem un67 {α : Type} (g : Nat → α) (a : α) : up g 6 a 7 = g 7 := rfl
theorem un58 {α : Type} (g : Nat → α) (a : α) : up g 5 a 8 = g 8 := rfl
theorem un69 {α : Type} (g : Nat → α) (a : α) : up g 6 a 9 = g 9 := rfl
section
variable {X : Nat → VS} {Y : VS}
theorem p_letter (hR : Rel X Y) (a : Int32) : Ag (fX1_letter X a) (fX2_letter Y a) := by
  have hR' := hR
  obtain ⟨S, P, l, r, f, hp, nl, nr, ⟨o1, o2, o3, o4, o5, o6, o7, o8, o9⟩, ⟨x0, x1, x2, x2', x3, x4, x5, x6, x7, x8⟩, ⟨y0, y1, y2, y3, y2', y4, y5, y6, y7, y8, y9⟩⟩ := hR'
  have ex : X 3 5 0 = nI nl := congrFun x5 0
  have ey : Y 8 0 = nI nl := congrFun y8 0
  rcases argN a with hn | ⟨n, hn, rfl⟩
  · have h1 : ¬ 0 ≤ a := neg_le (n := 0) hn (by decide)
    rw [fX1_letter, fX2_letter, if_neg h1, if_neg h1, cl_e, cl_e]
    exact refAg hR (by simp)
  · have h1 : (0 : Int32) ≤ nI n := nI_pos' (by omega)
    have e255 : ((255 : Int32) < nI n) ↔ 255 < n := nlt (a := 255) (by decide) hn
    rw [fX1_letter, fX2_letter, if_pos h1, if_pos h1]
    by_cases c : 255 < n
    · rw [if_pos (e255.mpr c), if_pos (e255.mpr c), fX1_letter_27, fX2_letter_27, cl_e, cl_e]
      exact refAg hR (by simp)
    · rw [if_neg (fun q => c (e255.mp q)), if_neg (fun q => c (e255.mp q)), ex, ey]
      have e96 : (nI nl < (96 : Int32)) ↔ nl < 96 := nlt (b := 96) (by omega) (by decide)
      have e96' : (nI nl = (96 : Int32)) ↔ nl = 96 := neq (b := 96) (by omega) (by decide)
      by_cases d : nl < 96
      · rw [if_pos (e96.mpr d), if_neg (fun q => by have := e96'.mp q; omega), ckN d (by decide), ckN d (by decide), ncl (by omega)]
        refine ⟨nI nl + 1, up X 3 (up (up (X 3) 4 (upd (X 3 4) nl (nI n))) 5 (fun _ => nI nl + 1)), up (up Y 5 (upd (Y 5) nl (nI n))) 8 (fun _ => nI nl + 1), ?_, ?_, S, P, setN l nl n, r, f, hp, nl + 1, nr, ⟨o1, o2, o3, o4, o5, by omega, o7, fun i hi => ?_, o9⟩, ⟨x0, x1, x2, x2', x3, ?_, ?_, x6, x7, x8⟩, ⟨y0, y1, y2, y3, y2', y4, ?_, y6, y7, ?_, y9⟩⟩
        · simp only [bnE, up_s, un45, up_up, ex]
        · simp only [bnE, up_s, un58, ey]
        · by_cases q : i = nl
          · subst q; rw [setN_s]; omega
          · rw [setN_n _ _ q]; exact o8 i (by omega)
        · show upd (X 3 4) nl (nI n) = _
          rw [x4, lN8_up]
        · show (fun _ => nI nl + 1) = _
          rw [nI_1]
        · show upd (Y 5) nl (nI n) = _
          rw [y5, lN8_up]
        · show (fun _ => nI nl + 1) = _
          rw [nI_1]
      · rw [if_neg (fun q => d (e96.mp q)), if_pos (e96'.mpr (by omega)), fX1_letter_27, fX2_letter_27, cl_e, cl_e]
        exact refAg hR (by simp)
theorem p_row (hR : Rel X Y) (a : Int32) : Ag (fX1_row X a) (fX2_row Y a) := by
  have hR' := hR
  obtain ⟨S, P, l, r, f, hp, nl, nr, ⟨o1, o2, o3, o4, o5, o6, o7, o8, o9⟩, ⟨x0, x1, x2, x2', x3, x4, x5, x6, x7, x8⟩, ⟨y0, y1, y2, y3, y2', y4, y5, y6, y7, y8, y9⟩⟩ := hR'
  have ex : X 3 7 0 = nI nr := congrFun x7 0
  have ey : Y 9 0 = nI nr := congrFun y9 0
  rcases wrg a 0 99 (by decide) (by decide) with ⟨n, -, h9, rfl, hw⟩ | ⟨c, hc, hw⟩
  · have hw1 : fX1_outside (nI n) 0 99 = some 0 := hw
    have hw2 : fX2_wrongBy (nI n) 0 99 = some 0 := hw
    have e16 : (nI nr < (16 : Int32)) ↔ nr < 16 := nlt (b := 16) (by omega) (by decide)
    have e16' : (nI nr = (16 : Int32)) ↔ nr = 16 := neq (b := 16) (by omega) (by decide)
    rw [fX1_row, fX2_row, hw1, hw2, clS, clS, if_pos rfl, if_pos rfl, ex, ey]
    by_cases d : nr < 16
    · rw [if_pos (e16.mpr d), if_neg (fun q => by have := e16'.mp q; omega), fX2_row_24]
      simp only [if_true, ey]
      rw [ckN d (by decide), ckN d (by decide), ncl (by omega)]
      refine ⟨nI nr + 1, up X 3 (up (up (X 3) 6 (upd (X 3 6) nr (nI n))) 7 (fun _ => nI nr + 1)), up (up Y 6 (upd (Y 6) nr (nI n))) 9 (fun _ => nI nr + 1), ?_, ?_, S, P, l, setN r nr n, f, hp, nl, nr + 1, ⟨o1, o2, o3, o4, o5, o6, by omega, o8, fun i hi => ?_⟩, ⟨x0, x1, x2, x2', x3, x4, x5, ?_, ?_, x8⟩, ⟨y0, y1, y2, y3, y2', y4, y5, ?_, y7, y8, ?_⟩⟩
      · simp only [bnE, up_s, un67, up_up, ex]
      · simp only [bnE, up_s, un69, ey]
      · by_cases q : i = nr
        · subst q; rw [setN_s]; omega
        · rw [setN_n _ _ q]; exact o9 i (by omega)
      · show upd (X 3 6) nr (nI n) = _
        rw [x6, lN8_up]
      · show (fun _ => nI nr + 1) = _
        rw [nI_1]
      · show upd (Y 6) nr (nI n) = _
        rw [y6, lN8_up]
      · show (fun _ => nI nr + 1) = _
        rw [nI_1]
    · rw [if_neg (fun q => d (e16.mp q)), if_pos (e16'.mpr (by omega)), fX2_row_24, cl_e]
      have h6 : ¬ (-6 : Int32) = 0 := by decide
      simp only [h6, if_false, cl_e]
      exact refAg hR (by simp)
  · have hw1 : fX1_outside a 0 99 = some c := hw
    have hw2 : fX2_wrongBy a 0 99 = some c := hw
    have hc0 := c46_ne hc
    rw [fX1_row, fX2_row, hw1, hw2, clS, clS, if_neg hc0, if_neg hc0, fX2_row_24]
    simp only [hc0, if_false, cl_e]
    exact refAg hR (c46 hc)
end
