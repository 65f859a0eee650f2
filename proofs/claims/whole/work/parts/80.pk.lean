section
variable {X : Nat → VS} {Y : VS}
theorem p_clear (hR : Rel X Y) : Ag (fX1_clear X) (fX2_clear Y) := by
  obtain ⟨S, P, l, r, f, hp, nl, nr, ⟨o1, o2, o3, o4, o5, o6, o7, o8, o9⟩, ⟨x0, x1, x2, x2', x3, x4, x5, x6, x7, x8⟩, ⟨y0, y1, y2, y3, y2', y4, y5, y6, y7, y8, y9⟩⟩ := hR
  have ex : X 3 7 0 = nI nr := congrFun x7 0
  have ey : Y 9 0 = nI nr := congrFun y9 0
  refine ⟨nI nr, up X 3 (up (X 3) 7 (fun _ => 0)), up Y 9 (fun _ => 0), ?_, ?_, S, P, l, r, f, hp, nl, 0, ⟨o1, o2, o3, o4, o5, o6, by omega, o8, fun i hi => by omega⟩, ⟨x0, x1, x2, x2', x3, x4, x5, x6, rfl, x8⟩, ⟨y0, y1, y2, y3, y2', y4, y5, y6, y7, y8, rfl⟩⟩
  · rw [fX1_clear, bnE, bnE, ex]
  · rw [fX2_clear, bnE, bnE, ey]
theorem p_image (hR : Rel X Y) : Ag (fX1_image X) (fX2_image Y) := by
  obtain ⟨S, P, l, r, f, hp, nl, nr, ⟨o1, o2, o3, o4, o5, o6, o7, o8, o9⟩, ⟨x0, x1, ⟨T, y, x2⟩, x2', x3, x4, x5, x6, x7, x8⟩, ⟨y0, y1, y2, y3, y2', y4, y5, y6, y7, y8, y9⟩⟩ := hR
  refine ⟨nI (S 2), up (up X 2 (cv S)) 3 (up (X 3) 3 (fun _ => 1)), up (up Y 2 (lN8 S)) 4 (fun _ => 1), ?_, ?_, S, S, l, r, f, 1, nl, nr, ⟨o1, o2, o1, o2, by omega, o6, o7, o8, o9⟩, ⟨x0, x1, ⟨S, _, rfl⟩, fun _ => rfl, rfl, x4, x5, x6, x7, x8⟩, ⟨y0, y1, lN8_z o1, y3, fun _ => rfl, rfl, y5, y6, y7, y8, y9⟩⟩
  · have e : fX0_copyFrom (X 2) (X 0) = some (cv S) := by rw [x2, x0]; exact c_copyFrom T y
    rw [fX1_image, e, clS, bnE, bnE]
    refine congrArg some (Prod.ext ?_ rfl)
    show X 0 11 0 = nI (S 2)
    rw [x0]; rfl
  · have e : fX2_copies (Y 0) (Y 2) = some (lN8 S) := by rw [y0]; exact r_copies o1 y2
    rw [fX2_image, e, clS, bnE, bnE]
    show rd 81 (Y 0) 2 _ = _
    rw [y0]
    exact rdM (a := 2) (by decide)
theorem p_on (hR : Rel X Y) : Ag (fX1_on X) (fX2_on Y) := by
  have hR' := hR
  obtain ⟨S, P, l, r, f, hp, nl, nr, ⟨o1, o2, o3, o4, o5, o6, o7, o8, o9⟩, ⟨x0, x1, x2, x2', x3, x4, x5, x6, x7, x8⟩, ⟨y0, y1, y2, y3, y2', y4, y5, y6, y7, y8, y9⟩⟩ := hR'
  have ex : X 3 3 0 = nI hp := congrFun x3 0
  have ey : Y 4 0 = nI hp := congrFun y4 0
  have e0 : (nI hp = (0 : Int32)) ↔ hp = 0 := neq (b := 0) (by omega) (by decide)
  rw [fX1_on, fX2_on, ex, ey]
  by_cases c : hp = 0
  · rw [if_pos (e0.mpr c), if_pos (e0.mpr c), cl_e, cl_e]
    exact refAg hR (by simp)
  · rw [if_neg (fun q => c (e0.mp q)), if_neg (fun q => c (e0.mp q))]
    have h1 : hp = 1 := by omega
    have a1 : fX0_copyFrom (X 0) (X 2) = some (cv P) := by rw [x0, x2' h1]; exact c_copyFrom S _
    have a2 : fX2_copies (Y 2) (Y 0) = some (lN8 P) := by rw [y0, y2' h1]; exact r_copies o3 (lN8_z o1)
    rw [a1, a2, clS, clS, bnE, bnE]
    refine ⟨nI (P 2), up X 0 (cv P), up Y 0 (lN8 P), rfl, ?_, relS ⟨⟨o1, o2, o3, o4, o5, o6, o7, o8, o9⟩, ⟨x0, x1, x2, x2', x3, x4, x5, x6, x7, x8⟩, ⟨y0, y1, y2, y3, y2', y4, y5, y6, y7, y8, y9⟩⟩ o3 o4⟩
    exact rdM (S := P) (a := 2) (by decide)
theorem p_wind (hR : Rel X Y) (a : Int32) : Ag (fX1_wind X a) (fX2_wind Y a) := by
  have hR' := hR
  obtain ⟨S, P, l, r, f, hp, nl, nr, hh⟩ := hR'
  have o1 := hh.1.1
  have x0 := hh.2.1.1
  have y0 := hh.2.2.1
  rw [fX2_wind, cl_e]
  rcases wrg a 0 9 (by decide) (by decide) with ⟨n, -, h9, rfl, hw⟩ | ⟨c, hc, hw⟩
  · have hw1 : fX1_outside (nI n) 0 9 = some 0 := hw
    have hw2 : fX2_wrongBy (nI n) 0 9 = some 0 := hw
    refine ⟨nI (S 4), up X 0 (cv (setN S 4 n)), up Y 0 (lN8 (setN S 4 n)), ?_, ?_, relS hh (Ok_o o1 (Or.inr (Or.inr ⟨rfl, h9⟩))) (by rw [setN_n _ _ (by decide)]; exact hh.1.2.1)⟩
    · rw [fX1_wind, hw1, clS, if_pos rfl, bnE, bnE, x0]
      refine congrArg some (Prod.ext rfl ?_)
      show up X 0 (up (cv S) 10 (fun _ => nI n)) = _
      unfold cv
      rw [u10 n, cv_set (by decide)]; rfl
    · rw [fX2_sets, hw2, clS, if_pos rfl, y0]
      simp (disch := omega) only [lit32, rdM, ckN, ncl, lN8_up, bnE]
  · have hw1 : fX1_outside a 0 9 = some c := hw
    have hw2 : fX2_wrongBy a 0 9 = some c := hw
    have hc0 := c46_ne hc
    rw [fX1_wind, fX2_sets, hw1, hw2, clS, clS, if_neg hc0, if_neg hc0, cl_e, cl_e]
    exact refAg hR (c46 hc)
theorem p_grant (hR : Rel X Y) (a : Int32) : Ag (fX1_grant X a) (fX2_grant Y a) := by
  have hR' := hR
  obtain ⟨S, P, l, r, f, hp, nl, nr, hh⟩ := hR'
  have o1 := hh.1.1
  have x0 := hh.2.1.1
  have y0 := hh.2.2.1
  rw [fX2_grant, cl_e]
  rcases wrg a 0 999 (by decide) (by decide) with ⟨n, -, h9, rfl, hw⟩ | ⟨c, hc, hw⟩
  · have hw1 : fX1_outside (nI n) 0 999 = some 0 := hw
    have hw2 : fX2_wrongBy (nI n) 0 999 = some 0 := hw
    refine ⟨nI (S 3), up X 0 (cv (setN S 3 n)), up Y 0 (lN8 (setN S 3 n)), ?_, ?_, relS hh (Ok_o o1 (Or.inr (Or.inl ⟨rfl, h9⟩))) (by rw [setN_n _ _ (by decide)]; exact hh.1.2.1)⟩
    · rw [fX1_grant, hw1, clS, if_pos rfl, bnE, bnE, x0]
      refine congrArg some (Prod.ext rfl ?_)
      show up X 0 (up (cv S) 9 (fun _ => nI n)) = _
      unfold cv
      rw [u9, cv_set3]; rfl
    · rw [fX2_sets, hw2, clS, if_pos rfl, y0]
      simp (disch := omega) only [lit32, rdM, ckN, ncl, lN8_up, bnE]
  · have hw1 : fX1_outside a 0 999 = some c := hw
    have hw2 : fX2_wrongBy a 0 999 = some c := hw
    have hc0 := c46_ne hc
    rw [fX1_grant, fX2_sets, hw1, hw2, clS, clS, if_neg hc0, if_neg hc0, cl_e, cl_e]
    exact refAg hR (c46 hc)
end
