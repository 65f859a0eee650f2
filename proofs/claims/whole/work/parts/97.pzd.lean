/-! a statement, done on both sides -/
section
variable {X : Nat → VS} {Y : VS} {T l : Nat → Nat} {nl : Nat}
def Act (X : Nat → VS) (Y : VS) (c s : Nat) : Prop := (fX1_comesToMind X (nI s) = some (0, X) ∧ fX2_isDone Y (nI c) = some (0, Y)) ∨ ∃ T', Ok T' ∧ T' 2 ≤ 999 ∧ fX1_comesToMind X (nI s) = some (1, up X 1 (cv T')) ∧ fX2_isDone Y (nI c) = some (1, up Y 0 (lN8 T'))
theorem act (hT : Ok T) (h2 : T 2 ≤ 999) (x1 : X 1 = cv T) (x4 : X 3 4 = lN8 l) (y0 : Y 0 = lN8 T) (hl : ∀ i, i < nl → l i < 256) (hnl : nl ≤ 96) {s : Nat} (hg : Gd l nl s) (hN : Nums l s Y) : Act X Y (l s) s := by
  have h0 := hT.1
  have h1 := hT.2.1
  obtain ⟨hs, hz, hok⟩ := hg
  have rx : ∀ {β : Type} {K : Int32 → Option β}, rd 96 (lN8 l) (nI s) K = K (nI (l s)) := rdN (f := lN8 l) (by omega) (by decide)
  have a1 : nI s + (1 : Int32) = nI (s + 1) := nI_add s 1
  have a2 : nI s + (2 : Int32) = nI (s + 2) := nI_add s 2
  have a3 : nI s + (3 : Int32) = nI (s + 3) := nI_add s 3
  have n01 : ¬ nI 1 = (0 : Int32) := by decide
  have xs : up X 1 (cv T) = X := by rw [← x1, up_self]
  unfold Act
  rw [fX1_comesToMind, x4, rx, a1, a3]
  rcases lb_c hz with e | e | e | e | e | e | e
  · -- b
    have ee : nI (l s) = nI 98 := by rw [e]
    have p : nI 98 = (98 : Int32) := rfl
    rw [ee, if_pos p]
    have d1 : dg l nl (s + 1) := (okj_d (by rw [e]; decide) (by rw [e]; decide)).mp (hok 1 (by omega) (by rw [e]; decide))
    have q0 := hN.1 (Or.inl e)
    have cn : fX1_numberAt X (nI (s + 1)) 1 = some (nI (val l (s + 1) 1)) := c_number (n := 1) x4 hnl (by decide) (fun i hi => by rw [show i = 0 by omega]; exact d1) (by omega)
    have v1 := val1 d1
    have r0 : ∀ {β : Type} {K : Int32 → Option β}, rd 3 (Y 11) (0 : Int32) K = K (nI (val l (s + 1) 1)) := fun {β K} => (rdN (a := 0) (by decide) (by decide)).trans (congrArg K q0)
    generalize val l (s + 1) 1 = a at q0 cn v1 r0
    rw [cn, clT, fX1_rocketGoesBack, x1, cv_hasRocket (by omega) hT, clT, fX2_isDone, r0, if_pos p, r_isRocket hT y0 (by omega), clT]
    by_cases c : a < T 0
    · have ha9 : a < 9 := by omega
      have hs1 := (hT.2.2.2.2.1 a ha9).2.2.2
      have g3 : fX2_ofR (nI a) 3 = some (nI (8 + 4 * a)) := by rw [show 8 + 4 * a = 5 + 4 * a + 3 by omega]; exact q_ofR a 3
      rw [if_pos c, if_pos c, if_neg n01, if_neg ne10, cv_isSent hT ha9, clT, g3, clT, y0, rdM (show 8 + 4 * a < 81 by omega)]
      rcases (show T (8 + 4 * a) = 0 ∨ T (8 + 4 * a) = 1 by omega) with d | d
      · rw [d, if_pos z00, if_pos z00, clT, bz0]
        exact Or.inl ⟨rfl, rfl⟩
      · have hu : upd (lN8 T) (8 + 4 * a) (0 : Int32) = lN8 (setN T (8 + 4 * a) 0) := lN8_up T _ 0
        rw [d, if_neg n01, if_neg n01, cv_put hT ha9, clT, bnT, clT, bz1, clT, ckN (show 8 + 4 * a < 81 by omega) (by decide), ncl (by omega), hu, bnT]
        exact Or.inr ⟨setN T (8 + 4 * a) 0, Ok_s hT c (by omega), by rw [setN_n _ _ (by omega)]; exact h2, rfl, rfl⟩
    · rw [if_neg c, if_neg c, if_pos z00, if_pos rfl, clT, bz0]
      exact Or.inl ⟨rfl, rfl⟩
  · -- g
    have ee : nI (l s) = nI 103 := by rw [e]
    have p : nI 103 = (103 : Int32) := rfl
    rw [ee, if_neg (by decide), if_neg (by decide), if_neg (by decide), if_neg (by decide), if_neg (by decide), if_pos p]
    have d1 : dg l nl (s + 1) := (okj_d (by rw [e]; decide) (by rw [e]; decide)).mp (hok 1 (by omega) (by rw [e]; decide))
    have d2 : dg l nl (s + 2) := (okj_d (by rw [e]; decide) (by rw [e]; decide)).mp (hok 2 (by omega) (by rw [e]; decide))
    have d3 : dg l nl (s + 3) := (okj_d (by rw [e]; decide) (by rw [e]; decide)).mp (hok 3 (by omega) (by rw [e]; decide))
    have q0 := hN.2.1 e
    have cn : fX1_numberAt X (nI (s + 1)) 3 = some (nI (val l (s + 1) 3)) := c_number (n := 3) x4 hnl (by decide) (fun i hi => by
      rcases (show i = 0 ∨ i = 1 ∨ i = 2 by omega) with rfl | rfl | rfl
      · exact d1
      · exact d2
      · exact d3) (by omega)
    have v1 := val3 d1 d2 d3
    have r0 : ∀ {β : Type} {K : Int32 → Option β}, rd 3 (Y 11) (0 : Int32) K = K (nI (val l (s + 1) 3)) := fun {β K} => (rdN (a := 0) (by decide) (by decide)).trans (congrArg K q0)
    generalize val l (s + 1) 3 = a at q0 cn v1 r0
    have k3 : ∀ {β : Type} {K : Option β}, ck 81 (3 : Int32) K = K := ckN (a := 3) (by decide) (by decide)
    have t3 : (3 : Int32).toNatClampNeg = 3 := by decide
    have hu : up (cv T) 9 (fun _ => nI a) = cv (setN T 3 a) := by
      unfold cv
      rw [u9, cv_set3]; rfl
    rw [cn, clT, bnT, x1, hu, fX2_isDone, r0, if_neg (show ¬ nI 103 = (98 : Int32) by decide), if_pos p, k3, t3, y0, lN8_up, bnT]
    exact Or.inr ⟨setN T 3 a, Ok_o hT (Or.inr (Or.inl ⟨rfl, v1⟩)), by rw [setN_n _ _ (by decide)]; exact h2, rfl, rfl⟩
  · -- n
    have ee : nI (l s) = nI 110 := by rw [e]
    have p : nI 110 = (110 : Int32) := rfl
    rw [ee, if_neg (by decide), if_neg (by decide), if_neg (by decide), if_neg (by decide), if_neg (by decide), if_neg (by decide), if_neg (by decide), if_neg (by decide), if_neg (by decide), if_neg (by decide), if_neg (by decide), if_neg (by decide), if_pos p]
    have d1 : dg l nl (s + 1) := (okj_d (by rw [e]; decide) (by rw [e]; decide)).mp (hok 1 (by omega) (by rw [e]; decide))
    have d2 : dg l nl (s + 2) := (okj_d (by rw [e]; decide) (by rw [e]; decide)).mp (hok 2 (by omega) (by rw [e]; decide))
    have q0 := hN.2.2.1 e
    have cn : fX1_numberAt X (nI (s + 1)) 2 = some (nI (val l (s + 1) 2)) := c_number (n := 2) x4 hnl (by decide) (fun i hi => by
      rcases (show i = 0 ∨ i = 1 by omega) with rfl | rfl
      · exact d1
      · exact d2) (by omega)
    have v1 := val2 d1 d2
    have r0 : ∀ {β : Type} {K : Int32 → Option β}, rd 3 (Y 11) (0 : Int32) K = K (nI (val l (s + 1) 2)) := fun {β K} => (rdN (a := 0) (by decide) (by decide)).trans (congrArg K q0)
    generalize val l (s + 1) 2 = a at q0 cn v1 r0
    have g1 : (nI a < (1 : Int32)) ↔ a < 1 := nlt (b := 1) (by omega) (by decide)
    have g60 : ((60 : Int32) < nI a) ↔ 60 < a := nlt (a := 60) (by decide) (by omega)
    have e11 : cv T 11 0 = nI (T 2) := rfl
    have e2 : ∀ {β : Type} {K : Int32 → Option β}, rd 81 (lN8 T) 2 K = K (nI (T 2)) := rdM (a := 2) (by decide)
    have g9 : (nI (T 2) + nI a ≤ (999 : Int32)) ↔ T 2 + a ≤ 999 := by rw [nI_add]; exact nle (b := 999) (by omega) (by decide)
    rw [cn, clT, fX1_nightsGoBy, x1, e11, fX2_isDone, r0, if_neg (show ¬ nI 110 = (98 : Int32) by decide), if_neg (show ¬ nI 110 = (103 : Int32) by decide), if_neg (show ¬ nI 110 = (112 : Int32) by decide), if_neg (show ¬ nI 110 = (114 : Int32) by decide), if_neg (show ¬ nI 110 = (115 : Int32) by decide), if_neg (show ¬ nI 110 = (119 : Int32) by decide), fX2_isIn]
    by_cases c1 : a < 1
    · rw [if_pos (g1.mpr c1), if_pos (g1.mpr c1), clT, clT, bz0, if_pos rfl]
      exact Or.inl ⟨rfl, rfl⟩
    · rw [if_neg (fun q => c1 (g1.mp q)), if_neg (fun q => c1 (g1.mp q))]
      by_cases c2 : 60 < a
      · rw [if_pos (g60.mpr c2), if_pos (g60.mpr c2), clT, clT, bz0, if_pos rfl]
        exact Or.inl ⟨rfl, rfl⟩
      · rw [if_neg (fun q => c2 (g60.mp q)), if_neg (fun q => c2 (g60.mp q)), clT, if_neg ne10, y0, e2]
        by_cases c3 : T 2 + a ≤ 999
        · have ok := sNights_ok (lk := lkE) hT a
          rw [if_pos (g9.mpr c3), if_pos (g9.mpr c3), c_pass hT (by omega), r_pass hT (by omega), clT, clT, bnT, bnT, clT, bz1]
          exact Or.inr ⟨sNights lkE a T, ok.1, by rw [ok.2.2.2.1]; exact c3, rfl, rfl⟩
        · rw [if_neg (fun q => c3 (g9.mp q)), if_neg (fun q => c3 (g9.mp q)), clT, bz0]
          exact Or.inl ⟨rfl, rfl⟩
  · -- p
    have ee : nI (l s) = nI 112 := by rw [e]
    have p : nI 112 = (112 : Int32) := rfl
    rw [ee, if_neg (by decide), if_neg (by decide), if_neg (by decide), if_neg (by decide), if_neg (by decide), if_neg (by decide), if_neg (by decide), if_neg (by decide), if_neg (by decide), if_neg (by decide), if_neg (by decide), if_neg (by decide), if_neg (by decide), if_neg (by decide), if_pos p]
    have d1 : dg l nl (s + 1) := (okj_d (by rw [e]; decide) (by rw [e]; decide)).mp (hok 1 (by omega) (by rw [e]; decide))
    have d2 : dg l nl (s + 2) := (okj_d (by rw [e]; decide) (by rw [e]; decide)).mp (hok 2 (by omega) (by rw [e]; decide))
    have d3 : dg l nl (s + 3) := (okj_d (by rw [e]; decide) (by rw [e]; decide)).mp (hok 3 (by omega) (by rw [e]; decide))
    obtain ⟨q0, q1⟩ := hN.2.2.2.1 e
    have cn : fX1_numberAt X (nI (s + 1)) 2 = some (nI (val l (s + 1) 2)) := c_number (n := 2) x4 hnl (by decide) (fun i hi => by
      rcases (show i = 0 ∨ i = 1 by omega) with rfl | rfl
      · exact d1
      · exact d2) (by omega)
    have cm : fX1_numberAt X (nI (s + 3)) 1 = some (nI (val l (s + 3) 1)) := c_number (n := 1) x4 hnl (by decide) (fun i hi => by rw [show i = 0 by omega]; exact d3) (by have := d3.1; omega)
    have v1 := val2 d1 d2
    have v2 := val1 d3
    have r0 : ∀ {β : Type} {K : Int32 → Option β}, rd 3 (Y 11) (0 : Int32) K = K (nI (val l (s + 1) 2)) := fun {β K} => (rdN (a := 0) (by decide) (by decide)).trans (congrArg K q0)
    generalize val l (s + 1) 2 = a at q0 cn v1 r0
    generalize val l (s + 3) 1 = m at q1 cm v2
    rw [cn, clT, cm, clT, x1, c_addP hT (show a < 100 by omega), fX2_isDone, r0, if_neg (show ¬ nI 112 = (98 : Int32) by decide), if_neg (show ¬ nI 112 = (103 : Int32) by decide), if_pos p, r_addP hT y0 (show a < 100 by omega) q0 q1]
    by_cases c : a < 20 ∧ T 1 < 5
    · have ok := aP_ok hT c.2 c.1 v2
      rw [if_pos c, if_pos c, clT, clT, bnT, bz1, bz1]
      exact Or.inr ⟨aP T a m, ok.1, by rw [ok.2]; exact h2, rfl, rfl⟩
    · rw [if_neg c, if_neg c, clT, clT, bnT, bz0, bz0, xs]
      exact Or.inl ⟨rfl, rfl⟩
  · -- r
    have ee : nI (l s) = nI 114 := by rw [e]
    have p : nI 114 = (114 : Int32) := rfl
    rw [ee, if_neg (by decide), if_neg (by decide), if_neg (by decide), if_neg (by decide), if_neg (by decide), if_neg (by decide), if_neg (by decide), if_neg (by decide), if_neg (by decide), if_neg (by decide), if_neg (by decide), if_neg (by decide), if_neg (by decide), if_neg (by decide), if_neg (by decide), if_neg (by decide), if_pos p]
    have ok1 : s + 1 < nl ∧ kd (l (s + 1)) < 6 := by
      have q := hok 1 (by omega) (by rw [e]; decide)
      unfold okj at q
      rw [e] at q
      exact ⟨q.1, st_kind.mp q.2⟩
    have d2 : dg l nl (s + 2) := (okj_d (by rw [e]; decide) (by rw [e]; decide)).mp (hok 2 (by omega) (by rw [e]; decide))
    have d3 : dg l nl (s + 3) := (okj_d (by rw [e]; decide) (by rw [e]; decide)).mp (hok 3 (by omega) (by rw [e]; decide))
    obtain ⟨q0, q1, q2⟩ := hN.2.2.2.2 e
    have cn : fX1_numberAt X (nI (s + 2)) 1 = some (nI (val l (s + 2) 1)) := c_number (n := 1) x4 hnl (by decide) (fun i hi => by rw [show i = 0 by omega]; exact d2) (by have := d2.1; omega)
    have cm : fX1_numberAt X (nI (s + 3)) 1 = some (nI (val l (s + 3) 1)) := c_number (n := 1) x4 hnl (by decide) (fun i hi => by rw [show i = 0 by omega]; exact d3) (by have := d3.1; omega)
    have v1 := val1 d2
    have v2 := val1 d3
    have qk := q_kindOf2 _ (hl (s + 1) ok1.1)
    rw [if_pos ok1.2] at qk
    have hk := ok1.2
    have g96 : nI (s + 1) < (96 : Int32) := (nlt (b := 96) (by omega) (by decide)).mpr (by omega)
    have rx1 : ∀ {β : Type} {K : Int32 → Option β}, rd 96 (lN8 l) (nI (s + 1)) K = K (nI (l (s + 1))) := rdN (f := lN8 l) (by omega) (by decide)
    have r0 : ∀ {β : Type} {K : Int32 → Option β}, rd 3 (Y 11) (0 : Int32) K = K (nI (kd (l (s + 1)))) := fun {β K} => (rdN (a := 0) (by decide) (by decide)).trans (congrArg K q0)
    generalize kd (l (s + 1)) = k at q0 qk hk r0
    generalize val l (s + 2) 1 = f at q1 cn v1
    generalize val l (s + 3) 1 = w at q2 cm v2
    rw [fX1_rocketComes, a1, if_pos g96, x4, rx1, qk, clT, a2, cn, clT, a3, cm, clT, x1, c_addR hT hk (show w < 10 by omega), fX2_isDone, r0, if_neg (show ¬ nI 114 = (98 : Int32) by decide), if_neg (show ¬ nI 114 = (103 : Int32) by decide), if_neg (show ¬ nI 114 = (112 : Int32) by decide), if_pos p, r_addR hT y0 (show w < 10 by omega) q0 q1 q2]
    by_cases c : w < 6 ∧ T 0 < 9
    · have ok := aR_ok hT c.2 hk v1 c.1
      rw [if_pos c, if_pos c, clT, clT, bnT, bz1, clT, bz1, bz1]
      exact Or.inr ⟨aR T k f w, ok.1, by rw [ok.2]; exact h2, rfl, rfl⟩
    · rw [if_neg c, if_neg c, clT, clT, bnT, bz0, clT, bz0, bz0, xs]
      exact Or.inl ⟨rfl, rfl⟩
  · -- s
    have ee : nI (l s) = nI 115 := by rw [e]
    have p : nI 115 = (115 : Int32) := rfl
    rw [ee, if_neg (by decide), if_neg (by decide), if_neg (by decide), if_neg (by decide), if_neg (by decide), if_neg (by decide), if_neg (by decide), if_neg (by decide), if_neg (by decide), if_neg (by decide), if_neg (by decide), if_neg (by decide), if_neg (by decide), if_neg (by decide), if_neg (by decide), if_neg (by decide), if_neg (by decide), if_pos p]
    have d1 : dg l nl (s + 1) := (okj_d (by rw [e]; decide) (by rw [e]; decide)).mp (hok 1 (by omega) (by rw [e]; decide))
    have q0 := hN.1 (Or.inr (Or.inl e))
    have cn : fX1_numberAt X (nI (s + 1)) 1 = some (nI (val l (s + 1) 1)) := c_number (n := 1) x4 hnl (by decide) (fun i hi => by rw [show i = 0 by omega]; exact d1) (by omega)
    have v1 := val1 d1
    have r0 : ∀ {β : Type} {K : Int32 → Option β}, rd 3 (Y 11) (0 : Int32) K = K (nI (val l (s + 1) 1)) := fun {β K} => (rdN (a := 0) (by decide) (by decide)).trans (congrArg K q0)
    generalize val l (s + 1) 1 = a at q0 cn v1 r0
    rw [cn, clT, fX1_rocketGoesUp, x1, c_canSend hT (show a < 100 by omega), clT, fX2_isDone, r0, if_neg (show ¬ nI 115 = (98 : Int32) by decide), if_neg (show ¬ nI 115 = (103 : Int32) by decide), if_neg (show ¬ nI 115 = (112 : Int32) by decide), if_neg (show ¬ nI 115 = (114 : Int32) by decide), if_pos p, r_isRocket hT y0 (by omega), clT]
    by_cases c : a < T 0
    · have ha9 : a < 9 := by omega
      have hl' := sCan_le T a
      rw [if_pos c, if_pos c, if_neg ne10, y0, r_canGo hT ha9, clT]
      rcases (show sCan T a = 0 ∨ sCan T a = 1 by omega) with d | d
      · rw [d, if_pos z00, if_pos z00, clT, bz0]
        exact Or.inl ⟨rfl, rfl⟩
      · have ok := sSend_ok (lk := lkE) hT c
        have s1 : fX0_sendUp (cv T) (nI a) 31 = some (cv (sSend lkE T a)) := c_send hT (e := 31) c (by decide) d
        have s2 : fX2_sendsIn (lN8 T) (nI a) (-1) = some (lN8 (sSend lkE T a)) := r_sendsIn hT c (lkA rfl) d
        rw [d, if_neg n01, if_neg n01, s1, s2, clT, clT, bnT, bnT, clT, bz1]
        exact Or.inr ⟨sSend lkE T a, ok.1, by rw [ok.2.2.2.1]; exact h2, rfl, rfl⟩
    · rw [if_neg c, if_neg c, if_pos z00, if_pos rfl, clT, bz0]
      exact Or.inl ⟨rfl, rfl⟩
  · -- w
    have ee : nI (l s) = nI 119 := by rw [e]
    have p : nI 119 = (119 : Int32) := rfl
    rw [ee, if_neg (by decide), if_neg (by decide), if_neg (by decide), if_neg (by decide), if_neg (by decide), if_neg (by decide), if_neg (by decide), if_neg (by decide), if_neg (by decide), if_neg (by decide), if_neg (by decide), if_neg (by decide), if_neg (by decide), if_neg (by decide), if_neg (by decide), if_neg (by decide), if_neg (by decide), if_neg (by decide), if_neg (by decide), if_neg (by decide), if_neg (by decide), if_pos p]
    have d1 : dg l nl (s + 1) := (okj_d (by rw [e]; decide) (by rw [e]; decide)).mp (hok 1 (by omega) (by rw [e]; decide))
    have q0 := hN.1 (Or.inr (Or.inr e))
    have cn : fX1_numberAt X (nI (s + 1)) 1 = some (nI (val l (s + 1) 1)) := c_number (n := 1) x4 hnl (by decide) (fun i hi => by rw [show i = 0 by omega]; exact d1) (by omega)
    have v1 := val1 d1
    have r0 : ∀ {β : Type} {K : Int32 → Option β}, rd 3 (Y 11) (0 : Int32) K = K (nI (val l (s + 1) 1)) := fun {β K} => (rdN (a := 0) (by decide) (by decide)).trans (congrArg K q0)
    generalize val l (s + 1) 1 = a at q0 cn v1 r0
    rw [cn, clT, bnT, x1, u10v, fX2_isDone, r0, if_neg (show ¬ nI 119 = (98 : Int32) by decide), if_neg (show ¬ nI 119 = (103 : Int32) by decide), if_neg (show ¬ nI 119 = (112 : Int32) by decide), if_neg (show ¬ nI 119 = (114 : Int32) by decide), if_neg (show ¬ nI 119 = (115 : Int32) by decide), if_pos p, ck4, tn4, y0, lN8_up, bnT]
    exact Or.inr ⟨setN T 4 a, Ok_o hT (Or.inr (Or.inr ⟨rfl, v1⟩)), by rw [setN_n _ _ (by decide)]; exact h2, rfl, rfl⟩
end
