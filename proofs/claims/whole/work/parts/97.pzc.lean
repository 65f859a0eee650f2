/-! what a statement does -/
theorem setN_id {T : Nat → Nat} {j x : Nat} (h : T j = x) : setN T j x = T := funext fun i => by
  unfold setN
  by_cases e : i = j
  · rw [if_pos e, e, h]
  · rw [if_neg e]
def aP (T : Nat → Nat) (a m : Nat) : Nat → Nat := setN (setN (setN T (41 + 8 * T 1) a) (42 + 8 * T 1) m) 1 (T 1 + 1)
def aR (T : Nat → Nat) (k f w : Nat) : Nat → Nat := setN (setN (setN (setN T (5 + 4 * T 0) k) (6 + 4 * T 0) f) (7 + 4 * T 0) w) 0 (T 0 + 1)
section
variable {X : Nat → VS} {Y : VS} {T l : Nat → Nat} {nl : Nat}
theorem aP_ok (h : Ok T) (h5 : T 1 < 5) {a m : Nat} (ha : a < 20) (hm : m ≤ 9) : Ok (aP T a m) ∧ aP T a m 2 = T 2 := by
  obtain ⟨h0, h1, h3, h4, hk, hz, ha', hb, hc⟩ := h
  have e : ∀ i, i ≠ 1 → i ≠ 41 + 8 * T 1 → i ≠ 42 + 8 * T 1 → aP T a m i = T i := fun i a b c => by
    unfold aP
    rw [setN_n _ _ a, setN_n _ _ c, setN_n _ _ b]
  have e1 : aP T a m 1 = T 1 + 1 := by unfold aP; rw [setN_s]
  have ea : aP T a m (41 + 8 * T 1) = a := by unfold aP; rw [setN_n _ _ (by omega), setN_n _ _ (by omega), setN_s]
  have em : aP T a m (42 + 8 * T 1) = m := by unfold aP; rw [setN_n _ _ (by omega), setN_s]
  refine ⟨⟨by rw [e _ (by omega) (by omega) (by omega)]; exact h0, by omega, by rw [e _ (by omega) (by omega) (by omega)]; exact h3, by rw [e _ (by omega) (by omega) (by omega)]; exact h4, fun i hi => ?_, fun i hi1 hi => ?_, fun q hq => ?_, fun q h2 hq => ?_, fun i hi => ?_⟩, e 2 (by omega) (by omega) (by omega)⟩
  · rw [e _ (by omega) (by omega) (by omega), e _ (by omega) (by omega) (by omega), e _ (by omega) (by omega) (by omega), e _ (by omega) (by omega) (by omega)]; exact hk i hi
  · rw [e _ (by omega) (by omega) (by omega)] at hi1
    rw [e _ (by omega) (by omega) (by omega), e _ (by omega) (by omega) (by omega), e _ (by omega) (by omega) (by omega), e _ (by omega) (by omega) (by omega)]; exact hz i hi1 hi
  · by_cases c : q = T 1
    · subst c
      rw [ea, em]
      refine ⟨ha, hm, fun w hw => ?_⟩
      rw [e _ (by omega) (by omega) (by omega)]; exact (ha' _ hq).2.2 w hw
    · rw [e _ (by omega) (by omega) (by omega), e _ (by omega) (by omega) (by omega)]
      refine ⟨(ha' q hq).1, (ha' q hq).2.1, fun w hw => ?_⟩
      rw [e _ (by omega) (by omega) (by omega)]; exact (ha' q hq).2.2 w hw
  · rw [e1] at h2
    rw [e _ (by omega) (by omega) (by omega), e _ (by omega) (by omega) (by omega)]
    refine ⟨(hb q (by omega) hq).1, (hb q (by omega) hq).2.1, fun w hw => ?_⟩
    rw [e _ (by omega) (by omega) (by omega)]; exact (hb q (by omega) hq).2.2 w hw
  · rw [e _ (by omega) (by omega) (by omega)]; exact hc i hi
theorem aR_ok (h : Ok T) (h9 : T 0 < 9) {k f w : Nat} (hk' : k < 6) (hf : f ≤ 9) (hw' : w < 6) : Ok (aR T k f w) ∧ aR T k f w 2 = T 2 := by
  obtain ⟨h0, h1, h3, h4, hk, hz, ha', hb, hc⟩ := h
  have e : ∀ i, i ≠ 0 → i ≠ 5 + 4 * T 0 → i ≠ 6 + 4 * T 0 → i ≠ 7 + 4 * T 0 → aR T k f w i = T i := fun i a b c d => by
    unfold aR
    rw [setN_n _ _ a, setN_n _ _ d, setN_n _ _ c, setN_n _ _ b]
  have e0 : aR T k f w 0 = T 0 + 1 := by unfold aR; rw [setN_s]
  have ek : aR T k f w (5 + 4 * T 0) = k := by unfold aR; rw [setN_n _ _ (by omega), setN_n _ _ (by omega), setN_n _ _ (by omega), setN_s]
  have ef : aR T k f w (6 + 4 * T 0) = f := by unfold aR; rw [setN_n _ _ (by omega), setN_n _ _ (by omega), setN_s]
  have ew : aR T k f w (7 + 4 * T 0) = w := by unfold aR; rw [setN_n _ _ (by omega), setN_s]
  refine ⟨⟨by omega, by rw [e _ (by omega) (by omega) (by omega) (by omega)]; exact h1, by rw [e _ (by omega) (by omega) (by omega) (by omega)]; exact h3, by rw [e _ (by omega) (by omega) (by omega) (by omega)]; exact h4, fun i hi => ?_, fun i hi1 hi => ?_, fun q hq => ?_, fun q h2 hq => ?_, fun i hi => ?_⟩, e 2 (by omega) (by omega) (by omega) (by omega)⟩
  · by_cases c : i = T 0
    · subst c
      rw [ek, ef, ew, e _ (by omega) (by omega) (by omega) (by omega)]
      exact ⟨hk', hf, hw', (hk _ hi).2.2.2⟩
    · rw [e _ (by omega) (by omega) (by omega) (by omega), e _ (by omega) (by omega) (by omega) (by omega), e _ (by omega) (by omega) (by omega) (by omega), e _ (by omega) (by omega) (by omega) (by omega)]; exact hk i hi
  · rw [e0] at hi1
    rw [e _ (by omega) (by omega) (by omega) (by omega), e _ (by omega) (by omega) (by omega) (by omega), e _ (by omega) (by omega) (by omega) (by omega), e _ (by omega) (by omega) (by omega) (by omega)]; exact hz i (by omega) hi
  · rw [e _ (by omega) (by omega) (by omega) (by omega), e _ (by omega) (by omega) (by omega) (by omega)]
    refine ⟨(ha' q hq).1, (ha' q hq).2.1, fun w hw => ?_⟩
    rw [e _ (by omega) (by omega) (by omega) (by omega)]; exact (ha' q hq).2.2 w hw
  · rw [e _ (by omega) (by omega) (by omega) (by omega)] at h2
    rw [e _ (by omega) (by omega) (by omega) (by omega), e _ (by omega) (by omega) (by omega) (by omega)]
    refine ⟨(hb q h2 hq).1, (hb q h2 hq).2.1, fun w hw => ?_⟩
    rw [e _ (by omega) (by omega) (by omega) (by omega)]; exact (hb q h2 hq).2.2 w hw
  · rw [e _ (by omega) (by omega) (by omega) (by omega)]; exact hc i hi
theorem u2v {t : Nat} (ht : t < 9) (y : Nat) : up (cv T) 2 (upd (cv T 2) t (nI y)) = cv (setN T (6 + 4 * t) y) := by
  unfold cv
  rw [u2 ht y, setN_n T y (by omega)]
theorem u7v {t : Nat} (ht : t < 5) (y : Nat) : up (cv T) 7 (upd (cv T 7) t (nI y)) = cv (setN T (42 + 8 * t) y) := by
  unfold cv
  rw [u7 ht y, setN_n T y (by omega)]
theorem u5v (y : Nat) : up (cv T) 5 (fun _ => nI y) = cv (setN T 1 y) := by
  unfold cv
  rw [u5 y, setN_n T y (by decide)]
theorem u0v (y : Nat) : up (cv T) 0 (fun _ => nI y) = cv (setN T 0 y) := by
  unfold cv
  rw [u0 y, setN_n T y (by decide)]
theorem c_addP (h : Ok T) {a m : Nat} (ha : a < 100) : fX0_addReader (cv T) (nI a) (nI m) = if a < 20 ∧ T 1 < 5 then some (1, cv (aP T a m)) else some (0, cv T) := by
  have h1 := h.2.1
  have n0 : ¬ nI a < (0 : Int32) := nneg (by omega)
  have g20 : ((20 : Int32) ≤ nI a) ↔ 20 ≤ a := nle (a := 20) (by decide) (by omega)
  have g5 : (nI (T 1) < (5 : Int32)) ↔ T 1 < 5 := nlt (b := 5) (by omega) (by decide)
  have e5 : cv T 5 0 = nI (T 1) := rfl
  rw [fX0_addReader, if_neg n0, e5]
  by_cases c : a < 20
  · rw [if_neg (fun q => by have := g20.mp q; omega)]
    by_cases d : T 1 < 5
    · rw [if_pos (g5.mpr d), if_pos ⟨c, d⟩, ckN d (by decide), ncl (by omega), u6v d a, bnT]
      have e51 : cv (setN T (41 + 8 * T 1) a) 5 0 = nI (T 1) := congrArg nI (setN_n _ _ (by omega))
      rw [e51, ckN d (by decide), ncl (by omega), u7v d m, bnT]
      have e52 : cv (setN (setN T (41 + 8 * T 1) a) (42 + 8 * T 1) m) 5 0 = nI (T 1) := congrArg nI ((setN_n _ _ (by omega)).trans (setN_n _ _ (by omega)))
      rw [e52, nI_1, u5v, bnT]
      rfl
    · rw [if_neg (fun q => d (g5.mp q)), if_neg (fun q => d q.2)]
  · rw [if_pos (g20.mpr (by omega)), if_neg (fun q => c q.1)]
theorem c_addR (h : Ok T) {k f w : Nat} (hk : k < 6) (hw : w < 10) : fX0_addRocket (cv T) (nI k) (nI f) (nI w) = if w < 6 ∧ T 0 < 9 then some (1, cv (aR T k f w)) else some (0, cv T) := by
  have h0 := h.1
  have n0 : ¬ nI k < (0 : Int32) := nneg (by omega)
  have n1 : ¬ nI w < (0 : Int32) := nneg (by omega)
  have g6 : ¬ (6 : Int32) ≤ nI k := fun q => by have := (nle (a := 6) (by decide) (by omega)).mp q; omega
  have gw : ((6 : Int32) ≤ nI w) ↔ 6 ≤ w := nle (a := 6) (by decide) (by omega)
  have g9 : (nI (T 0) < (9 : Int32)) ↔ T 0 < 9 := nlt (b := 9) (by omega) (by decide)
  have e0 : cv T 0 0 = nI (T 0) := rfl
  rw [fX0_addRocket, if_neg n0, if_neg g6, if_neg n1]
  by_cases c : w < 6
  · rw [if_neg (fun q => by have := gw.mp q; omega)]
    simp only [fX0_addRocket_25, ne10, if_false, e0]
    by_cases d : T 0 < 9
    · rw [if_pos (g9.mpr d), if_pos ⟨c, d⟩, ckN d (by decide), ncl (by omega), u1v d k, bnT]
      have e51 : cv (setN T (5 + 4 * T 0) k) 0 0 = nI (T 0) := congrArg nI (setN_n _ _ (by omega))
      rw [e51, ckN d (by decide), ncl (by omega), u2v d f, bnT]
      have e52 : cv (setN (setN T (5 + 4 * T 0) k) (6 + 4 * T 0) f) 0 0 = nI (T 0) := congrArg nI ((setN_n _ _ (by omega)).trans (setN_n _ _ (by omega)))
      rw [e52, ckN d (by decide), ncl (by omega), u3v d w, bnT]
      have e53 : cv (setN (setN (setN T (5 + 4 * T 0) k) (6 + 4 * T 0) f) (7 + 4 * T 0) w) 0 0 = nI (T 0) := congrArg nI ((setN_n _ _ (by omega)).trans ((setN_n _ _ (by omega)).trans (setN_n _ _ (by omega))))
      have e54 : nI (T 0) + (1 : Int32) = nI (T 0 + 1) := nI_1 _
      rw [e53, e54, u0v, bnT]
      rfl
    · rw [if_neg (fun q => d (g9.mp q)), if_neg (fun q => d q.2)]
  · rw [if_pos (gw.mpr (by omega)), if_neg (fun q => c q.1)]
    simp only [fX0_addRocket_24, fX0_addRocket_25, if_true]
theorem r_addP (h : Ok T) (y0 : Y 0 = lN8 T) {a m : Nat} (ha : a < 100) (q0 : Y 11 0 = nI a) (q1 : Y 11 1 = nI m) : fX2_addsReader Y = if a < 20 ∧ T 1 < 5 then some (1, up Y 0 (lN8 (aP T a m))) else some (0, Y) := by
  have h1 := h.2.1
  have r0 : ∀ {β : Type} {K : Int32 → Option β}, rd 3 (Y 11) (0 : Int32) K = K (nI a) := fun {β K} => (rdN (a := 0) (by decide) (by decide)).trans (congrArg K q0)
  have r1 : ∀ {β : Type} {K : Int32 → Option β}, rd 3 (Y 11) (1 : Int32) K = K (nI m) := fun {β K} => (rdN (a := 1) (by decide) (by decide)).trans (congrArg K q1)
  have e6 : ∀ {β : Type} {K : Int32 → Option β} (T : Nat → Nat), rd 81 (lN8 T) 1 K = K (nI (T 1)) := fun T => rdM (a := 1) (by decide)
  have g20 : ((20 : Int32) ≤ nI a) ↔ 20 ≤ a := nle (a := 20) (by decide) (by omega)
  have g5 : (nI (T 1) = (5 : Int32)) ↔ T 1 = 5 := neq (b := 5) (by omega) (by decide)
  rw [fX2_addsReader, r0, y0, e6]
  by_cases c : a < 20
  · rw [if_neg (fun q => by have := g20.mp q; omega)]
    by_cases d : T 1 < 5
    · have p0 : fX2_ofP (nI (T 1)) 0 = some (nI (41 + 8 * T 1)) := q_ofP (T 1) 0
      have p1 : fX2_ofP (nI (T 1)) 1 = some (nI (42 + 8 * T 1)) := by rw [show 42 + 8 * T 1 = 41 + 8 * T 1 + 1 by omega]; exact q_ofP (T 1) 1
      have k1 : ∀ {β : Type} {K : Option β}, ck 81 (nI (41 + 8 * T 1)) K = K := ckN (by omega) (by decide)
      have k2 : ∀ {β : Type} {K : Option β}, ck 81 (nI (42 + 8 * T 1)) K = K := ckN (by omega) (by decide)
      have t1 : (nI (41 + 8 * T 1)).toNatClampNeg = 41 + 8 * T 1 := ncl (by omega)
      have t2 : (nI (42 + 8 * T 1)).toNatClampNeg = 42 + 8 * T 1 := ncl (by omega)
      have s1 : setN T (41 + 8 * T 1) a 1 = T 1 := setN_n _ _ (by omega)
      have s2 : setN (setN T (41 + 8 * T 1) a) (42 + 8 * T 1) m 1 = T 1 := (setN_n _ _ (by omega)).trans s1
      have u11 : ∀ g : Nat → Int32, up Y 0 g 11 = Y 11 := fun g => up_n _ _ (by decide)
      rw [if_neg (fun q => by have := g5.mp q; omega), if_pos ⟨c, d⟩]
      simp only [e6, p0, clT, r0, k1, t1, lN8_up, bnT, up_s, s1, p1, u11, r1, k2, t2, up_up]
      have hz : ∀ w, w < 6 → setN (setN T (41 + 8 * T 1) a) (42 + 8 * T 1) m (43 + 8 * T 1 + w) = 0 := fun w hw => by
        rw [setN_n _ _ (by omega), setN_n _ _ (by omega)]
        exact (h.2.2.2.2.2.2.2.1 (T 1) (Nat.le_refl _) d).2.2 w hw
      unfold aP
      generalize setN (setN T (41 + 8 * T 1) a) (42 + 8 * T 1) m = T2 at s2 hz
      refine lp_for 6 (fun w (_ : Unit) => (up Y 0 (lN8 T2), nI w)) (fun _ u => u) () _ ?_ ?_ 5000 (by omega)
      · intro k
        have g6 : (6 : Int32) ≤ nI 6 := by decide
        have kk : ∀ {β : Type} {K : Option β}, ck 81 (1 : Int32) K = K := ckN (a := 1) (by decide) (by decide)
        have tt : (1 : Int32).toNatClampNeg = 1 := by decide
        simp only [fX2_addsReader_67, g6, if_true, up_s, e6, s2, kk, tt, nI_1, lN8_up, bnT, up_up]
      · intro k w hw
        have g6 : ¬ (6 : Int32) ≤ nI w := fun q => by have := (nle (a := 6) (by decide) (by omega)).mp q; omega
        have pw : fX2_ofP (nI (T 1)) ((2 : Int32) + nI w) = some (nI (43 + 8 * T 1 + w)) := by
          have e2 : (2 : Int32) = nI 2 := rfl
          rw [e2, nI_add, q_ofP, show 41 + 8 * T 1 + (2 + w) = 43 + 8 * T 1 + w by omega]
        have kk : ∀ {β : Type} {K : Option β}, ck 81 (nI (43 + 8 * T 1 + w)) K = K := ckN (by omega) (by decide)
        have tt : (nI (43 + 8 * T 1 + w)).toNatClampNeg = 43 + 8 * T 1 + w := ncl (by omega)
        have hu : upd (lN8 T2) (43 + 8 * T 1 + w) (0 : Int32) = lN8 T2 := (lN8_up T2 _ 0).trans (by rw [setN_id (hz w hw)])
        simp only [fX2_addsReader_67, g6, if_false, up_s, e6, s2, pw, clT, kk, tt, hu, bnT, up_up, nI_1]
    · rw [if_pos (g5.mpr (by omega)), if_neg (fun q => d q.2)]
  · rw [if_pos (g20.mpr (by omega)), if_neg (fun q => c q.1)]
theorem r_addR (h : Ok T) (y0 : Y 0 = lN8 T) {k f w : Nat} (hw : w < 10) (q0 : Y 11 0 = nI k) (q1 : Y 11 1 = nI f) (q2 : Y 11 2 = nI w) : fX2_addsRocket Y = if w < 6 ∧ T 0 < 9 then some (1, up Y 0 (lN8 (aR T k f w))) else some (0, Y) := by
  have h0 := h.1
  have r2 : ∀ {β : Type} {K : Int32 → Option β}, rd 3 (Y 11) (2 : Int32) K = K (nI w) := fun {β K} => (rdN (a := 2) (by decide) (by decide)).trans (congrArg K q2)
  have e6 : ∀ {β : Type} {K : Int32 → Option β} (T : Nat → Nat), rd 81 (lN8 T) 0 K = K (nI (T 0)) := fun T => rdM (a := 0) (by decide)
  have gw : ((6 : Int32) ≤ nI w) ↔ 6 ≤ w := nle (a := 6) (by decide) (by omega)
  have g9 : (nI (T 0) = (9 : Int32)) ↔ T 0 = 9 := neq (b := 9) (by omega) (by decide)
  rw [fX2_addsRocket, r2, y0, e6]
  by_cases c : w < 6
  · rw [if_neg (fun q => by have := gw.mp q; omega)]
    by_cases d : T 0 < 9
    · rw [if_neg (fun q => by have := g9.mp q; omega), if_pos ⟨c, d⟩]
      have num : ∀ i, i < 3 → Y 11 i = nI (if i = 0 then k else if i = 1 then f else w) := fun i hi => by
        rcases (show i = 0 ∨ i = 1 ∨ i = 2 by omega) with rfl | rfl | rfl
        · exact q0
        · exact q1
        · exact q2
      have eY : (Y, (0 : Int32)) = (fun i (T' : Nat → Nat) => (up Y 0 (lN8 T'), nI i)) 0 T := by
        show (Y, (0 : Int32)) = (up Y 0 (lN8 T), nI 0)
        rw [← y0, up_self]; rfl
      rw [eY]
      have u11 : ∀ g : Nat → Int32, up Y 0 g 11 = Y 11 := fun g => up_n _ _ (by decide)
      have hR0 : ∀ i, i ≤ 3 → itr (fun i T' => setN T' (5 + 4 * T 0 + i) (if i = 0 then k else if i = 1 then f else w)) i T 0 = T 0 := by
        intro i
        induction i with
        | zero => intro _; rfl
        | succ i ih =>
          intro hi
          show setN (itr (fun i T' => setN T' (5 + 4 * T 0 + i) (if i = 0 then k else if i = 1 then f else w)) i T) _ _ 0 = _
          rw [setN_n _ _ (by omega), ih (by omega)]
      refine lp_for 3 (fun i (T' : Nat → Nat) => (up Y 0 (lN8 T'), nI i)) (fun i T' => setN T' (5 + 4 * T 0 + i) (if i = 0 then k else if i = 1 then f else w)) T _ ?_ ?_ 5000 (by omega)
      · intro k2
        have e3 : itr (fun i T' => setN T' (5 + 4 * T 0 + i) (if i = 0 then k else if i = 1 then f else w)) 3 T = setN (setN (setN T (5 + 4 * T 0) k) (6 + 4 * T 0) f) (7 + 4 * T 0) w := by
          show setN (setN (setN T (5 + 4 * T 0 + 0) k) (5 + 4 * T 0 + 1) f) (5 + 4 * T 0 + 2) w = _
          rw [show 5 + 4 * T 0 + 0 = 5 + 4 * T 0 by omega, show 5 + 4 * T 0 + 1 = 6 + 4 * T 0 by omega, show 5 + 4 * T 0 + 2 = 7 + 4 * T 0 by omega]
        have s0 := hR0 3 (by omega)
        rw [e3] at s0
        rw [e3]
        have hz : setN (setN (setN T (5 + 4 * T 0) k) (6 + 4 * T 0) f) (7 + 4 * T 0) w (8 + 4 * T 0) = 0 := by
          rw [setN_n _ _ (by omega), setN_n _ _ (by omega), setN_n _ _ (by omega)]
          exact (h.2.2.2.2.2.1 (T 0) (Nat.le_refl _) d).2.2.2
        unfold aR
        generalize setN (setN (setN T (5 + 4 * T 0) k) (6 + 4 * T 0) f) (7 + 4 * T 0) w = T2 at s0 hz
        have g3 : (3 : Int32) ≤ nI 3 := by decide
        have p3 : fX2_ofR (nI (T 0)) 3 = some (nI (8 + 4 * T 0)) := by rw [show 8 + 4 * T 0 = 5 + 4 * T 0 + 3 by omega]; exact q_ofR (T 0) 3
        have k8 : ∀ {β : Type} {K : Option β}, ck 81 (nI (8 + 4 * T 0)) K = K := ckN (by omega) (by decide)
        have t8 : (nI (8 + 4 * T 0)).toNatClampNeg = 8 + 4 * T 0 := ncl (by omega)
        have hu : upd (lN8 T2) (8 + 4 * T 0) (0 : Int32) = lN8 T2 := (lN8_up T2 _ 0).trans (by rw [setN_id hz])
        have kk : ∀ {β : Type} {K : Option β}, ck 81 (0 : Int32) K = K := ckN (a := 0) (by decide) (by decide)
        have tt : (0 : Int32).toNatClampNeg = 0 := by decide
        simp only [fX2_addsRocket_26, g3, if_true, up_s, e6, s0, p3, clT, k8, t8, hu, bnT, up_up, kk, tt, nI_1, lN8_up]
      · intro k2 i hi
        have s0 := hR0 i (by omega)
        generalize itr (fun i T' => setN T' (5 + 4 * T 0 + i) (if i = 0 then k else if i = 1 then f else w)) i T = T2 at s0
        have g3 : ¬ (3 : Int32) ≤ nI i := fun q => by have := (nle (a := 3) (by decide) (by omega)).mp q; omega
        have kk : ∀ {β : Type} {K : Option β}, ck 81 (nI (5 + 4 * T 0 + i)) K = K := ckN (by omega) (by decide)
        have tt : (nI (5 + 4 * T 0 + i)).toNatClampNeg = 5 + 4 * T 0 + i := ncl (by omega)
        have ri : ∀ {β : Type} {K : Int32 → Option β}, rd 3 (Y 11) (nI i) K = K (nI (if i = 0 then k else if i = 1 then f else w)) := fun {β K} => (rdN hi (by decide)).trans (congrArg K (num i hi))
        simp only [fX2_addsRocket_26, g3, if_false, up_s, e6, s0, q_ofR, clT, u11, ri, kk, tt, lN8_up, bnT, up_up, nI_1]
    · rw [if_pos (g9.mpr (by omega)), if_neg (fun q => d q.2)]
  · rw [if_pos (gw.mpr (by omega)), if_neg (fun q => c q.1)]
theorem r_isRocket (h : Ok T) (y0 : Y 0 = lN8 T) {i : Nat} (hi : i < 100) : fX2_isRocket Y (nI i) = some (if i < T 0 then 1 else 0) := by
  have h0 := h.1
  have ei : ∀ {β : Type} {K : Int32 → Option β}, rd 81 (lN8 T) 0 K = K (nI (T 0)) := rdM (a := 0) (by decide)
  have n0 : ¬ nI i < (0 : Int32) := nneg (by omega)
  rw [fX2_isRocket, y0, ei, fX2_isIn, if_neg n0]
  by_cases c : i < T 0
  · have e : nI (T 0) - (1 : Int32) = nI (T 0 - 1) := pk_sub (b := 1) (by omega)
    rw [e, if_neg (by rw [nlt (by omega) (by omega)]; omega), if_pos c, clT, bz1]
  · rw [if_neg c]
    by_cases z : T 0 = 0
    · rw [z]
      have e : nI 0 - (1 : Int32) = -1 := by decide
      have q : (-1 : Int32) < nI i := neg_lt (by decide) (by omega)
      rw [e, if_pos q, clT, bz0]
    · have e : nI (T 0) - (1 : Int32) = nI (T 0 - 1) := pk_sub (b := 1) (by omega)
      rw [e, if_pos (by rw [nlt (by omega) (by omega)]; omega), clT, bz0]
theorem c_number (x4 : X 3 4 = lN8 l) (hnl : nl ≤ 96) {q n : Nat} (hn : n ≤ 3) (hd : ∀ i, i < n → dg l nl (q + i)) (hq : q ≤ nl) : fX1_numberAt X (nI q) (nI n) = some (nI (val l q n)) := by
  have key : ∀ n, itr (fun i a => 10 * a + (l (q + i) - 48)) n 0 = val l q n := by
    intro n
    induction n with
    | zero => rfl
    | succ n ih =>
      show 10 * itr (fun i a => 10 * a + (l (q + i) - 48)) n 0 + (l (q + n) - 48) = 10 * val l q n + (l (q + n) - 48)
      rw [ih]
  rw [fX1_numberAt]
  refine lp_for n (fun i (a : Nat) => (nI q, nI n, nI a, nI (q + i))) (fun i a => 10 * a + (l (q + i) - 48)) 0 _ ?_ ?_ 5000 (by omega)
  · intro k
    rw [key]
    have g : nI q + nI n ≤ nI (q + n) := by rw [nI_add]; exact (nle (by omega) (by omega)).mpr (Nat.le_refl _)
    simp only [fX1_numberAt_5, g, if_true]
  · intro k i hi
    generalize itr (fun i a => 10 * a + (l (q + i) - 48)) i 0 = a
    obtain ⟨d1, d2, d3⟩ := hd i hi
    have g : ¬ nI q + nI n ≤ nI (q + i) := by
      rw [nI_add]
      exact fun z => by have := (nle (by omega) (by omega)).mp z; omega
    have g96 : ¬ (96 : Int32) ≤ nI (q + i) := fun z => by have := (nle (a := 96) (by decide) (by omega)).mp z; omega
    have rx : ∀ {β : Type} {K : Int32 → Option β}, rd 96 (lN8 l) (nI (q + i)) K = K (nI (l (q + i))) := rdN (f := lN8 l) (by omega) (by decide)
    have em : (10 : Int32) * nI a + (nI (l (q + i)) - (48 : Int32)) = nI (10 * a + (l (q + i) - 48)) := by
      have e10 : (10 : Int32) = nI 10 := rfl
      have e48 : (48 : Int32) = nI 48 := rfl
      rw [e10, e48, pk_mul, pk_sub d2, nI_add]
    simp only [fX1_numberAt_5, g, if_false, g96, x4, rx, em, bnT, nI_1]
    rfl
theorem val1 {q : Nat} (h : dg l nl q) : val l q 1 ≤ 9 := by
  show 10 * 0 + (l (q + 0) - 48) ≤ 9
  have := h.2
  rw [show q + 0 = q by omega]
  omega
theorem val2 {q : Nat} (h : dg l nl q) (h' : dg l nl (q + 1)) : val l q 2 ≤ 99 := by
  have v1 := val1 h
  show 10 * val l q 1 + (l (q + 1) - 48) ≤ 99
  have := h'.2
  omega
theorem val3 {q : Nat} (h : dg l nl q) (h' : dg l nl (q + 1)) (h'' : dg l nl (q + 2)) : val l q 3 ≤ 999 := by
  have v2 := val2 h h'
  show 10 * val l q 2 + (l (q + 2) - 48) ≤ 999
  have := h''.2
  omega
theorem cv_hasRocket {t : Nat} (ht : t < 100) (h : Ok T) : fX0_hasRocket (cv T) (nI t) = some (nI (if t < T 0 then 1 else 0)) := c_hasRocket ht h
theorem cv_put (h : Ok T) {t : Nat} (ht : t < 9) : fX0_putBack (cv T) (nI t) = some (cv (setN T (8 + 4 * t) 0)) := by
  unfold cv
  rw [c_putBack h ht, setN_n T 0 (by omega)]
end
