/-! a night, nights, copies -/
def sSend (lk : Nat → Nat) (S : Nat → Nat) (t : Nat) : Nat → Nat := sBs lk t (setN (setN S 3 (S 3 - sCost (S (5 + 4 * t)))) (8 + 4 * t) 1)
def sN1 (S : Nat → Nat) : Nat → Nat := sFg (setN S 2 (S 2 + 1))
def sNight (lk : Nat → Nat) (S : Nat → Nat) : Nat → Nat := if fst1 (sCan (sN1 S)) (S 0) < S 0 then sSend lk (sN1 S) (fst1 (sCan (sN1 S)) (S 0)) else sN1 S
def sNights (lk : Nat → Nat) (n : Nat) (S : Nat → Nat) : Nat → Nat := itr (fun _ => sNight lk) n S
theorem cw_cong {S S' : Nat → Nat} {x : Int32} (h : ∀ i, i < 81 → i ≠ 3 → S i = S' i) : cw S x = cw S' x := funext fun k => match k with
  | 0 => congrArg (fun (n : Nat) (_ : Nat) => nI n) (h 0 (by omega) (by omega))
  | 1 => cK_cong (fun t ht => h _ (by omega) (by omega))
  | 2 => cK_cong (fun t ht => h _ (by omega) (by omega))
  | 3 => cK_cong (fun t ht => h _ (by omega) (by omega))
  | 4 => congrArg (fun (n : Nat) (_ : Nat) => nI n) (bitsN_cong (fun t ht => h _ (by omega) (by omega)))
  | 5 => congrArg (fun (n : Nat) (_ : Nat) => nI n) (h 1 (by omega) (by omega))
  | 6 => cK_cong (fun t ht => h _ (by omega) (by omega))
  | 7 => cK_cong (fun t ht => h _ (by omega) (by omega))
  | 8 => cK_cong (fun t ht => h _ (by omega) (by omega))
  | 9 => rfl
  | 10 => congrArg (fun (n : Nat) (_ : Nat) => nI n) (h 4 (by omega) (by omega))
  | 11 => congrArg (fun (n : Nat) (_ : Nat) => nI n) (h 2 (by omega) (by omega))
  | _ + 12 => rfl
theorem setN_swap (S : Nat → Nat) {i j : Nat} (h : i ≠ j) (x y : Nat) : setN (setN S i x) j y = setN (setN S j y) i x := funext fun k => by
  unfold setN
  by_cases a : k = j
  · subst a
    have hn : ¬ k = i := fun q => h q.symm
    simp [hn]
  · simp [a]
theorem setN_twice (S : Nat → Nat) (i x y : Nat) : setN (setN S i x) i y = setN S i y := funext fun k => by
  unfold setN
  by_cases a : k = i <;> simp [a]
theorem sRd_3 (S : Nat → Nat) (m t p : Nat) : sRd (setN S 3 m) t p = sRd S t p := by
  have e : ∀ i, i ≠ 3 → setN S 3 m i = S i := fun i hi => setN_n S m hi
  unfold sRd
  rw [e _ (by omega), e _ (by omega), e _ (by omega), e _ (by omega)]
theorem sB_3 (S : Nat → Nat) (m t p : Nat) (lk : Nat → Nat) : sB t lk p (setN S 3 m) = setN (sB t lk p S) 3 m := by
  have e : ∀ i, i ≠ 3 → setN S 3 m i = S i := fun i hi => setN_n S m hi
  unfold sB
  rw [sRd_3, e (7 + 4 * t) (by omega), e (43 + 8 * p + S (7 + 4 * t)) (by omega), e (42 + 8 * p) (by omega)]
  split
  · exact (setN_swap S (by omega) _ _)
  · rfl
theorem itr_3 (S : Nat → Nat) (m t : Nat) (lk : Nat → Nat) : ∀ n, itr (sB t lk) n (setN S 3 m) = setN (itr (sB t lk) n S) 3 m
  | 0 => rfl
  | n + 1 => by
    show sB t lk n (itr (sB t lk) n (setN S 3 m)) = setN (sB t lk n (itr (sB t lk) n S)) 3 m
    rw [itr_3 S m t lk n, sB_3]
theorem sBs_3 (S : Nat → Nat) (m t : Nat) (lk : Nat → Nat) : sBs lk t (setN S 3 m) = setN (sBs lk t S) 3 m := by
  unfold sBs
  rw [setN_n S m (show (1 : Nat) ≠ 3 by decide)]
  exact itr_3 S m t lk (S 1)
theorem sSend_eq (lk : Nat → Nat) (S : Nat → Nat) (t : Nat) : sSend lk S t = setN (sBs lk t (setN S (8 + 4 * t) 1)) 3 (S 3 - sCost (S (5 + 4 * t))) := by
  unfold sSend
  rw [setN_swap S (by omega), sBs_3]
section
variable {S : Nat → Nat} {x : Int32} {lk : Nat → Nat}
theorem sSend_ok (h : Ok S) {t : Nat} (ht : t < S 0) : Ok (sSend lk S t) ∧ sSend lk S t 0 = S 0 ∧ sSend lk S t 1 = S 1 ∧ sSend lk S t 2 = S 2 ∧ sSend lk S t 3 = S 3 - sCost (S (5 + 4 * t)) ∧ sSend lk S t 4 = S 4 := by
  have h0 := h.1
  have h3 := h.2.2.1
  have hS : Ok (setN S (8 + 4 * t) 1) := Ok_s h ht (Nat.le_refl 1)
  obtain ⟨h1, h2⟩ := sBs_ok (lk := lk) hS (show t < 9 by omega)
  have e : ∀ j, nW j → j ≠ 3 → j ≠ 8 + 4 * t → sSend lk S t j = S j := fun j hj h3 h8 => by
    rw [sSend_eq, setN_n _ _ h3, h2 j hj, setN_n _ _ h8]
  refine ⟨by rw [sSend_eq]; exact Ok_o h1 (Or.inr (Or.inl ⟨rfl, by omega⟩)), e 0 (by unfold nW; omega) (by omega) (by omega), e 1 (by unfold nW; omega) (by omega) (by omega), e 2 (by unfold nW; omega) (by omega) (by omega), by rw [sSend_eq, setN_s], e 4 (by unfold nW; omega) (by omega) (by omega)⟩
theorem c_send (h : Ok S) {t e : Nat} (ht : t < S 0) (he : e < 32) (hc : sCan S t = 1) : fX0_sendUp (cv S) (nI t) (nI e) = some (cv (sSend (fun p => e / 2 ^ p % 2) S t)) := by
  have hle : sCost (S (5 + 4 * t)) ≤ S 3 := by
    unfold sCan at hc
    by_cases c : S (8 + 4 * t) = 0 ∧ sCost (S (5 + 4 * t)) ≤ S 3
    · exact c.2
    · rw [if_neg c] at hc; omega
  unfold cv
  rw [c_sendUp h ht he, pk_sub hle, sSend_eq, setN_s]
  exact congrArg some (cw_cong (fun i hi hn => (setN_n _ _ hn).symm))
theorem r_sendsIn (h : Ok S) {t : Nat} (ht : t < S 0) {q : Int32} (hlk : ∀ p, p < 5 → (q >>> (nI p &&& 31)) &&& 1 = nI (lk p) ∧ lk p ≤ 1) (hc : sCan S t = 1) : fX2_sendsIn (lN8 S) (nI t) q = some (lN8 (sSend lk S t)) := by
  have h0 := h.1
  have h3 := h.2.2.1
  have hk := (h.2.2.2.2.1 t (by omega)).1
  have hle : sCost (S (5 + 4 * t)) ≤ S 3 := by
    unfold sCan at hc
    by_cases c : S (8 + 4 * t) = 0 ∧ sCost (S (5 + 4 * t)) ≤ S 3
    · exact c.2
    · rw [if_neg c] at hc; omega
  have hO : Ok (setN (setN S 3 (S 3 - sCost (S (5 + 4 * t)))) (8 + 4 * t) 1) := Ok_s (Ok_o h (Or.inr (Or.inl ⟨rfl, by omega⟩))) (by rw [setN_n _ _ (by omega)]; exact ht) (Nat.le_refl 1)
  have ix : 5 + 4 * t + 3 = 8 + 4 * t := by omega
  simp (disch := omega) only [fX2_sendsIn, lit32, rdM, q_ofR, ix, Nat.add_zero, clS, q_costBy, pk_sub hle, ckN, ncl, lN8_up, bnE, r_bursts hO (show t < 9 by omega) hlk]
  rfl
theorem sFg_same {j : Nat} (hj : nW j) : sFg S j = S j := sFp_out (Or.inl hj)
theorem sN1_ok (h : Ok S) : Ok (sN1 S) ∧ (∀ j, nW j → j ≠ 2 → sN1 S j = S j) ∧ sN1 S 2 = S 2 + 1 := by
  refine ⟨sFp_ok (Ok_o h (Or.inl rfl)) _, fun j hj h2 => ?_, ?_⟩
  · unfold sN1; rw [sFg_same hj, setN_n _ _ h2]
  · unfold sN1; rw [sFg_same (by unfold nW; omega), setN_s]
theorem sNight_ok (h : Ok S) : Ok (sNight lk S) ∧ sNight lk S 0 = S 0 ∧ sNight lk S 1 = S 1 ∧ sNight lk S 2 = S 2 + 1 ∧ sNight lk S 4 = S 4 := by
  obtain ⟨h1, h2, h3⟩ := sN1_ok h
  have e0 : sN1 S 0 = S 0 := h2 0 (by unfold nW; omega) (by omega)
  have e1 : sN1 S 1 = S 1 := h2 1 (by unfold nW; omega) (by omega)
  have e4 : sN1 S 4 = S 4 := h2 4 (by unfold nW; omega) (by omega)
  unfold sNight
  split
  · rename_i c
    obtain ⟨a, b, d, f, _, g⟩ := sSend_ok (lk := lk) h1 (t := fst1 (sCan (sN1 S)) (S 0)) (by omega)
    exact ⟨a, by rw [b, e0], by rw [d, e1], by rw [f, h3], by rw [g, e4]⟩
  · exact ⟨h1, e0, e1, h3, e4⟩
theorem sNights_ok (h : Ok S) : ∀ n, Ok (sNights lk n S) ∧ sNights lk n S 0 = S 0 ∧ sNights lk n S 1 = S 1 ∧ sNights lk n S 2 = S 2 + n ∧ sNights lk n S 4 = S 4
  | 0 => ⟨h, rfl, rfl, rfl, rfl⟩
  | n + 1 => by
    obtain ⟨h1, h2, h3, h4, h5⟩ := sNights_ok h n
    obtain ⟨a, b, c, d, e⟩ := sNight_ok (lk := lk) h1
    exact ⟨a, b.trans h2, c.trans h3, by rw [show sNights lk (n + 1) S 2 = sNights lk n S 2 + 1 from d, h4]; omega, e.trans h5⟩
theorem c_passNights (h : Ok S) {n e : Nat} (hn : n ≤ 60) (he : e < 32) : fX0_passNights (cv S) (nI n) (nI e) = some (cv (sNights (fun p => e / 2 ^ p % 2) n S)) := by
  rw [fX0_passNights]
  refine lp_for n (fun i (S' : Nat → Nat) => (cv S', nI n, nI e, nI i)) (fun _ => sNight (fun p => e / 2 ^ p % 2)) S _ ?_ ?_ 5000 (by omega)
  · intro k
    simp (disch := omega) only [fX0_passNights_2, nle, Nat.le_refl, if_true]
    rfl
  · intro k i hi
    obtain ⟨hO, -⟩ := sNights_ok (lk := fun p => e / 2 ^ p % 2) h i
    have hO : Ok (itr (fun _ => sNight (fun p => e / 2 ^ p % 2)) i S) := hO
    generalize itr (fun _ => sNight (fun p => e / 2 ^ p % 2)) i S = S' at hO
    have n1 : ¬ n ≤ i := by omega
    obtain ⟨h1, h2, h3⟩ := sN1_ok hO
    have e0 : sN1 S' 0 = S' 0 := h2 0 (by unfold nW; omega) (by omega)
    have e3 : sN1 S' 3 = S' 3 := h2 3 (by unfold nW; omega) (by omega)
    have e11 : cv S' 11 0 = nI (S' 2) := rfl
    have hf : fX0_forget (up (cv S') 11 (fun _ => nI (S' 2 + 1))) = some (cv (sN1 S')) := by
      have hu : up (cv S') 11 (fun _ => nI (S' 2 + 1)) = cw (setN S' 2 (S' 2 + 1)) (nI (S' 3)) := u11 (S' 2 + 1)
      rw [hu, c_forget (Ok_o hO (Or.inl rfl))]
      unfold cv
      rw [e3]
      rfl
    have hle := fst1_le (sCan (sN1 S')) (S' 0)
    have h09 := hO.1
    simp (disch := omega) only [fX0_passNights_2, fX0_passNights_41, nle, n1, if_false, e11, bnE, hf, clS, c_upNext h1, e0, nI_1]
    unfold sNight enc
    by_cases c : fst1 (sCan (sN1 S')) (S' 0) < S' 0
    · have hne : ¬ nI (fst1 (sCan (sN1 S')) (S' 0)) = (-9 : Int32) := by
        intro q
        have := congrArg Int32.toInt q
        rw [nI_toInt (by omega)] at this
        have e9 : (-9 : Int32).toInt = -9 := by decide
        omega
      simp only [c, if_true, hne, if_false, c_send h1 (show fst1 (sCan (sN1 S')) (S' 0) < sN1 S' 0 by omega) he (fst1_is c), clS]
    · simp only [c, if_false, if_true]
theorem lkA {q : Int32} (hq : q = -1) : ∀ p, p < 5 → (q >>> (nI p &&& 31)) &&& 1 = nI ((fun p => 31 / 2 ^ p % 2) p) ∧ (fun p => 31 / 2 ^ p % 2) p ≤ 1 := by
  subst hq; decide +kernel
end
