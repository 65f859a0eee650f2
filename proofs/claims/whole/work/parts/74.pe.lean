/-! a rocket goes up: what is read -/
def nW (j : Nat) : Prop := j < 43 ∨ 81 ≤ j ∨ (j - 41) % 8 < 2
def mm (m : Nat) : Nat := if m = 9 then 99 else m
theorem mm_le {m : Nat} (h : m ≤ 9) : mm m ≤ 99 := by unfold mm; split <;> omega
def sB (t : Nat) (lk : Nat → Nat) (p : Nat) (S : Nat → Nat) : Nat → Nat := if lk p = 1 ∧ sRd S t p = 1 ∧ S (43 + 8 * p + S (7 + 4 * t)) < mm (S (42 + 8 * p)) then setN S (43 + 8 * p + S (7 + 4 * t)) (mm (S (42 + 8 * p))) else S
def sBs (lk : Nat → Nat) (t : Nat) (S : Nat → Nat) : Nat → Nat := itr (sB t lk) (S 1) S
section
variable {S : Nat → Nat} {x : Int32} {lk : Nat → Nat}
theorem sB_inv (h : Ok S) {t p : Nat} (ht : t < 9) (hp : p < S 1) : Ok (sB t lk p S) ∧ ∀ j, nW j → sB t lk p S j = S j := by
  have hw := (h.2.2.2.2.1 t ht).2.2.1
  have h1 := h.2.1
  have hm := (h.2.2.2.2.2.2.1 p (by omega)).2.1
  unfold sB
  split
  · refine ⟨Ok_w h hp hw (mm_le hm), fun j hj => setN_n _ _ ?_⟩
    unfold nW at hj
    omega
  · exact ⟨h, fun _ _ => rfl⟩
theorem itr_sB (h : Ok S) {t : Nat} (ht : t < 9) : ∀ i, i ≤ S 1 → Ok (itr (sB t lk) i S) ∧ ∀ j, nW j → itr (sB t lk) i S j = S j
  | 0, _ => ⟨h, fun _ _ => rfl⟩
  | i + 1, hi => by
    obtain ⟨h1, h2⟩ := itr_sB h ht i (by omega)
    have e : itr (sB t lk) i S 1 = S 1 := h2 1 (by unfold nW; omega)
    obtain ⟨h3, h4⟩ := sB_inv (lk := lk) h1 ht (p := i) (by omega)
    exact ⟨h3, fun j hj => (h4 j hj).trans (h2 j hj)⟩
theorem sBs_ok (h : Ok S) {t : Nat} (ht : t < 9) : Ok (sBs lk t S) ∧ ∀ j, nW j → sBs lk t S j = S j := itr_sB h ht (S 1) (Nat.le_refl _)
theorem sRd_same {S' : Nat → Nat} (h : ∀ j, nW j → S' j = S j) {t p : Nat} (ht : t < 9) (hp : p < 5) : sRd S' t p = sRd S t p := by
  unfold sRd
  rw [h (41 + 8 * p) (by unfold nW; omega), h (5 + 4 * t) (by unfold nW; omega), h 4 (by unfold nW; omega), h (6 + 4 * t) (by unfold nW; omega)]
theorem r_has {q : Int32} (hlk : ∀ p, p < 5 → (q >>> (nI p &&& 31)) &&& 1 = nI (lk p) ∧ lk p ≤ 1) {p : Nat} (hp : p < 5) : fX2_has q (nI p) = some (nI (lk p)) := by
  have h2 := (hlk p hp).2
  rw [fX2_has, (hlk p hp).1]
  rcases (show lk p = 0 ∨ lk p = 1 by omega) with e | e <;> rw [e] <;> rfl
theorem r_bursts (h : Ok S) {t : Nat} (ht : t < 9) {q : Int32} (hlk : ∀ p, p < 5 → (q >>> (nI p &&& 31)) &&& 1 = nI (lk p) ∧ lk p ≤ 1) : fX2_bursts (lN8 S) (nI t) q = some (lN8 (sBs lk t S)) := by
  have h1 := h.2.1
  rw [fX2_bursts]
  refine lp_for (S 1) (fun i (S' : Nat → Nat) => (lN8 S', nI t, q, nI i)) (sB t lk) S _ ?_ ?_ 5000 (by omega)
  · intro k
    have e : itr (sB t lk) (S 1) S 1 = S 1 := (sBs_ok h ht).2 1 (by unfold nW; omega)
    simp (disch := omega) only [fX2_bursts_2, lit32, rdM, e, nle, Nat.le_refl, if_true]
    rfl
  · intro k i hi
    obtain ⟨hO, hs⟩ := itr_sB (lk := lk) h ht i (by omega)
    generalize itr (sB t lk) i S = S' at hO hs
    have hi5 : i < 5 := by omega
    have e1 : S' 1 = S 1 := hs 1 (by unfold nW; omega)
    have n1 : ¬ S 1 ≤ i := by omega
    have hw := (hO.2.2.2.2.1 t ht).2.2.1
    have hm := (hO.2.2.2.2.2.2.1 i hi5).2.1
    have hh := (hO.2.2.2.2.2.2.1 i hi5).2.2 _ hw
    have hr := sRd_le S' t i
    have hl := (hlk i hi5).2
    have ix : 41 + 8 * i + (2 + S' (7 + 4 * t)) = 43 + 8 * i + S' (7 + 4 * t) := by omega
    have ixr : 5 + 4 * t + 2 = 7 + 4 * t := by omega
    have ixp : 41 + 8 * i + 1 = 42 + 8 * i := by omega
    simp (disch := omega) only [fX2_bursts_2, fX2_bursts_53, fX2_bursts_85, lit32, rdM, e1, nle, n1, if_false, r_has hlk hi5, clS, neq, r_isRead hO ht hi5, q_ofP, q_ofR, nI_add, ix, ixr, ixp, bnE, ckN, ncl, lN8_up]
    unfold sB mm
    rcases (show lk i = 0 ∨ lk i = 1 by omega) with c1 | c1
    · simp [c1]
    · rcases (show sRd S' t i = 0 ∨ sRd S' t i = 1 by omega) with c2 | c2
      · simp [c1, c2]
      · by_cases c3 : S' (42 + 8 * i) = 9
        · by_cases c4 : 99 ≤ S' (43 + 8 * i + S' (7 + 4 * t))
          · have c5 : ¬ S' (43 + 8 * i + S' (7 + 4 * t)) < 99 := by omega
            simp [c1, c2, c3, c4, c5]
          · have c5 : S' (43 + 8 * i + S' (7 + 4 * t)) < 99 := by omega
            simp [c1, c2, c3, c4, c5]
        · by_cases c4 : S' (42 + 8 * i) ≤ S' (43 + 8 * i + S' (7 + 4 * t))
          · have c5 : ¬ S' (43 + 8 * i + S' (7 + 4 * t)) < S' (42 + 8 * i) := by omega
            simp [c1, c2, c3, c4, c5]
          · have c5 : S' (43 + 8 * i + S' (7 + 4 * t)) < S' (42 + 8 * i) := by omega
            simp [c1, c2, c3, c4, c5]
theorem and_bit (a b i : Nat) : (a &&& b) / 2 ^ i % 2 = (a / 2 ^ i % 2) * (b / 2 ^ i % 2) := by
  rw [tb_div, tb_div, tb_div, Nat.testBit_and]
  cases a.testBit i <;> cases b.testBit i <;> rfl
theorem c_throwAway (h : Ok S) {t : Nat} (ht : t < 9) : fX0_throwAway (cw S x) (nI t) = some (cw (setN S (8 + 4 * t) 1) x) := by
  rw [fX0_throwAway, bnE]
  exact congrArg some (u4s h ht)
theorem c_putBack (h : Ok S) {t : Nat} (ht : t < 9) : fX0_putBack (cw S x) (nI t) = some (cw (setN S (8 + 4 * t) 0) x) := by
  rw [fX0_putBack, bnE]
  exact congrArg some (u4c h ht)
theorem sRd_s {t t' p y : Nat} (ht : t < 9) (hp : p < 5) (ht' : t' < 9) : sRd (setN S (8 + 4 * t') y) t p = sRd S t p := by
  have e : ∀ i, i ≠ 8 + 4 * t' → setN S (8 + 4 * t') y i = S i := fun i hi => setN_n S y hi
  unfold sRd
  rw [e _ (by omega), e _ (by omega), e _ (by omega), e _ (by omega)]
/-- sendUp, its money apart -/
theorem c_sendUp (h : Ok S) {t e : Nat} (ht : t < S 0) (he : e < 32) : fX0_sendUp (cw S x) (nI t) (nI e) = some (cw (sBs (fun p => e / 2 ^ p % 2) t (setN S (8 + 4 * t) 1)) (x - nI (sCost (S (5 + 4 * t))))) := by
  have h0 := h.1
  have ht9 : t < 9 := by omega
  have hS1 : Ok (setN S (8 + 4 * t) 1) := Ok_s h ht (Nat.le_refl 1)
  have e9 : cw S x 9 0 = x := rfl
  rw [fX0_sendUp, c_costOf h ht9, clS, bnE, e9, u9, c_throwAway h ht9, clS, c_readersOf hS1 ht9, clS, bnE, fa_and]
  generalize hx' : x - nI (sCost (S (5 + 4 * t))) = x'
  generalize hT : setN S (8 + 4 * t) 1 = T at hS1
  have h1 := hS1.2.1
  have hrl := sReaders_lt hS1 t
  have hand : sReaders T t &&& e ≤ sReaders T t := Nat.and_le_left
  refine lp_for (T 1) (fun i (S' : Nat → Nat) => (cw S' x', nI t, nI (sReaders T t &&& e), nI i)) (sB t (fun p => e / 2 ^ p % 2)) T _ ?_ ?_ 5000 (by omega)
  · intro k
    have e1 : itr (sB t (fun p => e / 2 ^ p % 2)) (T 1) T 1 = T 1 := (sBs_ok hS1 ht9).2 1 (by unfold nW; omega)
    have e5 : cw (itr (sB t (fun p => e / 2 ^ p % 2)) (T 1) T) x' 5 0 = nI (T 1) := congrArg nI e1
    simp (disch := omega) only [fX0_sendUp_30, e5, nle, Nat.le_refl, if_true]
    rfl
  · intro k i hi
    obtain ⟨hO, hs⟩ := itr_sB (lk := fun p => e / 2 ^ p % 2) hS1 ht9 i (by omega)
    generalize itr (sB t (fun p => e / 2 ^ p % 2)) i T = S' at hO hs
    have hi5 : i < 5 := by omega
    have e1 : S' 1 = T 1 := hs 1 (by unfold nW; omega)
    have e5 : cw S' x' 5 0 = nI (T 1) := congrArg nI e1
    have n1 : ¬ T 1 ≤ i := by omega
    have hw := (hO.2.2.2.2.1 t ht9).2.2.1
    have hm := (hO.2.2.2.2.2.2.1 i hi5).2.1
    have hh := (hO.2.2.2.2.2.2.1 i hi5).2.2 _ hw
    have hr := sRd_le S' t i
    have ix : i * 6 + S' (7 + 4 * t) = 6 * i + S' (7 + 4 * t) := by omega
    have hbit : (nI (sReaders T t &&& e) >>> (nI i &&& nI 31)) &&& nI 1 = nI (sRd S' t i * (e / 2 ^ i % 2)) := by
      refine (shrB (m := sReaders T t &&& e) (t := i) (by omega) (by omega)).trans ?_
      rw [and_bit, show sReaders T t / 2 ^ i % 2 = sRd T t i from bitsN_bit (fun j _ => sRd_le T t j) hi, sRd_same hs ht9 hi5]
    have hl : e / 2 ^ i % 2 ≤ 1 := by omega
    have hmul : sRd S' t i * (e / 2 ^ i % 2) ≤ 1 := by
      rcases (show sRd S' t i = 0 ∨ sRd S' t i = 1 by omega) with c | c <;> rw [c] <;> omega
    simp (disch := omega) only [fX0_sendUp_30, fX0_sendUp_77, fX0_sendUp_110, lit32, e5, nle, n1, if_false, rdV3, rdV7, pk_mul, nI_add, ix, hbit, neq, rdV8, bnE, ckN, ncl, u8 hi5 hw]
    unfold sB mm
    rcases (show e / 2 ^ i % 2 = 0 ∨ e / 2 ^ i % 2 = 1 by omega) with c1 | c1
    · simp [c1]
    · rcases (show sRd S' t i = 0 ∨ sRd S' t i = 1 by omega) with c2 | c2
      · simp [c1, c2]
      · by_cases c3 : S' (42 + 8 * i) = 9
        · by_cases c4 : 99 ≤ S' (43 + 8 * i + S' (7 + 4 * t))
          · have c5 : ¬ S' (43 + 8 * i + S' (7 + 4 * t)) < 99 := by omega
            simp [c1, c2, c3, c4, c5]
          · have c5 : S' (43 + 8 * i + S' (7 + 4 * t)) < 99 := by omega
            simp [c1, c2, c3, c4, c5]
        · by_cases c4 : S' (42 + 8 * i) ≤ S' (43 + 8 * i + S' (7 + 4 * t))
          · have c5 : ¬ S' (43 + 8 * i + S' (7 + 4 * t)) < S' (42 + 8 * i) := by omega
            simp [c1, c2, c3, c4, c5]
          · have c5 : S' (43 + 8 * i + S' (7 + 4 * t)) < S' (42 + 8 * i) := by omega
            simp [c1, c2, c3, c4, c5]
end
