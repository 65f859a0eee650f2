/-! nights -/
def fl (i : Nat) : Nat := 6 * ((i - 41) / 8) + ((i - 41) % 8 - 2)
/-- the words of flat number below m are forgotten by a night -/
def sFp (S : Nat → Nat) (m : Nat) : Nat → Nat := fun i => if 43 ≤ i ∧ i < 81 ∧ 2 ≤ (i - 41) % 8 ∧ fl i < m ∧ 0 < S i ∧ S i ≠ 99 then S i - 1 else S i
def sFg (S : Nat → Nat) : Nat → Nat := sFp S (6 * S 1)
theorem sFp_0 (S : Nat → Nat) : sFp S 0 = S := funext fun i => by
  unfold sFp
  rw [if_neg (by omega)]
theorem sFp_out {S : Nat → Nat} {m i : Nat} (h : nW i ∨ m ≤ fl i) : sFp S m i = S i := by
  unfold sFp nW at *
  rw [if_neg (by omega)]
theorem fl_wp (p w : Nat) (hw : w < 6) : fl (43 + 8 * p + w) = 6 * p + w := by unfold fl; omega
theorem sFp_next (S : Nat → Nat) {p w : Nat} (hp : p < 5) (hw : w < 6) : sFp S (6 * p + w + 1) = if 0 < S (43 + 8 * p + w) ∧ S (43 + 8 * p + w) ≠ 99 then setN (sFp S (6 * p + w)) (43 + 8 * p + w) (S (43 + 8 * p + w) - 1) else sFp S (6 * p + w) := by
  funext i
  by_cases e : i = 43 + 8 * p + w
  · subst e
    have hf := fl_wp p w hw
    split
    · rename_i c
      rw [setN_s]
      unfold sFp
      rw [if_pos ⟨by omega, by omega, by omega, by omega, c.1, c.2⟩]
    · rename_i c
      unfold sFp
      rw [if_neg (by omega), if_neg (by omega)]
  · have hne : 43 ≤ i → 2 ≤ (i - 41) % 8 → fl i ≠ 6 * p + w := by
      unfold fl; omega
    have key : sFp S (6 * p + w + 1) i = sFp S (6 * p + w) i := by
      unfold sFp
      by_cases c : 43 ≤ i ∧ i < 81 ∧ 2 ≤ (i - 41) % 8 ∧ fl i < 6 * p + w ∧ 0 < S i ∧ S i ≠ 99
      · rw [if_pos c, if_pos ⟨c.1, c.2.1, c.2.2.1, by omega, c.2.2.2.2.1, c.2.2.2.2.2⟩]
      · rw [if_neg c]
        rw [if_neg (fun d => c ⟨d.1, d.2.1, d.2.2.1, by have := hne d.1 d.2.2.1; omega, d.2.2.2.2.1, d.2.2.2.2.2⟩)]
    split
    · rw [setN_n _ _ e]; exact key
    · exact key
theorem sFp_ok {S : Nat → Nat} (h : Ok S) (m : Nat) : Ok (sFp S m) := by
  have hle : ∀ i, sFp S m i ≤ S i := fun i => by unfold sFp; split <;> omega
  have e : ∀ i, nW i → sFp S m i = S i := fun i hi => sFp_out (Or.inl hi)
  obtain ⟨h0, h1, h3, h4, hk, hz, ha, hb, hc⟩ := h
  refine ⟨by rw [e 0 (by unfold nW; omega)]; exact h0, by rw [e 1 (by unfold nW; omega)]; exact h1, by rw [e 3 (by unfold nW; omega)]; exact h3, by rw [e 4 (by unfold nW; omega)]; exact h4, fun i hi => ?_, fun i h1 hi => ?_, fun q hq => ?_, fun q h2 hq => ?_, fun i hi => ?_⟩
  · rw [e _ (by unfold nW; omega), e _ (by unfold nW; omega), e _ (by unfold nW; omega), e _ (by unfold nW; omega)]; exact hk i hi
  · rw [e 0 (by unfold nW; omega)] at h1
    rw [e _ (by unfold nW; omega), e _ (by unfold nW; omega), e _ (by unfold nW; omega), e _ (by unfold nW; omega)]; exact hz i h1 hi
  · rw [e _ (by unfold nW; omega), e _ (by unfold nW; omega)]
    exact ⟨(ha q hq).1, (ha q hq).2.1, fun v hv => Nat.le_trans (hle _) ((ha q hq).2.2 v hv)⟩
  · rw [e 1 (by unfold nW; omega)] at h2
    rw [e _ (by unfold nW; omega), e _ (by unfold nW; omega)]
    refine ⟨(hb q h2 hq).1, (hb q h2 hq).2.1, fun v hv => ?_⟩
    have := hle (43 + 8 * q + v)
    have := (hb q h2 hq).2.2 v hv
    omega
  · rw [e _ (by unfold nW; omega)]; exact hc i hi
section
variable {S : Nat → Nat} {x : Int32} {lk : Nat → Nat}
theorem c_forget (h : Ok S) : fX0_forget (cw S x) = some (cw (sFg S) x) := by
  have h1 := h.2.1
  rw [fX0_forget]
  have hx0 : (cw S x, (0 : Int32)) = (fun i (S' : Nat → Nat) => (cw S' x, nI i)) 0 (sFp S 0) := by rw [sFp_0]; rfl
  have hit : ∀ i, itr (fun i (_ : Nat → Nat) => sFp S (i + 1)) i (sFp S 0) = sFp S i := fun i => by cases i <;> rfl
  rw [hx0]
  refine lp_for (6 * S 1) (fun i (S' : Nat → Nat) => (cw S' x, nI i)) (fun i _ => sFp S (i + 1)) (sFp S 0) _ ?_ ?_ 5000 (by omega)
  · intro k
    rw [hit]
    have e5 : cw (sFp S (6 * S 1)) x 5 0 = nI (S 1) := congrArg nI (sFp_out (Or.inl (by unfold nW; omega)))
    have e6 : S 1 * 6 = 6 * S 1 := by omega
    simp (disch := omega) only [fX0_forget_2, lit32, e5, pk_mul, e6, nle, Nat.le_refl, if_true]
    rfl
  · intro k i hi
    rw [hit]
    obtain ⟨p, w, hp, hw, rfl⟩ : ∃ p w, p < S 1 ∧ w < 6 ∧ i = 6 * p + w := ⟨i / 6, i % 6, by omega, by omega, by omega⟩
    have hp5 : p < 5 := by omega
    have e5 : cw (sFp S (6 * p + w)) x 5 0 = nI (S 1) := congrArg nI (sFp_out (Or.inl (by unfold nW; omega)))
    have e6 : S 1 * 6 = 6 * S 1 := by omega
    have n1 : ¬ 6 * S 1 ≤ 6 * p + w := by omega
    have ev : sFp S (6 * p + w) (43 + 8 * p + w) = S (43 + 8 * p + w) := sFp_out (Or.inr (by rw [fl_wp p w hw]; omega))
    have hh := (h.2.2.2.2.2.2.1 p hp5).2.2 w hw
    show _ = k (cw (sFp S (6 * p + w + 1)) x, nI (6 * p + w + 1))
    rw [sFp_next S hp5 hw]
    simp (disch := omega) only [fX0_forget_2, fX0_forget_43, lit32, e5, pk_mul, e6, nle, n1, if_false, rdV8, ev, neq, bnE, nI_add, ckN, ncl]
    by_cases c1 : S (43 + 8 * p + w) ≤ 0
    · have c2 : ¬ (0 < S (43 + 8 * p + w) ∧ S (43 + 8 * p + w) ≠ 99) := by omega
      simp only [c1, if_true, c2, if_false]
    · by_cases c2 : S (43 + 8 * p + w) = 99
      · have c3 : ¬ (0 < S (43 + 8 * p + w) ∧ S (43 + 8 * p + w) ≠ 99) := by omega
        simp only [c1, if_false, c2, if_true]
        simp
      · have c3 : (0 < S (43 + 8 * p + w) ∧ S (43 + 8 * p + w) ≠ 99) := by omega
        have hs : nI (S (43 + 8 * p + w)) - nI 1 = nI (S (43 + 8 * p + w) - 1) := pk_sub (by omega)
        simp only [c1, if_false, c2, c3, if_true, hs, u8 hp5 hw, ne_eq, not_false_eq_true, and_true]
end
-- the first that can go
def sCan (S : Nat → Nat) (t : Nat) : Nat := if S (8 + 4 * t) = 0 ∧ sCost (S (5 + 4 * t)) ≤ S 3 then 1 else 0
theorem sCan_le (S : Nat → Nat) (t : Nat) : sCan S t ≤ 1 := by unfold sCan; split <;> omega
def fst1 (f : Nat → Nat) : Nat → Nat
  | 0 => 0
  | n + 1 => if fst1 f n < n then fst1 f n else if f n = 1 then n else n + 1
theorem fst1_le (f : Nat → Nat) : ∀ n, fst1 f n ≤ n
  | 0 => Nat.le_refl 0
  | n + 1 => by
    have ih := fst1_le f n
    unfold fst1
    split
    · omega
    · split <;> omega
theorem fst1_no {f : Nat → Nat} : ∀ {n : Nat}, (∀ i, i < n → f i ≠ 1) → fst1 f n = n
  | 0, _ => rfl
  | n + 1, h => by
    unfold fst1
    rw [fst1_no (fun i hi => h i (by omega)), if_neg (by omega), if_neg (h n (by omega))]
theorem fst1_at {f : Nat → Nat} {t : Nat} (h1 : f t = 1) (h2 : ∀ i, i < t → f i ≠ 1) : ∀ n, t < n → fst1 f n = t
  | 0, h => by omega
  | n + 1, h => by
    unfold fst1
    by_cases e : t = n
    · subst e
      rw [fst1_no h2, if_neg (by omega), if_pos h1]
    · rw [fst1_at h1 h2 n (by omega), if_pos (by omega)]
theorem fst1_is {f : Nat → Nat} : ∀ {n : Nat}, fst1 f n < n → f (fst1 f n) = 1
  | 0, h => by omega
  | n + 1, h => by
    unfold fst1 at h ⊢
    by_cases c : fst1 f n < n
    · rw [if_pos c]; exact fst1_is c
    · rw [if_neg c] at h ⊢
      by_cases d : f n = 1
      · rw [if_pos d]; exact d
      · rw [if_neg d] at h; omega
def enc (t n : Nat) : Int32 := if t < n then nI t else -9
section
variable {S : Nat → Nat} {x : Int32} {lk : Nat → Nat}
theorem c_hasRocket {t : Nat} (ht : t < 100) (h : Ok S) : fX0_hasRocket (cw S x) (nI t) = some (nI (if t < S 0 then 1 else 0)) := by
  have h0 := h.1
  have e0 : cw S x 0 0 = nI (S 0) := rfl
  have hn : ¬ nI t < nI 0 := by rw [nlt (by omega) (by omega)]; omega
  simp (disch := omega) only [fX0_hasRocket, lit32, hn, if_false, e0, nle]
  by_cases c : t < S 0
  · rw [if_neg (by omega), if_pos c]
  · rw [if_pos (by omega), if_neg c]
theorem c_isSent (h : Ok S) {t : Nat} (ht : t < 9) : fX0_isSent (cw S x) (nI t) = some (nI (S (8 + 4 * t))) := by
  have hl : sentN S < 512 := bitsN_lt (n := 9) (fun i hi => (h.2.2.2.2.1 i hi).2.2.2)
  have hs := (h.2.2.2.2.1 t ht).2.2.2
  have e4 : cw S x 4 0 = nI (sentN S) := rfl
  have hb : (nI (sentN S) >>> (nI t &&& 31)) &&& (1 : Int32) = nI (S (8 + 4 * t)) := by
    rw [shrB (by omega) (by omega)]
    exact congrArg nI (bitsN_bit (f := fun t => S (8 + 4 * t)) (n := 9) (fun i hi => (h.2.2.2.2.1 i hi).2.2.2) ht)
  rw [fX0_isSent, e4, hb]
  rcases (show S (8 + 4 * t) = 0 ∨ S (8 + 4 * t) = 1 by omega) with e | e <;> rw [e] <;> rfl
theorem c_canSend (h : Ok S) {t : Nat} (ht : t < 100) : fX0_canSend (cv S) (nI t) = some (nI (if t < S 0 then sCan S t else 0)) := by
  have h0 := h.1
  have h3 := h.2.2.1
  unfold cv
  rw [fX0_canSend, c_hasRocket ht h, clS]
  by_cases c : t < S 0
  · have ht9 : t < 9 := by omega
    have hs := (h.2.2.2.2.1 t ht9).2.2.2
    have hk := (h.2.2.2.2.1 t ht9).1
    have hc := sCost_le _ hk
    have e9 : cw S (nI (S 3)) 9 0 = nI (S 3) := rfl
    simp (disch := omega) only [c, if_true, lit32, c_isSent h ht9, clS, c_costOf h ht9, e9, nlt, neq]
    unfold sCan
    rcases (show S (8 + 4 * t) = 0 ∨ S (8 + 4 * t) = 1 by omega) with e | e
    · by_cases d : S 3 < sCost (S (5 + 4 * t))
      · have d2 : ¬ sCost (S (5 + 4 * t)) ≤ S 3 := by omega
        simp [e, d, d2]
      · have d2 : sCost (S (5 + 4 * t)) ≤ S 3 := by omega
        simp [e, d, d2]
    · simp [e]
  · simp only [c, if_false]
    rfl
theorem r_canGo (h : Ok S) {t : Nat} (ht : t < 9) : fX2_canGo (lN8 S) (nI t) = some (nI (sCan S t)) := by
  have h3 := h.2.2.1
  have hs := (h.2.2.2.2.1 t ht).2.2.2
  have hk := (h.2.2.2.2.1 t ht).1
  have hc := sCost_le _ hk
  have ix : 5 + 4 * t + 3 = 8 + 4 * t := by omega
  simp (disch := omega) only [fX2_canGo, lit32, q_ofR, ix, Nat.add_zero, clS, rdM, q_costBy, nlt, neq]
  unfold sCan
  rcases (show S (8 + 4 * t) = 0 ∨ S (8 + 4 * t) = 1 by omega) with e | e
  · by_cases d : S 3 < sCost (S (5 + 4 * t))
    · have d2 : ¬ sCost (S (5 + 4 * t)) ≤ S 3 := by omega
      simp [e, d, d2]
    · have d2 : sCost (S (5 + 4 * t)) ≤ S 3 := by omega
      simp [e, d, d2]
  · simp [e]
theorem c_upNext (h : Ok S) : fX0_upNext (cv S) = some (enc (fst1 (sCan S) (S 0)) (S 0)) := by
  have h0 := h.1
  rw [fX0_upNext]
  have key := lp_inv (F := fX0_upNext_2 (cv S)) (S 0) (fun i y => y = nI i ∧ ∀ j, j < i → sCan S j ≠ 1) (fun r => r = enc (fst1 (sCan S) (S 0)) (S 0)) ?_ ?_ (0 : Int32) ⟨rfl, fun j hj => by omega⟩ 5000 (by omega)
  · obtain ⟨r, h1, h2⟩ := key
    rw [h1, h2]
  · rintro k y ⟨rfl, hn⟩
    have e0 : cv S 0 0 = nI (S 0) := rfl
    refine ⟨-9, ?_, ?_⟩
    · simp (disch := omega) only [fX0_upNext_2, e0, nle, Nat.le_refl, if_true]
    · rw [fst1_no hn, enc, if_neg (by omega)]
  · rintro k i y hi ⟨rfl, hn⟩
    have e0 : cv S 0 0 = nI (S 0) := rfl
    have n1 : ¬ S 0 ≤ i := by omega
    have hl := sCan_le S i
    simp (disch := omega) only [fX0_upNext_2, e0, nle, n1, if_false, c_canSend h, hi, if_true, clS, lit32, neq, bnE, nI_add]
    rcases (show sCan S i = 0 ∨ sCan S i = 1 by omega) with e | e
    · refine Or.inr ⟨nI (i + 1), by rw [if_pos e], rfl, fun j hj => ?_⟩
      by_cases c : j = i
      · subst c; omega
      · exact hn j (by omega)
    · refine Or.inl ⟨nI i, by rw [if_neg (by omega)], ?_⟩
      rw [fst1_at e hn (S 0) hi, enc, if_pos hi]
theorem r_nextOf (h : Ok S) : fX2_nextOf (lN8 S) = some (enc (fst1 (sCan S) (S 0)) (S 0)) := by
  have h0 := h.1
  rw [fX2_nextOf]
  have key := lp_inv (F := fX2_nextOf_2 (lN8 S)) (S 0) (fun i y => y = nI i ∧ ∀ j, j < i → sCan S j ≠ 1) (fun r => r = enc (fst1 (sCan S) (S 0)) (S 0)) ?_ ?_ (0 : Int32) ⟨rfl, fun j hj => by omega⟩ 5000 (by omega)
  · obtain ⟨r, h1, h2⟩ := key
    rw [h1, h2]
  · rintro k y ⟨rfl, hn⟩
    refine ⟨-9, ?_, ?_⟩
    · simp (disch := omega) only [fX2_nextOf_2, lit32, rdM, nle, Nat.le_refl, if_true]
    · rw [fst1_no hn, enc, if_neg (by omega)]
  · rintro k i y hi ⟨rfl, hn⟩
    have n1 : ¬ S 0 ≤ i := by omega
    have hl := sCan_le S i
    simp (disch := omega) only [fX2_nextOf_2, lit32, rdM, nle, n1, if_false, r_canGo h, clS, neq, bnE, nI_add]
    rcases (show sCan S i = 0 ∨ sCan S i = 1 by omega) with e | e
    · refine Or.inr ⟨nI (i + 1), by rw [if_pos e], rfl, fun j hj => ?_⟩
      by_cases c : j = i
      · subst c; omega
      · exact hn j (by omega)
    · refine Or.inl ⟨nI i, by rw [if_neg (by omega)], ?_⟩
      rw [fst1_at e hn (S 0) hi, enc, if_pos hi]
end
