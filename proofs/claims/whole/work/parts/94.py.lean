/-! rain, mean -/
theorem cmp0 {a : Nat} (h : a < 2 ^ 63) : (lg_cmp (lN a) (0 : Int64) = 0) ↔ a = 0 := (lg_cmp_eq _ _).trans (pk_lEQ (b := 0) h (by decide))
theorem lN0 {a : Nat} (h : a < 2 ^ 63) : (lN a = (0 : Int64)) ↔ a = 0 := pk_lEQ (b := 0) h (by decide)
theorem dvlT {β : Type} {a : Nat} {K : Option β} (h : a < 2 ^ 63) (h0 : 0 < a) : dvl (lN a) K = K := if_neg (fun q => by have := (lN0 h).mp q; omega)
theorem half_lt {b c d : Nat} (hb : b < 2 ^ (d + 1)) (hc : 0 < c) (hcb : c < b) : b % c < 2 ^ d := by
  have h1 : b % c < c := Nat.mod_lt _ hc
  have h2 : b % c + c ≤ b := by
    have e := Nat.div_add_mod b c
    have : 1 ≤ b / c := (Nat.one_le_div_iff hc).mpr (by omega)
    have : c * 1 ≤ c * (b / c) := Nat.mul_le_mul_left c this
    omega
  have : 2 ^ (d + 1) = 2 ^ d + 2 ^ d := by rw [Nat.pow_succ]; omega
  omega
theorem gcd_st (a b : Nat) : Nat.gcd a b = Nat.gcd b (a % b) := by
  rw [Nat.gcd_comm a b, Nat.gcd_rec b a, Nat.gcd_comm]
theorem r_gcd : ∀ d a b n, a < 2 ^ 62 → b < 2 ^ d → d ≤ 62 → 2 * d < n → lp fX2_gcd_6 n (lN a, lN b) = some (lN (Nat.gcd a b))
  | 0, a, b, n, ha, hb, hd, hn => by
    have e : b = 0 := by have : 2 ^ 0 = 1 := rfl; omega
    subst e
    obtain ⟨n, rfl⟩ : ∃ m, n = m + 1 := ⟨n - 1, by omega⟩
    show fX2_gcd_6 (lp fX2_gcd_6 n) (lN a, lN 0) = _
    have c0 : lg_cmp (lN 0) (0 : Int64) = 0 := (cmp0 (by decide)).mpr rfl
    simp only [fX2_gcd_6, c0, if_true, Nat.gcd_zero_right]
  | d + 1, a, b, n, ha, hb, hd, hn => by
    have p62 : 2 ^ (d + 1) ≤ 2 ^ 62 := Nat.pow_le_pow_right (by decide) hd
    have hb62 : b < 2 ^ 62 := Nat.lt_of_lt_of_le hb p62
    obtain ⟨n, rfl⟩ : ∃ m, n = m + 2 := ⟨n - 2, by omega⟩
    show fX2_gcd_6 (lp fX2_gcd_6 (n + 1)) (lN a, lN b) = _
    by_cases c : b = 0
    · subst c
      have c0 : lg_cmp (lN 0) (0 : Int64) = 0 := (cmp0 (by decide)).mpr rfl
      simp only [fX2_gcd_6, c0, if_true, Nat.gcd_zero_right]
    · have c0 : ¬ lg_cmp (lN b) (0 : Int64) = 0 := fun q => c ((cmp0 (by omega)).mp q)
      have e1 : fX2_gcd_6 (lp fX2_gcd_6 (n + 1)) (lN a, lN b) = lp fX2_gcd_6 (n + 1) (lN b, lN (a % b)) := by
        simp only [fX2_gcd_6, c0, if_false]
        rw [dvlT (by omega) (by omega), pk_lRem (by omega) (by omega) (by omega), bnT]
      rw [e1, gcd_st a b]
      have hm : a % b < b := Nat.mod_lt _ (by omega)
      generalize a % b = m at hm
      show fX2_gcd_6 (lp fX2_gcd_6 n) (lN b, lN m) = _
      by_cases c2 : m = 0
      · subst c2
        have c0 : lg_cmp (lN 0) (0 : Int64) = 0 := (cmp0 (by decide)).mpr rfl
        simp only [fX2_gcd_6, c0, if_true, Nat.gcd_zero_right]
      · have c3 : ¬ lg_cmp (lN m) (0 : Int64) = 0 := fun q => c2 ((cmp0 (by omega)).mp q)
        have e2 : fX2_gcd_6 (lp fX2_gcd_6 n) (lN b, lN m) = lp fX2_gcd_6 n (lN m, lN (b % m)) := by
          simp only [fX2_gcd_6, c3, if_false]
          rw [dvlT (by omega) (by omega), pk_lRem (by omega) (by omega) (by omega), bnT]
        rw [e2, gcd_st b m]
        exact r_gcd d m (b % m) n (by omega) (half_lt hb (by omega) hm) (by omega) (by omega)
theorem c_gcd : ∀ d a b i n, a < 2 ^ 62 → b < 2 ^ d → d ≤ 62 → 2 * d < n → i + 2 * d < 1000 → lp fX1_commonDivisor_9 n (lN a, lN b, nI i) = some (lN (Nat.gcd a b))
  | 0, a, b, i, n, ha, hb, hd, hn, hi => by
    have e : b = 0 := by have : 2 ^ 0 = 1 := rfl; omega
    subst e
    obtain ⟨n, rfl⟩ : ∃ m, n = m + 1 := ⟨n - 1, by omega⟩
    show fX1_commonDivisor_9 (lp fX1_commonDivisor_9 n) (lN a, lN 0, nI i) = _
    have c0 : lg_cmp (lN 0) (0 : Int64) = 0 := (cmp0 (by decide)).mpr rfl
    have g : ¬ (1000 : Int32) ≤ nI i := fun q => by have := (nle (a := 1000) (by decide) (by omega)).mp q; omega
    simp only [fX1_commonDivisor_9, g, if_false, c0, if_true, Nat.gcd_zero_right]
  | d + 1, a, b, i, n, ha, hb, hd, hn, hi => by
    have p62 : 2 ^ (d + 1) ≤ 2 ^ 62 := Nat.pow_le_pow_right (by decide) hd
    have hb62 : b < 2 ^ 62 := Nat.lt_of_lt_of_le hb p62
    obtain ⟨n, rfl⟩ : ∃ m, n = m + 2 := ⟨n - 2, by omega⟩
    have g : ¬ (1000 : Int32) ≤ nI i := fun q => by have := (nle (a := 1000) (by decide) (by omega)).mp q; omega
    have g2 : ¬ (1000 : Int32) ≤ nI (i + 1) := fun q => by have := (nle (a := 1000) (by decide) (by omega)).mp q; omega
    show fX1_commonDivisor_9 (lp fX1_commonDivisor_9 (n + 1)) (lN a, lN b, nI i) = _
    by_cases c : b = 0
    · subst c
      have c0 : lg_cmp (lN 0) (0 : Int64) = 0 := (cmp0 (by decide)).mpr rfl
      simp only [fX1_commonDivisor_9, g, if_false, c0, if_true, Nat.gcd_zero_right]
    · have c0 : ¬ lg_cmp (lN b) (0 : Int64) = 0 := fun q => c ((cmp0 (by omega)).mp q)
      have e1 : fX1_commonDivisor_9 (lp fX1_commonDivisor_9 (n + 1)) (lN a, lN b, nI i) = lp fX1_commonDivisor_9 (n + 1) (lN b, lN (a % b), nI (i + 1)) := by
        simp only [fX1_commonDivisor_9, g, c0, if_false]
        rw [dvlT (by omega) (by omega), pk_lRem (by omega) (by omega) (by omega), bnT, bnT, nI_1]
      rw [e1, gcd_st a b]
      have hm : a % b < b := Nat.mod_lt _ (by omega)
      generalize a % b = m at hm
      show fX1_commonDivisor_9 (lp fX1_commonDivisor_9 n) (lN b, lN m, nI (i + 1)) = _
      by_cases c2 : m = 0
      · subst c2
        have c0 : lg_cmp (lN 0) (0 : Int64) = 0 := (cmp0 (by decide)).mpr rfl
        simp only [fX1_commonDivisor_9, g2, if_false, c0, if_true, Nat.gcd_zero_right]
      · have c3 : ¬ lg_cmp (lN m) (0 : Int64) = 0 := fun q => c2 ((cmp0 (by omega)).mp q)
        have e2 : fX1_commonDivisor_9 (lp fX1_commonDivisor_9 n) (lN b, lN m, nI (i + 1)) = lp fX1_commonDivisor_9 n (lN m, lN (b % m), nI (i + 1 + 1)) := by
          simp only [fX1_commonDivisor_9, g2, c3, if_false]
          rw [dvlT (by omega) (by omega), pk_lRem (by omega) (by omega) (by omega), bnT, bnT, nI_1]
        rw [e2, gcd_st b m]
        exact c_gcd d m (b % m) (i + 1 + 1) n (by omega) (half_lt hb (by omega) hm) (by omega) (by omega) (by omega)
/-- the part of a fraction -/
theorem part_eq {A B : Nat} (hA : A < 2 ^ 62) (hB : B < 2 ^ 31) (h0 : 0 < B) {q : Int32} (hq : q = 0 ∨ q = 1) : ∃ v, fX1_partOf (lN A) (lN B) q = some v ∧ ∀ B', (A = 0 ∨ B' = B) → fX2_partOf (lN A) (lN B') q = some v := by
  have g1 : fX1_commonDivisor (lN A) (lN B) = some (lN (Nat.gcd A B)) := by
    rw [fX1_commonDivisor]
    exact c_gcd 31 A B 0 5000 hA hB (by decide) (by decide) (by decide)
  have g2 : fX2_gcd (lN A) (lN B) = some (lN (Nat.gcd A B)) := by
    rw [fX2_gcd]
    exact r_gcd 31 A B 5000 hA hB (by decide) (by decide)
  have gp : 0 < Nat.gcd A B := Nat.gcd_pos_of_pos_right _ h0
  have gl : Nat.gcd A B ≤ B := Nat.le_of_dvd h0 (Nat.gcd_dvd_right A B)
  have gc : ¬ lg_cmp (lN (Nat.gcd A B)) (0 : Int64) = 0 := fun z => by have := (cmp0 (by omega)).mp z; omega
  rw [fX1_partOf, g1, clT, if_neg gc]
  have p28 : ∀ C : Nat, C < 2 ^ 62 → fX1_partOf_28 (lN (Nat.gcd A B), lN C) = some (lN (C / Nat.gcd A B)) := by
    intro C hC
    simp only [fX1_partOf_28]
    rw [dvlT (by omega) gp, pk_lDiv (by omega) gp (by omega)]
  have p20 : ∀ C : Nat, C < 2 ^ 62 → fX2_partOf_20 (lN A, lN B, lN C) = some (lN (C / Nat.gcd A B)) := by
    intro C hC
    simp only [fX2_partOf_20]
    rw [g2, clT, dvlT (by omega) gp, pk_lDiv (by omega) gp (by omega)]
  by_cases a0 : A = 0
  · subst a0
    have eg : Nat.gcd 0 B = B := Nat.gcd_zero_left B
    rcases hq with rfl | rfl
    · refine ⟨lN 0, ?_, fun B' _ => ?_⟩
      · rw [if_pos rfl, p28 0 (by decide), eg, Nat.zero_div]
      · rw [fX2_partOf, if_pos ((cmp0 (by decide)).mpr rfl)]; decide
    · refine ⟨lN 1, ?_, fun B' _ => ?_⟩
      · rw [if_neg ne10, p28 B (by omega), eg, Nat.div_self h0]
      · rw [fX2_partOf, if_pos ((cmp0 (by decide)).mpr rfl)]; decide
  · have ac : ¬ lg_cmp (lN A) (0 : Int64) = 0 := fun z => a0 ((cmp0 (by omega)).mp z)
    rcases hq with rfl | rfl
    · refine ⟨lN (A / Nat.gcd A B), by rw [if_pos rfl, p28 A hA], fun B' hB' => ?_⟩
      have : B' = B := by omega
      subst this
      rw [fX2_partOf, if_neg ac, if_pos rfl, p20 A hA]
    · refine ⟨lN (B / Nat.gcd A B), by rw [if_neg ne10, p28 B (by omega)], fun B' hB' => ?_⟩
      have : B' = B := by omega
      subst this
      rw [fX2_partOf, if_neg ac, if_neg ne10, p20 B' (by omega)]
section
variable {X : Nat → VS} {Y : VS} {S : Nat → Nat}
theorem refAgL (hR : Rel X Y) {c : Int32} (hc : c = -1 ∨ c = -2 ∨ c = -3 ∨ c = -4 ∨ c = -6) : AgL (fX1_refuseLong X c) (fX2_noWide Y c) := by
  obtain ⟨r, X', Y', e1, e2, h⟩ := refAg hR hc
  rw [fX1_refuseLong, fX2_noWide, e1, e2, clT, clT]
  exact ⟨_, X', Y', rfl, rfl, h⟩
theorem all1 : ∀ R, R < 10 → ((1 : Int32) <<< (nI R &&& 31)) - (1 : Int32) = nI (2 ^ R - 1) := by decide +kernel
theorem all1b : ∀ R, R < 10 → ∀ t, t < R → (2 ^ R - 1) / 2 ^ t % 2 = 1 := by decide +kernel
theorem p_mean (hR : Rel X Y) (b : Int32) : AgL (fX1_mean X b) (fX2_mean Y b) := by
  have hR' := hR
  obtain ⟨S, P, l, r, f, hp, nl, nr, hh⟩ := hR'
  have o1 := hh.1.1
  have x0 := hh.2.1.1
  have y0 := hh.2.2.1
  have h0 := o1.1
  have p9 := pw9 h0
  rw [fX1_mean, fX2_mean]
  rcases one2 b with ⟨hb, e3, e4⟩ | ⟨b0, b1, e3, e4⟩
  · have e5 : cv S 0 0 = nI (S 0) := rfl
    have e6 : ∀ {β : Type} {K : Int32 → Option β}, rd 81 (lN8 S) 0 K = K (nI (S 0)) := rdM (a := 0) (by decide)
    have hc := r_costs (q := nI (2 ^ S 0 - 1)) (bit := fun t => 1) o1 y0 (fun t ht => ⟨by rw [shrB (by omega) (by omega), all1b _ (by omega) _ ht], Nat.le_refl 1⟩)
    have hK := sCosts_lt o1 (fun t => 1)
    have hz : S 0 = 0 → sCosts S (fun t => 1) = 0 := fun q => by unfold sCosts; rw [q]; rfl
    rw [e3, e4, clT, clT, if_neg ne10, if_neg ne10, y0, e6, all1 _ (by omega), hc, clT, e6, nI_l (by omega), nI_l (by omega)]
    obtain ⟨v, v1, v2⟩ := part_eq (A := sCosts S (fun t => 1)) (B := if S 0 = 0 then 1 else S 0) (by omega) (by split <;> omega) (by split <;> omega) hb
    have v2' := v2 (S 0) (by by_cases z : S 0 = 0
                             · exact Or.inl (hz z)
                             · exact Or.inr (by rw [if_neg z]))
    rw [v2', clT]
    have l1 : lp fX1_mean_19 5000 (X, b, 0, 0) = some (v, X) := by
      refine lp_for (S 0) (fun i (a : Nat) => (X, b, lN a, nI i)) (fun t a => a + (if 1 = 1 then sCost (S (5 + 4 * t)) else 0)) 0 _ ?_ ?_ 5000 (by omega)
      · intro k
        rw [itr_sum (fun t => if 1 = 1 then sCost (S (5 + 4 * t)) else 0)]
        have g : nI (S 0) ≤ nI (S 0) := (nle (by omega) (by omega)).mpr (Nat.le_refl _)
        show fX1_mean_19 k (X, b, lN (sCosts S (fun t => 1)), nI (S 0)) = _
        by_cases z : S 0 = 0
        · rw [if_pos z] at v1
          have z1 : nI (S 0) < (1 : Int32) := by rw [z]; decide
          have e1 : (1 : Int32).toInt64 = lN 1 := nI_l (n := 1) (by decide)
          simp only [fX1_mean_19, x0, e5, g, if_true, z1, bnT, e1, v1, clT]
        · rw [if_neg z] at v1
          have z1 : ¬ nI (S 0) < (1 : Int32) := fun q => by have := (nlt (b := 1) (by omega) (by decide)).mp q; omega
          have e1 : (nI (S 0)).toInt64 = lN (S 0) := nI_l (by omega)
          simp only [fX1_mean_19, x0, e5, g, if_true, z1, if_false, bnT, e1, v1, clT]
      · intro k i hi
        generalize itr (fun t a => a + (if 1 = 1 then sCost (S (5 + 4 * t)) else 0)) i 0 = a
        have g : ¬ nI (S 0) ≤ nI i := fun q => by have := (nle (by omega) (by omega)).mp q; omega
        have hk := sCost_le _ (o1.2.2.2.2.1 i (by omega)).1
        have e1 : (nI (sCost (S (5 + 4 * i)))).toInt64 = lN (sCost (S (5 + 4 * i))) := nI_l (by omega)
        simp only [fX1_mean_19, x0, e5, g, if_false, cv_costOf o1 (show i < 9 by omega), clT, e1, lN_add, bnT, nI_1, if_true]
    rw [l1]
    exact ⟨v, X, Y, rfl, rfl, hR⟩
  · rw [e3, e4, clT, clT, if_pos rfl, if_pos rfl, cl_e, cl_e]
    exact refAgL hR (by simp)
-- rain
theorem c_power {b e : Nat} (hb : b < 2 ^ 31) (he : e < 100) : fX1_power (nI b) (nI e) = some (lN (b ^ e)) := by
  rw [fX1_power]
  refine lp_for e (fun i (a : Nat) => (nI b, nI e, lN a, nI i)) (fun _ a => a * b) 1 _ ?_ ?_ 5000 (by omega)
  · intro k
    have key : ∀ n, itr (fun _ a => a * b) n 1 = b ^ n := by
      intro n
      induction n with
      | zero => rfl
      | succ n ih =>
        show itr (fun _ a => a * b) n 1 * b = _
        rw [ih, Nat.pow_succ]
    rw [key]
    have g : nI e ≤ nI e := (nle (by omega) (by omega)).mpr (Nat.le_refl _)
    simp only [fX1_power_5, g, if_true]
  · intro k i hi
    generalize itr (fun _ a => a * b) i 1 = a
    have g : ¬ nI e ≤ nI i := fun q => by have := (nle (by omega) (by omega)).mp q; omega
    have e1 : (nI b).toInt64 = lN b := nI_l (by omega)
    simp only [fX1_power_5, g, if_false, e1, lN_mul, bnT, nI_1]
def lk0 : Nat → Nat := fun p => 0 / 2 ^ p % 2
theorem lk0A : ∀ p, p < 5 → ((0 : Int32) >>> (nI p &&& 31)) &&& 1 = nI (lk0 p) ∧ lk0 p ≤ 1 := by decide +kernel
def rst (d k : Nat) (T : Nat → Nat) : Nat → Nat := if d / 2 ^ k % 2 = 1 then sNight lkE T else sNight lk0 T
def rT (S : Nat → Nat) (d n : Nat) : Nat → Nat := itr (rst d) n S
theorem rT_ok (h : Ok S) (d : Nat) : ∀ n, Ok (rT S d n)
  | 0 => h
  | n + 1 => by
    show Ok (rst d n (rT S d n))
    unfold rst
    split
    · exact (sNight_ok (rT_ok h d n)).1
    · exact (sNight_ok (rT_ok h d n)).1
theorem c_after (h : Ok S) (x0 : X 0 = cv S) {X' : Nat → VS} (hM : ∃ T y, X' = up X 1 (cw T y)) {p n d : Nat} (hp : p < 5) (hn : n ≤ 7) (hd : d < 128) : fX1_isWholeAfter X' (nI p) (nI n) (nI d) = some (nI (sWh (rT S d n) p), up X 1 (cv (rT S d n))) := by
  obtain ⟨a1, a2, a3⟩ := cpX x0 hM
  rw [fX1_isWholeAfter, a1, clT, bnT, a2]
  refine lp_for n (fun i (T : Nat → Nat) => (up X 1 (cv T), nI p, nI n, nI d, nI i)) (rst d) S _ ?_ ?_ 5000 (by omega)
  · intro k
    have g : nI n ≤ nI n := (nle (by omega) (by omega)).mpr (Nat.le_refl _)
    have hT := rT_ok h d n
    show fX1_isWholeAfter_14 k (up X 1 (cv (rT S d n)), nI p, nI n, nI d, nI n) = _
    generalize rT S d n = T at hT
    have hl := sWh_le T p
    have hbz : bz (nI (sWh T p)) (some (nI (sWh T p), up X 1 (cv T))) = some (nI (sWh T p), up X 1 (cv T)) := by
      rcases (show sWh T p = 0 ∨ sWh T p = 1 by omega) with c | c <;> rw [c]
      · exact bz0
      · exact bz1
    simp only [fX1_isWholeAfter_14, g, if_true, up_s, cv_isWhole hT hp, clT, hbz]
  · intro k i hi
    have hT : Ok (itr (rst d) i S) := rT_ok h d i
    generalize itr (rst d) i S = T at hT
    have g : ¬ nI n ≤ nI i := fun q => by have := (nle (by omega) (by omega)).mp q; omega
    have hb := shrB (m := d) (t := i) (by omega) (by omega)
    have n0 : fX0_passNights (cv T) 1 0 = some (cv (sNight lk0 T)) := c_passNights (n := 1) (e := 0) hT (by decide) (by decide)
    unfold rst
    rcases (show d / 2 ^ i % 2 = 0 ∨ d / 2 ^ i % 2 = 1 by omega) with c | c
    · rw [c] at hb
      have z : ¬ nI 0 = (1 : Int32) := by decide
      rw [if_neg (by omega)]
      simp only [fX1_isWholeAfter_14, fX1_isWholeAfter_41, g, if_false, hb, z, up_s, n0, clT, bnT, up_up, nI_1]
    · rw [c] at hb
      have z : nI 1 = (1 : Int32) := rfl
      rw [if_pos c]
      simp only [fX1_isWholeAfter_14, fX1_isWholeAfter_41, g, if_false, hb, z, if_true, up_s, c_night1 hT, clT, bnT, up_up, nI_1]
def tm (S : Nat → Nat) (p t n d : Nat) : Nat := if sWh (rT S d n) p = 1 then (t - 1) ^ pop d else 0
theorem sumN_shift (f : Nat → Nat) : ∀ n, sumN f (n + 1) = f 0 + sumN (fun i => f (i + 1)) n
  | 0 => by show 0 + f 0 = f 0 + 0; omega
  | n + 1 => by
    show sumN f (n + 1) + f (n + 1) = f 0 + (sumN (fun i => f (i + 1)) n + f (n + 1))
    rw [sumN_shift f n]; omega
theorem sumN_cong {f g : Nat → Nat} : ∀ {n : Nat}, (∀ i, i < n → f i = g i) → sumN f n = sumN g n
  | 0, _ => rfl
  | n + 1, h => by
    show sumN f n + f n = sumN g n + g n
    rw [sumN_cong (fun i hi => h i (by omega)), h n (by omega)]
theorem sumN_rev (f : Nat → Nat) : ∀ N, sumN (fun i => f (N - 1 - i)) N = sumN f N
  | 0 => rfl
  | N + 1 => by
    rw [sumN_shift]
    have e : sumN (fun i => f (N + 1 - 1 - (i + 1))) N = sumN (fun i => f (N - 1 - i)) N := sumN_cong (fun i hi => by
      show f (N + 1 - 1 - (i + 1)) = f (N - 1 - i)
      rw [show N + 1 - 1 - (i + 1) = N - 1 - i by omega])
    rw [e, sumN_rev f N]
    show f (N + 1 - 1 - 0) + sumN f N = sumN f N + f N
    rw [show N + 1 - 1 - 0 = N by omega]; omega
theorem popS : ∀ n, n < 8 → ∀ d, d < 2 ^ n → sumN (fun k => d / 2 ^ k % 2) n = pop d := by decide +kernel
theorem pw7 : ∀ n, n ≤ 7 → 2 ^ n ≤ 128 := by decide
def wst (t d k w : Nat) : Nat := w * (if d / 2 ^ k % 2 = 1 then t - 1 else 1)
theorem wst_p (t d : Nat) : ∀ n, itr (wst t d) n 1 = (t - 1) ^ sumN (fun k => d / 2 ^ k % 2) n
  | 0 => rfl
  | n + 1 => by
    show itr (wst t d) n 1 * (if d / 2 ^ n % 2 = 1 then t - 1 else 1) = (t - 1) ^ (sumN (fun k => d / 2 ^ k % 2) n + d / 2 ^ n % 2)
    rw [wst_p t d n]
    rcases (show d / 2 ^ n % 2 = 0 ∨ d / 2 ^ n % 2 = 1 by omega) with c | c
    · rw [if_neg (by omega), c, Nat.add_zero, Nat.mul_one]
    · rw [if_pos c, c, Nat.pow_succ]
/-- one season of rain in the reference -/
theorem r_season (h : Ok S) {p t n s : Nat} (hp : p < 5) (ht : t ≤ 20) (ht2 : 2 ≤ t) (hn : n ≤ 7) (hs : s < 2 ^ n) {b : Int32} {A B : Int64} (j : _) : lp (fX2_rain_122 j) 5000 (up Y 1 (lN8 S), nI p, nI n, nI t, b, A, B, nI s, 1, 0) = j (up Y 1 (lN8 (rT S (2 ^ n - 1 - s) n)), nI p, nI n, nI t, b, A + lN (tm S p t n (2 ^ n - 1 - s)), B, nI (s + 1)) := by
  have p7 := pw7 n hn
  generalize hd : 2 ^ n - 1 - s = d
  have hbit : ∀ k, k < n → d / 2 ^ k % 2 = 1 - s / 2 ^ k % 2 := fun k hk => by rw [← hd]; exact box_b n (by omega) s hs k hk
  refine lp_for n (fun i (w : (Nat → Nat) × Nat) => (up Y 1 (lN8 w.1), nI p, nI n, nI t, b, A, B, nI s, lN w.2, nI i)) (fun k w => (rst d k w.1, wst t d k w.2)) (S, 1) _ ?_ ?_ 5000 (by omega)
  · intro k
    have e : ∀ m, itr (fun k (w : (Nat → Nat) × Nat) => (rst d k w.1, wst t d k w.2)) m (S, 1) = (rT S d m, itr (wst t d) m 1) := by
      intro m
      induction m with
      | zero => rfl
      | succ m ih =>
        show (rst d m (itr (fun k (w : (Nat → Nat) × Nat) => (rst d k w.1, wst t d k w.2)) m (S, 1)).1, wst t d m (itr (fun k (w : (Nat → Nat) × Nat) => (rst d k w.1, wst t d k w.2)) m (S, 1)).2) = _
        rw [ih]; rfl
    rw [e, wst_p, popS n (by omega) d (by omega)]
    have hT := rT_ok h d n
    unfold tm
    generalize rT S d n = T at hT
    have hl := sW_lt T p
    have g : nI n ≤ nI n := (nle (by omega) (by omega)).mpr (Nat.le_refl _)
    have i63 : (nI (sW T p) = (63 : Int32)) ↔ sW T p = 63 := neq (b := 63) (by omega) (by decide)
    by_cases c : sW T p = 63
    · have c' := i63.mpr c
      have w1 : sWh T p = 1 := if_pos c
      simp only [fX2_rain_122, fX2_rain_200, g, if_true, up_s, r_wordsOf hT hp, clT, c', bnT, nI_1, w1]
    · have c' : ¬ nI (sW T p) = (63 : Int32) := fun q => c (i63.mp q)
      have w1 : ¬ sWh T p = 1 := by unfold sWh; rw [if_neg c]; decide
      have z0 : lN 0 = (0 : Int64) := rfl
      simp only [fX2_rain_122, fX2_rain_200, g, if_true, up_s, r_wordsOf hT hp, clT, c', if_false, bnT, nI_1, w1, z0]
  · intro k i hi
    have hT : Ok (itr (fun k (w : (Nat → Nat) × Nat) => (rst d k w.1, wst t d k w.2)) i (S, 1)).1 := by
      have e : ∀ m, (itr (fun k (w : (Nat → Nat) × Nat) => (rst d k w.1, wst t d k w.2)) m (S, 1)).1 = rT S d m := by
        intro m
        induction m with
        | zero => rfl
        | succ m ih =>
          show rst d m (itr (fun k (w : (Nat → Nat) × Nat) => (rst d k w.1, wst t d k w.2)) m (S, 1)).1 = _
          rw [ih]; rfl
      rw [e]; exact rT_ok h d i
    generalize itr (fun k (w : (Nat → Nat) × Nat) => (rst d k w.1, wst t d k w.2)) i (S, 1) = w at hT
    obtain ⟨T, w⟩ := w
    have hT : Ok T := hT
    have g : ¬ nI n ≤ nI i := fun q => by have := (nle (by omega) (by omega)).mp q; omega
    have hh := hasN (m := s) (t := i) (by omega) (by omega)
    have hb := hbit i hi
    have et : nI t - (1 : Int32) = nI (t - 1) := pk_sub (b := 1) (by omega)
    have e1 : (nI (t - 1)).toInt64 = lN (t - 1) := nI_l (by omega)
    have n0 : fX2_night (lN8 T) 0 = some (lN8 (sNight lk0 T)) := r_night hT lk0A
    show fX2_rain_122 j k (up Y 1 (lN8 T), nI p, nI n, nI t, b, A, B, nI s, lN w, nI i) = k (up Y 1 (lN8 (rst d i T)), nI p, nI n, nI t, b, A, B, nI s, lN (wst t d i w), nI (i + 1))
    unfold rst wst
    rcases (show s / 2 ^ i % 2 = 0 ∨ s / 2 ^ i % 2 = 1 by omega) with c | c
    · rw [c] at hh hb
      rw [if_pos (by omega), if_pos (by omega)]
      have z : nI 0 = (0 : Int32) := rfl
      simp only [fX2_rain_122, fX2_rain_148, fX2_rain_170, g, if_false, hh, clT, z, if_true, et, e1, lN_mul, bnT, up_s, r_night1 hT, up_up, nI_1]
    · rw [c] at hh hb
      rw [if_neg (by omega), if_neg (by omega)]
      have z : ¬ nI 1 = (0 : Int32) := by decide
      have z1 : lN w * (1 : Int64) = lN (w * 1) := lN_mul w 1
      simp only [fX2_rain_122, fX2_rain_148, fX2_rain_170, g, if_false, hh, clT, z, z1, bnT, up_s, n0, up_up, nI_1]
theorem itr_sumL (f : Nat → Nat) : ∀ n, itr (fun i a => a + f i) n 0 = sumN f n := itr_sum f
theorem tm_le {p t n d : Nat} (ht : t ≤ 20) : tm S p t n d ≤ 19 ^ 9 := by
  unfold tm
  split
  · exact Nat.le_trans (Nat.pow_le_pow_left (show t - 1 ≤ 19 by omega) _) (Nat.pow_le_pow_right (by decide) (pop_le d))
  · exact Nat.zero_le _
theorem p_rain (hR : Rel X Y) (a c d b : Int32) : AgL (fX1_rain X a c d b) (fX2_rain Y a c d b) := by
  have hR' := hR
  obtain ⟨S, P, l, r, f, hp, nl, nr, hh⟩ := hR'
  have o1 := hh.1.1
  have x0 := hh.2.1.1
  have y0 := hh.2.2.1
  have h1 := o1.2.1
  have hM := mm0 hh
  have ref4 : AgL (fX1_rain_26 X) (fX2_rain_23 Y) := by
    rw [fX1_rain_26, fX2_rain_23, cl_e, cl_e]; exact refAgL hR (by simp)
  have ref6 : AgL (fX1_rain_45 X) (fX2_rain_42 Y) := by
    rw [fX1_rain_45, fX2_rain_42, cl_e, cl_e]; exact refAgL hR (by simp)
  rw [fX1_rain, fX2_rain, x0]
  rcases rdr (x := nI (S 3)) o1 y0 a with ⟨p, hpS, rfl, e1, e2⟩ | ⟨e1, e2⟩
  · have hp5 : p < 5 := by omega
    rw [show fX0_hasReader (cv S) (nI p) = some 1 from e1, e2, clT, clT, if_neg ne10, if_neg ne10]
    rcases argN c with hn | ⟨n, hn, rfl⟩
    · rw [if_pos hn, if_pos hn]; exact ref4
    · rw [if_neg (nneg hn), if_neg (nneg hn)]
      by_cases t2 : (2 : Int32) ≤ d
      · rw [if_pos t2, if_pos t2]
        by_cases n7 : (7 : Int32) < nI n
        · rw [if_pos n7, if_pos n7]; exact ref6
        · rw [if_neg n7, if_neg n7]
          by_cases t20 : d ≤ (20 : Int32)
          · rw [if_pos t20, if_pos t20]
            have hn7 : n ≤ 7 := by
              by_cases z : n ≤ 7
              · exact z
              · exact absurd ((nlt (a := 7) (by decide) hn).mpr (by omega)) n7
            obtain ⟨t, ht2, ht20, rfl⟩ : ∃ t, 2 ≤ t ∧ t ≤ 20 ∧ d = nI t := by
              rcases argN d with hd | ⟨t, ht, rfl⟩
              · exact absurd t2 (neg_le (n := 2) hd (by decide))
              · exact ⟨t, (nle (a := 2) (by decide) ht).mp t2, (nle (b := 20) ht (by decide)).mp t20, rfl⟩
            rcases one2 b with ⟨hb, e3, e4⟩ | ⟨b0, b1, e3, e4⟩
            · rw [e3, e4, clT, clT, if_neg ne10, if_neg ne10]
              have p7 := pw7 n hn7
              have hshN : (1 : Int32) <<< (nI n &&& 31) = nI (2 ^ n) := shl1 _ (by omega)
              have gN : nI (2 ^ n) ≤ nI (2 ^ n) := (nle (by omega) (by omega)).mpr (Nat.le_refl _)
              have hBel : t ^ n < 2 ^ 31 := by
                have q1 : t ^ n ≤ 20 ^ n := Nat.pow_le_pow_left ht20 n
                have q2 : 20 ^ n ≤ 20 ^ 7 := Nat.pow_le_pow_right (by decide) hn7
                have q3 : (20 : Nat) ^ 7 < 2 ^ 31 := by decide
                omega
              have hBp : 0 < t ^ n := Nat.pow_pos (by omega)
              have hA : sumN (tm S p t n) (2 ^ n) < 2 ^ 62 := by
                have q1 : sumN (tm S p t n) (2 ^ n) ≤ 2 ^ n * 19 ^ 9 := sumN_le (fun i _ => tm_le ht20)
                have q2 : 2 ^ n * 19 ^ 9 ≤ 128 * 19 ^ 9 := Nat.mul_le_mul_right _ p7
                have q3 : 128 * 19 ^ 9 < 2 ^ 62 := by decide
                omega
              obtain ⟨v, v1, v2⟩ := part_eq hA hBel hBp hb
              have v2' := v2 _ (Or.inr rfl)
              have hpow : fX1_power (nI t) (nI n) = some (lN (t ^ n)) := c_power (by omega) (by omega)
              have c1 : ∃ X', (∃ T y, X' = up X 1 (cw T y)) ∧ lp fX1_rain_73 5000 (X, nI p, nI n, nI t, b, 0, 0) = some (v, X') := by
                refine lp_one (F := fX1_rain_73) (2 ^ n) (fun i x => ∃ X', (∃ T y, X' = up X 1 (cw T y)) ∧ x = (X', nI p, nI n, nI t, b, lN (sumN (tm S p t n) i), nI i)) (fun o => ∃ X', (∃ T y, X' = up X 1 (cw T y)) ∧ o = some (v, X')) ?_ ?_ _ ⟨X, hM.1, rfl⟩ 5000 (by omega)
                · rintro k x ⟨X', hm, rfl⟩
                  refine ⟨X', hm, ?_⟩
                  simp only [fX1_rain_73, hshN, gN, if_true, hpow, clT, v1]
                · rintro k i x hi ⟨X', hm, rfl⟩
                  have gi : ¬ nI (2 ^ n) ≤ nI i := fun q => by have := (nle (by omega) (by omega)).mp q; omega
                  have wa := c_after o1 x0 hm hp5 hn7 (show i < 128 by omega)
                  have hl := sWh_le (rT S i n) p
                  have es : sumN (tm S p t n) (i + 1) = sumN (tm S p t n) i + tm S p t n i := rfl
                  refine Or.inr ⟨(up X 1 (cv (rT S i n)), nI p, nI n, nI t, b, lN (sumN (tm S p t n) (i + 1)), nI (i + 1)), ?_, _, ⟨_, _, rfl⟩, rfl⟩
                  rw [es]
                  generalize sumN (tm S p t n) i = A0
                  rcases (show sWh (rT S i n) p = 0 ∨ sWh (rT S i n) p = 1 by omega) with z | z
                  · have ez : tm S p t n i = 0 := by unfold tm; rw [if_neg (by omega)]
                    rw [z] at wa
                    simp only [fX1_rain_73, fX1_rain_108, hshN, gi, if_false, wa, clT, z00, if_true, bnT, nI_1, ez, Nat.add_zero]
                  · have ez : tm S p t n i = (t - 1) ^ pop i := if_pos z
                    rw [z] at wa
                    have z01 : ¬ nI 1 = (0 : Int32) := by decide
                    have et : nI t - (1 : Int32) = nI (t - 1) := pk_sub (b := 1) (by omega)
                    have hpp := pop_le i
                    have hpw : fX1_power (nI (t - 1)) (nI (pop i)) = some (lN ((t - 1) ^ pop i)) := c_power (by omega) (by omega)
                    simp only [fX1_rain_73, fX1_rain_108, hshN, gi, if_false, wa, clT, z01, q_bitCount _ (show i < 512 by omega), et, hpw, lN_add, bnT, nI_1, ez]
              have c2 : ∃ g, (∀ j, 81 ≤ j → g j = 0) ∧ lp fX2_rain_75 5000 (Y, nI p, nI n, nI t, b, 0, 1, 0) = some (v, up Y 1 g) := by
                have l1 : lp fX2_rain_75 5000 (Y, nI p, nI n, nI t, b, 0, 1, 0) = lp fX2_rain_97 5000 (Y, nI p, nI n, nI t, b, 0, lN (t ^ n), 0) := by
                  refine lp_for n (fun i (w : Nat) => (Y, nI p, nI n, nI t, b, (0 : Int64), lN w, nI i)) (fun _ w => w * t) 1 _ ?_ ?_ 5000 (by omega)
                  · intro k
                    have key : ∀ n, itr (fun _ a => a * t) n 1 = t ^ n := by
                      intro n
                      induction n with
                      | zero => rfl
                      | succ n ih =>
                        show itr (fun _ a => a * t) n 1 * t = _
                        rw [ih, Nat.pow_succ]
                    rw [key]
                    have g : nI n ≤ nI n := (nle (by omega) (by omega)).mpr (Nat.le_refl _)
                    simp only [fX2_rain_75, g, if_true]
                  · intro k i hi
                    generalize itr (fun _ a => a * t) i 1 = w
                    have g : ¬ nI n ≤ nI i := fun q => by have := (nle (by omega) (by omega)).mp q; omega
                    have e1 : (nI t).toInt64 = lN t := nI_l (by omega)
                    simp only [fX2_rain_75, g, if_false, e1, lN_mul, bnT, nI_1]
                rw [l1]
                refine lp_one (F := fX2_rain_97) (2 ^ n) (fun i y => ∃ g, (∀ j, 81 ≤ j → g j = 0) ∧ y = (up Y 1 g, nI p, nI n, nI t, b, lN (sumN (fun i => tm S p t n (2 ^ n - 1 - i)) i), lN (t ^ n), nI i)) (fun o => ∃ g, (∀ j, 81 ≤ j → g j = 0) ∧ o = some (v, up Y 1 g)) ?_ ?_ _ ⟨Y 1, hh.2.2.2.1, by rw [up_self]⟩ 5000 (by omega)
                · rintro k y ⟨g, hg, rfl⟩
                  refine ⟨g, hg, ?_⟩
                  rw [sumN_rev (tm S p t n) (2 ^ n)]
                  simp only [fX2_rain_97, hshN, gN, if_true, v2', clT]
                · rintro k i y hi ⟨g, hg, rfl⟩
                  have gi : ¬ nI (2 ^ n) ≤ nI i := fun q => by have := (nle (by omega) (by omega)).mp q; omega
                  obtain ⟨q1, q2, q3⟩ := cpY (Y := Y) (Y' := up Y 1 g) o1 y0 ⟨g, hg, rfl⟩
                  have es : sumN (fun i => tm S p t n (2 ^ n - 1 - i)) (i + 1) = sumN (fun i => tm S p t n (2 ^ n - 1 - i)) i + tm S p t n (2 ^ n - 1 - i) := rfl
                  refine Or.inr ⟨(up Y 1 (lN8 (rT S (2 ^ n - 1 - i) n)), nI p, nI n, nI t, b, lN (sumN (fun i => tm S p t n (2 ^ n - 1 - i)) (i + 1)), lN (t ^ n), nI (i + 1)), ?_, _, lN8_z (rT_ok o1 _ _), rfl⟩
                  rw [es, ← lN_add, ← r_season (Y := Y) o1 hp5 ht20 ht2 hn7 hi k]
                  simp only [fX2_rain_97, hshN, gi, if_false, q1, clT, bnT, q2]
              obtain ⟨X', ⟨T, yy, rfl⟩, k1⟩ := c1
              obtain ⟨g, hg, k2⟩ := c2
              rw [k1, k2]
              exact ⟨v, _, _, rfl, rfl, relM hR T yy hg⟩
            · rw [e3, e4, clT, clT, if_pos rfl, if_pos rfl, cl_e, cl_e]
              exact refAgL hR (by simp)
          · rw [if_neg t20, if_neg t20]; exact ref6
      · rw [if_neg t2, if_neg t2]; exact ref4
  · rw [show fX0_hasReader (cv S) a = some 0 from e1, e2, clT, clT, if_pos rfl, if_pos rfl, cl_e, cl_e]
    exact refAgL hR (by simp)
end
