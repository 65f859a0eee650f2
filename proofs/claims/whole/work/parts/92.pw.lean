/-! two -/
def VX (X X' : Nat → VS) : Prop := X' 0 = X 0 ∧ (∃ T y, X' 1 = cw T y) ∧ X' 2 = X 2 ∧ ∀ k, 3 ≤ k → k < 9 → X' 3 k = X 3 k
def eN (p q x y : Nat) : Nat := 31 - (((1 - x) * 2 ^ p) ||| ((1 - y) * 2 ^ q))
theorem tw_c : ∀ p, p < 5 → ∀ q, q < 5 → ∀ x, x < 2 → ∀ y, y < 2 → (31 : Int32) &&& (((((1 : Int32) - nI x) <<< (nI p &&& 31)) ||| (((1 : Int32) - nI y) <<< (nI q &&& 31))) ^^^ (-1 : Int32)) = nI (eN p q x y) ∧ eN p q x y < 32 := by decide +kernel
theorem tw_r : ∀ p, p < 5 → ∀ q, q < 5 → ∀ x, x < 2 → ∀ y, y < 2 → ∀ r, r < 5 → (((((((1 : Int32) - nI x) <<< (nI p &&& 31)) ||| (((1 : Int32) - nI y) <<< (nI q &&& 31))) ^^^ (-1 : Int32)) >>> (nI r &&& 31)) &&& 1) = nI (eN p q x y / 2 ^ r % 2) := by decide +kernel
theorem tw_k : ∀ k, k < 4 → nI k >>> ((1 : Int32) &&& 31) = nI (k / 2) ∧ nI k &&& (1 : Int32) = nI (k % 2) ∧ nI k / (2 : Int32) = nI (k / 2) ∧ nI k - nI (k / 2) * (2 : Int32) = nI (k % 2) ∧ nI k ^^^ (2 : Int32) = nI (2 * (1 - k / 2) + k % 2) ∧ nI k ^^^ (1 : Int32) = nI (2 * (k / 2) + (1 - k % 2)) := by decide +kernel
theorem tw_g : ∀ g, g < 10 → ∀ x, x < 2 → (nI g - nI x) + (3 : Int32) = nI (g + 3) - nI x ∧ (nI g - nI x) + (0 : Int32) = nI g - nI x := by decide +kernel
def LL (p q x y : Nat) : Int32 := ((((1 : Int32) - nI x) <<< (nI p &&& 31)) ||| (((1 : Int32) - nI y) <<< (nI q &&& 31))) ^^^ (-1 : Int32)
def gn (T : Nat → Nat) (a b : Nat) : Nat := if sW T a = 63 ∧ sW T b ≠ 63 then pop (sW T a) + 3 else pop (sW T a)
def TT (S : Nat → Nat) (p q n x y : Nat) : Nat → Nat := sNights (fun r => eN p q x y / 2 ^ r % 2) n S
section
variable {X : Nat → VS} {Y : VS} {S : Nat → Nat}
theorem relV {X' : Nat → VS} (hR : Rel X Y) (h : VX X X') : Rel X' Y := by
  obtain ⟨S, P, l, r, f, hp, nl, nr, o, ⟨x0, x1, x2, x2', x3, x4, x5, x6, x7, x8⟩, y⟩ := hR
  obtain ⟨v0, v1, v2, v3⟩ := h
  refine ⟨S, P, l, r, f, hp, nl, nr, o, ⟨by rw [v0, x0], v1, by rw [v2]; exact x2, by rw [v2]; exact x2', ?_, ?_, ?_, ?_, ?_, ?_⟩, y⟩
  · rw [v3 3 (by decide) (by decide), x3]
  · rw [v3 4 (by decide) (by decide), x4]
  · rw [v3 5 (by decide) (by decide), x5]
  · rw [v3 6 (by decide) (by decide), x6]
  · rw [v3 7 (by decide) (by decide), x7]
  · rw [v3 8 (by decide) (by decide), x8]
theorem c_gain {T : Nat → Nat} (hT : Ok T) (h1 : X 1 = cv T) {a b : Nat} (ha : a < 5) (hb : b < 5) : fX1_gain X (nI a) (nI b) = some (nI (gn T a b)) := by
  have hl := sW_lt T a
  rw [fX1_gain, h1, cv_wordsOf hT ha, clT, q_bitCount _ (by omega), clT, cv_isWhole hT ha, clT]
  unfold gn sWh
  by_cases c : sW T a = 63
  · have z : ¬ nI 1 = (0 : Int32) := by decide
    rw [if_pos c, if_neg z, cv_isWhole hT hb, clT]
    unfold sWh
    by_cases d : sW T b = 63
    · rw [if_pos d, if_neg z, if_neg (fun q => q.2 d)]
    · have e3 : nI (pop (sW T a)) + (3 : Int32) = nI (pop (sW T a) + 3) := nI_add _ 3
      rw [if_neg d, if_pos z00, if_pos ⟨c, d⟩, e3]
  · rw [if_neg c, if_pos z00, if_neg (fun q => c q.1)]
theorem r_hasBy {Y' : VS} (o1 : Ok S) (y0 : Y 0 = lN8 S) (hM : ∃ g, (∀ j, 81 ≤ j → g j = 0) ∧ Y' = up Y 1 g) {a b x n : Nat} (ha : a < 5) (hb : b < 5) (hx : x < 2) (hn : n ≤ 30) {L : Int32} {lk : Nat → Nat} (hlk : ∀ p, p < 5 → (L >>> (nI p &&& 31)) &&& 1 = nI (lk p) ∧ lk p ≤ 1) : fX2_hasBy Y' (nI a) (nI b) L (nI x) (nI n) = some (nI (gn (sNights lk n S) a b) - nI x, up Y 1 (lN8 (sNights lk n S))) := by
  obtain ⟨b1, b2, b3⟩ := cpY o1 y0 hM
  have hT := (sNights_ok (lk := lk) o1 n).1
  rw [fX2_hasBy, b1, clT, bnT, b2, up_s, r_nightsOn o1 (show n ≤ 60 by omega) hlk, clT, bnT, up_up, up_s]
  generalize sNights lk n S = T at hT
  have hl := sW_lt T a
  have hlb := sW_lt T b
  have hp := pop_le (sW T a)
  have i63 : (nI (sW T a) = (63 : Int32)) ↔ sW T a = 63 := neq (b := 63) (by omega) (by decide)
  have j63 : (nI (sW T b) = (63 : Int32)) ↔ sW T b = 63 := neq (b := 63) (by omega) (by decide)
  obtain ⟨g3, g0⟩ := tw_g (pop (sW T a)) (by omega) x hx
  have e52 : ∀ y0 : Int32, fX2_hasBy_52 (up Y 1 (lN8 T), nI a, nI x, y0) = some (nI (pop (sW T a)) - nI x + y0, up Y 1 (lN8 T)) := by
    intro z
    simp only [fX2_hasBy_52]
    rw [up_s, r_wordsOf hT ha, clT, q_bits _ (by omega), clT]
  have e51 : fX2_hasBy_51 (up Y 1 (lN8 T), nI a, nI x) = some (nI (pop (sW T a)) - nI x, up Y 1 (lN8 T)) := by
    show fX2_hasBy_52 (up Y 1 (lN8 T), nI a, nI x, 0) = _
    rw [e52, g0]
  rw [r_wordsOf hT ha, clT]
  unfold gn
  by_cases c : sW T a = 63
  · rw [if_pos (i63.mpr c), r_wordsOf hT hb, clT]
    by_cases d : sW T b = 63
    · rw [if_pos (j63.mpr d), if_neg (fun q => q.2 d), e51]
    · rw [if_neg (fun q => d (j63.mp q)), if_pos ⟨c, d⟩, e52, g3]
  · rw [if_neg (fun q => c (i63.mp q)), if_neg (fun q => c q.1), e51]
theorem c_note {X' : Nat → VS} (o1 : Ok S) (x0 : X 0 = cv S) (hV : VX X X') {p q n k : Nat} (hp : p < 5) (hq : q < 5) (hn : n ≤ 30) (hk : k < 4) : ∃ X'', fX1_noteWhatPairGets X' (nI p) (nI q) (nI n) (nI k) = some X'' ∧ VX X X'' ∧ X'' 3 10 = upd (X' 3 10) k (nI (gn (TT S p q n (k / 2) (k % 2)) p q) - nI (k / 2)) ∧ X'' 3 11 = upd (X' 3 11) k (nI (gn (TT S p q n (k / 2) (k % 2)) q p) - nI (k % 2)) := by
  obtain ⟨v0, ⟨T0, yy, v1⟩, v2, v3⟩ := hV
  obtain ⟨k1, k2, -⟩ := tw_k k hk
  obtain ⟨e1, e2⟩ := tw_c p hp q hq (k / 2) (by omega) (k % 2) (by omega)
  have d1 : fX0_copyFrom (X' 1) (X' 0) = some (cv S) := by rw [v1, v0, x0]; exact c_copyFrom T0 yy
  have hT : Ok (TT S p q n (k / 2) (k % 2)) := (sNights_ok o1 n).1
  have pn : fX0_passNights (cv S) (nI n) (nI (eN p q (k / 2) (k % 2))) = some (cv (TT S p q n (k / 2) (k % 2))) := c_passNights o1 (by omega) e2
  generalize TT S p q n (k / 2) (k % 2) = T at hT pn
  rw [fX1_noteWhatPairGets, bnT, bnT, bnT, k1, k2, d1, clT, bnT, up_s, e1, pn, clT, bnT, up_up]
  have t1 : (nI k).toNatClampNeg = k := ncl (by omega)
  rw [c_gain hT (up_s _ _ _) hp hq, clT, ckN hk (by decide), bnT, t1]
  rw [c_gain hT (show up (up X' 1 (cv T)) 3 _ 1 = cv T from by rw [up_n _ _ (by decide), up_s]) hq hp, clT, ckN hk (by decide), bnT]
  refine ⟨_, rfl, ⟨?_, ⟨T, nI (T 3), ?_⟩, ?_, fun j h3 h9 => ?_⟩, ?_, ?_⟩
  · rw [up_n _ _ (by decide), up_n _ _ (by decide), up_n _ _ (by decide), v0]
  · rw [up_n _ _ (by decide), up_n _ _ (by decide), up_s]; rfl
  · rw [up_n _ _ (by decide), up_n _ _ (by decide), up_n _ _ (by decide), v2]
  · rw [up_s, up_n _ _ (by omega), up_s, up_n _ _ (by omega), up_n _ _ (by decide), v3 j h3 h9]
  · rw [up_s, up_n _ _ (by decide), up_s, up_s, up_n _ _ (by decide)]
  · rw [up_s, up_s, up_s, up_n _ _ (by decide), up_n _ _ (by decide)]
theorem p_two (hR : Rel X Y) (a b d : Int32) : Ag (fX1_two X a b d) (fX2_two Y a b d) := by
  have hR' := hR
  obtain ⟨S, P, l, r, f, hp, nl, nr, hh⟩ := hR'
  have o1 := hh.1.1
  have x0 := hh.2.1.1
  have y0 := hh.2.2.1
  have h1 := o1.2.1
  have hM := mm0 hh
  have hm : ¬ (-1 : Int32) = 0 := by decide
  have ref : Ag (fX1_two_27 X) (fX2_two_31 (Y, a, b, d)) := by
    rw [fX1_two_27, fX2_two_31]
    simp only [fX2_two_32, hm, if_false]
    rw [cl_e, cl_e]
    exact refAg hR (by simp)
  rw [fX1_two, fX2_two, x0]
  rcases rdr (x := nI (S 3)) o1 y0 a with ⟨p, hpS, rfl, e1, e2⟩ | ⟨e1, e2⟩
  · rw [show fX0_hasReader (cv S) (nI p) = some 1 from e1, e2, clT, clT, if_neg ne10, if_neg ne10]
    rcases rdr (x := nI (S 3)) o1 y0 b with ⟨q, hqS, rfl, e3, e4⟩ | ⟨e3, e4⟩
    · rw [show fX0_hasReader (cv S) (nI q) = some 1 from e3, e4, clT, clT, if_neg ne10, if_neg ne10]
      by_cases c : nI p = nI q
      · rw [if_pos c, if_pos c]; exact ref
      · rw [if_neg c, if_neg c]
        have hp5 : p < 5 := by omega
        have hq5 : q < 5 := by omega
        rcases wrg d 0 30 (by decide) (by decide) with ⟨n, -, hn, rfl, hw⟩ | ⟨c, hc, hw⟩
        · have hw1 : fX1_outside (nI n) 0 30 = some 0 := hw
          have hw2 : fX2_wrongBy (nI n) 0 30 = some 0 := hw
          rw [hw1, hw2, clT, clT, if_pos rfl]
          simp only [fX2_two_32, if_true]
          have l1 : ∃ X', lp fX1_two_57 5000 (X, nI p, nI q, nI n, 0) = lp fX1_two_81 5000 (X', 0) ∧ VX X X' ∧ (∀ j, j < 4 → X' 3 10 j = nI (gn (TT S p q n (j / 2) (j % 2)) p q) - nI (j / 2)) ∧ (∀ j, j < 4 → X' 3 11 j = nI (gn (TT S p q n (j / 2) (j % 2)) q p) - nI (j % 2)) := by
            refine lp_one (F := fX1_two_57) 4 (fun i x => ∃ X', x = (X', nI p, nI q, nI n, nI i) ∧ VX X X' ∧ (∀ j, j < i → X' 3 10 j = nI (gn (TT S p q n (j / 2) (j % 2)) p q) - nI (j / 2)) ∧ (∀ j, j < i → X' 3 11 j = nI (gn (TT S p q n (j / 2) (j % 2)) q p) - nI (j % 2))) (fun o => ∃ X', o = lp fX1_two_81 5000 (X', 0) ∧ VX X X' ∧ (∀ j, j < 4 → X' 3 10 j = nI (gn (TT S p q n (j / 2) (j % 2)) p q) - nI (j / 2)) ∧ (∀ j, j < 4 → X' 3 11 j = nI (gn (TT S p q n (j / 2) (j % 2)) q p) - nI (j % 2))) ?_ ?_ _ ⟨X, rfl, ⟨rfl, hh.2.1.2.1, rfl, fun _ _ _ => rfl⟩, fun j hj => by omega, fun j hj => by omega⟩ 5000 (by omega)
            · rintro k x ⟨X', rfl, hV, hA, hB⟩
              have g : (4 : Int32) ≤ nI 4 := by decide
              exact ⟨X', by simp only [fX1_two_57, g, if_true], hV, hA, hB⟩
            · rintro k i x hi ⟨X', rfl, hV, hA, hB⟩
              have g : ¬ (4 : Int32) ≤ nI i := fun q => by have := (nle (a := 4) (by decide) (by omega)).mp q; omega
              obtain ⟨X'', q1, q2, q3, q4⟩ := c_note o1 x0 hV hp5 hq5 hn hi
              refine Or.inr ⟨(X'', nI p, nI q, nI n, nI (i + 1)), ?_, X'', rfl, q2, fun j hj => ?_, fun j hj => ?_⟩
              · simp only [fX1_two_57, g, if_false, q1, clT, bnT, nI_1]
              · rw [q3]
                unfold upd
                by_cases e : j = i
                · rw [if_pos e, e]
                · rw [if_neg e]; exact hA j (by omega)
              · rw [q4]
                unfold upd
                by_cases e : j = i
                · rw [if_pos e, e]
                · rw [if_neg e]; exact hB j (by omega)
          obtain ⟨X', q1, hV, hA, hB⟩ := l1
          rw [q1]
          have hRV := relV hR hV
          refine lp_gen 4 (fun i x y => x = (X', nI i) ∧ ∃ g, (∀ j, 81 ≤ j → g j = 0) ∧ y = (up Y 1 g, nI p, nI q, nI n, nI i)) Ag ?_ ?_ _ _ ⟨rfl, Y 1, hh.2.2.2.1, by rw [up_self]; rfl⟩ 5000 5000 (by omega) (by omega)
          · rintro k j _ _ ⟨rfl, g, hg, rfl⟩
            have g4 : (4 : Int32) ≤ nI 4 := by decide
            exact ⟨-9, X', up Y 1 g, by simp only [fX1_two_81, g4, if_true], by simp only [fX2_two_49, g4, if_true], relY1 hRV hg⟩
          · rintro k j i _ _ hi ⟨rfl, g, hg, rfl⟩
            have g4 : ¬ (4 : Int32) ≤ nI i := fun q => by have := (nle (a := 4) (by decide) (by omega)).mp q; omega
            obtain ⟨k1, k2, k3, k4, k5, k6⟩ := tw_k i hi
            have hx : i / 2 < 2 := by omega
            have hy : i % 2 < 2 := by omega
            have a0 := hA i hi
            have b0 := hB i hi
            have a1 := hA (2 * (1 - i / 2) + i % 2) (by omega)
            have b1 := hB (2 * (i / 2) + (1 - i % 2)) (by omega)
            rw [show (2 * (1 - i / 2) + i % 2) / 2 = 1 - i / 2 by omega, show (2 * (1 - i / 2) + i % 2) % 2 = i % 2 by omega] at a1
            rw [show (2 * (i / 2) + (1 - i % 2)) / 2 = i / 2 by omega, show (2 * (i / 2) + (1 - i % 2)) % 2 = 1 - i % 2 by omega] at b1
            have s1 : (1 : Int32) - nI (i / 2) = nI (1 - i / 2) := pk_sub (a := 1) (by omega)
            have s2 : (1 : Int32) - nI (i % 2) = nI (1 - i % 2) := pk_sub (a := 1) (by omega)
            have r0 : ∀ {β : Type} {K : Int32 → Option β} {f : Nat → Int32}, rd 4 f (nI i) K = K (f i) := rdN hi (by decide)
            have r1 : ∀ {β : Type} {K : Int32 → Option β} {f : Nat → Int32}, rd 4 f (nI (2 * (1 - i / 2) + i % 2)) K = K (f (2 * (1 - i / 2) + i % 2)) := rdN (by omega) (by decide)
            have r2 : ∀ {β : Type} {K : Int32 → Option β} {f : Nat → Int32}, rd 4 f (nI (2 * (i / 2) + (1 - i % 2))) K = K (f (2 * (i / 2) + (1 - i % 2))) := rdN (by omega) (by decide)
            have lkr : ∀ x y, x < 2 → y < 2 → ∀ r, r < 5 → (LL p q x y >>> (nI r &&& 31)) &&& 1 = nI ((fun r => eN p q x y / 2 ^ r % 2) r) ∧ (fun r => eN p q x y / 2 ^ r % 2) r ≤ 1 := fun x y hx hy r hr => ⟨tw_r p hp5 q hq5 x hx y hy r hr, by show eN p q x y / 2 ^ r % 2 ≤ 1; omega⟩
            have lb : ∀ x y, fX2_lookingBy (nI p) (nI x) (nI q) (nI y) = some (LL p q x y) := fun _ _ => by rw [fX2_lookingBy, LL]
            have fpq : ∀ x y z, x < 2 → y < 2 → z < 2 → ∀ g, (∀ j, 81 ≤ j → g j = 0) → fX2_hasBy (up Y 1 g) (nI p) (nI q) (LL p q x y) (nI z) (nI n) = some (nI (gn (TT S p q n x y) p q) - nI z, up Y 1 (lN8 (TT S p q n x y))) := fun x y z hx hy hz g hg => r_hasBy o1 y0 ⟨g, hg, rfl⟩ hp5 hq5 hz hn (lkr x y hx hy)
            have fqp : ∀ x y z, x < 2 → y < 2 → z < 2 → ∀ g, (∀ j, 81 ≤ j → g j = 0) → fX2_hasBy (up Y 1 g) (nI q) (nI p) (LL p q x y) (nI z) (nI n) = some (nI (gn (TT S p q n x y) q p) - nI z, up Y 1 (lN8 (TT S p q n x y))) := fun x y z hx hy hz g hg => r_hasBy o1 y0 ⟨g, hg, rfl⟩ hq5 hp5 hz hn (lkr x y hx hy)
            have hTT : ∀ x y, Ok (TT S p q n x y) := fun x y => (sNights_ok o1 n).1
            have w1 : ∀ k : _, fX1_two_81 k (X', nI i) = if nI (gn (TT S p q n (i / 2) (i % 2)) p q) - nI (i / 2) < nI (gn (TT S p q n (1 - i / 2) (i % 2)) p q) - nI (1 - i / 2) then k (X', nI (i + 1)) else if nI (gn (TT S p q n (i / 2) (i % 2)) q p) - nI (i % 2) < nI (gn (TT S p q n (i / 2) (1 - i % 2)) q p) - nI (1 - i % 2) then k (X', nI (i + 1)) else some ((10 : Int32) * nI (i / 2) + nI (i % 2), X') := by
              intro k
              simp only [fX1_two_81, fX1_two_138, g4, if_false, k5, k6, r0, r1, r2, a0, a1, b0, b1, k1, k2, bnT, nI_1]
            have w2 : ∀ j : _, fX2_two_49 j (up Y 1 g, nI p, nI q, nI n, nI i) = if nI (gn (TT S p q n (i / 2) (i % 2)) p q) - nI (i / 2) < nI (gn (TT S p q n (1 - i / 2) (i % 2)) p q) - nI (1 - i / 2) then j (up Y 1 (lN8 (TT S p q n (i / 2) (i % 2))), nI p, nI q, nI n, nI (i + 1)) else if nI (gn (TT S p q n (i / 2) (i % 2)) q p) - nI (i % 2) < nI (gn (TT S p q n (i / 2) (1 - i % 2)) q p) - nI (1 - i % 2) then j (up Y 1 (lN8 (TT S p q n (i / 2) (i % 2))), nI p, nI q, nI n, nI (i + 1)) else some ((10 : Int32) * nI (i / 2) + nI (i % 2), up Y 1 (lN8 (TT S p q n (i / 2) (i % 2)))) := by
              intro j
              have g1 := fpq (1 - i / 2) (i % 2) (1 - i / 2) (by omega) hy (by omega) g hg
              have g2 := fpq (i / 2) (i % 2) (i / 2) hx hy hx _ (lN8_z (hTT (1 - i / 2) (i % 2)))
              have g3 := fqp (i / 2) (1 - i % 2) (1 - i % 2) hx (by omega) (by omega) _ (lN8_z (hTT (i / 2) (i % 2)))
              have g4' := fqp (i / 2) (i % 2) (i % 2) hx hy hy _ (lN8_z (hTT (i / 2) (1 - i % 2)))
              simp only [fX2_two_49, fX2_two_159, g4, if_false, bnT, k3, k4, s1, s2, lb, clT, g1, g2, g3, g4', nI_1]
            rw [w1, w2]
            split
            · exact Or.inr ⟨_, _, rfl, rfl, rfl, _, lN8_z (hTT _ _), rfl⟩
            · split
              · exact Or.inr ⟨_, _, rfl, rfl, rfl, _, lN8_z (hTT _ _), rfl⟩
              · exact Or.inl ⟨_, _, _, rfl, rfl, relY1 hRV (lN8_z (hTT _ _))⟩
        · have hw1 : fX1_outside d 0 30 = some c := hw
          have hw2 : fX2_wrongBy d 0 30 = some c := hw
          have hc0 := c46_ne hc
          rw [hw1, hw2, clT, clT, if_neg hc0]
          simp only [fX2_two_32, hc0, if_false]
          rw [cl_e, cl_e]
          exact refAg hR (c46 hc)
    · rw [show fX0_hasReader (cv S) b = some 0 from e3, e4, clT, clT, if_pos rfl, if_pos rfl]; exact ref
  · rw [show fX0_hasReader (cv S) a = some 0 from e1, e2, clT, clT, if_pos rfl, if_pos rfl]; exact ref
end
