/-! the relation of the two objects -/
def OZ (S P l r : Nat → Nat) (hp nl nr : Nat) : Prop := Ok S ∧ S 2 ≤ 999 ∧ Ok P ∧ P 2 ≤ 999 ∧ hp ≤ 1 ∧ nl ≤ 96 ∧ nr ≤ 16 ∧ (∀ i, i < nl → l i < 256) ∧ ∀ i, i < nr → r i ≤ 99
def RX (S P l r f : Nat → Nat) (hp nl nr : Nat) (X : Nat → VS) : Prop := X 0 = cv S ∧ (∃ T y, X 1 = cw T y) ∧ (∃ T y, X 2 = cw T y) ∧ (hp = 1 → X 2 = cv P) ∧ X 3 3 = (fun _ => nI hp) ∧ X 3 4 = lN8 l ∧ X 3 5 = (fun _ => nI nl) ∧ X 3 6 = lN8 r ∧ X 3 7 = (fun _ => nI nr) ∧ X 3 8 = lN8 f
def RY (S P l r f : Nat → Nat) (hp nl nr : Nat) (Y : VS) : Prop := Y 0 = lN8 S ∧ (∀ j, 81 ≤ j → Y 1 j = 0) ∧ (∀ j, 81 ≤ j → Y 2 j = 0) ∧ (∀ j, 81 ≤ j → Y 3 j = 0) ∧ (hp = 1 → Y 2 = lN8 P) ∧ Y 4 = (fun _ => nI hp) ∧ Y 5 = lN8 l ∧ Y 6 = lN8 r ∧ Y 7 = lN8 f ∧ Y 8 = (fun _ => nI nl) ∧ Y 9 = (fun _ => nI nr)
def RR (S P l r f : Nat → Nat) (hp nl nr : Nat) (X : Nat → VS) (Y : VS) : Prop := OZ S P l r hp nl nr ∧ RX S P l r f hp nl nr X ∧ RY S P l r f hp nl nr Y
def Rel (X : Nat → VS) (Y : VS) : Prop := ∃ S P l r f hp nl nr, RR S P l r f hp nl nr X Y
def Ag (o1 : Option (Int32 × (Nat → VS))) (o2 : Option (Int32 × VS)) : Prop := ∃ r X' Y', o1 = some (r, X') ∧ o2 = some (r, Y') ∧ Rel X' Y'
def AgL (o1 : Option (Int64 × (Nat → VS))) (o2 : Option (Int64 × VS)) : Prop := ∃ r X' Y', o1 = some (r, X') ∧ o2 = some (r, Y') ∧ Rel X' Y'
theorem cl_e {α β : Type} (o : Option (α × β)) : cl o (fun q => some (q.1, q.2)) = o := by cases o <;> rfl
theorem cl_e1 {α : Type} (o : Option α) : cl o (fun q => some q) = o := by cases o <;> rfl
/-- the start -/
def S00 : Nat → Nat := setN (setN (fun _ => 0) 3 100) 4 5
theorem cK_0 {n : Nat} {f : Nat → Nat} (h : ∀ t, t < n → f t = 0) : cK n f = fun _ => 0 := funext fun t => by
  unfold cK
  split
  · rename_i c; rw [h t c]; rfl
  · rfl
theorem S00_0 {j : Nat} (h3 : j ≠ 3) (h4 : j ≠ 4) : S00 j = 0 := by unfold S00; rw [setN_n _ _ h4, setN_n _ _ h3]
theorem v00_cv : v00 = cv S00 := funext fun k => match k with
  | 0 => congrArg (fun (n : Nat) (_ : Nat) => nI n) (S00_0 (j := 0) (by decide) (by decide)).symm
  | 1 => (cK_0 (fun t _ => S00_0 (by omega) (by omega))).symm
  | 2 => (cK_0 (fun t _ => S00_0 (by omega) (by omega))).symm
  | 3 => (cK_0 (fun t _ => S00_0 (by omega) (by omega))).symm
  | 4 => by
    have e : sentN S00 = 0 := by decide +kernel
    show (fun _ => (0 : Int32)) = fun _ => nI (sentN S00)
    rw [e]; rfl
  | 5 => congrArg (fun (n : Nat) (_ : Nat) => nI n) (S00_0 (j := 1) (by decide) (by decide)).symm
  | 6 => (cK_0 (fun t _ => S00_0 (by omega) (by omega))).symm
  | 7 => (cK_0 (fun t _ => S00_0 (by omega) (by omega))).symm
  | 8 => (cK_0 (fun t _ => S00_0 (by omega) (by omega))).symm
  | 9 => rfl
  | 10 => rfl
  | 11 => congrArg (fun (n : Nat) (_ : Nat) => nI n) (S00_0 (j := 2) (by decide) (by decide)).symm
  | _ + 12 => rfl
theorem Ok00 : Ok S00 := by
  refine ⟨by decide, by decide, by decide, by decide, fun t ht => ?_, fun t _ ht => ?_, fun p hp => ?_, fun p _ hp => ?_, fun i hi => S00_0 (by omega) (by omega)⟩
  · rw [S00_0 (by omega) (by omega), S00_0 (by omega) (by omega), S00_0 (by omega) (by omega), S00_0 (by omega) (by omega)]; decide
  · exact ⟨S00_0 (by omega) (by omega), S00_0 (by omega) (by omega), S00_0 (by omega) (by omega), S00_0 (by omega) (by omega)⟩
  · rw [S00_0 (by omega) (by omega), S00_0 (by omega) (by omega)]
    exact ⟨by decide, by decide, fun w hw => by rw [S00_0 (by omega) (by omega)]; decide⟩
  · exact ⟨S00_0 (by omega) (by omega), S00_0 (by omega) (by omega), fun w hw => S00_0 (by omega) (by omega)⟩
theorem rel00 : Rel X00 Y00 := by
  refine ⟨S00, S00, fun _ => 0, fun _ => 0, fun _ => 0, 0, 0, 0, ⟨Ok00, by decide, Ok00, by decide, by decide, by decide, by decide, fun i hi => by omega, fun i hi => by omega⟩, ⟨v00_cv, ⟨S00, _, v00_cv⟩, ⟨S00, _, v00_cv⟩, fun h => by omega, rfl, rfl, rfl, rfl, rfl, rfl⟩, ⟨?_, fun _ _ => rfl, fun _ _ => rfl, fun _ _ => rfl, fun h => by omega, rfl, rfl, rfl, rfl, rfl, rfl⟩⟩
  funext j
  show upd (upd (fun _ => 0) 3 100) 4 5 j = nI (S00 j)
  unfold S00 setN upd
  by_cases a : j = 4
  · rw [if_pos a, if_pos a]; rfl
  · rw [if_neg a, if_neg a]
    by_cases b : j = 3
    · rw [if_pos b, if_pos b]; rfl
    · rw [if_neg b, if_neg b]; rfl
-- arguments
theorem argN (a : Int32) : a < 0 ∨ ∃ n, n < 2147483648 ∧ a = nI n := by
  by_cases h : a < 0
  · exact Or.inl h
  · exact Or.inr (nI_of h)
theorem neg_le {a : Int32} {n : Nat} (h : a < 0) (hn : n < 2147483648) : ¬ nI n ≤ a := by
  intro q
  have h1 := Int32.lt_iff_toInt_lt.mp h
  have h2 := Int32.le_iff_toInt_le.mp q
  rw [nI_toInt (by omega)] at h2
  have h3 : (0 : Int32).toInt = 0 := by decide
  omega
theorem neg_lt {a : Int32} {n : Nat} (h : a < 0) (hn : n < 2147483648) : a < nI n := by
  apply Int32.lt_iff_toInt_lt.mpr
  have h1 := Int32.lt_iff_toInt_lt.mp h
  rw [nI_toInt (by omega)]
  have h3 : (0 : Int32).toInt = 0 := by decide
  omega
theorem neg_ne {a : Int32} {n : Nat} (h : a < 0) (hn : n < 2147483648) : ¬ a = nI n := fun q => by
  subst q; exact nI_pos (by omega) h
theorem nneg {n : Nat} (hn : n < 2147483648) : ¬ nI n < 0 := nI_pos (by omega)
/-- refusals -/
theorem refAg {X : Nat → VS} {Y : VS} (hR : Rel X Y) {c : Int32} (hc : c = -1 ∨ c = -2 ∨ c = -3 ∨ c = -4 ∨ c = -6) : Ag (fX1_refuse X c) (fX2_no Y c) := by
  obtain ⟨S, P, l, r, f, hp, nl, nr, hO, hX, hY⟩ := hR
  obtain ⟨k, hk, hc1, hc2, hc3⟩ : ∃ k, k < 7 ∧ -c = nI k ∧ ¬ 0 ≤ c ∧ ¬ c < (-6) := by
    rcases hc with rfl | rfl | rfl | rfl | rfl
    · exact ⟨1, by decide, by decide, by decide, by decide⟩
    · exact ⟨2, by decide, by decide, by decide, by decide⟩
    · exact ⟨3, by decide, by decide, by decide, by decide⟩
    · exact ⟨4, by decide, by decide, by decide, by decide⟩
    · exact ⟨6, by decide, by decide, by decide, by decide⟩
  obtain ⟨x0, x1, x2, x2', x3, x4, x5, x6, x7, x8⟩ := hX
  obtain ⟨y0, y1, y2, y3, y2', y4, y5, y6, y7, y8, y9⟩ := hY
  have e1 : lN8 f k + (1 : Int32) = nI (f k + 1) := nI_1 (f k)
  refine ⟨c, up X 3 (up (X 3) 8 (lN8 (setN f k (f k + 1)))), up Y 7 (lN8 (setN f k (f k + 1))), ?_, ?_, S, P, l, r, setN f k (f k + 1), hp, nl, nr, hO, ⟨x0, x1, x2, x2', x3, x4, x5, x6, x7, rfl⟩, ⟨y0, y1, y2, y3, y2', y4, y5, y6, rfl, y8, y9⟩⟩
  · simp only [fX1_refuse, hc2, hc3, if_false, hc1, x8]
    rw [rdN hk (by decide), ckN hk (by decide), bnE, ncl (by omega), e1, lN8_up]
  · simp only [fX2_no, hc1, y7]
    rw [rdN hk (by decide), ckN hk (by decide), bnE, ncl (by omega), e1, lN8_up]
/-- a rocket, a reader, told by an argument -/
theorem rkt {S : Nat → Nat} {x : Int32} {Y : VS} (h : Ok S) (hY : Y 0 = lN8 S) (a : Int32) : (∃ t, t < S 0 ∧ a = nI t ∧ fX0_hasRocket (cw S x) a = some 1 ∧ fX2_isRocket Y a = some 1) ∨ (fX0_hasRocket (cw S x) a = some 0 ∧ fX2_isRocket Y a = some 0) := by
  have h0 := h.1
  have e0 : cw S x 0 0 = nI (S 0) := rfl
  have ei : ∀ {β : Type} {K : Int32 → Option β}, rd 81 (lN8 S) 0 K = K (nI (S 0)) := rdM (a := 0) (by decide)
  simp only [fX0_hasRocket, fX2_isRocket, fX2_isIn, hY, ei, e0]
  rcases argN a with hn | ⟨n, hn, rfl⟩
  · refine Or.inr ⟨by rw [if_pos hn], ?_⟩
    rw [if_pos hn]; rfl
  · have h1 : ¬ nI n < 0 := nneg hn
    rw [if_neg h1, if_neg h1]
    by_cases c : n < S 0
    · refine Or.inl ⟨n, c, rfl, ?_, ?_⟩
      · rw [if_neg (by rw [nle (by omega) hn]; omega)]
      · have e : nI (S 0) - (1 : Int32) = nI (S 0 - 1) := pk_sub (b := 1) (by omega)
        rw [e, if_neg (by rw [nlt (by omega) hn]; omega)]; rfl
    · refine Or.inr ⟨?_, ?_⟩
      · rw [if_pos (by rw [nle (by omega) hn]; omega)]
      · by_cases z : S 0 = 0
        · rw [z]
          have e : nI 0 - (1 : Int32) = -1 := by decide
          have q : (-1 : Int32) < nI n := neg_lt (by decide) hn
          rw [e, if_pos q]; rfl
        · have e : nI (S 0) - (1 : Int32) = nI (S 0 - 1) := pk_sub (b := 1) (by omega)
          rw [e, if_pos (by rw [nlt (by omega) hn]; omega)]; rfl
theorem rdr {S : Nat → Nat} {x : Int32} {Y : VS} (h : Ok S) (hY : Y 0 = lN8 S) (a : Int32) : (∃ t, t < S 1 ∧ a = nI t ∧ fX0_hasReader (cw S x) a = some 1 ∧ fX2_isReader Y a = some 1) ∨ (fX0_hasReader (cw S x) a = some 0 ∧ fX2_isReader Y a = some 0) := by
  have h0 := h.2.1
  have e0 : cw S x 5 0 = nI (S 1) := rfl
  have ei : ∀ {β : Type} {K : Int32 → Option β}, rd 81 (lN8 S) 1 K = K (nI (S 1)) := rdM (a := 1) (by decide)
  simp only [fX0_hasReader, fX2_isReader, fX2_isIn, hY, ei, e0]
  rcases argN a with hn | ⟨n, hn, rfl⟩
  · refine Or.inr ⟨by rw [if_pos hn], ?_⟩
    rw [if_pos hn]; rfl
  · have h1 : ¬ nI n < 0 := nneg hn
    rw [if_neg h1, if_neg h1]
    by_cases c : n < S 1
    · refine Or.inl ⟨n, c, rfl, ?_, ?_⟩
      · rw [if_neg (by rw [nle (by omega) hn]; omega)]
      · have e : nI (S 1) - (1 : Int32) = nI (S 1 - 1) := pk_sub (b := 1) (by omega)
        rw [e, if_neg (by rw [nlt (by omega) hn]; omega)]; rfl
    · refine Or.inr ⟨?_, ?_⟩
      · rw [if_pos (by rw [nle (by omega) hn]; omega)]
      · by_cases z : S 1 = 0
        · rw [z]
          have e : nI 0 - (1 : Int32) = -1 := by decide
          have q : (-1 : Int32) < nI n := neg_lt (by decide) hn
          rw [e, if_pos q]; rfl
        · have e : nI (S 1) - (1 : Int32) = nI (S 1 - 1) := pk_sub (b := 1) (by omega)
          rw [e, if_pos (by rw [nlt (by omega) hn]; omega)]; rfl
/-- in range, or refused -/
theorem wrg (a : Int32) (lo hi : Nat) (hh : hi < 2147483648) (hl : lo ≤ hi) : (∃ n, lo ≤ n ∧ n ≤ hi ∧ a = nI n ∧ fX1_outside a (nI lo) (nI hi) = some 0) ∨ ∃ c : Int32, (c = -4 ∨ c = -6) ∧ fX1_outside a (nI lo) (nI hi) = some c := by
  unfold fX1_outside
  rcases argN a with hn | ⟨n, hn, rfl⟩
  · refine Or.inr ⟨-4, Or.inl rfl, ?_⟩
    rw [if_neg (neg_le hn (by omega))]
  · by_cases c1 : lo ≤ n
    · rw [if_pos ((nle (by omega) hn).mpr c1)]
      by_cases c2 : n ≤ hi
      · exact Or.inl ⟨n, c1, c2, rfl, by rw [if_pos ((nle hn hh).mpr c2)]⟩
      · exact Or.inr ⟨-6, Or.inr rfl, by rw [if_neg (fun q => c2 ((nle hn hh).mp q))]⟩
    · exact Or.inr ⟨-4, Or.inl rfl, by rw [if_neg (fun q => c1 ((nle (by omega) hn).mp q))]⟩
theorem wrg_eq (a b c : Int32) : fX2_wrongBy a b c = fX1_outside a b c := rfl
theorem c46_ne {c : Int32} (h : c = -4 ∨ c = -6) : ¬ c = 0 := by rcases h with rfl | rfl <;> decide
theorem c46 {c : Int32} (h : c = -4 ∨ c = -6) : c = -1 ∨ c = -2 ∨ c = -3 ∨ c = -4 ∨ c = -6 := by rcases h with rfl | rfl <;> simp
theorem isn (a : Int32) (hi : Nat) (hh : hi < 2147483648) : (∃ n, n ≤ hi ∧ a = nI n ∧ fX2_isIn a 0 (nI hi) = some 1) ∨ ((∀ n, n ≤ hi → a ≠ nI n) ∧ fX2_isIn a 0 (nI hi) = some 0) := by
  unfold fX2_isIn
  rcases argN a with hn | ⟨n, hn, rfl⟩
  · exact Or.inr ⟨fun n h9 => neg_ne hn (by omega), by rw [if_pos hn]⟩
  · rw [if_neg (nneg hn)]
    by_cases c : n ≤ hi
    · exact Or.inl ⟨n, c, rfl, by rw [if_neg (by rw [nlt hh hn]; omega)]⟩
    · refine Or.inr ⟨fun m hm q => ?_, by rw [if_pos (by rw [nlt hh hn]; omega)]⟩
      have := (neq hn (by omega)).mp q
      omega
theorem one2 (a : Int32) : ((a = 0 ∨ a = 1) ∧ fX1_isOneOfTwo a = some 1 ∧ fX2_isIn a 0 1 = some 1) ∨ (¬ a = 0 ∧ ¬ a = 1 ∧ fX1_isOneOfTwo a = some 0 ∧ fX2_isIn a 0 1 = some 0) := by
  rcases isn a 1 (by decide) with ⟨n, hn, rfl, h⟩ | ⟨h, h2⟩
  · rcases (show n = 0 ∨ n = 1 by omega) with rfl | rfl
    · exact Or.inl ⟨Or.inl rfl, by decide, by decide⟩
    · exact Or.inl ⟨Or.inr rfl, by decide, by decide⟩
  · have a0 : ¬ a = 0 := h 0 (by omega)
    have a1 : ¬ a = 1 := h 1 (by omega)
    exact Or.inr ⟨a0, a1, by rw [fX1_isOneOfTwo, if_neg a0, if_neg a1], h2⟩
