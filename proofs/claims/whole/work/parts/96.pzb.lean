/-! the reference reads a statement -/
section
variable {X : Nat → VS} {Y : VS} {l : Nat → Nat} {nl : Nat}
theorem st_dig {c f r : Nat} (h1 : r ≠ 1) (h2 : ¬ (f = 114 ∧ r = 4)) : stN c f r = 1 ↔ 48 ≤ c ∧ c ≤ 57 := by
  unfold stN
  rw [if_neg h1, if_neg h2]
  by_cases a : 48 ≤ c ∧ c ≤ 57
  · rw [if_pos a]; exact ⟨fun _ => a, fun _ => rfl⟩
  · rw [if_neg a]; exact ⟨fun q => by omega, fun q => absurd q a⟩
theorem st_semi {c f : Nat} : stN c f 1 = 1 ↔ c = 59 := by
  unfold stN
  rw [if_pos rfl]
  by_cases a : c = 59
  · rw [if_pos a]; exact ⟨fun _ => a, fun _ => rfl⟩
  · rw [if_neg a]; exact ⟨fun q => by omega, fun q => absurd q a⟩
theorem st_kind {c : Nat} : stN c 114 4 = 1 ↔ kd c < 6 := by
  unfold stN
  rw [if_neg (by decide), if_pos ⟨rfl, rfl⟩]
  by_cases a : kd c < 6
  · rw [if_pos a]; exact ⟨fun _ => a, fun _ => rfl⟩
  · rw [if_neg a]; exact ⟨fun q => by omega, fun q => absurd q a⟩
theorem okj_d {s j : Nat} (h1 : lb (l s) + 1 - j ≠ 1) (h2 : ¬ (l s = 114 ∧ lb (l s) + 1 - j = 4)) : okj l nl s j ↔ dg l nl (s + j) := by
  unfold okj dg
  rw [st_dig h1 h2]
theorem okj_s {s j : Nat} (h1 : lb (l s) + 1 - j = 1) : okj l nl s j ↔ s + j < nl ∧ l (s + j) = 59 := by
  unfold okj
  rw [h1, st_semi]
/-- the end of a statement -/
theorem t223 (y5 : Y 5 = lN8 l) (y8 : Y 8 0 = nI nl) (hl : ∀ i, i < nl → l i < 256) (hnl : nl ≤ 96) {q : Nat} (y10 : Y 10 0 = nI q) (hq : q ≤ nl) : ((q < nl ∧ l q = 59) ∧ ∃ Y', fX2_readsStatement_223 (Y, 1) = some (1, Y') ∧ YP Y Y' (q + 1) ∧ Y' 11 = Y 11) ∨ (¬ (q < nl ∧ l q = 59) ∧ fX2_readsStatement_223 (Y, 1) = some (0, Y)) := by
  have hh := r_here y5 y8 hnl y10 hq
  by_cases c : q < nl
  · rw [if_pos c] at hh
    have h256 := hl q c
    have c59 : (nI (l q) = (59 : Int32)) ↔ l q = 59 := neq (b := 59) (by omega) (by decide)
    by_cases d : l q = 59
    · refine Or.inl ⟨⟨c, d⟩, up Y 10 (fun _ => nI (q + 1)), ?_, ⟨fun k a b => up_n _ _ a, by rw [up_s]⟩, up_n _ _ (by decide)⟩
      have d' := c59.mpr d
      simp only [fX2_readsStatement_223, ne10, if_false, hh, clT, d', if_true, bnT, y10, nI_1]
    · refine Or.inr ⟨fun z => d z.2, ?_⟩
      have d' : ¬ nI (l q) = (59 : Int32) := fun z => d (c59.mp z)
      simp only [fX2_readsStatement_223, ne10, if_false, hh, clT, d']
  · rw [if_neg c] at hh
    refine Or.inr ⟨fun z => c z.1, ?_⟩
    have d' : ¬ (-1 : Int32) = (59 : Int32) := by decide
    simp only [fX2_readsStatement_223, ne10, if_false, hh, clT, d']
theorem t223_0 : fX2_readsStatement_223 (Y, 0) = some (0, Y) := by
  simp only [fX2_readsStatement_223, if_true]
theorem r_kind (y5 : Y 5 = lN8 l) (y8 : Y 8 0 = nI nl) (hl : ∀ i, i < nl → l i < 256) (hnl : nl ≤ 96) {q : Nat} (y10 : Y 10 0 = nI q) (hq : q ≤ nl) : ((q < nl ∧ kd (l q) < 6) ∧ ∃ Y', fX2_readsKind Y = some (1, Y') ∧ YP Y Y' (q + 1) ∧ Y' 11 0 = nI (kd (l q))) ∨ (¬ (q < nl ∧ kd (l q) < 6) ∧ ∃ Y', fX2_readsKind Y = some (0, Y') ∧ YP Y Y' q) := by
  have hh := r_here y5 y8 hnl y10 hq
  have k0 : ∀ {β : Type} {K : Option β}, ck 3 (0 : Int32) K = K := ckN (a := 0) (by decide) (by decide)
  have tn0 : (0 : Int32).toNatClampNeg = 0 := by decide
  have r0 : ∀ {β : Type} {K : Int32 → Option β} {f : Nat → Int32}, rd 3 f (0 : Int32) K = K (f 0) := rdN (a := 0) (by decide) (by decide)
  have u0 : ∀ (g : Nat → Int32) (v : Int32), upd g 0 v 0 = v := fun g v => if_pos rfl
  -- what is read, once the kind is v
  have go : ∀ v : Int32, fX2_kindBy (if q < nl then nI (l q) else -1) = some v → (¬ v < 0 → fX2_readsKind Y = some (1, up (up Y 11 (upd (Y 11) 0 v)) 10 (fun _ => nI (q + 1)))) ∧ (v < 0 → fX2_readsKind Y = some (0, up (up Y 11 (upd (Y 11) 0 v)) 10 (fun _ => nI q))) := by
    intro v hv
    have e10 : up Y 11 (upd (Y 11) 0 v) 10 0 = nI q := by rw [up_n _ _ (by decide)]; exact y10
    have e11 : ∀ f : Nat → Int32, up (up Y 11 (upd (Y 11) 0 v)) 10 f 11 = upd (Y 11) 0 v := fun f => by rw [up_n _ _ (by decide), up_s]
    have z0 : nI q + (0 : Int32) = nI q := nI_add q 0
    refine ⟨fun h => ?_, fun h => ?_⟩
    · have h' : (0 : Int32) ≤ v := Int32.not_lt.mp h
      simp only [fX2_readsKind, fX2_readsKind_32, hh, clT, hv, k0, tn0, bnT, r0, up_s, u0, h', if_true, e10, nI_1, e11, h, if_false]
    · have h' : ¬ (0 : Int32) ≤ v := Int32.not_le.mpr h
      simp only [fX2_readsKind, fX2_readsKind_32, hh, clT, hv, k0, tn0, bnT, r0, up_s, u0, h', if_false, e10, z0, e11, h, if_true]
  have yp : ∀ (v : Int32) (t : Nat), YP Y (up (up Y 11 (upd (Y 11) 0 v)) 10 (fun _ => nI t)) t := fun v t => ⟨fun k a b => by rw [up_n _ _ a, up_n _ _ b], by rw [up_s]⟩
  by_cases c : q < nl
  · rw [if_pos c] at go
    have qk := q_kindBy _ (hl q c)
    by_cases d : kd (l q) < 6
    · rw [if_pos d] at qk
      refine Or.inl ⟨⟨c, d⟩, _, (go _ qk).1 (nneg (by omega)), yp _ _, ?_⟩
      rw [up_n _ _ (by decide), up_s, u0]
    · rw [if_neg d] at qk
      exact Or.inr ⟨fun z => d z.2, _, (go _ qk).2 (by decide), yp _ _⟩
  · rw [if_neg c] at go
    exact Or.inr ⟨fun z => c z.1, _, (go _ q_kindNo).2 (by decide), yp _ _⟩
def Nums (l : Nat → Nat) (s : Nat) (Y : VS) : Prop := ((l s = 98 ∨ l s = 115 ∨ l s = 119) → Y 11 0 = nI (val l (s + 1) 1)) ∧ (l s = 103 → Y 11 0 = nI (val l (s + 1) 3)) ∧ (l s = 110 → Y 11 0 = nI (val l (s + 1) 2)) ∧ (l s = 112 → Y 11 0 = nI (val l (s + 1) 2) ∧ Y 11 1 = nI (val l (s + 3) 1)) ∧ (l s = 114 → Y 11 0 = nI (kd (l (s + 1))) ∧ Y 11 1 = nI (val l (s + 2) 1) ∧ Y 11 2 = nI (val l (s + 3) 1))
/-- a letter, a number, a semicolon -/
theorem r_num (y5 : Y 5 = lN8 l) (y8 : Y 8 0 = nI nl) (hl : ∀ i, i < nl → l i < 256) (hnl : nl ≤ 96) {s n : Nat} (y10 : Y 10 0 = nI (s + 1)) (hs : s < nl) (hn : n ≤ 3) (hb : lb (l s) = n + 1) (hf : l s ≠ 114) (hn0 : 0 < n) : (Gd l nl s ∧ ∃ Y', cl (fX2_readsNumber Y 0 (nI n)) (fun q1 => bn q1.1 (fun x2 => fX2_readsStatement_223 (q1.2, x2))) = some (1, Y') ∧ YP Y Y' (s + lb (l s) + 1) ∧ Y' 11 0 = nI (val l (s + 1) n)) ∨ ∃ w, Bd l nl s w ∧ ∃ Y', cl (fX2_readsNumber Y 0 (nI n)) (fun q1 => bn q1.1 (fun x2 => fX2_readsStatement_223 (q1.2, x2))) = some (0, Y') ∧ YP Y Y' w := by
  have od : ∀ j, 1 ≤ j → j ≤ n → (okj l nl s j ↔ dg l nl (s + j)) := fun j h1 h2 => okj_d (by omega) (fun q => hf q.1)
  rcases r_number (k := 0) (n := n) y5 y8 hl hnl y10 (by omega) (by decide) hn with ⟨j, hj, h1, h2, Y', e, hP⟩ | ⟨h1, Y', e, hP, hv, ho⟩
  · refine Or.inr ⟨s + (j + 1), Or.inr ⟨hs, by omega, j + 1, by omega, by omega, fun i a b => ?_, fun q => h2 ?_, rfl⟩, Y', ?_, ?_⟩
    · rw [od i a (by omega)]
      have := h1 (i - 1) (by omega)
      rw [show s + 1 + (i - 1) = s + i by omega] at this
      exact this
    · rw [od (j + 1) (by omega) (by omega)] at q
      rw [show s + 1 + j = s + (j + 1) by omega]; exact q
    · have e' : fX2_readsNumber Y 0 (nI n) = some (0, Y') := e
      rw [e', clT, bnT, t223_0]
    · rw [show s + (j + 1) = s + 1 + j by omega]; exact hP
  · have hq : s + 1 + n ≤ nl := by have := (h1 (n - 1) (by omega)).1; omega
    have e' : fX2_readsNumber Y 0 (nI n) = some (1, Y') := e
    rw [e', clT, bnT]
    rcases t223 (l := l) (nl := nl) (Y := Y') (by rw [hP.1 5 (by decide) (by decide)]; exact y5) (by rw [hP.1 8 (by decide) (by decide)]; exact y8) hl hnl hP.2 hq with ⟨c, Y'', e2, hP2, h11⟩ | ⟨c, e2⟩
    · refine Or.inl ⟨⟨hs, by omega, fun j a b => ?_⟩, Y'', e2, ?_, by rw [h11]; exact hv⟩
      · by_cases z : j ≤ n
        · rw [od j a z]
          have := h1 (j - 1) (by omega)
          rw [show s + 1 + (j - 1) = s + j by omega] at this
          exact this
        · rw [okj_s (by omega), show s + j = s + 1 + n by omega]; exact c
      · rw [show s + lb (l s) + 1 = s + 1 + n + 1 by omega]; exact YP_t hP hP2
    · refine Or.inr ⟨s + (n + 1), Or.inr ⟨hs, by omega, n + 1, by omega, by omega, fun i a b => ?_, fun q => c ?_, rfl⟩, Y', e2, ?_⟩
      · rw [od i a (by omega)]
        have := h1 (i - 1) (by omega)
        rw [show s + 1 + (i - 1) = s + i by omega] at this
        exact this
      · rw [okj_s (by omega)] at q
        rw [show s + 1 + n = s + (n + 1) by omega]; exact q
      · rw [show s + (n + 1) = s + 1 + n by omega]; exact hP
theorem YP_up {s : Nat} (f : Nat → Int32) (h : f 0 = nI s) : YP Y (up Y 10 f) s := ⟨fun k a b => up_n _ _ a, by rw [up_s]; exact h⟩
theorem r_stat (y5 : Y 5 = lN8 l) (y8 : Y 8 0 = nI nl) (hl : ∀ i, i < nl → l i < 256) (hnl : nl ≤ 96) {s : Nat} (y10 : Y 10 0 = nI s) (hs : s ≤ nl) : (Gd l nl s ∧ ∃ Y', fX2_readsStatement Y = some (1, Y') ∧ YP Y Y' (s + lb (l s) + 1) ∧ Nums l s Y') ∨ ∃ w, Bd l nl s w ∧ ∃ Y', fX2_readsStatement Y = some (0, Y') ∧ YP Y Y' w := by
  have hh := r_here y5 y8 hnl y10 hs
  have hw2 : YP Y (up Y 10 (fun _ => nI (s + 1))) (s + 1) := YP_up _ rfl
  have q5 : up Y 10 (fun _ => nI (s + 1)) 5 = lN8 l := by rw [up_n _ _ (by decide)]; exact y5
  have q8 : up Y 10 (fun _ => nI (s + 1)) 8 0 = nI nl := by rw [up_n _ _ (by decide)]; exact y8
  have e211 : fX2_readsStatement_211 (up Y 10 (fun _ => nI (s + 1))) = some (0, up Y 10 (fun _ => nI s)) := by
    have em : nI (s + 1) - (1 : Int32) = nI s := pk_sub (a := s + 1) (b := 1) (by omega)
    rw [fX2_readsStatement_211, bnT, up_s, em, up_up]
  rw [fX2_readsStatement, hh, clT, bnT, y10, nI_1]
  by_cases c : s < nl
  · rw [if_pos c]
    have h256 := hl s c
    by_cases z : lb (l s) = 0
    · have hne : ∀ k, k < 256 → lb k ≠ 0 → ¬ nI (l s) = nI k := fun k hk hb q => by
        have := (neq (by omega) (by omega)).mp q
        rw [this] at z; exact hb z
      have n98 : ¬ nI (l s) = (98 : Int32) := hne 98 (by decide) (by decide)
      have n103 : ¬ nI (l s) = (103 : Int32) := hne 103 (by decide) (by decide)
      have n110 : ¬ nI (l s) = (110 : Int32) := hne 110 (by decide) (by decide)
      have n112 : ¬ nI (l s) = (112 : Int32) := hne 112 (by decide) (by decide)
      have n114 : ¬ nI (l s) = (114 : Int32) := hne 114 (by decide) (by decide)
      have n115 : ¬ nI (l s) = (115 : Int32) := hne 115 (by decide) (by decide)
      have n119 : ¬ nI (l s) = (119 : Int32) := hne 119 (by decide) (by decide)
      simp only [n98, n103, n110, n112, n114, n115, n119, if_false, ite_self]
      exact Or.inr ⟨s, Or.inl ⟨rfl, Or.inr z⟩, _, e211, YP_up _ rfl⟩
    · rcases lb_c z with e | e | e | e | e | e | e
      · have ee : nI (l s) = nI 98 := by rw [e]
        rw [ee]
        have hb : lb (l s) = 2 := by rw [e]; decide
        have p : nI 98 = (98 : Int32) := rfl
        rw [if_pos p, fX2_readsStatement_181]
        rcases r_num (Y := up Y 10 (fun _ => nI (s + 1))) (n := 1) q5 q8 hl hnl hw2.2 c (by decide) hb (by omega) (by decide) with ⟨g, Y', e1, hP, hv⟩ | ⟨w, g, Y', e1, hP⟩
        · exact Or.inl ⟨g, Y', e1, YP_t hw2 hP, fun _ => hv, fun q => by omega, fun q => by omega, fun q => by omega, fun q => by omega⟩
        · exact Or.inr ⟨w, g, Y', e1, YP_t hw2 hP⟩
      · have ee : nI (l s) = nI 103 := by rw [e]
        rw [ee]
        have hb : lb (l s) = 4 := by rw [e]; decide
        have p : nI 103 = (103 : Int32) := rfl
        rw [if_neg (by decide), if_neg (by decide), if_neg (by decide), if_neg (by decide), if_neg (by decide), if_pos p]
        rcases r_num (Y := up Y 10 (fun _ => nI (s + 1))) (n := 3) q5 q8 hl hnl hw2.2 c (by decide) hb (by omega) (by decide) with ⟨g, Y', e1, hP, hv⟩ | ⟨w, g, Y', e1, hP⟩
        · exact Or.inl ⟨g, Y', e1, YP_t hw2 hP, fun q => by omega, fun _ => hv, fun q => by omega, fun q => by omega, fun q => by omega⟩
        · exact Or.inr ⟨w, g, Y', e1, YP_t hw2 hP⟩
      · have ee : nI (l s) = nI 110 := by rw [e]
        rw [ee]
        have hb : lb (l s) = 3 := by rw [e]; decide
        have p : nI 110 = (110 : Int32) := rfl
        rw [if_neg (by decide), if_neg (by decide), if_neg (by decide), if_neg (by decide), if_neg (by decide), if_neg (by decide), if_neg (by decide), if_neg (by decide), if_neg (by decide), if_neg (by decide), if_neg (by decide), if_neg (by decide), if_pos p]
        rcases r_num (Y := up Y 10 (fun _ => nI (s + 1))) (n := 2) q5 q8 hl hnl hw2.2 c (by decide) hb (by omega) (by decide) with ⟨g, Y', e1, hP, hv⟩ | ⟨w, g, Y', e1, hP⟩
        · exact Or.inl ⟨g, Y', e1, YP_t hw2 hP, fun q => by omega, fun q => by omega, fun _ => hv, fun q => by omega, fun q => by omega⟩
        · exact Or.inr ⟨w, g, Y', e1, YP_t hw2 hP⟩
      · -- p
        have ee : nI (l s) = nI 112 := by rw [e]
        rw [ee]
        have hb : lb (l s) = 4 := by rw [e]; decide
        have p : nI 112 = (112 : Int32) := rfl
        rw [if_neg (by decide), if_neg (by decide), if_neg (by decide), if_neg (by decide), if_neg (by decide), if_neg (by decide), if_neg (by decide), if_neg (by decide), if_neg (by decide), if_neg (by decide), if_neg (by decide), if_neg (by decide), if_neg (by decide), if_neg (by decide), if_pos p]
        have od : ∀ j, 1 ≤ j → j ≤ 3 → (okj l nl s j ↔ dg l nl (s + j)) := fun j h1 h2 => okj_d (by omega) (fun q => by have := q.1; omega)
        rcases r_number (k := 0) (n := 2) q5 q8 hl hnl hw2.2 (by omega) (by decide) (by decide) with ⟨j, hj, h1, h2, Y', e1, hP⟩ | ⟨h1, Y', e1, hP, hv, ho⟩
        · have e1' : fX2_readsNumber (up Y 10 (fun _ => nI (s + 1))) 0 2 = some (0, Y') := e1
          refine Or.inr ⟨s + (j + 1), Or.inr ⟨c, by omega, j + 1, by omega, by omega, fun i a b => ?_, fun q => h2 ?_, rfl⟩, Y', ?_, ?_⟩
          · rw [od i a (by omega)]
            have := h1 (i - 1) (by omega)
            rw [show s + 1 + (i - 1) = s + i by omega] at this
            exact this
          · rw [od (j + 1) (by omega) (by omega)] at q
            rw [show s + 1 + j = s + (j + 1) by omega]; exact q
          · rw [e1', clT, if_pos rfl, fX2_readsStatement_176, fX2_readsStatement_177]; exact t223_0
          · rw [show s + (j + 1) = s + 1 + j by omega]; exact YP_t hw2 hP
        · have e1' : fX2_readsNumber (up Y 10 (fun _ => nI (s + 1))) 0 2 = some (1, Y') := e1
          have d1 : dg l nl (s + 1) := by have := h1 0 (by omega); rw [show s + 1 + 0 = s + 1 by omega] at this; exact this
          have d2 : dg l nl (s + 2) := by have := h1 1 (by omega); rw [show s + 1 + 1 = s + 2 by omega] at this; exact this
          have hs3 : s + 3 ≤ nl := by have := d2.1; omega
          rw [e1', clT, if_neg ne10]
          have p5 : Y' 5 = lN8 l := by rw [hP.1 5 (by decide) (by decide)]; exact q5
          have p8 : Y' 8 0 = nI nl := by rw [hP.1 8 (by decide) (by decide)]; exact q8
          have p10 : Y' 10 0 = nI (s + 3) := by rw [hP.2]
          rcases r_number (k := 1) (n := 1) p5 p8 hl hnl p10 hs3 (by decide) (by decide) with ⟨j, hj, h3, h4, Y2, e2, hP2⟩ | ⟨h3, Y2, e2, hP2, hv2, ho2⟩
          · have j0 : j = 0 := by omega
            subst j0
            have e2' : fX2_readsNumber Y' 1 1 = some (0, Y2) := e2
            refine Or.inr ⟨s + 3, Or.inr ⟨c, by omega, 3, by omega, by omega, fun i a b => ?_, fun q => h4 ?_, rfl⟩, Y2, ?_, ?_⟩
            · rw [od i a (by omega)]
              rcases (show i = 1 ∨ i = 2 by omega) with rfl | rfl
              · exact d1
              · exact d2
            · rw [od 3 (by omega) (by omega)] at q
              exact q
            · rw [e2', clT, if_pos rfl, fX2_readsStatement_176, fX2_readsStatement_177]; exact t223_0
            · exact YP_t hw2 (YP_t hP hP2)
          · have e2' : fX2_readsNumber Y' 1 1 = some (1, Y2) := e2
            have d3 : dg l nl (s + 3) := h3 0 (by omega)
            have hs4 : s + 4 ≤ nl := by have := d3.1; omega
            rw [e2', clT, if_neg ne10, fX2_readsStatement_177]
            have r5 : Y2 5 = lN8 l := by rw [hP2.1 5 (by decide) (by decide)]; exact p5
            have r8 : Y2 8 0 = nI nl := by rw [hP2.1 8 (by decide) (by decide)]; exact p8
            have r10 : Y2 10 0 = nI (s + 4) := by rw [hP2.2]
            rcases t223 (l := l) (nl := nl) r5 r8 hl hnl r10 hs4 with ⟨k, Y3, e3, hP3, h11⟩ | ⟨k, e3⟩
            · refine Or.inl ⟨⟨c, by omega, fun j a b => ?_⟩, Y3, e3, ?_, fun q => by omega, fun q => by omega, fun q => by omega, fun _ => ⟨?_, ?_⟩, fun q => by omega⟩
              · rcases (show j = 1 ∨ j = 2 ∨ j = 3 ∨ j = 4 by omega) with rfl | rfl | rfl | rfl
                · rw [od 1 (by omega) (by omega)]; exact d1
                · rw [od 2 (by omega) (by omega)]; exact d2
                · rw [od 3 (by omega) (by omega)]; exact d3
                · rw [okj_s (by omega)]; exact k
              · rw [show s + lb (l s) + 1 = s + 4 + 1 by omega]; exact YP_t hw2 (YP_t hP (YP_t hP2 hP3))
              · rw [h11, ho2 0 (by decide)]; exact hv
              · rw [h11]; exact hv2
            · refine Or.inr ⟨s + 4, Or.inr ⟨c, by omega, 4, by omega, by omega, fun i a b => ?_, fun q => k ?_, rfl⟩, Y2, e3, ?_⟩
              · rw [od i a (by omega)]
                rcases (show i = 1 ∨ i = 2 ∨ i = 3 by omega) with rfl | rfl | rfl
                · exact d1
                · exact d2
                · exact d3
              · rw [okj_s (by omega)] at q; exact q
              · exact YP_t hw2 (YP_t hP hP2)
      · -- r
        have ee : nI (l s) = nI 114 := by rw [e]
        rw [ee]
        have hb : lb (l s) = 4 := by rw [e]; decide
        have p : nI 114 = (114 : Int32) := rfl
        rw [if_neg (by decide), if_neg (by decide), if_neg (by decide), if_neg (by decide), if_neg (by decide), if_neg (by decide), if_neg (by decide), if_neg (by decide), if_neg (by decide), if_neg (by decide), if_neg (by decide), if_neg (by decide), if_neg (by decide), if_neg (by decide), if_neg (by decide), if_neg (by decide), if_pos p]
        have od : ∀ j, 2 ≤ j → j ≤ 3 → (okj l nl s j ↔ dg l nl (s + j)) := fun j h1 h2 => okj_d (by omega) (fun q => by have := q.2; omega)
        have ok1 : okj l nl s 1 ↔ s + 1 < nl ∧ kd (l (s + 1)) < 6 := by
          unfold okj
          rw [show lb (l s) + 1 - 1 = 4 by omega, e, st_kind]
        rcases r_kind (Y := up Y 10 (fun _ => nI (s + 1))) (l := l) (nl := nl) q5 q8 hl hnl hw2.2 (by omega) with ⟨k1, Y', e1, hP, hv⟩ | ⟨k1, Y', e1, hP⟩
        · have hs2 : s + 2 ≤ nl := by have := k1.1; omega
          rw [e1, clT, if_neg ne10]
          have p5 : Y' 5 = lN8 l := by rw [hP.1 5 (by decide) (by decide)]; exact q5
          have p8 : Y' 8 0 = nI nl := by rw [hP.1 8 (by decide) (by decide)]; exact q8
          have p10 : Y' 10 0 = nI (s + 2) := by rw [hP.2]
          rcases r_number (k := 1) (n := 1) p5 p8 hl hnl p10 hs2 (by decide) (by decide) with ⟨j, hj, h3, h4, Y2, e2, hP2⟩ | ⟨h3, Y2, e2, hP2, hv2, ho2⟩
          · have j0 : j = 0 := by omega
            subst j0
            have e2' : fX2_readsNumber Y' 1 1 = some (0, Y2) := e2
            refine Or.inr ⟨s + 2, Or.inr ⟨c, by omega, 2, by omega, by omega, fun i a b => ?_, fun q => h4 ?_, rfl⟩, Y2, ?_, ?_⟩
            · rw [show i = 1 by omega, ok1]; exact k1
            · rw [od 2 (by omega) (by omega)] at q
              exact q
            · rw [e2', clT, if_pos rfl, fX2_readsStatement_149, fX2_readsStatement_150]; exact t223_0
            · exact YP_t hw2 (YP_t hP hP2)
          · have e2' : fX2_readsNumber Y' 1 1 = some (1, Y2) := e2
            have d2 : dg l nl (s + 2) := h3 0 (by omega)
            have hs3 : s + 3 ≤ nl := by have := d2.1; omega
            rw [e2', clT, if_neg ne10]
            have r5 : Y2 5 = lN8 l := by rw [hP2.1 5 (by decide) (by decide)]; exact p5
            have r8 : Y2 8 0 = nI nl := by rw [hP2.1 8 (by decide) (by decide)]; exact p8
            have r10 : Y2 10 0 = nI (s + 3) := by rw [hP2.2]
            rcases r_number (k := 2) (n := 1) r5 r8 hl hnl r10 hs3 (by decide) (by decide) with ⟨j, hj, h5, h6, Y3, e3, hP3⟩ | ⟨h5, Y3, e3, hP3, hv3, ho3⟩
            · have j0 : j = 0 := by omega
              subst j0
              have e3' : fX2_readsNumber Y2 2 1 = some (0, Y3) := e3
              refine Or.inr ⟨s + 3, Or.inr ⟨c, by omega, 3, by omega, by omega, fun i a b => ?_, fun q => h6 ?_, rfl⟩, Y3, ?_, ?_⟩
              · rcases (show i = 1 ∨ i = 2 by omega) with rfl | rfl
                · rw [ok1]; exact k1
                · rw [od 2 (by omega) (by omega)]; exact d2
              · rw [od 3 (by omega) (by omega)] at q
                exact q
              · rw [e3', clT, if_pos rfl, fX2_readsStatement_149, fX2_readsStatement_150]; exact t223_0
              · exact YP_t hw2 (YP_t hP (YP_t hP2 hP3))
            · have e3' : fX2_readsNumber Y2 2 1 = some (1, Y3) := e3
              have d3 : dg l nl (s + 3) := h5 0 (by omega)
              have hs4 : s + 4 ≤ nl := by have := d3.1; omega
              rw [e3', clT, if_neg ne10, fX2_readsStatement_150]
              have u5 : Y3 5 = lN8 l := by rw [hP3.1 5 (by decide) (by decide)]; exact r5
              have u8 : Y3 8 0 = nI nl := by rw [hP3.1 8 (by decide) (by decide)]; exact r8
              have u10 : Y3 10 0 = nI (s + 4) := by rw [hP3.2]
              rcases t223 (l := l) (nl := nl) u5 u8 hl hnl u10 hs4 with ⟨k, Y4, e4, hP4, h11⟩ | ⟨k, e4⟩
              · refine Or.inl ⟨⟨c, by omega, fun j a b => ?_⟩, Y4, e4, ?_, fun q => by omega, fun q => by omega, fun q => by omega, fun q => by omega, fun _ => ⟨?_, ?_, ?_⟩⟩
                · rcases (show j = 1 ∨ j = 2 ∨ j = 3 ∨ j = 4 by omega) with rfl | rfl | rfl | rfl
                  · rw [ok1]; exact k1
                  · rw [od 2 (by omega) (by omega)]; exact d2
                  · rw [od 3 (by omega) (by omega)]; exact d3
                  · rw [okj_s (by omega)]; exact k
                · rw [show s + lb (l s) + 1 = s + 4 + 1 by omega]; exact YP_t hw2 (YP_t hP (YP_t hP2 (YP_t hP3 hP4)))
                · rw [h11, ho3 0 (by decide), ho2 0 (by decide)]; exact hv
                · rw [h11, ho3 1 (by decide)]; exact hv2
                · rw [h11]; exact hv3
              · refine Or.inr ⟨s + 4, Or.inr ⟨c, by omega, 4, by omega, by omega, fun i a b => ?_, fun q => k ?_, rfl⟩, Y3, e4, ?_⟩
                · rcases (show i = 1 ∨ i = 2 ∨ i = 3 by omega) with rfl | rfl | rfl
                  · rw [ok1]; exact k1
                  · rw [od 2 (by omega) (by omega)]; exact d2
                  · rw [od 3 (by omega) (by omega)]; exact d3
                · rw [okj_s (by omega)] at q; exact q
                · exact YP_t hw2 (YP_t hP (YP_t hP2 hP3))
        · refine Or.inr ⟨s + 1, Or.inr ⟨c, by omega, 1, by omega, by omega, fun i a b => by omega, fun q => k1 (ok1.mp q), rfl⟩, Y', ?_, YP_t hw2 hP⟩
          rw [e1, clT, if_pos rfl, fX2_readsStatement_149, fX2_readsStatement_150]; exact t223_0
      · have ee : nI (l s) = nI 115 := by rw [e]
        rw [ee]
        have hb : lb (l s) = 2 := by rw [e]; decide
        have p : nI 115 = (115 : Int32) := rfl
        rw [if_neg (by decide), if_neg (by decide), if_neg (by decide), if_neg (by decide), if_neg (by decide), if_neg (by decide), if_neg (by decide), if_neg (by decide), if_neg (by decide), if_neg (by decide), if_neg (by decide), if_neg (by decide), if_neg (by decide), if_neg (by decide), if_neg (by decide), if_neg (by decide), if_neg (by decide), if_pos p, fX2_readsStatement_181]
        rcases r_num (Y := up Y 10 (fun _ => nI (s + 1))) (n := 1) q5 q8 hl hnl hw2.2 c (by decide) hb (by omega) (by decide) with ⟨g, Y', e1, hP, hv⟩ | ⟨w, g, Y', e1, hP⟩
        · exact Or.inl ⟨g, Y', e1, YP_t hw2 hP, fun _ => hv, fun q => by omega, fun q => by omega, fun q => by omega, fun q => by omega⟩
        · exact Or.inr ⟨w, g, Y', e1, YP_t hw2 hP⟩
      · have ee : nI (l s) = nI 119 := by rw [e]
        rw [ee]
        have hb : lb (l s) = 2 := by rw [e]; decide
        have p : nI 119 = (119 : Int32) := rfl
        rw [if_neg (by decide), if_neg (by decide), if_neg (by decide), if_neg (by decide), if_neg (by decide), if_neg (by decide), if_neg (by decide), if_neg (by decide), if_neg (by decide), if_neg (by decide), if_neg (by decide), if_neg (by decide), if_neg (by decide), if_neg (by decide), if_neg (by decide), if_neg (by decide), if_neg (by decide), if_neg (by decide), if_neg (by decide), if_neg (by decide), if_neg (by decide), if_pos p, fX2_readsStatement_181]
        rcases r_num (Y := up Y 10 (fun _ => nI (s + 1))) (n := 1) q5 q8 hl hnl hw2.2 c (by decide) hb (by omega) (by decide) with ⟨g, Y', e1, hP, hv⟩ | ⟨w, g, Y', e1, hP⟩
        · exact Or.inl ⟨g, Y', e1, YP_t hw2 hP, fun _ => hv, fun q => by omega, fun q => by omega, fun q => by omega, fun q => by omega⟩
        · exact Or.inr ⟨w, g, Y', e1, YP_t hw2 hP⟩
  · rw [if_neg c]
    have n98 : ¬ (-1 : Int32) = 98 := by decide
    have n103 : ¬ (-1 : Int32) = 103 := by decide
    have n110 : ¬ (-1 : Int32) = 110 := by decide
    have n112 : ¬ (-1 : Int32) = 112 := by decide
    have n114 : ¬ (-1 : Int32) = 114 := by decide
    have n115 : ¬ (-1 : Int32) = 115 := by decide
    have n119 : ¬ (-1 : Int32) = 119 := by decide
    simp only [n98, n103, n110, n112, n114, n115, n119, if_false, ite_self]
    exact Or.inr ⟨s, Or.inl ⟨rfl, Or.inl (by omega)⟩, _, e211, YP_up _ rfl⟩
theorem gd_nbd {s w : Nat} (h : Gd l nl s) (g : Bd l nl s w) : False := by
  rcases g with ⟨_, a | a⟩ | ⟨_, _, j, a, b, _, d, _⟩
  · exact absurd h.1 (by omega)
  · exact h.2.1 a
  · exact d (h.2.2 j a b)
end
