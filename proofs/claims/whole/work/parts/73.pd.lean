/-! updates of a class valley, as updates of S -/
theorem up_ext {α : Type} {v w : Nat → α} {k0 : Nat} {g : α} (h0 : g = w k0) (h : ∀ k, k ≠ k0 → v k = w k) : up v k0 g = w := funext fun k => by
  by_cases e : k = k0
  · subst e; rw [up_s]; exact h0
  · rw [up_n _ _ e]; exact h k e
theorem cK_cong {n : Nat} {f g : Nat → Nat} (h : ∀ t, t < n → f t = g t) : cK n f = cK n g := funext fun t => by
  unfold cK
  by_cases c : t < n
  · rw [if_pos c, if_pos c, h t c]
  · rw [if_neg c, if_neg c]
theorem cK_upd {n t y : Nat} {f g : Nat → Nat} (ht : t < n) (h0 : g t = y) (h : ∀ i, i < n → i ≠ t → g i = f i) : upd (cK n f) t (nI y) = cK n g := funext fun i => by
  unfold upd cK
  by_cases e : i = t
  · subst e; rw [if_pos rfl, if_pos ht, h0]
  · rw [if_neg e]
    by_cases c : i < n
    · rw [if_pos c, if_pos c, h i c e]
    · rw [if_neg c, if_neg c]
section
variable {S : Nat → Nat} {x : Int32}
theorem u0 (y : Nat) : up (cw S x) 0 (fun _ => nI y) = cw (setN S (0) y) x := up_ext (congrArg (fun (n : Nat) (_ : Nat) => nI n) (setN_s S _ y).symm) (fun k hk => match k, hk with
  | 0, h => absurd rfl h
  | 1, _ => cK_cong (fun t9 h9 => (setN_n S y (by omega)).symm)
  | 2, _ => cK_cong (fun t9 h9 => (setN_n S y (by omega)).symm)
  | 3, _ => cK_cong (fun t9 h9 => (setN_n S y (by omega)).symm)
  | 4, _ => congrArg (fun (n : Nat) (_ : Nat) => nI n) (bitsN_cong (fun t9 h9 => (setN_n S y (by omega)).symm))
  | 5, _ => congrArg (fun (n : Nat) (_ : Nat) => nI n) (setN_n S y (by omega)).symm
  | 6, _ => cK_cong (fun t9 h9 => (setN_n S y (by omega)).symm)
  | 7, _ => cK_cong (fun t9 h9 => (setN_n S y (by omega)).symm)
  | 8, _ => cK_cong (fun t9 h9 => (setN_n S y (by omega)).symm)
  | 9, _ => rfl
  | 10, _ => congrArg (fun (n : Nat) (_ : Nat) => nI n) (setN_n S y (by omega)).symm
  | 11, _ => congrArg (fun (n : Nat) (_ : Nat) => nI n) (setN_n S y (by omega)).symm
  | _ + 12, _ => rfl)
theorem u5 (y : Nat) : up (cw S x) 5 (fun _ => nI y) = cw (setN S (1) y) x := up_ext (congrArg (fun (n : Nat) (_ : Nat) => nI n) (setN_s S _ y).symm) (fun k hk => match k, hk with
  | 0, _ => congrArg (fun (n : Nat) (_ : Nat) => nI n) (setN_n S y (by omega)).symm
  | 1, _ => cK_cong (fun t9 h9 => (setN_n S y (by omega)).symm)
  | 2, _ => cK_cong (fun t9 h9 => (setN_n S y (by omega)).symm)
  | 3, _ => cK_cong (fun t9 h9 => (setN_n S y (by omega)).symm)
  | 4, _ => congrArg (fun (n : Nat) (_ : Nat) => nI n) (bitsN_cong (fun t9 h9 => (setN_n S y (by omega)).symm))
  | 5, h => absurd rfl h
  | 6, _ => cK_cong (fun t9 h9 => (setN_n S y (by omega)).symm)
  | 7, _ => cK_cong (fun t9 h9 => (setN_n S y (by omega)).symm)
  | 8, _ => cK_cong (fun t9 h9 => (setN_n S y (by omega)).symm)
  | 9, _ => rfl
  | 10, _ => congrArg (fun (n : Nat) (_ : Nat) => nI n) (setN_n S y (by omega)).symm
  | 11, _ => congrArg (fun (n : Nat) (_ : Nat) => nI n) (setN_n S y (by omega)).symm
  | _ + 12, _ => rfl)
theorem u10 (y : Nat) : up (cw S x) 10 (fun _ => nI y) = cw (setN S (4) y) x := up_ext (congrArg (fun (n : Nat) (_ : Nat) => nI n) (setN_s S _ y).symm) (fun k hk => match k, hk with
  | 0, _ => congrArg (fun (n : Nat) (_ : Nat) => nI n) (setN_n S y (by omega)).symm
  | 1, _ => cK_cong (fun t9 h9 => (setN_n S y (by omega)).symm)
  | 2, _ => cK_cong (fun t9 h9 => (setN_n S y (by omega)).symm)
  | 3, _ => cK_cong (fun t9 h9 => (setN_n S y (by omega)).symm)
  | 4, _ => congrArg (fun (n : Nat) (_ : Nat) => nI n) (bitsN_cong (fun t9 h9 => (setN_n S y (by omega)).symm))
  | 5, _ => congrArg (fun (n : Nat) (_ : Nat) => nI n) (setN_n S y (by omega)).symm
  | 6, _ => cK_cong (fun t9 h9 => (setN_n S y (by omega)).symm)
  | 7, _ => cK_cong (fun t9 h9 => (setN_n S y (by omega)).symm)
  | 8, _ => cK_cong (fun t9 h9 => (setN_n S y (by omega)).symm)
  | 9, _ => rfl
  | 10, h => absurd rfl h
  | 11, _ => congrArg (fun (n : Nat) (_ : Nat) => nI n) (setN_n S y (by omega)).symm
  | _ + 12, _ => rfl)
theorem u11 (y : Nat) : up (cw S x) 11 (fun _ => nI y) = cw (setN S (2) y) x := up_ext (congrArg (fun (n : Nat) (_ : Nat) => nI n) (setN_s S _ y).symm) (fun k hk => match k, hk with
  | 0, _ => congrArg (fun (n : Nat) (_ : Nat) => nI n) (setN_n S y (by omega)).symm
  | 1, _ => cK_cong (fun t9 h9 => (setN_n S y (by omega)).symm)
  | 2, _ => cK_cong (fun t9 h9 => (setN_n S y (by omega)).symm)
  | 3, _ => cK_cong (fun t9 h9 => (setN_n S y (by omega)).symm)
  | 4, _ => congrArg (fun (n : Nat) (_ : Nat) => nI n) (bitsN_cong (fun t9 h9 => (setN_n S y (by omega)).symm))
  | 5, _ => congrArg (fun (n : Nat) (_ : Nat) => nI n) (setN_n S y (by omega)).symm
  | 6, _ => cK_cong (fun t9 h9 => (setN_n S y (by omega)).symm)
  | 7, _ => cK_cong (fun t9 h9 => (setN_n S y (by omega)).symm)
  | 8, _ => cK_cong (fun t9 h9 => (setN_n S y (by omega)).symm)
  | 9, _ => rfl
  | 10, _ => congrArg (fun (n : Nat) (_ : Nat) => nI n) (setN_n S y (by omega)).symm
  | 11, h => absurd rfl h
  | _ + 12, _ => rfl)
theorem u1 {t : Nat} (ht : t < 9) (y : Nat) : up (cw S x) 1 (upd (cw S x 1) t (nI y)) = cw (setN S (5 + 4 * t) y) x := up_ext (cK_upd ht (setN_s S _ y) (fun i hi hn => setN_n S y (by omega))) (fun k hk => match k, hk with
  | 0, _ => congrArg (fun (n : Nat) (_ : Nat) => nI n) (setN_n S y (by omega)).symm
  | 1, h => absurd rfl h
  | 2, _ => cK_cong (fun t9 h9 => (setN_n S y (by omega)).symm)
  | 3, _ => cK_cong (fun t9 h9 => (setN_n S y (by omega)).symm)
  | 4, _ => congrArg (fun (n : Nat) (_ : Nat) => nI n) (bitsN_cong (fun t9 h9 => (setN_n S y (by omega)).symm))
  | 5, _ => congrArg (fun (n : Nat) (_ : Nat) => nI n) (setN_n S y (by omega)).symm
  | 6, _ => cK_cong (fun t9 h9 => (setN_n S y (by omega)).symm)
  | 7, _ => cK_cong (fun t9 h9 => (setN_n S y (by omega)).symm)
  | 8, _ => cK_cong (fun t9 h9 => (setN_n S y (by omega)).symm)
  | 9, _ => rfl
  | 10, _ => congrArg (fun (n : Nat) (_ : Nat) => nI n) (setN_n S y (by omega)).symm
  | 11, _ => congrArg (fun (n : Nat) (_ : Nat) => nI n) (setN_n S y (by omega)).symm
  | _ + 12, _ => rfl)
theorem u2 {t : Nat} (ht : t < 9) (y : Nat) : up (cw S x) 2 (upd (cw S x 2) t (nI y)) = cw (setN S (6 + 4 * t) y) x := up_ext (cK_upd ht (setN_s S _ y) (fun i hi hn => setN_n S y (by omega))) (fun k hk => match k, hk with
  | 0, _ => congrArg (fun (n : Nat) (_ : Nat) => nI n) (setN_n S y (by omega)).symm
  | 1, _ => cK_cong (fun t9 h9 => (setN_n S y (by omega)).symm)
  | 2, h => absurd rfl h
  | 3, _ => cK_cong (fun t9 h9 => (setN_n S y (by omega)).symm)
  | 4, _ => congrArg (fun (n : Nat) (_ : Nat) => nI n) (bitsN_cong (fun t9 h9 => (setN_n S y (by omega)).symm))
  | 5, _ => congrArg (fun (n : Nat) (_ : Nat) => nI n) (setN_n S y (by omega)).symm
  | 6, _ => cK_cong (fun t9 h9 => (setN_n S y (by omega)).symm)
  | 7, _ => cK_cong (fun t9 h9 => (setN_n S y (by omega)).symm)
  | 8, _ => cK_cong (fun t9 h9 => (setN_n S y (by omega)).symm)
  | 9, _ => rfl
  | 10, _ => congrArg (fun (n : Nat) (_ : Nat) => nI n) (setN_n S y (by omega)).symm
  | 11, _ => congrArg (fun (n : Nat) (_ : Nat) => nI n) (setN_n S y (by omega)).symm
  | _ + 12, _ => rfl)
theorem u3 {t : Nat} (ht : t < 9) (y : Nat) : up (cw S x) 3 (upd (cw S x 3) t (nI y)) = cw (setN S (7 + 4 * t) y) x := up_ext (cK_upd ht (setN_s S _ y) (fun i hi hn => setN_n S y (by omega))) (fun k hk => match k, hk with
  | 0, _ => congrArg (fun (n : Nat) (_ : Nat) => nI n) (setN_n S y (by omega)).symm
  | 1, _ => cK_cong (fun t9 h9 => (setN_n S y (by omega)).symm)
  | 2, _ => cK_cong (fun t9 h9 => (setN_n S y (by omega)).symm)
  | 3, h => absurd rfl h
  | 4, _ => congrArg (fun (n : Nat) (_ : Nat) => nI n) (bitsN_cong (fun t9 h9 => (setN_n S y (by omega)).symm))
  | 5, _ => congrArg (fun (n : Nat) (_ : Nat) => nI n) (setN_n S y (by omega)).symm
  | 6, _ => cK_cong (fun t9 h9 => (setN_n S y (by omega)).symm)
  | 7, _ => cK_cong (fun t9 h9 => (setN_n S y (by omega)).symm)
  | 8, _ => cK_cong (fun t9 h9 => (setN_n S y (by omega)).symm)
  | 9, _ => rfl
  | 10, _ => congrArg (fun (n : Nat) (_ : Nat) => nI n) (setN_n S y (by omega)).symm
  | 11, _ => congrArg (fun (n : Nat) (_ : Nat) => nI n) (setN_n S y (by omega)).symm
  | _ + 12, _ => rfl)
theorem u6 {t : Nat} (ht : t < 5) (y : Nat) : up (cw S x) 6 (upd (cw S x 6) t (nI y)) = cw (setN S (41 + 8 * t) y) x := up_ext (cK_upd ht (setN_s S _ y) (fun i hi hn => setN_n S y (by omega))) (fun k hk => match k, hk with
  | 0, _ => congrArg (fun (n : Nat) (_ : Nat) => nI n) (setN_n S y (by omega)).symm
  | 1, _ => cK_cong (fun t9 h9 => (setN_n S y (by omega)).symm)
  | 2, _ => cK_cong (fun t9 h9 => (setN_n S y (by omega)).symm)
  | 3, _ => cK_cong (fun t9 h9 => (setN_n S y (by omega)).symm)
  | 4, _ => congrArg (fun (n : Nat) (_ : Nat) => nI n) (bitsN_cong (fun t9 h9 => (setN_n S y (by omega)).symm))
  | 5, _ => congrArg (fun (n : Nat) (_ : Nat) => nI n) (setN_n S y (by omega)).symm
  | 6, h => absurd rfl h
  | 7, _ => cK_cong (fun t9 h9 => (setN_n S y (by omega)).symm)
  | 8, _ => cK_cong (fun t9 h9 => (setN_n S y (by omega)).symm)
  | 9, _ => rfl
  | 10, _ => congrArg (fun (n : Nat) (_ : Nat) => nI n) (setN_n S y (by omega)).symm
  | 11, _ => congrArg (fun (n : Nat) (_ : Nat) => nI n) (setN_n S y (by omega)).symm
  | _ + 12, _ => rfl)
theorem u7 {t : Nat} (ht : t < 5) (y : Nat) : up (cw S x) 7 (upd (cw S x 7) t (nI y)) = cw (setN S (42 + 8 * t) y) x := up_ext (cK_upd ht (setN_s S _ y) (fun i hi hn => setN_n S y (by omega))) (fun k hk => match k, hk with
  | 0, _ => congrArg (fun (n : Nat) (_ : Nat) => nI n) (setN_n S y (by omega)).symm
  | 1, _ => cK_cong (fun t9 h9 => (setN_n S y (by omega)).symm)
  | 2, _ => cK_cong (fun t9 h9 => (setN_n S y (by omega)).symm)
  | 3, _ => cK_cong (fun t9 h9 => (setN_n S y (by omega)).symm)
  | 4, _ => congrArg (fun (n : Nat) (_ : Nat) => nI n) (bitsN_cong (fun t9 h9 => (setN_n S y (by omega)).symm))
  | 5, _ => congrArg (fun (n : Nat) (_ : Nat) => nI n) (setN_n S y (by omega)).symm
  | 6, _ => cK_cong (fun t9 h9 => (setN_n S y (by omega)).symm)
  | 7, h => absurd rfl h
  | 8, _ => cK_cong (fun t9 h9 => (setN_n S y (by omega)).symm)
  | 9, _ => rfl
  | 10, _ => congrArg (fun (n : Nat) (_ : Nat) => nI n) (setN_n S y (by omega)).symm
  | 11, _ => congrArg (fun (n : Nat) (_ : Nat) => nI n) (setN_n S y (by omega)).symm
  | _ + 12, _ => rfl)
theorem u8 {p w : Nat} (hp : p < 5) (hw : w < 6) (y : Nat) : up (cw S x) 8 (upd (cw S x 8) (6 * p + w) (nI y)) = cw (setN S (43 + 8 * p + w) y) x := up_ext (cK_upd (show 6 * p + w < 30 by omega) (by rw [ix8 p w hw]; exact setN_s S _ y) (fun i hi hn => setN_n S y (by omega))) (fun k hk => match k, hk with
  | 0, _ => congrArg (fun (n : Nat) (_ : Nat) => nI n) (setN_n S y (by omega)).symm
  | 1, _ => cK_cong (fun t9 h9 => (setN_n S y (by omega)).symm)
  | 2, _ => cK_cong (fun t9 h9 => (setN_n S y (by omega)).symm)
  | 3, _ => cK_cong (fun t9 h9 => (setN_n S y (by omega)).symm)
  | 4, _ => congrArg (fun (n : Nat) (_ : Nat) => nI n) (bitsN_cong (fun t9 h9 => (setN_n S y (by omega)).symm))
  | 5, _ => congrArg (fun (n : Nat) (_ : Nat) => nI n) (setN_n S y (by omega)).symm
  | 6, _ => cK_cong (fun t9 h9 => (setN_n S y (by omega)).symm)
  | 7, _ => cK_cong (fun t9 h9 => (setN_n S y (by omega)).symm)
  | 8, h => absurd rfl h
  | 9, _ => rfl
  | 10, _ => congrArg (fun (n : Nat) (_ : Nat) => nI n) (setN_n S y (by omega)).symm
  | 11, _ => congrArg (fun (n : Nat) (_ : Nat) => nI n) (setN_n S y (by omega)).symm
  | _ + 12, _ => rfl)
theorem u9 (y : Int32) : up (cw S x) 9 (fun _ => y) = cw S y := up_ext rfl (fun k hk => match k, hk with
  | 0, _ => rfl
  | 1, _ => rfl
  | 2, _ => rfl
  | 3, _ => rfl
  | 4, _ => rfl
  | 5, _ => rfl
  | 6, _ => rfl
  | 7, _ => rfl
  | 8, _ => rfl
  | 9, h => absurd rfl h
  | 10, _ => rfl
  | 11, _ => rfl
  | _ + 12, _ => rfl)
theorem u4 {t : Nat} (ht : t < 9) (y : Nat) (e : Nat) (he : e = bitsN (fun i => if i = t then y else S (8 + 4 * i)) 9) : up (cw S x) 4 (fun _ => nI e) = cw (setN S (8 + 4 * t) y) x := up_ext (congrArg (fun (n : Nat) (_ : Nat) => nI n) (he.trans (bitsN_cong (fun i hi => by by_cases c : i = t <;> simp [setN, c] <;> omega)))) (fun k hk => match k, hk with
  | 0, _ => congrArg (fun (n : Nat) (_ : Nat) => nI n) (setN_n S y (by omega)).symm
  | 1, _ => cK_cong (fun t9 h9 => (setN_n S y (by omega)).symm)
  | 2, _ => cK_cong (fun t9 h9 => (setN_n S y (by omega)).symm)
  | 3, _ => cK_cong (fun t9 h9 => (setN_n S y (by omega)).symm)
  | 4, h => absurd rfl h
  | 5, _ => congrArg (fun (n : Nat) (_ : Nat) => nI n) (setN_n S y (by omega)).symm
  | 6, _ => cK_cong (fun t9 h9 => (setN_n S y (by omega)).symm)
  | 7, _ => cK_cong (fun t9 h9 => (setN_n S y (by omega)).symm)
  | 8, _ => cK_cong (fun t9 h9 => (setN_n S y (by omega)).symm)
  | 9, _ => rfl
  | 10, _ => congrArg (fun (n : Nat) (_ : Nat) => nI n) (setN_n S y (by omega)).symm
  | 11, _ => congrArg (fun (n : Nat) (_ : Nat) => nI n) (setN_n S y (by omega)).symm
  | _ + 12, _ => rfl)
end
theorem u4s {S : Nat → Nat} {x : Int32} (h : Ok S) {t : Nat} (ht : t < 9) : up (cw S x) 4 (fun _ => nI (sentN S) ||| ((1 : Int32) <<< (nI t &&& 31))) = cw (setN S (8 + 4 * t) 1) x := by
  rw [shl1 t (by omega), fa_or]
  exact u4 ht 1 _ (bitsN_set (fun i hi => (h.2.2.2.2.1 i hi).2.2.2) ht)
theorem bitsN_clr {f : Nat → Nat} {n t : Nat} (h : ∀ i, i < n → f i ≤ 1) (ht : t < n) (hn : n ≤ 31) : nI (bitsN f n) &&& (nI (2 ^ t) ^^^ (-1 : Int32)) = nI (bitsN (fun i => if i = t then 0 else f i) n) := by
  have h2 : ∀ i, i < n → (fun i => if i = t then 0 else f i) i ≤ 1 := fun i hi => by
    by_cases e : i = t
    · simp [e]
    · simp [e]; exact h i hi
  apply Int32.toBitVec_inj.1
  show BitVec.ofNat 32 (bitsN f n) &&& (BitVec.ofNat 32 (2 ^ t) ^^^ BitVec.allOnes 32) = BitVec.ofNat 32 (bitsN (fun i => if i = t then 0 else f i) n)
  apply BitVec.eq_of_getLsbD_eq
  intro i hi
  rw [BitVec.getLsbD_and, BitVec.getLsbD_xor, BitVec.getLsbD_ofNat, BitVec.getLsbD_ofNat, BitVec.getLsbD_ofNat, BitVec.getLsbD_allOnes, (bitsN_tb h).2 i, (bitsN_tb h2).2 i, Nat.testBit_two_pow]
  by_cases e : i = t
  · subst e; simp [hi]
  · have e2 : ¬ t = i := fun q => e q.symm
    simp [hi, e, e2]
theorem u4c {S : Nat → Nat} {x : Int32} (h : Ok S) {t : Nat} (ht : t < 9) : up (cw S x) 4 (fun _ => nI (sentN S) &&& (((1 : Int32) <<< (nI t &&& 31)) ^^^ (-1 : Int32))) = cw (setN S (8 + 4 * t) 0) x := by
  rw [shl1 t (by omega), show sentN S = bitsN (fun t => S (8 + 4 * t)) 9 from rfl, bitsN_clr (fun i hi => (h.2.2.2.2.1 i hi).2.2.2) ht (by decide)]
  exact u4 ht 0 _ rfl
/-- Ok of an update -/
theorem Ok_w {S : Nat → Nat} (h : Ok S) {p w y : Nat} (hp : p < S 1) (hw : w < 6) (hy : y ≤ 99) : Ok (setN S (43 + 8 * p + w) y) := by
  obtain ⟨h0, h1, h3, h4, hk, hz, ha, hb, hc⟩ := h
  have e : ∀ i, i ≠ 43 + 8 * p + w → setN S (43 + 8 * p + w) y i = S i := fun i hi => setN_n S y hi
  refine ⟨by rw [e _ (by omega)]; exact h0, by rw [e _ (by omega)]; exact h1, by rw [e _ (by omega)]; exact h3, by rw [e _ (by omega)]; exact h4, fun t ht => ?_, fun t h1 ht => ?_, fun q hq => ?_, fun q h2 hq => ?_, fun i hi => ?_⟩
  · rw [e _ (by omega), e _ (by omega), e _ (by omega), e _ (by omega)]; exact hk t ht
  · rw [e _ (by omega)] at h1
    rw [e _ (by omega), e _ (by omega), e _ (by omega), e _ (by omega)]; exact hz t h1 ht
  · rw [e _ (by omega), e _ (by omega)]
    refine ⟨(ha q hq).1, (ha q hq).2.1, fun v hv => ?_⟩
    by_cases c : 43 + 8 * q + v = 43 + 8 * p + w
    · rw [c, setN_s]; exact hy
    · rw [e _ c]; exact (ha q hq).2.2 v hv
  · rw [e _ (by omega)] at h2
    rw [e _ (by omega), e _ (by omega)]
    refine ⟨(hb q h2 hq).1, (hb q h2 hq).2.1, fun v hv => ?_⟩
    rw [e _ (by omega)]; exact (hb q h2 hq).2.2 v hv
  · rw [e _ (by omega)]; exact hc i hi
theorem Ok_s {S : Nat → Nat} (h : Ok S) {t y : Nat} (ht : t < S 0) (hy : y ≤ 1) : Ok (setN S (8 + 4 * t) y) := by
  obtain ⟨h0, h1, h3, h4, hk, hz, ha, hb, hc⟩ := h
  have e : ∀ i, i ≠ 8 + 4 * t → setN S (8 + 4 * t) y i = S i := fun i hi => setN_n S y hi
  refine ⟨by rw [e _ (by omega)]; exact h0, by rw [e _ (by omega)]; exact h1, by rw [e _ (by omega)]; exact h3, by rw [e _ (by omega)]; exact h4, fun i hi => ?_, fun i h1 hi => ?_, fun q hq => ?_, fun q h2 hq => ?_, fun i hi => ?_⟩
  · rw [e _ (by omega), e _ (by omega), e _ (by omega)]
    refine ⟨(hk i hi).1, (hk i hi).2.1, (hk i hi).2.2.1, ?_⟩
    by_cases c : 8 + 4 * i = 8 + 4 * t
    · rw [c, setN_s]; exact hy
    · rw [e _ c]; exact (hk i hi).2.2.2
  · rw [e _ (by omega)] at h1
    rw [e _ (by omega), e _ (by omega), e _ (by omega), e _ (by omega)]; exact hz i h1 hi
  · rw [e _ (by omega), e _ (by omega)]
    refine ⟨(ha q hq).1, (ha q hq).2.1, fun v hv => ?_⟩
    rw [e _ (by omega)]; exact (ha q hq).2.2 v hv
  · rw [e _ (by omega)] at h2
    rw [e _ (by omega), e _ (by omega)]
    refine ⟨(hb q h2 hq).1, (hb q h2 hq).2.1, fun v hv => ?_⟩
    rw [e _ (by omega)]; exact (hb q h2 hq).2.2 v hv
  · rw [e _ (by omega)]; exact hc i hi
/-- night, money, wind -/
theorem Ok_o {S : Nat → Nat} (h : Ok S) {j y : Nat} (hj : (j = 2) ∨ (j = 3 ∧ y ≤ 999) ∨ (j = 4 ∧ y ≤ 9)) : Ok (setN S j y) := by
  obtain ⟨h0, h1, h3, h4, hk, hz, ha, hb, hc⟩ := h
  have e : ∀ i, i ≠ j → setN S j y i = S i := fun i hi => setN_n S y hi
  refine ⟨by rw [e _ (by omega)]; exact h0, by rw [e _ (by omega)]; exact h1, ?_, ?_, fun i hi => ?_, fun i h1 hi => ?_, fun q hq => ?_, fun q h2 hq => ?_, fun i hi => ?_⟩
  · by_cases c : j = 3
    · rw [c, setN_s]; omega
    · rw [e _ (by omega)]; exact h3
  · by_cases c : j = 4
    · rw [c, setN_s]; omega
    · rw [e _ (by omega)]; exact h4
  · rw [e _ (by omega), e _ (by omega), e _ (by omega), e _ (by omega)]; exact hk i hi
  · rw [e _ (by omega)] at h1
    rw [e _ (by omega), e _ (by omega), e _ (by omega), e _ (by omega)]; exact hz i h1 hi
  · rw [e _ (by omega), e _ (by omega)]
    refine ⟨(ha q hq).1, (ha q hq).2.1, fun v hv => ?_⟩
    rw [e _ (by omega)]; exact (ha q hq).2.2 v hv
  · rw [e _ (by omega)] at h2
    rw [e _ (by omega), e _ (by omega)]
    refine ⟨(hb q h2 hq).1, (hb q h2 hq).2.1, fun v hv => ?_⟩
    rw [e _ (by omega)]; exact (hb q h2 hq).2.2 v hv
  · rw [e _ (by omega)]; exact hc i hi
