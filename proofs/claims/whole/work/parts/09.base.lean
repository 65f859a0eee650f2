abbrev VS : Type := Nat → Nat → Int32
def up {α : Type} (g : Nat → α) (k : Nat) (x : α) : Nat → α := fun j => bif Nat.beq j k then x else g j
theorem up_s {α : Type} (g : Nat → α) (k : Nat) (x : α) : up g k x k = x := by simp [up]
theorem up_n {α : Type} (g : Nat → α) {k j : Nat} (x : α) (h : j ≠ k) : up g k x j = g j := by
  cases hb : Nat.beq j k with
  | false => simp [up, hb]
  | true => exact absurd (Nat.eq_of_beq_eq_true hb) h
def rd {β : Type} (n : Nat) (f : Nat → Int32) (i : Int32) (K : Int32 → Option β) : Option β := if i < 0 ∨ n ≤ i.toNatClampNeg then none else K (f i.toNatClampNeg)
theorem rd_some {β : Type} {n : Nat} {f : Nat → Int32} {i : Int32} {K : Int32 → Option β} {z : β} (h : rd n f i K = some z) : ∃ y, vp_in i n ∧ y = f i.toNatClampNeg ∧ K y = some z := by
  by_cases hc : i < 0 ∨ n ≤ i.toNatClampNeg
  · rw [rd, if_pos hc] at h; cases h
  · rw [rd, if_neg hc] at h; exact ⟨_, hc, rfl, h⟩
def ck {β : Type} (n : Nat) (i : Int32) (K : Option β) : Option β := if i < 0 ∨ n ≤ i.toNatClampNeg then none else K
theorem ck_some {β : Type} {n : Nat} {i : Int32} {K : Option β} {z : β} (h : ck n i K = some z) : vp_in i n ∧ K = some z := by
  by_cases hc : i < 0 ∨ n ≤ i.toNatClampNeg
  · rw [ck, if_pos hc] at h; cases h
  · rw [ck, if_neg hc] at h; exact ⟨hc, h⟩
def bn {α β : Type} (x : α) (K : α → β) : β := K x
theorem bn_some {α β : Type} {e : α} {K : α → Option β} {z : β} (h : bn e K = some z) {x : α} (hx : x = e) : K x = some z := by rw [hx]; exact h
def dv {β : Type} (y : Int32) (K : Option β) : Option β := if y = 0 then none else K
theorem dv_some {β : Type} {y : Int32} {K : Option β} {z : β} (h : dv y K = some z) : ¬ y = 0 ∧ K = some z := by
  by_cases hc : y = 0
  · rw [dv, if_pos hc] at h; cases h
  · rw [dv, if_neg hc] at h; exact ⟨hc, h⟩
def dvl {β : Type} (y : Int64) (K : Option β) : Option β := if y = 0 then none else K
theorem dvl_some {β : Type} {y : Int64} {K : Option β} {z : β} (h : dvl y K = some z) : ¬ y = 0 ∧ K = some z := by
  by_cases hc : y = 0
  · rw [dvl, if_pos hc] at h; cases h
  · rw [dvl, if_neg hc] at h; exact ⟨hc, h⟩
def bz {β : Type} (x : Int32) (K : Option β) : Option β := if x = 0 ∨ x = 1 then K else none
theorem bz_some {β : Type} {x : Int32} {K : Option β} {z : β} (h : bz x K = some z) : narrow .boolean (.int x) = .int x ∧ K = some z := by
  by_cases hc : x = 0 ∨ x = 1
  · rw [bz, if_pos hc] at h
    exact ⟨by rcases hc with rfl | rfl <;> decide, h⟩
  · rw [bz, if_neg hc] at h; cases h
theorem nz0 : narrow .boolean (.int 0) = .int 0 := by decide
theorem nz1 : narrow .boolean (.int 1) = .int 1 := by decide
def cl {α β : Type} (x : Option α) (K : α → Option β) : Option β := match x with
  | none => none
  | some y => K y
theorem cl_some {α β : Type} {x : Option α} {K : α → Option β} {z : β} (h : cl x K = some z) : ∃ y, x = some y ∧ K y = some z := by
  cases x with
  | none => cases h
  | some y => exact ⟨y, rfl, h⟩
def lp {σ β : Type} (F : (σ → Option β) → σ → Option β) : Nat → σ → Option β
  | 0, _ => none
  | n + 1, x => F (lp F n) x
theorem lp_ok {σ β : Type} {F : (σ → Option β) → σ → Option β} {z : β} (G : σ → Prop) (hs : ∀ k : σ → Option β, (∀ x, k x = some z → G x) → ∀ x, F k x = some z → G x) : ∀ (n : Nat) (x : σ), lp F n x = some z → G x
  | 0, _, h => by cases h
  | n + 1, x, h => hs (lp F n) (lp_ok G hs n) x h
theorem some_e {α : Type} {x y : α} (h : some x = some y) : y = x := by cases h; rfl
theorem sw_out {x : Int32} {lo hi : Int} (h : ∀ k : Int, lo ≤ k → k ≤ hi → x.toInt ≠ k) : x.toInt < lo ∨ hi < x.toInt := by
  by_cases h1 : x.toInt < lo
  · exact Or.inl h1
  · by_cases h2 : hi < x.toInt
    · exact Or.inr h2
    · exact absurd rfl (h x.toInt (by omega) (by omega))
theorem sw_ne {x k : Int32} {j : Int} (h : ¬ x = k) (hj : k.toInt = j) : x.toInt ≠ j := fun e => h (Int32.toInt_inj.mp (e.trans hj.symm))
def wA (cA : ClassId) (n : Nat) (a0 : Nat) (f0 : Nat → Int32) : va_W := [(a0, .inl (cA, n, .inl f0))]
def wAA (cA : ClassId) (a0 a1 : Nat) (f0 f1 : Nat → Int32) : va_W := [(a0, .inl (cA, 81, .inl f0)), (a1, .inl (cA, 81, .inl f1))]
def wV (cA : ClassId) (ad : Nat → Nat) (v : VS) : va_W :=
  [(ad 0, .inr (0, [.int (v 0 0), .ref (ad 1), .ref (ad 2), .ref (ad 3), .int (v 4 0), .int (v 5 0), .ref (ad 4), .ref (ad 5), .ref (ad 6), .int (v 9 0), .int (v 10 0), .int (v 11 0)])),
   (ad 1, .inl (cA, 9, .inl (v 1))), (ad 2, .inl (cA, 9, .inl (v 2))), (ad 3, .inl (cA, 9, .inl (v 3))), (ad 4, .inl (cA, 5, .inl (v 6))), (ad 5, .inl (cA, 5, .inl (v 7))), (ad 6, .inl (cA, 30, .inl (v 8)))]
def wR (cA : ClassId) (ad : Nat → Nat) (X : Nat → VS) : va_W :=
  [(ad 0, .inr (1, [.ref (ad 1), .ref (ad 8), .ref (ad 15), .int (X 3 3 0), .ref (ad 22), .int (X 3 5 0), .ref (ad 23), .int (X 3 7 0), .ref (ad 24), .ref (ad 25), .ref (ad 26), .ref (ad 27)])),
   (ad 1, .inr (0, [.int (X 0 0 0), .ref (ad 2), .ref (ad 3), .ref (ad 4), .int (X 0 4 0), .int (X 0 5 0), .ref (ad 5), .ref (ad 6), .ref (ad 7), .int (X 0 9 0), .int (X 0 10 0), .int (X 0 11 0)])),
   (ad 2, .inl (cA, 9, .inl (X 0 1))), (ad 3, .inl (cA, 9, .inl (X 0 2))), (ad 4, .inl (cA, 9, .inl (X 0 3))), (ad 5, .inl (cA, 5, .inl (X 0 6))), (ad 6, .inl (cA, 5, .inl (X 0 7))), (ad 7, .inl (cA, 30, .inl (X 0 8))),
   (ad 8, .inr (0, [.int (X 1 0 0), .ref (ad 9), .ref (ad 10), .ref (ad 11), .int (X 1 4 0), .int (X 1 5 0), .ref (ad 12), .ref (ad 13), .ref (ad 14), .int (X 1 9 0), .int (X 1 10 0), .int (X 1 11 0)])),
   (ad 9, .inl (cA, 9, .inl (X 1 1))), (ad 10, .inl (cA, 9, .inl (X 1 2))), (ad 11, .inl (cA, 9, .inl (X 1 3))), (ad 12, .inl (cA, 5, .inl (X 1 6))), (ad 13, .inl (cA, 5, .inl (X 1 7))), (ad 14, .inl (cA, 30, .inl (X 1 8))),
   (ad 15, .inr (0, [.int (X 2 0 0), .ref (ad 16), .ref (ad 17), .ref (ad 18), .int (X 2 4 0), .int (X 2 5 0), .ref (ad 19), .ref (ad 20), .ref (ad 21), .int (X 2 9 0), .int (X 2 10 0), .int (X 2 11 0)])),
   (ad 16, .inl (cA, 9, .inl (X 2 1))), (ad 17, .inl (cA, 9, .inl (X 2 2))), (ad 18, .inl (cA, 9, .inl (X 2 3))), (ad 19, .inl (cA, 5, .inl (X 2 6))), (ad 20, .inl (cA, 5, .inl (X 2 7))), (ad 21, .inl (cA, 30, .inl (X 2 8))),
   (ad 22, .inl (cA, 96, .inl (X 3 4))), (ad 23, .inl (cA, 16, .inl (X 3 6))), (ad 24, .inl (cA, 7, .inl (X 3 8))), (ad 25, .inl (cA, 9, .inl (X 3 9))), (ad 26, .inl (cA, 4, .inl (X 3 10))), (ad 27, .inl (cA, 4, .inl (X 3 11)))]
def wM (cA : ClassId) (ad : Nat → Nat) (Y : VS) : va_W :=
  [(ad 0, .inr (2, [.ref (ad 1), .ref (ad 2), .ref (ad 3), .ref (ad 4), .int (Y 4 0), .ref (ad 5), .ref (ad 6), .ref (ad 7), .int (Y 8 0), .int (Y 9 0), .int (Y 10 0), .ref (ad 8), .int (Y 12 0)])),
   (ad 1, .inl (cA, 81, .inl (Y 0))), (ad 2, .inl (cA, 81, .inl (Y 1))), (ad 3, .inl (cA, 81, .inl (Y 2))), (ad 4, .inl (cA, 81, .inl (Y 3))), (ad 5, .inl (cA, 96, .inl (Y 5))), (ad 6, .inl (cA, 16, .inl (Y 6))), (ad 7, .inl (cA, 7, .inl (Y 7))), (ad 8, .inl (cA, 3, .inl (Y 11)))]
def cofs : Nat → Int32 := fun k => ([5, 1, 10, 11, 3, 21] : List Int32).getD k 0
def kby : List Int32 := [114, 115, 103, 100, 113, 108]
/-- what is static: the row of costs, the text of the kinds' letters -/
def sF (g : Nat → Nat) (A : Nat → Prop) (U : State) : Prop :=
  va_Z RX1 "COSTS" "[I" (.ref (g 0)) A U U.heap ∧ va_T .int (g 0) 6 (fun j => .int (cofs j)) A U U.heap ∧ va_Z RJ0 "COMPACT_STRINGS" "Z" (.int 1) A U U.heap ∧ vk_R RX1 259 "rsgdql" (g 1) U ∧ vk_S 1 [6] [kby] (fun _ => g 1) (fun _ => g 2) A U U.heap ∧ va_Nw (Cond.fieldLinkNest RX0 55 "RocketsAsk" "COSTS" "[I" "RocketsAsk") U
theorem sF.moved {g : Nat → Nat} {A : Nat → Prop} {u U : State} (hvm : U.vm = u.vm) (hh : U.heap = u.heap) (h : sF g A u) : sF g A U := by
  obtain ⟨h1, h2, h5, h6, h7, h8⟩ := h
  have ha : u.vm.Alike U.vm := by rw [hvm]; exact Vm.Alike.refl u.vm
  unfold sF
  rw [hh]
  exact ⟨h1.moved ha, h2.moved ha, h5.moved ha, vk_R.same hvm h6, h7.moved ha, va_Nw.same rfl hvm.symm h8⟩
theorem sF.go {g : Nat → Nat} {A B : Nat → Prop} {s U : State} {H : Heap} {locs : List Loc} (h : sF g A s) (hS : va_S A s.heap H locs) (hB : ∀ q, B q → A q) (hU : U.heap = H) (hW : s.WarmedH U.vm) : sF g B U := by
  obtain ⟨h1, h2, h5, h6, h7, h8⟩ := h
  unfold sF
  rw [hU]
  exact ⟨((h1.kept hS.2.1).moved hW.alike).narrow hB, ((h2.kept hS.2.1).moved hW.alike).narrow hB, ((h5.kept hS.2.1).moved hW.alike).narrow hB, vk_R.warm hW h6, ((h7.kept hS.2.1).moved hW.alike).narrow hB, va_Nw.warmF hW h8⟩
def pcW (D : va_G) (cA : ClassId) (g : Nat → Nat) (wc : va_W) (sz : Nat) (U : State) : Prop := U.heap.size = sz ∧ va_P D vwCl wc U.heap ∧ va_K D vwCl [(cA, .int)] U ∧ va_D (fun _ => True) wc ∧ sF g (va_A wc sz) U
def atW (D : va_G) (cA : ClassId) (A : Nat → Prop) (w1 : va_W) (_ : Unit) (t : State) : Prop := va_P D vwCl w1 t.heap ∧ va_K D vwCl [(cA, .int)] t ∧ va_D A w1
def QI (D : va_G) (cA : ClassId) (A : Nat → Prop) (r : Int32) (w1 : va_W) : Array Value → State → Outcome → State → Prop := va_Qi (fun r' (_ : Unit) => r' = r) (atW D cA A w1) A
def QL (D : va_G) (cA : ClassId) (A : Nat → Prop) (r : Int64) (w1 : va_W) : Array Value → State → Outcome → State → Prop := va_Ql (fun r' (_ : Unit) => r' = r) (atW D cA A w1) A
def QV (D : va_G) (cA : ClassId) (A : Nat → Prop) (w1 : va_W) : Array Value → State → Outcome → State → Prop := va_Qv (fun (_ : Unit) => True) (atW D cA A w1) A
def MI (l : Launch) (D : va_G) (cA : ClassId) (g : Nat → Nat) (y : MethodName) (wsy : List Cond) (rm : Room) (vs : List Value) (wc : va_W) (r : Int32) (w1 : va_W) : Prop := ∀ sz, Met l y wsy rm (va_Pc vs (pcW D cA g wc sz)) (QI D cA (va_A wc sz) r w1) 0 0 (va_A wc sz)
def ML (l : Launch) (D : va_G) (cA : ClassId) (g : Nat → Nat) (y : MethodName) (wsy : List Cond) (rm : Room) (vs : List Value) (wc : va_W) (r : Int64) (w1 : va_W) : Prop := ∀ sz, Met l y wsy rm (va_Pc vs (pcW D cA g wc sz)) (QL D cA (va_A wc sz) r w1) 0 0 (va_A wc sz)
def MV (l : Launch) (D : va_G) (cA : ClassId) (g : Nat → Nat) (y : MethodName) (wsy : List Cond) (rm : Room) (vs : List Value) (wc : va_W) (w1 : va_W) : Prop := ∀ sz, Met l y wsy rm (va_Pc vs (pcW D cA g wc sz)) (QV D cA (va_A wc sz) w1) 0 0 (va_A wc sz)
def Cx (p : Program) (s : State) (m : MethodId) (args : Array Value) (meth : Method) (c : Code) (cc : ByteArray) (nL : Nat) (own : String) (D : va_G) (cA : ClassId) (g : Nat → Nat) (A : Nat → Prop) : Prop :=
  CallFix p m c cc nL s args lw_g own ∧ meth.locks = false ∧ va_K D vwCl [(cA, .int)] s ∧ (∀ q, s.heap.size ≤ q → A q) ∧ sF g A s
def Wd (D : va_G) (A : Nat → Prop) (H0 : Heap) (ws : va_W) (H : Heap) (locs : List Loc) : Prop := va_P D vwCl ws H ∧ va_D A ws ∧ va_S A H0 H locs
theorem fm_of {α : Type} {f : Nat → Option α} : ∀ {is : List Nat} {w : List α}, is.map f = w.map some → is.filterMap f = w
  | [], [], _ => rfl
  | [], _ :: _, h => by cases h
  | _ :: _, [], h => by cases h
  | i :: is, a :: w, h => by
    have h1 : f i = some a := (List.cons.inj h).1
    have h2 : is.map f = w.map some := (List.cons.inj h).2
    rw [List.filterMap_cons, h1]
    exact congrArg _ (fm_of h2)
theorem pcW_blind {D : va_G} {cA : ClassId} {g : Nat → Nat} {wc : va_W} {sz : Nat} {vs : List Value} : FrameBlind (va_Pc vs (pcW D cA g wc sz)) := by
  intro a U gg mk q
  obtain ⟨q0, q1, qP, qK, qD, qF⟩ := q
  exact ⟨q0, q1, qP, va_K.moved (u := U) (U := U.calling gg mk a) (Vm.Alike.refl U.vm) qK, qD, sF.moved (u := U) (U := U.calling gg mk a) rfl rfl qF⟩
theorem ent {p : Program} {l : Launch} {e : Env} {s : State} {m : MethodId} {args : Array Value} {below : List Frame} {meth : Method} {c : Code} {s₁ : State} {D : va_G} {cA : ClassId} {g : Nat → Nat} {wc : va_W} {sz : Nat} {vs : List Value} {y : MethodName} {cc : ByteArray} {maxL : Nat} {ret : Option FieldType} {rm : Room} (B : BodyLoose p l y (headSpec (Cond.code y cc maxL ret :: lw_g) rm) cc maxL ret e s m args below meth c s₁) (hml : c.maxLocals = maxL) (hv : va_Pc vs (pcW D cA g wc sz) args s) :
    args = vs.toArray ∧ Cx p s m args meth c cc maxL y.cls D cA g (va_A wc sz) ∧ meth.sig.returnType = ret ∧ Wd D (va_A wc sz) s.heap wc s.heap [] := by
  obtain ⟨h0, hsz, hP, hK, hD, hF⟩ := hv
  have hts := atoms_spec (ws := Cond.code y cc maxL ret :: lw_g) B.pre
  subst hsz
  exact ⟨h0, ⟨⟨B.exec, B.bytes, hml, findClass_of_methodNamed B.named, fun w hw => hts w (List.mem_cons_of_mem _ hw)⟩, B.notSynchronized, hK, fun q h => Or.inr h, hF⟩, B.returns, hP, hD.self, va_S.rf⟩
theorem gV {own C : String} {idx n : Nat} {y : MethodName} {b : ByteArray} {r : Option FieldType} (k1 : Cond.methodLink own idx y ∈ lw_g) (k2 : Cond.instanceMethod y ∈ lw_g) (k3 : Cond.selects C y y ∈ lw_g) (k4 : Cond.initialized C ∈ lw_g) (k5 : Cond.code y b n r ∈ lw_g) : GoodIn lw_g (wsV own idx C y (Cond.code y b n r :: lw_g)) := by
  intro w hw
  rcases List.mem_append.mp hw with h | h
  · simp only [List.mem_cons, List.not_mem_nil, or_false] at h
    rcases h with rfl | rfl | rfl | rfl
    · exact gl_tbl _ k1
    · exact gl_tbl _ k2
    · exact gl_tbl _ k3
    · exact gl_tbl _ k4
  · rcases List.mem_cons.mp h with rfl | h
    · exact gl_tbl _ k5
    · exact gl_tbl _ h
theorem gS {own : String} {idx n : Nat} {y : MethodName} {b : ByteArray} {r : Option FieldType} (k1 : Cond.methodLink own idx y ∈ lw_g) (k2 : Cond.static y ∈ lw_g) (k4 : Cond.initialized y.cls ∈ lw_g) (k5 : Cond.code y b n r ∈ lw_g) : GoodIn lw_g (va_wsS own idx y (Cond.code y b n r :: lw_g)) := by
  intro w hw
  rcases List.mem_append.mp hw with h | h
  · simp only [List.mem_cons, List.not_mem_nil, or_false] at h
    rcases h with rfl | rfl | rfl
    · exact gl_tbl _ k1
    · exact gl_tbl _ k2
    · exact gl_tbl _ k4
  · rcases List.mem_cons.mp h with rfl | h
    · exact gl_tbl _ k5
    · exact gl_tbl _ h
/-- how a callee's cells lie in the caller's: wc before and w1 behind the call, ws and ws2 the caller's -/
def Jn (wc w1 ws ws2 : va_W) : Prop := ∀ (D : va_G) (A : Nat → Prop) (H H1 : Heap), va_P D vwCl ws H → va_D A ws → (va_P D vwCl wc H ∧ va_D A wc) ∧ ((∀ q, va_A wc H.size q → A q) → (∀ q : Nat, q < H.size → ¬ va_A wc H.size q → H1[q]? = H[q]?) → va_P D vwCl w1 H1 → va_D (va_A wc H.size) w1 → va_P D vwCl ws2 H1 ∧ va_D A ws2)
theorem jnW {ws ws2 : va_W} : Jn ws ws2 ws ws2 := fun D A H H1 hP hD => ⟨⟨hP, hD⟩, fun hF hk hP1 hD1 => ⟨hP1, hD1.weaken (fun _ q _ h => hF q.1 h)⟩⟩
theorem jnE {ws : va_W} : Jn [] [] ws ws := fun D A H H1 hP hD => ⟨⟨fun k q h => by simp at h, ⟨fun i j p q h => by simp at h, fun k q h => by simp at h⟩⟩, fun hF hk hP1 hD1 => ⟨hP.kept (fun k q hq => hk q.1 (hP k q hq).lt (fun h => by
  rcases h with ⟨k, e, h⟩ | h
  · simp at h
  · exact absurd (hP _ q hq).lt (Nat.not_lt.mpr h))), hD⟩⟩
theorem jnC {ws wc w1 ws2 : va_W} (isC isR pm : List Nat) (hC : isC.map (fun i => ws[i]?) = wc.map some) (hR : isR.map (fun i => ws[i]?) = (isR.filterMap (fun i => ws[i]?)).map some) (hnC : va_nd isC = true) (hnR : va_nd isR = true) (hdis : ∀ i ∈ isR, i ∉ isC) (hpm : pm.map (fun i => ((isR.filterMap (fun i => ws[i]?)) ++ w1)[i]?) = ws2.map some) (hnp : va_nd pm = true) : Jn wc w1 ws ws2 := by
  intro D A H H1 hP hD
  refine ⟨⟨hP.sub isC (fm_of hC), hD.sub isC hnC hC⟩, fun hF hk hP1 hD1 => ?_⟩
  obtain ⟨hP2, hD2⟩ := va_join (wr := isR.filterMap (fun i => ws[i]?)) (w1 := w1) hP hD isC isR hC hR hnR hdis hk hF hP1 hD1
  exact ⟨hP2.sub pm (fm_of hpm), hD2.sub pm hnp hpm⟩
set_option maxHeartbeats 1000000 in
theorem cVi {p : Program} {l : Launch} {e : Env} {R : Room} {s : State} {m : MethodId} {args : Array Value} {below : List Frame} {meth : Method} {c : Code} {D : va_G} {cA : ClassId} {g : Nat → Nat} {A : Nat → Prop} {cc : ByteArray} {nL : Nat} {own : String} {H : Heap} {locs : List Loc} {cells slots : Nat} {Q : State → Prop} {pc index maxL n : Nat} {ls : Array Slot} {y : MethodName} {yb : ByteArray} {ret : Option FieldType} {rm : Room} {As rest : List Value} {ws wc w1 ws2 : va_W} {r : Int32} 
    {b ci q0 : Nat} {C : String} {q : vw_C} {fs : List Value} (C0 : Cx p s m args meth c cc nL own D cA g A) (hw : Wd D A s.heap ws H locs) (J : Jn wc w1 ws ws2) (hM : MI l D cA g y (Cond.code y yb maxL ret :: lw_g) rm (.ref b :: As) wc r w1)
    (k1 : Cond.methodLink own index y ∈ lw_g) (k2 : Cond.instanceMethod y ∈ lw_g) (k3 : Cond.selects C y y ∈ lw_g) (k4 : Cond.initialized C ∈ lw_g) (k5 : Cond.code y yb maxL ret ∈ lw_g) (hz : rm.cells = 0 ∧ rm.slots = 0) (hd : y.cls = C ∧ y.cls ≠ "java/lang/invoke/MethodHandle" ∧ y.cls ≠ "java/lang/invoke/VarHandle" ∧ (parseMethodDescriptor y.desc).map (fun d => d.parameters.length) = some n) (hRm : rm.frames + 1 ≤ R.frames ∧ 8 + (maxL + 11) + rm.locals ≤ R.locals) (hc : vwCl[ci]? = some q) (hq : q.1 = C) (he : wc[q0]? = some (b, .inr (ci, fs))) (hn : As.length = n) (hsz : ls.size = nL) (hrm : (rest.map fun v => v.category).sum ≤ 8) (hdg : decode cc pc = .ok (.invokevirtual index, 3)) (hcs : cells ≤ R.cells ∧ slots ≤ R.slots)
    (kk : ∀ (H1 : Heap) (locs1 : List Loc), Wd D A s.heap ws2 H1 locs1 → W p l e R s m args below meth c H1 locs1 cells slots Q (F0 m (pc + 3) ls (.int r :: rest))) : W p l e R s m args below meth c H locs cells slots Q (F0 m pc ls (As.reverse ++ .ref b :: rest)) := by
  obtain ⟨hfix, hlocks, hK, hA, hF⟩ := C0
  obtain ⟨hP, hD, hS⟩ := hw
  have hts := hfix.2.2.2.2
  obtain ⟨hPc, hDc⟩ := (J D A H H hP hD).1
  have hFc : ∀ q, va_A wc H.size q → A q := fun q h => by
    rcases h with ⟨k, e, h⟩ | h
    · exact hDc.2 k (q, e) h
    · exact hA q (Nat.le_trans hS.1 h)
  have hrec : ∃ cell : Cell, H[b]? = some cell ∧ cell.vm.isStatics = false ∧ s.vm.findClass C = some cell.cls := by
    rw [← hq]
    exact va_recv hK hPc hc he
  refine va_calli (va_runV (n := n) (As := As) (rest := rest) (g := F0 m pc ls (As.reverse ++ .ref b :: rest)) hfix (hM H.size) (cwV n hts (gV k1 k2 k3 k4 k5) rfl hz.1 hz.2 hd hRm) ⟨pcW_blind, hrec, fun U hU hW => ⟨rfl, by rw [hU], by rw [hU]; exact hPc, va_K.moved hW.alike hK, hDc.weaken (fun _ _ _ _ => trivial), hF.go hS hFc hU hW⟩⟩ rfl hn hsz rfl (lv_room hrm) hdg hcs) hS (fun q _ h => hFc q h) hFc (fun r' u t H1 locs1 ht hvm hp hB hz1 hk1 hS1 => ?_)
  obtain ⟨hP1, hK1, hD1⟩ := hB
  rw [ht] at hP1
  subst hp
  obtain ⟨hP2, hD2⟩ := (J D A H H1 hP hD).2 hFc hk1 hP1 hD1
  exact kk H1 locs1 ⟨hP2, hD2, hS1⟩
set_option maxHeartbeats 1000000 in
theorem cSi {p : Program} {l : Launch} {e : Env} {R : Room} {s : State} {m : MethodId} {args : Array Value} {below : List Frame} {meth : Method} {c : Code} {D : va_G} {cA : ClassId} {g : Nat → Nat} {A : Nat → Prop} {cc : ByteArray} {nL : Nat} {own : String} {H : Heap} {locs : List Loc} {cells slots : Nat} {Q : State → Prop} {pc index maxL n : Nat} {ls : Array Slot} {y : MethodName} {yb : ByteArray} {ret : Option FieldType} {rm : Room} {As rest : List Value} {ws wc w1 ws2 : va_W} {r : Int32} 
    (C0 : Cx p s m args meth c cc nL own D cA g A) (hw : Wd D A s.heap ws H locs) (J : Jn wc w1 ws ws2) (hM : MI l D cA g y (Cond.code y yb maxL ret :: lw_g) rm As wc r w1)
    (k1 : Cond.methodLink own index y ∈ lw_g) (k2 : Cond.static y ∈ lw_g) (k4 : Cond.initialized y.cls ∈ lw_g) (k5 : Cond.code y yb maxL ret ∈ lw_g) (hz : rm.cells = 0 ∧ rm.slots = 0) (hd : y.cls ≠ "java/lang/invoke/MethodHandle" ∧ y.cls ≠ "java/lang/invoke/VarHandle" ∧ (parseMethodDescriptor y.desc).map (fun d => d.parameters.length) = some n) (hRm : rm.frames + 1 ≤ R.frames ∧ 8 + (maxL + 11) + rm.locals ≤ R.locals) (hn : As.length = n) (hsz : ls.size = nL) (hrm : (rest.map fun v => v.category).sum ≤ 8) (hdg : decode cc pc = .ok (.invokestatic index, 3)) (hcs : cells ≤ R.cells ∧ slots ≤ R.slots)
    (kk : ∀ (H1 : Heap) (locs1 : List Loc), Wd D A s.heap ws2 H1 locs1 → W p l e R s m args below meth c H1 locs1 cells slots Q (F0 m (pc + 3) ls (.int r :: rest))) : W p l e R s m args below meth c H locs cells slots Q (F0 m pc ls (As.reverse ++ rest)) := by
  obtain ⟨hfix, hlocks, hK, hA, hF⟩ := C0
  obtain ⟨hP, hD, hS⟩ := hw
  have hts := hfix.2.2.2.2
  obtain ⟨hPc, hDc⟩ := (J D A H H hP hD).1
  have hFc : ∀ q, va_A wc H.size q → A q := fun q h => by
    rcases h with ⟨k, e, h⟩ | h
    · exact hDc.2 k (q, e) h
    · exact hA q (Nat.le_trans hS.1 h)
  refine va_calli (va_runS (n := n) (As := As) (rest := rest) (g := F0 m pc ls (As.reverse ++ rest)) hfix (hM H.size) (va_cwS n hts (gS k1 k2 k4 k5) rfl hz.1 hz.2 hd hRm) ⟨pcW_blind, fun U hU hW => ⟨rfl, by rw [hU], by rw [hU]; exact hPc, va_K.moved hW.alike hK, hDc.weaken (fun _ _ _ _ => trivial), hF.go hS hFc hU hW⟩⟩ rfl hn hsz rfl (lv_room hrm) hdg hcs) hS (fun q _ h => hFc q h) hFc (fun r' u t H1 locs1 ht hvm hp hB hz1 hk1 hS1 => ?_)
  obtain ⟨hP1, hK1, hD1⟩ := hB
  rw [ht] at hP1
  subst hp
  obtain ⟨hP2, hD2⟩ := (J D A H H1 hP hD).2 hFc hk1 hP1 hD1
  exact kk H1 locs1 ⟨hP2, hD2, hS1⟩
set_option maxHeartbeats 1000000 in
theorem cVl {p : Program} {l : Launch} {e : Env} {R : Room} {s : State} {m : MethodId} {args : Array Value} {below : List Frame} {meth : Method} {c : Code} {D : va_G} {cA : ClassId} {g : Nat → Nat} {A : Nat → Prop} {cc : ByteArray} {nL : Nat} {own : String} {H : Heap} {locs : List Loc} {cells slots : Nat} {Q : State → Prop} {pc index maxL n : Nat} {ls : Array Slot} {y : MethodName} {yb : ByteArray} {ret : Option FieldType} {rm : Room} {As rest : List Value} {ws wc w1 ws2 : va_W} {r : Int64} 
    {b ci q0 : Nat} {C : String} {q : vw_C} {fs : List Value} (C0 : Cx p s m args meth c cc nL own D cA g A) (hw : Wd D A s.heap ws H locs) (J : Jn wc w1 ws ws2) (hM : ML l D cA g y (Cond.code y yb maxL ret :: lw_g) rm (.ref b :: As) wc r w1)
    (k1 : Cond.methodLink own index y ∈ lw_g) (k2 : Cond.instanceMethod y ∈ lw_g) (k3 : Cond.selects C y y ∈ lw_g) (k4 : Cond.initialized C ∈ lw_g) (k5 : Cond.code y yb maxL ret ∈ lw_g) (hz : rm.cells = 0 ∧ rm.slots = 0) (hd : y.cls = C ∧ y.cls ≠ "java/lang/invoke/MethodHandle" ∧ y.cls ≠ "java/lang/invoke/VarHandle" ∧ (parseMethodDescriptor y.desc).map (fun d => d.parameters.length) = some n) (hRm : rm.frames + 1 ≤ R.frames ∧ 8 + (maxL + 11) + rm.locals ≤ R.locals) (hc : vwCl[ci]? = some q) (hq : q.1 = C) (he : wc[q0]? = some (b, .inr (ci, fs))) (hn : As.length = n) (hsz : ls.size = nL) (hrm : (rest.map fun v => v.category).sum ≤ 8) (hdg : decode cc pc = .ok (.invokevirtual index, 3)) (hcs : cells ≤ R.cells ∧ slots ≤ R.slots)
    (kk : ∀ (H1 : Heap) (locs1 : List Loc), Wd D A s.heap ws2 H1 locs1 → W p l e R s m args below meth c H1 locs1 cells slots Q (F0 m (pc + 3) ls (.long r :: rest))) : W p l e R s m args below meth c H locs cells slots Q (F0 m pc ls (As.reverse ++ .ref b :: rest)) := by
  obtain ⟨hfix, hlocks, hK, hA, hF⟩ := C0
  obtain ⟨hP, hD, hS⟩ := hw
  have hts := hfix.2.2.2.2
  obtain ⟨hPc, hDc⟩ := (J D A H H hP hD).1
  have hFc : ∀ q, va_A wc H.size q → A q := fun q h => by
    rcases h with ⟨k, e, h⟩ | h
    · exact hDc.2 k (q, e) h
    · exact hA q (Nat.le_trans hS.1 h)
  have hrec : ∃ cell : Cell, H[b]? = some cell ∧ cell.vm.isStatics = false ∧ s.vm.findClass C = some cell.cls := by
    rw [← hq]
    exact va_recv hK hPc hc he
  refine va_calll (va_runV (n := n) (As := As) (rest := rest) (g := F0 m pc ls (As.reverse ++ .ref b :: rest)) hfix (hM H.size) (cwV n hts (gV k1 k2 k3 k4 k5) rfl hz.1 hz.2 hd hRm) ⟨pcW_blind, hrec, fun U hU hW => ⟨rfl, by rw [hU], by rw [hU]; exact hPc, va_K.moved hW.alike hK, hDc.weaken (fun _ _ _ _ => trivial), hF.go hS hFc hU hW⟩⟩ rfl hn hsz rfl (lv_room hrm) hdg hcs) hS (fun q _ h => hFc q h) hFc (fun r' u t H1 locs1 ht hvm hp hB hz1 hk1 hS1 => ?_)
  obtain ⟨hP1, hK1, hD1⟩ := hB
  rw [ht] at hP1
  subst hp
  obtain ⟨hP2, hD2⟩ := (J D A H H1 hP hD).2 hFc hk1 hP1 hD1
  exact kk H1 locs1 ⟨hP2, hD2, hS1⟩
set_option maxHeartbeats 1000000 in
theorem cSl {p : Program} {l : Launch} {e : Env} {R : Room} {s : State} {m : MethodId} {args : Array Value} {below : List Frame} {meth : Method} {c : Code} {D : va_G} {cA : ClassId} {g : Nat → Nat} {A : Nat → Prop} {cc : ByteArray} {nL : Nat} {own : String} {H : Heap} {locs : List Loc} {cells slots : Nat} {Q : State → Prop} {pc index maxL n : Nat} {ls : Array Slot} {y : MethodName} {yb : ByteArray} {ret : Option FieldType} {rm : Room} {As rest : List Value} {ws wc w1 ws2 : va_W} {r : Int64} 
    (C0 : Cx p s m args meth c cc nL own D cA g A) (hw : Wd D A s.heap ws H locs) (J : Jn wc w1 ws ws2) (hM : ML l D cA g y (Cond.code y yb maxL ret :: lw_g) rm As wc r w1)
    (k1 : Cond.methodLink own index y ∈ lw_g) (k2 : Cond.static y ∈ lw_g) (k4 : Cond.initialized y.cls ∈ lw_g) (k5 : Cond.code y yb maxL ret ∈ lw_g) (hz : rm.cells = 0 ∧ rm.slots = 0) (hd : y.cls ≠ "java/lang/invoke/MethodHandle" ∧ y.cls ≠ "java/lang/invoke/VarHandle" ∧ (parseMethodDescriptor y.desc).map (fun d => d.parameters.length) = some n) (hRm : rm.frames + 1 ≤ R.frames ∧ 8 + (maxL + 11) + rm.locals ≤ R.locals) (hn : As.length = n) (hsz : ls.size = nL) (hrm : (rest.map fun v => v.category).sum ≤ 8) (hdg : decode cc pc = .ok (.invokestatic index, 3)) (hcs : cells ≤ R.cells ∧ slots ≤ R.slots)
    (kk : ∀ (H1 : Heap) (locs1 : List Loc), Wd D A s.heap ws2 H1 locs1 → W p l e R s m args below meth c H1 locs1 cells slots Q (F0 m (pc + 3) ls (.long r :: rest))) : W p l e R s m args below meth c H locs cells slots Q (F0 m pc ls (As.reverse ++ rest)) := by
  obtain ⟨hfix, hlocks, hK, hA, hF⟩ := C0
  obtain ⟨hP, hD, hS⟩ := hw
  have hts := hfix.2.2.2.2
  obtain ⟨hPc, hDc⟩ := (J D A H H hP hD).1
  have hFc : ∀ q, va_A wc H.size q → A q := fun q h => by
    rcases h with ⟨k, e, h⟩ | h
    · exact hDc.2 k (q, e) h
    · exact hA q (Nat.le_trans hS.1 h)
  refine va_calll (va_runS (n := n) (As := As) (rest := rest) (g := F0 m pc ls (As.reverse ++ rest)) hfix (hM H.size) (va_cwS n hts (gS k1 k2 k4 k5) rfl hz.1 hz.2 hd hRm) ⟨pcW_blind, fun U hU hW => ⟨rfl, by rw [hU], by rw [hU]; exact hPc, va_K.moved hW.alike hK, hDc.weaken (fun _ _ _ _ => trivial), hF.go hS hFc hU hW⟩⟩ rfl hn hsz rfl (lv_room hrm) hdg hcs) hS (fun q _ h => hFc q h) hFc (fun r' u t H1 locs1 ht hvm hp hB hz1 hk1 hS1 => ?_)
  obtain ⟨hP1, hK1, hD1⟩ := hB
  rw [ht] at hP1
  subst hp
  obtain ⟨hP2, hD2⟩ := (J D A H H1 hP hD).2 hFc hk1 hP1 hD1
  exact kk H1 locs1 ⟨hP2, hD2, hS1⟩
set_option maxHeartbeats 1000000 in
theorem cVv {p : Program} {l : Launch} {e : Env} {R : Room} {s : State} {m : MethodId} {args : Array Value} {below : List Frame} {meth : Method} {c : Code} {D : va_G} {cA : ClassId} {g : Nat → Nat} {A : Nat → Prop} {cc : ByteArray} {nL : Nat} {own : String} {H : Heap} {locs : List Loc} {cells slots : Nat} {Q : State → Prop} {pc index maxL n : Nat} {ls : Array Slot} {y : MethodName} {yb : ByteArray} {ret : Option FieldType} {rm : Room} {As rest : List Value} {ws wc w1 ws2 : va_W} 
    {b ci q0 : Nat} {C : String} {q : vw_C} {fs : List Value} (C0 : Cx p s m args meth c cc nL own D cA g A) (hw : Wd D A s.heap ws H locs) (J : Jn wc w1 ws ws2) (hM : MV l D cA g y (Cond.code y yb maxL ret :: lw_g) rm (.ref b :: As) wc w1)
    (k1 : Cond.methodLink own index y ∈ lw_g) (k2 : Cond.instanceMethod y ∈ lw_g) (k3 : Cond.selects C y y ∈ lw_g) (k4 : Cond.initialized C ∈ lw_g) (k5 : Cond.code y yb maxL ret ∈ lw_g) (hz : rm.cells = 0 ∧ rm.slots = 0) (hd : y.cls = C ∧ y.cls ≠ "java/lang/invoke/MethodHandle" ∧ y.cls ≠ "java/lang/invoke/VarHandle" ∧ (parseMethodDescriptor y.desc).map (fun d => d.parameters.length) = some n) (hRm : rm.frames + 1 ≤ R.frames ∧ 8 + (maxL + 11) + rm.locals ≤ R.locals) (hc : vwCl[ci]? = some q) (hq : q.1 = C) (he : wc[q0]? = some (b, .inr (ci, fs))) (hn : As.length = n) (hsz : ls.size = nL) (hrm : (rest.map fun v => v.category).sum ≤ 8) (hdg : decode cc pc = .ok (.invokevirtual index, 3)) (hcs : cells ≤ R.cells ∧ slots ≤ R.slots)
    (kk : ∀ (H1 : Heap) (locs1 : List Loc), Wd D A s.heap ws2 H1 locs1 → W p l e R s m args below meth c H1 locs1 cells slots Q (F0 m (pc + 3) ls rest)) : W p l e R s m args below meth c H locs cells slots Q (F0 m pc ls (As.reverse ++ .ref b :: rest)) := by
  obtain ⟨hfix, hlocks, hK, hA, hF⟩ := C0
  obtain ⟨hP, hD, hS⟩ := hw
  have hts := hfix.2.2.2.2
  obtain ⟨hPc, hDc⟩ := (J D A H H hP hD).1
  have hFc : ∀ q, va_A wc H.size q → A q := fun q h => by
    rcases h with ⟨k, e, h⟩ | h
    · exact hDc.2 k (q, e) h
    · exact hA q (Nat.le_trans hS.1 h)
  have hrec : ∃ cell : Cell, H[b]? = some cell ∧ cell.vm.isStatics = false ∧ s.vm.findClass C = some cell.cls := by
    rw [← hq]
    exact va_recv hK hPc hc he
  refine va_callv (va_runV (n := n) (As := As) (rest := rest) (g := F0 m pc ls (As.reverse ++ .ref b :: rest)) hfix (hM H.size) (cwV n hts (gV k1 k2 k3 k4 k5) rfl hz.1 hz.2 hd hRm) ⟨pcW_blind, hrec, fun U hU hW => ⟨rfl, by rw [hU], by rw [hU]; exact hPc, va_K.moved hW.alike hK, hDc.weaken (fun _ _ _ _ => trivial), hF.go hS hFc hU hW⟩⟩ rfl hn hsz rfl (lv_room hrm) hdg hcs) hS (fun q _ h => hFc q h) hFc (fun u t H1 locs1 ht hvm hp hB hz1 hk1 hS1 => ?_)
  obtain ⟨hP1, hK1, hD1⟩ := hB
  rw [ht] at hP1
  obtain ⟨hP2, hD2⟩ := (J D A H H1 hP hD).2 hFc hk1 hP1 hD1
  exact kk H1 locs1 ⟨hP2, hD2, hS1⟩
set_option maxHeartbeats 1000000 in
theorem cSv {p : Program} {l : Launch} {e : Env} {R : Room} {s : State} {m : MethodId} {args : Array Value} {below : List Frame} {meth : Method} {c : Code} {D : va_G} {cA : ClassId} {g : Nat → Nat} {A : Nat → Prop} {cc : ByteArray} {nL : Nat} {own : String} {H : Heap} {locs : List Loc} {cells slots : Nat} {Q : State → Prop} {pc index maxL n : Nat} {ls : Array Slot} {y : MethodName} {yb : ByteArray} {ret : Option FieldType} {rm : Room} {As rest : List Value} {ws wc w1 ws2 : va_W} 
    (C0 : Cx p s m args meth c cc nL own D cA g A) (hw : Wd D A s.heap ws H locs) (J : Jn wc w1 ws ws2) (hM : MV l D cA g y (Cond.code y yb maxL ret :: lw_g) rm As wc w1)
    (k1 : Cond.methodLink own index y ∈ lw_g) (k2 : Cond.static y ∈ lw_g) (k4 : Cond.initialized y.cls ∈ lw_g) (k5 : Cond.code y yb maxL ret ∈ lw_g) (hz : rm.cells = 0 ∧ rm.slots = 0) (hd : y.cls ≠ "java/lang/invoke/MethodHandle" ∧ y.cls ≠ "java/lang/invoke/VarHandle" ∧ (parseMethodDescriptor y.desc).map (fun d => d.parameters.length) = some n) (hRm : rm.frames + 1 ≤ R.frames ∧ 8 + (maxL + 11) + rm.locals ≤ R.locals) (hn : As.length = n) (hsz : ls.size = nL) (hrm : (rest.map fun v => v.category).sum ≤ 8) (hdg : decode cc pc = .ok (.invokestatic index, 3)) (hcs : cells ≤ R.cells ∧ slots ≤ R.slots)
    (kk : ∀ (H1 : Heap) (locs1 : List Loc), Wd D A s.heap ws2 H1 locs1 → W p l e R s m args below meth c H1 locs1 cells slots Q (F0 m (pc + 3) ls rest)) : W p l e R s m args below meth c H locs cells slots Q (F0 m pc ls (As.reverse ++ rest)) := by
  obtain ⟨hfix, hlocks, hK, hA, hF⟩ := C0
  obtain ⟨hP, hD, hS⟩ := hw
  have hts := hfix.2.2.2.2
  obtain ⟨hPc, hDc⟩ := (J D A H H hP hD).1
  have hFc : ∀ q, va_A wc H.size q → A q := fun q h => by
    rcases h with ⟨k, e, h⟩ | h
    · exact hDc.2 k (q, e) h
    · exact hA q (Nat.le_trans hS.1 h)
  refine va_callv (va_runS (n := n) (As := As) (rest := rest) (g := F0 m pc ls (As.reverse ++ rest)) hfix (hM H.size) (va_cwS n hts (gS k1 k2 k4 k5) rfl hz.1 hz.2 hd hRm) ⟨pcW_blind, fun U hU hW => ⟨rfl, by rw [hU], by rw [hU]; exact hPc, va_K.moved hW.alike hK, hDc.weaken (fun _ _ _ _ => trivial), hF.go hS hFc hU hW⟩⟩ rfl hn hsz rfl (lv_room hrm) hdg hcs) hS (fun q _ h => hFc q h) hFc (fun u t H1 locs1 ht hvm hp hB hz1 hk1 hS1 => ?_)
  obtain ⟨hP1, hK1, hD1⟩ := hB
  rw [ht] at hP1
  obtain ⟨hP2, hD2⟩ := (J D A H H1 hP hD).2 hFc hk1 hP1 hD1
  exact kk H1 locs1 ⟨hP2, hD2, hS1⟩
theorem rtI {p : Program} {l : Launch} {e : Env} {R : Room} {s : State} {m : MethodId} {args : Array Value} {below : List Frame} {meth : Method} {c : Code} {D : va_G} {cA : ClassId} {g : Nat → Nat} {A : Nat → Prop} {cc : ByteArray} {nL : Nat} {own : String} {H : Heap} {locs : List Loc} {cells slots : Nat} {pc : Nat} {ls : Array Slot} {r : Int32} {w1 : va_W} (C0 : Cx p s m args meth c cc nL own D cA g A) (hr : meth.sig.returnType = some .int) (hw : Wd D A s.heap w1 H locs) (hdg : decode cc pc = .ok (.ireturn, 1)) : W p l e R s m args below meth c H locs cells slots (MQ below (QI D cA A r w1) args s cells slots A) (F0 m pc ls [.int r]) := by
  have hlocks : meth.locks = false := C0.2.1
  exact W.iret C0.1.1 C0.1.2.1 hr (fun t ht hW => ⟨⟨r, (), rfl, rfl, by rw [ht]; exact hw.1, va_K.moved hW.alike C0.2.2.1, hw.2.1⟩, hw.2.2.F ht⟩) hw.2.2.2.2 hdg
theorem rtZ {p : Program} {l : Launch} {e : Env} {R : Room} {s : State} {m : MethodId} {args : Array Value} {below : List Frame} {meth : Method} {c : Code} {D : va_G} {cA : ClassId} {g : Nat → Nat} {A : Nat → Prop} {cc : ByteArray} {nL : Nat} {own : String} {H : Heap} {locs : List Loc} {cells slots : Nat} {pc : Nat} {ls : Array Slot} {r : Int32} {ty : FieldType} {w1 : va_W} (C0 : Cx p s m args meth c cc nL own D cA g A) (hr : meth.sig.returnType = some ty) (hz : narrow ty (.int r) = .int r) (hw : Wd D A s.heap w1 H locs) (hdg : decode cc pc = .ok (.ireturn, 1)) : W p l e R s m args below meth c H locs cells slots (MQ below (QI D cA A r w1) args s cells slots A) (F0 m pc ls [.int r]) := by
  have hlocks : meth.locks = false := C0.2.1
  exact W.zret C0.1.1 C0.1.2.1 hr hz (fun t ht hW => ⟨⟨r, (), rfl, rfl, by rw [ht]; exact hw.1, va_K.moved hW.alike C0.2.2.1, hw.2.1⟩, hw.2.2.F ht⟩) hw.2.2.2.2 hdg
theorem rtL {p : Program} {l : Launch} {e : Env} {R : Room} {s : State} {m : MethodId} {args : Array Value} {below : List Frame} {meth : Method} {c : Code} {D : va_G} {cA : ClassId} {g : Nat → Nat} {A : Nat → Prop} {cc : ByteArray} {nL : Nat} {own : String} {H : Heap} {locs : List Loc} {cells slots : Nat} {pc : Nat} {ls : Array Slot} {r : Int64} {w1 : va_W} (C0 : Cx p s m args meth c cc nL own D cA g A) (hr : meth.sig.returnType = some .long) (hw : Wd D A s.heap w1 H locs) (hdg : decode cc pc = .ok (.lreturn, 1)) : W p l e R s m args below meth c H locs cells slots (MQ below (QL D cA A r w1) args s cells slots A) (F0 m pc ls [.long r]) := by
  have hlocks : meth.locks = false := C0.2.1
  exact W.lret C0.1.1 C0.1.2.1 hr (fun t ht hW => ⟨⟨r, (), rfl, rfl, by rw [ht]; exact hw.1, va_K.moved hW.alike C0.2.2.1, hw.2.1⟩, hw.2.2.F ht⟩) hw.2.2.2.2 hdg
theorem rtV {p : Program} {l : Launch} {e : Env} {R : Room} {s : State} {m : MethodId} {args : Array Value} {below : List Frame} {meth : Method} {c : Code} {D : va_G} {cA : ClassId} {g : Nat → Nat} {A : Nat → Prop} {cc : ByteArray} {nL : Nat} {own : String} {H : Heap} {locs : List Loc} {cells slots : Nat} {pc : Nat} {ls : Array Slot} {w1 : va_W} (C0 : Cx p s m args meth c cc nL own D cA g A) (hr : meth.sig.returnType = none) (hw : Wd D A s.heap w1 H locs) (hdg : decode cc pc = .ok (.return_, 1)) : W p l e R s m args below meth c H locs cells slots (MQ below (QV D cA A w1) args s cells slots A) (F0 m pc ls []) := by
  have hlocks : meth.locks = false := C0.2.1
  exact W.vret C0.1.1 C0.1.2.1 hr (fun t ht hW => ⟨⟨(), rfl, trivial, by rw [ht]; exact hw.1, va_K.moved hW.alike C0.2.2.1, hw.2.1⟩, hw.2.2.F ht⟩) hw.2.2.2.2 hdg
/-- a field is read: k its place in the table, q0 the object's in the world -/
theorem tGet {p : Program} {l : Launch} {e : Env} {R : Room} {s : State} {m : MethodId} {args : Array Value} {below : List Frame} {meth : Method} {c : Code} {D : va_G} {cA : ClassId} {g : Nat → Nat} {A : Nat → Prop} {cc : ByteArray} {nL : Nat} {own : String} {H : Heap} {locs : List Loc} {cells slots : Nat} {Q : State → Prop} {pc index : Nat} {ls : Array Slot} {rest : List Value} {ws : va_W} {a : Nat} {ref Cn : String} {T : u_T} {N ci : Nat} {v : Value} {fs : List Value} (C0 : Cx p s m args meth c cc nL own D cA g A) (hw : Wd D A s.heap ws H locs) (hin : ∀ w ∈ u_ws Cn T N, w ∈ lw_g) (k q0 : Nat) (hc : vwCl[ci]? = some (Cn, T, N)) (hk : k < N) (hl : Cond.fieldLink own index ref (T k).2.1 (T k).2.2.1 ∈ lw_g) (href : (T k).1 = ref) (he : ws[q0]? = some (a, .inr (ci, fs))) (hv : fs[k]? = some v) (hdg : decode cc pc = .ok (.getfield index, 3))
    (kk : W p l e R s m args below meth c H locs cells slots Q (F0 m (pc + 3) ls (v :: rest))) : W p l e R s m args below meth c H locs cells slots Q (F0 m pc ls (.ref a :: rest)) :=
  va_get C0.1.1 C0.1.2.1 C0.1.2.2.2.2 hin C0.1.2.2.2.1 C0.2.2.1 hw.1 q0 he hc k hk (C0.1.2.2.2.2 _ hl) (fun x h => by rw [← href]; exact h) hv hdg kk
theorem tPut {p : Program} {l : Launch} {e : Env} {R : Room} {s : State} {m : MethodId} {args : Array Value} {below : List Frame} {meth : Method} {c : Code} {D : va_G} {cA : ClassId} {g : Nat → Nat} {A : Nat → Prop} {cc : ByteArray} {nL : Nat} {own : String} {H : Heap} {locs : List Loc} {cells slots : Nat} {Q : State → Prop} {pc index : Nat} {ls : Array Slot} {rest : List Value} {ws : va_W} {a : Nat} {ref Cn : String} {T : u_T} {N ci : Nat} {x : Int32} {fs : List Value} {ws2 : va_W} (C0 : Cx p s m args meth c cc nL own D cA g A) (hw : Wd D A s.heap ws H locs) (hin : ∀ w ∈ u_ws Cn T N, w ∈ lw_g) (ty0 : Nat → FieldType) (hty : ∀ k, k < N → parseFieldDescriptor (T k).2.2.1 = some (ty0 k)) (hnm : ∀ a, a < N → ∀ b, b < N → a ≠ b → (T a).2.1 ≠ (T b).2.1) (k q0 : Nat) (hc : vwCl[ci]? = some (Cn, T, N)) (hk : k < N) (hl : Cond.fieldLink own index ref (T k).2.1 (T k).2.2.1 ∈ lw_g) (href : (T k).1 = ref) (hfin : (T k).2.2.2 = false) (hn : narrow (ty0 k) (.int x) = .int x) (hfit : fits (ty0 k) (.int x) = true) (he : ws[q0]? = some (a, .inr (ci, fs))) (hlen : k < fs.length) (h2 : ws.set q0 (a, .inr (ci, fs.set k (.int x))) = ws2) (hdg : decode cc pc = .ok (.putfield index, 3))
    (kk : ∀ (H1 : Heap) (locs1 : List Loc), Wd D A s.heap ws2 H1 locs1 → W p l e R s m args below meth c H1 locs1 cells slots Q (F0 m (pc + 3) ls rest)) : W p l e R s m args below meth c H locs cells slots Q (F0 m pc ls (.int x :: .ref a :: rest)) := by
  subst h2
  exact va_put C0.1.1 C0.1.2.1 C0.1.2.2.2.2 hin ty0 hty hnm C0.1.2.2.2.1 C0.2.2.1 hw.1 hw.2.1 hw.2.2 q0 he hc k hk (C0.1.2.2.2.2 _ hl) (fun x h => by rw [← href]; exact h) hfin (hty k hk) hn hfit hlen hdg (fun H1 locs1 h1 h2 h3 => kk H1 locs1 ⟨h1, h2, h3⟩)
theorem tLd {p : Program} {l : Launch} {e : Env} {R : Room} {s : State} {m : MethodId} {args : Array Value} {below : List Frame} {meth : Method} {c : Code} {D : va_G} {cA : ClassId} {g : Nat → Nat} {A : Nat → Prop} {cc : ByteArray} {nL : Nat} {own : String} {H : Heap} {locs : List Loc} {cells slots : Nat} {Q : State → Prop} {pc : Nat} {ls : Array Slot} {rest : List Value} {ws : va_W} {a : Nat} {n : Nat} {f : Nat → Int32} {i : Int32} (C0 : Cx p s m args meth c cc nL own D cA g A) (hw : Wd D A s.heap ws H locs) (q0 : Nat) (he : ws[q0]? = some (a, .inl (cA, n, .inl f))) (hin : vp_in i n) {y : Int32} (hy : y = f i.toNatClampNeg) (hdg : decode cc pc = .ok (.iaload, 1))
    (kk : W p l e R s m args below meth c H locs cells slots Q (F0 m (pc + 1) ls (.int y :: rest))) : W p l e R s m args below meth c H locs cells slots Q (F0 m pc ls (.int i :: .ref a :: rest)) := by
  subst hy
  exact va_iald C0.1.1 C0.1.2.1 C0.2.2.1 hw.1 q0 0 he rfl hin hdg kk
theorem tCp {p : Program} {l : Launch} {e : Env} {R : Room} {s : State} {m : MethodId} {args : Array Value} {below : List Frame} {meth : Method} {c : Code} {D : va_G} {cA : ClassId} {g : Nat → Nat} {A : Nat → Prop} {cc : ByteArray} {nL : Nat} {own : String} {H : Heap} {locs : List Loc} {cells slots : Nat} {Q : State → Prop} {pc : Nat} {ls : Array Slot} {rest : List Value} {ws : va_W} {a : Nat} {n0 n1 N index : Nat} {f0 g0 : Nat → Int32} {n : Int32} {a0 : Nat} {ws2 : va_W} (C0 : Cx p s m args meth c cc nL own D cA g A) (hw : Wd D A s.heap ws H locs) (hsz : ls.size = nL) (hl : Cond.methodLink own index arraycopyName ∈ lw_g) (q0 q1 : Nat) (ha0 : ws[q0]? = some (a0, .inl (cA, n0, .inl f0))) (ha1 : ws[q1]? = some (a, .inl (cA, n1, .inl g0))) (hn : ¬ n < 0) (hN : n.toNatClampNeg = N) (h4 : N ≤ n0) (h5 : N ≤ n1) (hfr : 1 ≤ R.frames) (hlo : (rest.map fun v => v.category).sum + (nativeFrameWords "java/lang/System" "arraycopy" 5 + 11) ≤ R.locals) (h2 : ws.set q1 (a, .inl (cA, n1, .inl (va_cpy f0 g0 0 0 N))) = ws2) (hdg : decode cc pc = .ok (.invokestatic index, 3))
    (kk : ∀ (H1 : Heap) (locs1 : List Loc), Wd D A s.heap ws2 H1 locs1 → W p l e R s m args below meth c H1 locs1 cells slots Q (F0 m (pc + 3) ls rest)) : W p l e R s m args below meth c H locs cells slots Q (F0 m pc ls (.int n :: .int 0 :: .ref a :: .int 0 :: .ref a0 :: rest)) := by
  subst h2 hN
  have hts := C0.1.2.2.2.2
  exact va_copyi (ty := .int) C0.1.1 C0.1.2.1 (by rw [hsz]; exact C0.1.2.2.1) C0.1.2.2.2.1 (hts _ hl) (hts _ kv_arraycopy) (hts _ kt_arraycopy) (hts _ kn_RJ10) C0.2.2.1 hw.1 hw.2.1 hw.2.2 q0 q1 0 0 ha0 ha1 rfl rfl rfl (by decide) (by decide) hn (by rw [sb_cl0, Nat.zero_add]; exact h4) (by rw [sb_cl0, Nat.zero_add]; exact h5) (fun _ _ => rfl) hfr hlo hdg (fun H1 locs1 h1 h2 h3 => kk H1 locs1 ⟨h1, h2, h3⟩)
theorem tSt {p : Program} {l : Launch} {e : Env} {R : Room} {s : State} {m : MethodId} {args : Array Value} {below : List Frame} {meth : Method} {c : Code} {D : va_G} {cA : ClassId} {g : Nat → Nat} {A : Nat → Prop} {cc : ByteArray} {nL : Nat} {own : String} {H : Heap} {locs : List Loc} {cells slots : Nat} {Q : State → Prop} {pc : Nat} {ls : Array Slot} {rest : List Value} {ws : va_W} {a : Nat} {n : Nat} {f : Nat → Int32} {i x : Int32} {ws2 : va_W} (C0 : Cx p s m args meth c cc nL own D cA g A) (hw : Wd D A s.heap ws H locs) (q0 : Nat) (he : ws[q0]? = some (a, .inl (cA, n, .inl f))) (hin : vp_in i n) (h2 : ws.set q0 (a, .inl (cA, n, .inl (upd f i.toNatClampNeg x))) = ws2) (hdg : decode cc pc = .ok (.iastore, 1))
    (kk : ∀ (H1 : Heap) (locs1 : List Loc), Wd D A s.heap ws2 H1 locs1 → W p l e R s m args below meth c H1 locs1 cells slots Q (F0 m (pc + 1) ls rest)) : W p l e R s m args below meth c H locs cells slots Q (F0 m pc ls (.int x :: .int i :: .ref a :: rest)) := by
  subst h2
  exact va_iast C0.1.1 C0.1.2.1 C0.2.2.1 hw.1 hw.2.1 hw.2.2 q0 0 he rfl hin hdg (fun H1 locs1 h1 h2 h3 => kk H1 locs1 ⟨h1, h2, h3⟩)
set_option maxRecDepth 20000 in
theorem jR0 {cA : ClassId} {ad : Nat → Nat} {X : Nat → VS} {v1 : VS} : Jn (wV cA (fun k => ad (1 + k)) (X 0)) (wV cA (fun k => ad (1 + k)) v1) (wR cA ad X) (wR cA ad (up X 0 v1)) := jnC [1, 2, 3, 4, 5, 6, 7] [0, 8, 9, 10, 11, 12, 13, 14, 15, 16, 17, 18, 19, 20, 21, 22, 23, 24, 25, 26, 27] [0, 21, 22, 23, 24, 25, 26, 27, 1, 2, 3, 4, 5, 6, 7, 8, 9, 10, 11, 12, 13, 14, 15, 16, 17, 18, 19, 20] rfl rfl rfl rfl (by decide) rfl rfl
set_option maxRecDepth 20000 in
theorem jR0r {cA : ClassId} {ad : Nat → Nat} {X : Nat → VS} : Jn (wV cA (fun k => ad (1 + k)) (X 0)) (wV cA (fun k => ad (1 + k)) (X 0)) (wR cA ad X) (wR cA ad X) := jnC [1, 2, 3, 4, 5, 6, 7] [0, 8, 9, 10, 11, 12, 13, 14, 15, 16, 17, 18, 19, 20, 21, 22, 23, 24, 25, 26, 27] [0, 21, 22, 23, 24, 25, 26, 27, 1, 2, 3, 4, 5, 6, 7, 8, 9, 10, 11, 12, 13, 14, 15, 16, 17, 18, 19, 20] rfl rfl rfl rfl (by decide) rfl rfl
set_option maxRecDepth 20000 in
theorem jR1 {cA : ClassId} {ad : Nat → Nat} {X : Nat → VS} {v1 : VS} : Jn (wV cA (fun k => ad (8 + k)) (X 1)) (wV cA (fun k => ad (8 + k)) v1) (wR cA ad X) (wR cA ad (up X 1 v1)) := jnC [8, 9, 10, 11, 12, 13, 14] [0, 1, 2, 3, 4, 5, 6, 7, 15, 16, 17, 18, 19, 20, 21, 22, 23, 24, 25, 26, 27] [0, 1, 2, 3, 4, 5, 6, 7, 21, 22, 23, 24, 25, 26, 27, 8, 9, 10, 11, 12, 13, 14, 15, 16, 17, 18, 19, 20] rfl rfl rfl rfl (by decide) rfl rfl
set_option maxRecDepth 20000 in
theorem jR1r {cA : ClassId} {ad : Nat → Nat} {X : Nat → VS} : Jn (wV cA (fun k => ad (8 + k)) (X 1)) (wV cA (fun k => ad (8 + k)) (X 1)) (wR cA ad X) (wR cA ad X) := jnC [8, 9, 10, 11, 12, 13, 14] [0, 1, 2, 3, 4, 5, 6, 7, 15, 16, 17, 18, 19, 20, 21, 22, 23, 24, 25, 26, 27] [0, 1, 2, 3, 4, 5, 6, 7, 21, 22, 23, 24, 25, 26, 27, 8, 9, 10, 11, 12, 13, 14, 15, 16, 17, 18, 19, 20] rfl rfl rfl rfl (by decide) rfl rfl
set_option maxRecDepth 20000 in
theorem jR2 {cA : ClassId} {ad : Nat → Nat} {X : Nat → VS} {v1 : VS} : Jn (wV cA (fun k => ad (15 + k)) (X 2)) (wV cA (fun k => ad (15 + k)) v1) (wR cA ad X) (wR cA ad (up X 2 v1)) := jnC [15, 16, 17, 18, 19, 20, 21] [0, 1, 2, 3, 4, 5, 6, 7, 8, 9, 10, 11, 12, 13, 14, 22, 23, 24, 25, 26, 27] [0, 1, 2, 3, 4, 5, 6, 7, 8, 9, 10, 11, 12, 13, 14, 21, 22, 23, 24, 25, 26, 27, 15, 16, 17, 18, 19, 20] rfl rfl rfl rfl (by decide) rfl rfl
set_option maxRecDepth 20000 in
theorem jR2r {cA : ClassId} {ad : Nat → Nat} {X : Nat → VS} : Jn (wV cA (fun k => ad (15 + k)) (X 2)) (wV cA (fun k => ad (15 + k)) (X 2)) (wR cA ad X) (wR cA ad X) := jnC [15, 16, 17, 18, 19, 20, 21] [0, 1, 2, 3, 4, 5, 6, 7, 8, 9, 10, 11, 12, 13, 14, 22, 23, 24, 25, 26, 27] [0, 1, 2, 3, 4, 5, 6, 7, 8, 9, 10, 11, 12, 13, 14, 21, 22, 23, 24, 25, 26, 27, 15, 16, 17, 18, 19, 20] rfl rfl rfl rfl (by decide) rfl rfl
set_option maxRecDepth 20000 in
theorem jRR10 {cA : ClassId} {ad : Nat → Nat} {X : Nat → VS} {v1 : VS} : Jn (wV cA (fun k => ad (8 + k)) (X 1) ++ wV cA (fun k => ad (1 + k)) (X 0)) (wV cA (fun k => ad (8 + k)) v1 ++ wV cA (fun k => ad (1 + k)) (X 0)) (wR cA ad X) (wR cA ad (up X 1 v1)) := jnC [8, 9, 10, 11, 12, 13, 14, 1, 2, 3, 4, 5, 6, 7] [0, 15, 16, 17, 18, 19, 20, 21, 22, 23, 24, 25, 26, 27] [0, 21, 22, 23, 24, 25, 26, 27, 14, 15, 16, 17, 18, 19, 20, 1, 2, 3, 4, 5, 6, 7, 8, 9, 10, 11, 12, 13] rfl rfl rfl rfl (by decide) rfl rfl
set_option maxRecDepth 20000 in
theorem jRR01 {cA : ClassId} {ad : Nat → Nat} {X : Nat → VS} {v1 : VS} : Jn (wV cA (fun k => ad (1 + k)) (X 0) ++ wV cA (fun k => ad (8 + k)) (X 1)) (wV cA (fun k => ad (1 + k)) v1 ++ wV cA (fun k => ad (8 + k)) (X 1)) (wR cA ad X) (wR cA ad (up X 0 v1)) := jnC [1, 2, 3, 4, 5, 6, 7, 8, 9, 10, 11, 12, 13, 14] [0, 15, 16, 17, 18, 19, 20, 21, 22, 23, 24, 25, 26, 27] [0, 14, 15, 16, 17, 18, 19, 20, 21, 22, 23, 24, 25, 26, 27, 1, 2, 3, 4, 5, 6, 7, 8, 9, 10, 11, 12, 13] rfl rfl rfl rfl (by decide) rfl rfl
set_option maxRecDepth 20000 in
theorem jRR20 {cA : ClassId} {ad : Nat → Nat} {X : Nat → VS} {v1 : VS} : Jn (wV cA (fun k => ad (15 + k)) (X 2) ++ wV cA (fun k => ad (1 + k)) (X 0)) (wV cA (fun k => ad (15 + k)) v1 ++ wV cA (fun k => ad (1 + k)) (X 0)) (wR cA ad X) (wR cA ad (up X 2 v1)) := jnC [15, 16, 17, 18, 19, 20, 21, 1, 2, 3, 4, 5, 6, 7] [0, 8, 9, 10, 11, 12, 13, 14, 22, 23, 24, 25, 26, 27] [0, 21, 22, 23, 24, 25, 26, 27, 1, 2, 3, 4, 5, 6, 7, 14, 15, 16, 17, 18, 19, 20, 8, 9, 10, 11, 12, 13] rfl rfl rfl rfl (by decide) rfl rfl
set_option maxRecDepth 20000 in
theorem jRR02 {cA : ClassId} {ad : Nat → Nat} {X : Nat → VS} {v1 : VS} : Jn (wV cA (fun k => ad (1 + k)) (X 0) ++ wV cA (fun k => ad (15 + k)) (X 2)) (wV cA (fun k => ad (1 + k)) v1 ++ wV cA (fun k => ad (15 + k)) (X 2)) (wR cA ad X) (wR cA ad (up X 0 v1)) := jnC [1, 2, 3, 4, 5, 6, 7, 15, 16, 17, 18, 19, 20, 21] [0, 8, 9, 10, 11, 12, 13, 14, 22, 23, 24, 25, 26, 27] [0, 14, 15, 16, 17, 18, 19, 20, 1, 2, 3, 4, 5, 6, 7, 21, 22, 23, 24, 25, 26, 27, 8, 9, 10, 11, 12, 13] rfl rfl rfl rfl (by decide) rfl rfl
set_option maxRecDepth 20000 in
theorem jRb {cA : ClassId} {ad : Nat → Nat} {X : Nat → VS} {f1 : Nat → Int32} : Jn (wA cA 9 (ad 25) (X 3 9)) (wA cA 9 (ad 25) f1) (wR cA ad X) (wR cA ad (up X 3 (up (X 3) 9 f1))) := jnC [25] [0, 1, 2, 3, 4, 5, 6, 7, 8, 9, 10, 11, 12, 13, 14, 15, 16, 17, 18, 19, 20, 21, 22, 23, 24, 26, 27] [0, 1, 2, 3, 4, 5, 6, 7, 8, 9, 10, 11, 12, 13, 14, 15, 16, 17, 18, 19, 20, 21, 22, 23, 24, 27, 25, 26] rfl rfl rfl rfl (by decide) rfl rfl
set_option maxRecDepth 20000 in
theorem jM0 {cA : ClassId} {ad : Nat → Nat} {Y : VS} {f1 : Nat → Int32} : Jn (wA cA 81 (ad 1) (Y 0)) (wA cA 81 (ad 1) f1) (wM cA ad Y) (wM cA ad (up Y 0 f1)) := jnC [1] [0, 2, 3, 4, 5, 6, 7, 8] [0, 8, 1, 2, 3, 4, 5, 6, 7] rfl rfl rfl rfl (by decide) rfl rfl
set_option maxRecDepth 20000 in
theorem jM0r {cA : ClassId} {ad : Nat → Nat} {Y : VS} : Jn (wA cA 81 (ad 1) (Y 0)) (wA cA 81 (ad 1) (Y 0)) (wM cA ad Y) (wM cA ad Y) := jnC [1] [0, 2, 3, 4, 5, 6, 7, 8] [0, 8, 1, 2, 3, 4, 5, 6, 7] rfl rfl rfl rfl (by decide) rfl rfl
set_option maxRecDepth 20000 in
theorem jM1 {cA : ClassId} {ad : Nat → Nat} {Y : VS} {f1 : Nat → Int32} : Jn (wA cA 81 (ad 2) (Y 1)) (wA cA 81 (ad 2) f1) (wM cA ad Y) (wM cA ad (up Y 1 f1)) := jnC [2] [0, 1, 3, 4, 5, 6, 7, 8] [0, 1, 8, 2, 3, 4, 5, 6, 7] rfl rfl rfl rfl (by decide) rfl rfl
set_option maxRecDepth 20000 in
theorem jM1r {cA : ClassId} {ad : Nat → Nat} {Y : VS} : Jn (wA cA 81 (ad 2) (Y 1)) (wA cA 81 (ad 2) (Y 1)) (wM cA ad Y) (wM cA ad Y) := jnC [2] [0, 1, 3, 4, 5, 6, 7, 8] [0, 1, 8, 2, 3, 4, 5, 6, 7] rfl rfl rfl rfl (by decide) rfl rfl
set_option maxRecDepth 20000 in
theorem jMM01 {cA : ClassId} {ad : Nat → Nat} {Y : VS} {f1 : Nat → Int32} : Jn (wAA cA (ad 1) (ad 2) (Y 0) (Y 1)) (wAA cA (ad 1) (ad 2) (Y 0) f1) (wM cA ad Y) (wM cA ad (up Y 1 f1)) := jnC [1, 2] [0, 3, 4, 5, 6, 7, 8] [0, 7, 8, 1, 2, 3, 4, 5, 6] rfl rfl rfl rfl (by decide) rfl rfl
set_option maxRecDepth 20000 in
theorem jMM03 {cA : ClassId} {ad : Nat → Nat} {Y : VS} {f1 : Nat → Int32} : Jn (wAA cA (ad 1) (ad 4) (Y 0) (Y 3)) (wAA cA (ad 1) (ad 4) (Y 0) f1) (wM cA ad Y) (wM cA ad (up Y 3 f1)) := jnC [1, 4] [0, 2, 3, 5, 6, 7, 8] [0, 7, 1, 2, 8, 3, 4, 5, 6] rfl rfl rfl rfl (by decide) rfl rfl
set_option maxRecDepth 20000 in
theorem jMM30 {cA : ClassId} {ad : Nat → Nat} {Y : VS} {f1 : Nat → Int32} : Jn (wAA cA (ad 4) (ad 1) (Y 3) (Y 0)) (wAA cA (ad 4) (ad 1) (Y 3) f1) (wM cA ad Y) (wM cA ad (up Y 0 f1)) := jnC [4, 1] [0, 2, 3, 5, 6, 7, 8] [0, 8, 1, 2, 7, 3, 4, 5, 6] rfl rfl rfl rfl (by decide) rfl rfl
set_option maxRecDepth 20000 in
theorem jMM02 {cA : ClassId} {ad : Nat → Nat} {Y : VS} {f1 : Nat → Int32} : Jn (wAA cA (ad 1) (ad 3) (Y 0) (Y 2)) (wAA cA (ad 1) (ad 3) (Y 0) f1) (wM cA ad Y) (wM cA ad (up Y 2 f1)) := jnC [1, 3] [0, 2, 4, 5, 6, 7, 8] [0, 7, 1, 8, 2, 3, 4, 5, 6] rfl rfl rfl rfl (by decide) rfl rfl
set_option maxRecDepth 20000 in
theorem jMM20 {cA : ClassId} {ad : Nat → Nat} {Y : VS} {f1 : Nat → Int32} : Jn (wAA cA (ad 3) (ad 1) (Y 2) (Y 0)) (wAA cA (ad 3) (ad 1) (Y 2) f1) (wM cA ad Y) (wM cA ad (up Y 0 f1)) := jnC [3, 1] [0, 2, 4, 5, 6, 7, 8] [0, 8, 1, 7, 2, 3, 4, 5, 6] rfl rfl rfl rfl (by decide) rfl rfl
theorem nb0 : narrow .byte (.int 0) = .int 0 := by decide
theorem nb1 : narrow .byte (.int 1) = .int 1 := by decide
def kbf : Nat → Int32 := fun j => kby.getD j 0
theorem sF.str {g : Nat → Nat} {A : Nat → Prop} {U : State} (h : sF g A U) : va_OF "java/lang/String" "coder" "B" (.int 0) (g 1) A U U.heap ∧ va_OF "java/lang/String" "value" "[B" (.ref (g 2)) (g 1) A U U.heap ∧ va_T .byte (g 2) 6 (fun j => .int (kbf j)) A U U.heap := by
  obtain ⟨-, -, -, -, h7, -⟩ := h
  obtain ⟨-, h1, h2, h3⟩ := h7.1 0 (by decide)
  exact ⟨h1, h2, h3⟩
set_option maxHeartbeats 1000000 in
theorem cTi {p : Program} {l : Launch} {e : Env} {R : Room} {s : State} {m : MethodId} {args : Array Value} {below : List Frame} {meth : Method} {c : Code} {D : va_G} {cA : ClassId} {g : Nat → Nat} {A : Nat → Prop} {cc : ByteArray} {nL : Nat} {own : String} {H : Heap} {locs : List Loc} {cells slots : Nat} {Q : State → Prop} {pc index maxL n : Nat} {ls : Array Slot} {y : MethodName} {yb : ByteArray} {ret : Option FieldType} {rm : Room} {As rest : List Value} {ws : va_W} {r : Int32}
    (C0 : Cx p s m args meth c cc nL own D cA g A) (hw : Wd D A s.heap ws H locs) (hM : MI l D cA g y (Cond.code y yb maxL ret :: lw_g) rm (.ref (g 1) :: As) [] r [])
    (k1 : Cond.methodLink own index y ∈ lw_g) (k2 : Cond.instanceMethod y ∈ lw_g) (k3 : Cond.selects RJ0 y y ∈ lw_g) (k4 : Cond.initialized RJ0 ∈ lw_g) (k5 : Cond.code y yb maxL ret ∈ lw_g) (hz : rm.cells = 0 ∧ rm.slots = 0) (hd : y.cls = RJ0 ∧ y.cls ≠ "java/lang/invoke/MethodHandle" ∧ y.cls ≠ "java/lang/invoke/VarHandle" ∧ (parseMethodDescriptor y.desc).map (fun d => d.parameters.length) = some n) (hRm : rm.frames + 1 ≤ R.frames ∧ 8 + (maxL + 11) + rm.locals ≤ R.locals) (hn : As.length = n) (hsz : ls.size = nL) (hrm : (rest.map fun v => v.category).sum ≤ 8) (hdg : decode cc pc = .ok (.invokevirtual index, 3)) (hcs : cells ≤ R.cells ∧ slots ≤ R.slots)
    (kk : ∀ (H1 : Heap) (locs1 : List Loc), Wd D A s.heap ws H1 locs1 → W p l e R s m args below meth c H1 locs1 cells slots Q (F0 m (pc + 3) ls (.int r :: rest))) : W p l e R s m args below meth c H locs cells slots Q (F0 m pc ls (As.reverse ++ .ref (g 1) :: rest)) := by
  obtain ⟨hfix, hlocks, hK, hA, hF⟩ := C0
  obtain ⟨hP, hD, hS⟩ := hw
  have hts := hfix.2.2.2.2
  have J : Jn [] [] ws ws := jnE
  obtain ⟨hPc, hDc⟩ := (J D A H H hP hD).1
  have hFc : ∀ q, va_A [] H.size q → A q := fun q h => by
    rcases h with ⟨k, e, h⟩ | h
    · exact hDc.2 k (q, e) h
    · exact hA q (Nat.le_trans hS.1 h)
  have hrec : ∃ cell : Cell, H[g 1]? = some cell ∧ cell.vm.isStatics = false ∧ s.vm.findClass RJ0 = some cell.cls := vk_recv (i := 0) hF.2.2.2.2.1 (by decide) hS
  refine va_calli (va_runV (n := n) (As := As) (rest := rest) (g := F0 m pc ls (As.reverse ++ .ref (g 1) :: rest)) hfix (hM H.size) (cwV n hts (gV k1 k2 k3 k4 k5) rfl hz.1 hz.2 hd hRm) ⟨pcW_blind, hrec, fun U hU hW => ⟨rfl, by rw [hU], by rw [hU]; exact hPc, va_K.moved hW.alike hK, hDc.weaken (fun _ _ _ _ => trivial), hF.go hS hFc hU hW⟩⟩ rfl hn hsz rfl (lv_room hrm) hdg hcs) hS (fun q _ h => hFc q h) hFc (fun r' u t H1 locs1 ht hvm hp hB hz1 hk1 hS1 => ?_)
  obtain ⟨hP1, hK1, hD1⟩ := hB
  rw [ht] at hP1
  subst hp
  obtain ⟨hP2, hD2⟩ := (J D A H H1 hP hD).2 hFc hk1 hP1 hD1
  exact kk H1 locs1 ⟨hP2, hD2, hS1⟩
theorem lk_out {x dflt : Int} : ∀ (l : List (Int × Int)), (∀ k, k ∈ l.map (fun q => q.1) → x ≠ k) → Op.lookupswitch.offset l dflt x = dflt
  | [], _ => rfl
  | (a, b) :: l, h => by
    rw [Op.lookupswitch.offset_cons, if_neg (fun e => h a (by simp) e.symm)]
    exact lk_out l (fun k hk => h k (by simp at hk ⊢; exact Or.inr hk))
