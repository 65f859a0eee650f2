section
variable {p : Program} {l : Launch} {e : Env} {s : State} {m : MethodId} {args : Array Value} {below : List Frame} {meth : Method} {c : Code} {D : va_G} {cA : ClassId} {g : Nat → Nat} {A : Nat → Prop} {ad ad2 : Nat → Nat} {a0 a1 : Nat}
abbrev rmX2_clear : Room := { frames := 0, cells := 0, slots := 0, locals := 0 }
theorem hdX2_clear : yX2_clear.cls = RX2 ∧ yX2_clear.cls ≠ "java/lang/invoke/MethodHandle" ∧ yX2_clear.cls ≠ "java/lang/invoke/VarHandle" ∧ (parseMethodDescriptor yX2_clear.desc).map (fun d => d.parameters.length) = some 0 := by decide +kernel
def fX2_clear (Y : VS) : Option (Int32 × VS) := bn (Y 9 0) (fun x1 => bn (up Y 9 (fun _ => 0)) (fun w2 => some (x1, w2)))
set_option maxHeartbeats 4000000 in
set_option maxRecDepth 100000 in
theorem kX2_clear (ad : Nat → Nat) {Y : VS} {z : (Int32 × VS)} (h : fX2_clear Y = some z) : MI l D cA g yX2_clear (Cond.code yX2_clear cX2_clear 2 (some .int) :: lw_g) rmX2_clear [.ref (ad 0)] (wM cA ad Y) z.1 (wM cA ad z.2) := by
  intro sz
  refine Met.ofW (cc := cX2_clear) (maxL := 2) (ret := (some .int)) (by decide) rfl ?_
  intro p e s m args below meth c s₁ B hml hv
  obtain ⟨rfl, C, hr, hw⟩ := ent B hml hv
  generalize va_A (wM cA ad Y) sz = A at C hw ⊢
  have hl := lv_entry ([.ref (ad 0)]) (n := 2) (Nat.le_of_ble_eq_true rfl)
  rw [lg_entry_eq]
  generalize (lg_sl ([.ref (ad 0)]) ++ List.replicate (2 - (lg_sl ([.ref (ad 0)])).length) Slot.unset).toArray = ls at hl ⊢
  have hl : lv_has ls 2 [(0, .ref (ad 0))] := hl
  have hx := C.1.1
  have hb := C.1.2.1
  have h : (bn (Y 9 0) (fun x1 => bn (up Y 9 (fun _ => 0)) (fun w2 => some (x1, w2)))) = some z := h
  refine lv_aload_n hx hb dX2_clear_0 rfl (lv_at hl 0 rfl) ?_
  refine tGet (T := TX2) (N := 13) (ci := 2) C hw inX2 9 0 rfl (by decide) kf_RX2_216 rfl rfl rfl dX2_clear_1 ?_
  refine lv_topi (fun x1 ex1 => ?_)
  replace h := bn_some h ex1
  refine lv_istore_n (lv' := [(1, .int x1), (0, .ref (ad 0))]) hx hb dX2_clear_4 rfl hl (by decide) rfl (fun ls hl => ?_)
  refine lv_aload_n hx hb dX2_clear_5 rfl (lv_at hl 1 rfl) ?_
  refine lv_iconst (v := 0) hx hb dX2_clear_6 (by decide) ?_
  obtain ⟨w2, ew2⟩ : ∃ y : VS, y = up Y 9 (fun _ => 0) := ⟨_, rfl⟩
  replace h := bn_some h ew2
  refine tPut (T := TX2) (N := 13) (ci := 2) (ws2 := (wM cA ad w2)) C hw inX2 tyX2 tyX2_ok nmX2 9 0 rfl (by decide) kf_RX2_216 rfl rfl rfl rfl rfl (Nat.le_of_ble_eq_true rfl) (by rw [ew2]; rfl) dX2_clear_7 (fun H locs hw => ?_)
  refine lv_iload_n hx hb dX2_clear_10 rfl (lv_at hl 0 rfl) ?_
  obtain rfl := some_e h
  exact rtI C hr hw dX2_clear_11
abbrev rmX2_drawn : Room := { frames := 0, cells := 0, slots := 0, locals := 0 }
theorem hdX2_drawn : yX2_drawn.cls = RX2 ∧ yX2_drawn.cls ≠ "java/lang/invoke/MethodHandle" ∧ yX2_drawn.cls ≠ "java/lang/invoke/VarHandle" ∧ (parseMethodDescriptor yX2_drawn.desc).map (fun d => d.parameters.length) = some 1 := by decide +kernel
def fX2_drawn (Y : VS) (a_1 : Int32) : Option (Int32 × VS) := bn (up Y 12 (fun _ => (((Y 12 0) * (1664525 : Int32)) + (1013904223 : Int32)))) (fun w1 => dv a_1 (some (((((w1 12 0) &&& (2147483647 : Int32)) / (256 : Int32)) - (((w1 12 0) &&& (2147483647 : Int32)) / (256 : Int32)) / a_1 * a_1), w1)))
set_option maxHeartbeats 4000000 in
set_option maxRecDepth 100000 in
theorem kX2_drawn (ad : Nat → Nat) {Y : VS} {a_1 : Int32} {z : (Int32 × VS)} (h : fX2_drawn Y a_1 = some z) : MI l D cA g yX2_drawn (Cond.code yX2_drawn cX2_drawn 2 (some .int) :: lw_g) rmX2_drawn [.ref (ad 0), .int a_1] (wM cA ad Y) z.1 (wM cA ad z.2) := by
  intro sz
  refine Met.ofW (cc := cX2_drawn) (maxL := 2) (ret := (some .int)) (by decide) rfl ?_
  intro p e s m args below meth c s₁ B hml hv
  obtain ⟨rfl, C, hr, hw⟩ := ent B hml hv
  generalize va_A (wM cA ad Y) sz = A at C hw ⊢
  have hl := lv_entry ([.ref (ad 0), .int a_1]) (n := 2) (Nat.le_of_ble_eq_true rfl)
  rw [lg_entry_eq]
  generalize (lg_sl ([.ref (ad 0), .int a_1]) ++ List.replicate (2 - (lg_sl ([.ref (ad 0), .int a_1])).length) Slot.unset).toArray = ls at hl ⊢
  have hl : lv_has ls 2 [(0, .ref (ad 0)), (1, .int a_1)] := hl
  have hx := C.1.1
  have hb := C.1.2.1
  have h : (bn (up Y 12 (fun _ => (((Y 12 0) * (1664525 : Int32)) + (1013904223 : Int32)))) (fun w1 => dv a_1 (some (((((w1 12 0) &&& (2147483647 : Int32)) / (256 : Int32)) - (((w1 12 0) &&& (2147483647 : Int32)) / (256 : Int32)) / a_1 * a_1), w1)))) = some z := h
  refine lv_aload_n hx hb dX2_drawn_0 rfl (lv_at hl 0 rfl) ?_
  refine lv_aload_n hx hb dX2_drawn_1 rfl (lv_at hl 0 rfl) ?_
  refine tGet (T := TX2) (N := 13) (ci := 2) C hw inX2 12 0 rfl (by decide) kf_RX2_222 rfl rfl rfl dX2_drawn_2 ?_
  refine lv_ldc (v := 1664525) hx hb C.1.2.2.2.1 (C.1.2.2.2.2 _ kk_RX2_225) dX2_drawn_5 ?_
  refine lv_imul hx hb dX2_drawn_7 ?_
  refine lv_ldc (v := 1013904223) hx hb C.1.2.2.2.1 (C.1.2.2.2.2 _ kk_RX2_226) dX2_drawn_8 ?_
  refine lv_iadd hx hb dX2_drawn_10 ?_
  obtain ⟨w1, ew1⟩ : ∃ y : VS, y = up Y 12 (fun _ => (((Y 12 0) * (1664525 : Int32)) + (1013904223 : Int32))) := ⟨_, rfl⟩
  replace h := bn_some h ew1
  refine tPut (T := TX2) (N := 13) (ci := 2) (ws2 := (wM cA ad w1)) C hw inX2 tyX2 tyX2_ok nmX2 12 0 rfl (by decide) kf_RX2_222 rfl rfl rfl rfl rfl (Nat.le_of_ble_eq_true rfl) (by rw [ew1]; rfl) dX2_drawn_11 (fun H locs hw => ?_)
  refine lv_aload_n hx hb dX2_drawn_14 rfl (lv_at hl 0 rfl) ?_
  refine tGet (T := TX2) (N := 13) (ci := 2) C hw inX2 12 0 rfl (by decide) kf_RX2_222 rfl rfl rfl dX2_drawn_15 ?_
  refine lv_ldc (v := 2147483647) hx hb C.1.2.2.2.1 (C.1.2.2.2.2 _ kk_RX2_227) dX2_drawn_18 ?_
  refine lv_iand hx hb dX2_drawn_20 ?_
  refine lv_sipush (v := 256) hx hb dX2_drawn_21 (by decide) ?_
  refine lv_idiv hx hb dX2_drawn_24 (by decide) ?_
  refine lv_iload_n hx hb dX2_drawn_25 rfl (lv_at hl 1 rfl) ?_
  obtain ⟨hn2, h⟩ := dv_some h
  refine lv_irem hx hb dX2_drawn_26 hn2 ?_
  obtain rfl := some_e h
  exact rtI C hr hw dX2_drawn_27
abbrev rmX2_lots : Room := { frames := 6, cells := 0, slots := 0, locals := 137 }
theorem hdX2_lots : yX2_lots.cls = RX2 ∧ yX2_lots.cls ≠ "java/lang/invoke/MethodHandle" ∧ yX2_lots.cls ≠ "java/lang/invoke/VarHandle" ∧ (parseMethodDescriptor yX2_lots.desc).map (fun d => d.parameters.length) = some 3 := by decide +kernel
def GX2_lots_128 (p : Program) (l : Launch) (e : Env) (s : State) (m : MethodId) (args : Array Value) (below : List Frame) (meth : Method) (c : Code) (D : va_G) (cA : ClassId) (A : Nat → Prop) (ad : Nat → Nat) (z : (Int32 × VS)) (x : (VS) × (Int32) × (Int32) × (Int32) × (Int32) × (Int32)) : Prop := ∀ (H : Heap) (locs : List Loc) (ls : Array Slot), Wd D A s.heap (wM cA ad x.1) H locs → lv_has ls 7 [(0, .ref (ad 0)), (1, .int x.2.1), (3, .int x.2.2.1), (5, .int x.2.2.2.1)] → W p l e rmX2_lots s m args below meth c H locs 0 0 (MQ below (QI D cA A z.1 (wM cA ad z.2)) args s 0 0 A) (F0 m 128 ls [.int x.2.2.2.2.1, .int x.2.2.2.2.2])
def GX2_lots_72 (p : Program) (l : Launch) (e : Env) (s : State) (m : MethodId) (args : Array Value) (below : List Frame) (meth : Method) (c : Code) (D : va_G) (cA : ClassId) (A : Nat → Prop) (ad : Nat → Nat) (z : (Int32 × VS)) (x : (VS) × (Int32) × (Int32) × (Int32) × (Int32) × (Int32)) : Prop := ∀ (H : Heap) (locs : List Loc) (ls : Array Slot), Wd D A s.heap (wM cA ad x.1) H locs → lv_has ls 7 [(0, .ref (ad 0)), (1, .int x.2.1), (3, .int x.2.2.1), (4, .int x.2.2.2.1), (5, .int x.2.2.2.2.1), (6, .int x.2.2.2.2.2)] → W p l e rmX2_lots s m args below meth c H locs 0 0 (MQ below (QI D cA A z.1 (wM cA ad z.2)) args s 0 0 A) (F0 m 72 ls [])
def GX2_lots_52 (p : Program) (l : Launch) (e : Env) (s : State) (m : MethodId) (args : Array Value) (below : List Frame) (meth : Method) (c : Code) (D : va_G) (cA : ClassId) (A : Nat → Prop) (ad : Nat → Nat) (z : (Int32 × VS)) (x : (VS) × (Int32) × (Int32) × (Int32) × (Int32)) : Prop := ∀ (H : Heap) (locs : List Loc) (ls : Array Slot), Wd D A s.heap (wM cA ad x.1) H locs → lv_has ls 7 [(0, .ref (ad 0)), (1, .int x.2.1), (3, .int x.2.2.1), (4, .int x.2.2.2.1), (5, .int x.2.2.2.2)] → W p l e rmX2_lots s m args below meth c H locs 0 0 (MQ below (QI D cA A z.1 (wM cA ad z.2)) args s 0 0 A) (F0 m 52 ls [])
def fX2_lots_128 (k52 : ((VS) × (Int32) × (Int32) × (Int32) × (Int32)) → Option (Int32 × VS)) : ((VS) × (Int32) × (Int32) × (Int32) × (Int32) × (Int32)) → Option (Int32 × VS) := fun x => match x with | (Y, x_1, x_3, x_5, y_0, y_1) => bn (y_1 + y_0) (fun x1 => bn (x_5 + 1) (fun x2 => k52 (Y, x_1, x_3, x1, x2)))
def fX2_lots_72 (k52 : ((VS) × (Int32) × (Int32) × (Int32) × (Int32)) → Option (Int32 × VS)) (k72 : ((VS) × (Int32) × (Int32) × (Int32) × (Int32) × (Int32)) → Option (Int32 × VS)) : ((VS) × (Int32) × (Int32) × (Int32) × (Int32) × (Int32)) → Option (Int32 × VS) := fun x => match x with | (Y, x_1, x_3, x_4, x_5, x_6) => if 8 ≤ x_6 then if x_3 = 0 then cl (fX2_wholeOnes (Y 1)) (fun r4 => fX2_lots_128 k52 (Y, x_1, x_3, x_5, r4, x_4)) else cl (fX2_allWords (Y 1)) (fun r3 => fX2_lots_128 k52 (Y, x_1, x_3, x_5, r3, x_4)) else cl (fX2_drawn Y 10) (fun q5 => ck 81 4 (bn (up q5.2 1 (upd (q5.2 1) (4 : Int32).toNatClampNeg q5.1)) (fun w6 => cl (fX2_night (w6 1) (-1)) (fun w7 => bn (up w6 1 w7) (fun w8 => bn (x_6 + 1) (fun x9 => k72 (w8, x_1, x_3, x_4, x_5, x9)))))))
def fX2_lots_52 (k52 : ((VS) × (Int32) × (Int32) × (Int32) × (Int32)) → Option (Int32 × VS)) : ((VS) × (Int32) × (Int32) × (Int32) × (Int32)) → Option (Int32 × VS) := fun x => match x with | (Y, x_1, x_3, x_4, x_5) => if x_1 ≤ x_5 then some (x_4, Y) else cl (fX2_copies (Y 0) (Y 1)) (fun w2 => bn (up Y 1 w2) (fun w3 => lp (fX2_lots_72 k52) 5000 (w3, x_1, x_3, x_4, x_5, 0)))
def fX2_lots (Y : VS) (a_1 : Int32) (a_2 : Int32) (a_3 : Int32) : Option (Int32 × VS) := if 1 ≤ a_1 then if a_1 ≤ 20 then cl (fX2_isIn a_3 0 1) (fun r3 => if r3 = 0 then cl (fX2_no Y (-2)) (fun q6 => some (q6.1, q6.2)) else bn (up Y 12 (fun _ => a_2)) (fun w5 => lp (fX2_lots_52) 5000 (w5, a_1, a_3, 0, 0))) else cl (fX2_no Y (-6)) (fun q7 => some (q7.1, q7.2)) else cl (fX2_no Y (-4)) (fun q8 => some (q8.1, q8.2))
set_option maxHeartbeats 4000000 in
set_option maxRecDepth 100000 in
theorem kX2_lots_128 (C : Cx p s m args meth c cX2_lots 7 RX2 D cA g A) (hr : meth.sig.returnType = (some .int)) {z : (Int32 × VS)} (k52 : ((VS) × (Int32) × (Int32) × (Int32) × (Int32)) → Option (Int32 × VS)) (hk52 : ∀ x, k52 x = some z → GX2_lots_52 p l e s m args below meth c D cA A ad z x) (x : (VS) × (Int32) × (Int32) × (Int32) × (Int32) × (Int32)) (h : fX2_lots_128 k52 x = some z) : GX2_lots_128 p l e s m args below meth c D cA A ad z x := by
  obtain ⟨Y, x_1, x_3, x_5, y_0, y_1⟩ := x
  intro H locs ls hw hl
  have hw : Wd D A s.heap (wM cA ad Y) H locs := hw
  have hl : lv_has ls 7 [(0, .ref (ad 0)), (1, .int x_1), (3, .int x_3), (5, .int x_5)] := hl
  show W p l e rmX2_lots s m args below meth c H locs 0 0 (MQ below (QI D cA A z.1 (wM cA ad z.2)) args s 0 0 A) (F0 m 128 ls [.int y_0, .int y_1])
  have hx := C.1.1
  have hb := C.1.2.1
  have h : (bn (y_1 + y_0) (fun x1 => bn (x_5 + 1) (fun x2 => k52 (Y, x_1, x_3, x1, x2)))) = some z := h
  refine lv_iadd hx hb dX2_lots_128 ?_
  refine lv_topi (fun x1 ex1 => ?_)
  replace h := bn_some h ex1
  refine lv_istore (lv' := [(4, .int x1), (0, .ref (ad 0)), (1, .int x_1), (3, .int x_3), (5, .int x_5)]) hx hb dX2_lots_129 hl (by decide) rfl (fun ls hl => ?_)
  obtain ⟨x2, ex2⟩ : ∃ y : Int32, y = x_5 + 1 := ⟨_, rfl⟩
  replace h := bn_some h ex2
  refine lv_iinc (v := x2) (lv' := [(5, .int x2), (4, .int x1), (0, .ref (ad 0)), (1, .int x_1), (3, .int x_3)]) hx hb dX2_lots_131 hl (k := 4) rfl (by rw [ex2]; rfl) (by decide) rfl (fun ls hl => ?_)
  refine lv_goto (tgt := 52) hx hb dX2_lots_134 (by decide) ?_
  exact hk52 (Y, x_1, x_3, x1, x2) h _ _ _ hw (lv_sub hl [2, 3, 4, 1, 0] rfl)
set_option maxHeartbeats 4000000 in
set_option maxRecDepth 100000 in
theorem kX2_lots_72 (C : Cx p s m args meth c cX2_lots 7 RX2 D cA g A) (hr : meth.sig.returnType = (some .int)) {z : (Int32 × VS)} (k52 : ((VS) × (Int32) × (Int32) × (Int32) × (Int32)) → Option (Int32 × VS)) (hk52 : ∀ x, k52 x = some z → GX2_lots_52 p l e s m args below meth c D cA A ad z x) (k72 : ((VS) × (Int32) × (Int32) × (Int32) × (Int32) × (Int32)) → Option (Int32 × VS)) (hk72 : ∀ x, k72 x = some z → GX2_lots_72 p l e s m args below meth c D cA A ad z x) (x : (VS) × (Int32) × (Int32) × (Int32) × (Int32) × (Int32)) (h : fX2_lots_72 k52 k72 x = some z) : GX2_lots_72 p l e s m args below meth c D cA A ad z x := by
  obtain ⟨Y, x_1, x_3, x_4, x_5, x_6⟩ := x
  intro H locs ls hw hl
  have hw : Wd D A s.heap (wM cA ad Y) H locs := hw
  have hl : lv_has ls 7 [(0, .ref (ad 0)), (1, .int x_1), (3, .int x_3), (4, .int x_4), (5, .int x_5), (6, .int x_6)] := hl
  have hx := C.1.1
  have hb := C.1.2.1
  have h : (if 8 ≤ x_6 then if x_3 = 0 then cl (fX2_wholeOnes (Y 1)) (fun r4 => fX2_lots_128 k52 (Y, x_1, x_3, x_5, r4, x_4)) else cl (fX2_allWords (Y 1)) (fun r3 => fX2_lots_128 k52 (Y, x_1, x_3, x_5, r3, x_4)) else cl (fX2_drawn Y 10) (fun q5 => ck 81 4 (bn (up q5.2 1 (upd (q5.2 1) (4 : Int32).toNatClampNeg q5.1)) (fun w6 => cl (fX2_night (w6 1) (-1)) (fun w7 => bn (up w6 1 w7) (fun w8 => bn (x_6 + 1) (fun x9 => k72 (w8, x_1, x_3, x_4, x_5, x9)))))))) = some z := h
  refine lv_iload hx hb dX2_lots_72 (lv_at hl 5 rfl) ?_
  refine lv_bipush (v := 8) hx hb dX2_lots_74 (by decide) ?_
  refine lv_icmp_ge (tgt := 105) hx hb dX2_lots_76 (by decide) (fun c1 => ?_) (fun c1 => ?_)
  · replace h := (if_pos c1).symm.trans h
    refine lv_iload hx hb dX2_lots_105 (lv_at hl 3 rfl) ?_
    refine lv_iload_n hx hb dX2_lots_107 rfl (lv_at hl 2 rfl) ?_
    refine lv_if_ne (tgt := 121) hx hb dX2_lots_108 (by decide) (fun c2 => ?_) (fun c2 => ?_)
    · replace h := (if_neg c2).symm.trans h
      refine lv_aload_n hx hb dX2_lots_121 rfl (lv_at hl 0 rfl) ?_
      refine tGet (T := TX2) (N := 13) (ci := 2) C hw inX2 1 0 rfl (by decide) kf_RX2_13 rfl rfl rfl dX2_lots_122 ?_
      obtain ⟨r3, hr3, h⟩ := cl_some h
      refine cSi (ws2 := (wM cA ad Y)) (As := [.ref (ad 2)]) (rest := [.int x_4]) C hw jM1r (kX2_allWords (ad 2) hr3) kl_RX2_183 kt_yX2_allWords kn_RX2 kc_yX2_allWords ⟨rfl, rfl⟩ hdX2_allWords ⟨Nat.le_of_ble_eq_true rfl, Nat.le_of_ble_eq_true rfl⟩ rfl hl.1 (Nat.le_of_ble_eq_true rfl) dX2_lots_125 ⟨Nat.zero_le _, Nat.zero_le _⟩ (fun H locs hw => ?_)
      exact kX2_lots_128 C hr k52 hk52 (Y, x_1, x_3, x_5, r3, x_4) h _ _ _ hw (lv_sub hl [0, 1, 2, 4] rfl)
    · replace h := (if_pos c2).symm.trans h
      refine lv_aload_n hx hb dX2_lots_111 rfl (lv_at hl 0 rfl) ?_
      refine tGet (T := TX2) (N := 13) (ci := 2) C hw inX2 1 0 rfl (by decide) kf_RX2_13 rfl rfl rfl dX2_lots_112 ?_
      obtain ⟨r4, hr4, h⟩ := cl_some h
      refine cSi (ws2 := (wM cA ad Y)) (As := [.ref (ad 2)]) (rest := [.int x_4]) C hw jM1r (kX2_wholeOnes (ad 2) hr4) kl_RX2_180 kt_yX2_wholeOnes kn_RX2 kc_yX2_wholeOnes ⟨rfl, rfl⟩ hdX2_wholeOnes ⟨Nat.le_of_ble_eq_true rfl, Nat.le_of_ble_eq_true rfl⟩ rfl hl.1 (Nat.le_of_ble_eq_true rfl) dX2_lots_115 ⟨Nat.zero_le _, Nat.zero_le _⟩ (fun H locs hw => ?_)
      refine lv_goto (tgt := 128) hx hb dX2_lots_118 (by decide) ?_
      exact kX2_lots_128 C hr k52 hk52 (Y, x_1, x_3, x_5, r4, x_4) h _ _ _ hw (lv_sub hl [0, 1, 2, 4] rfl)
  · replace h := (if_neg c1).symm.trans h
    refine lv_aload_n hx hb dX2_lots_79 rfl (lv_at hl 0 rfl) ?_
    refine tGet (T := TX2) (N := 13) (ci := 2) C hw inX2 1 0 rfl (by decide) kf_RX2_13 rfl rfl rfl dX2_lots_80 ?_
    refine lv_iconst (v := 4) hx hb dX2_lots_83 (by decide) ?_
    refine lv_aload_n hx hb dX2_lots_84 rfl (lv_at hl 0 rfl) ?_
    refine lv_bipush (v := 10) hx hb dX2_lots_85 (by decide) ?_
    obtain ⟨q5, hq5, h⟩ := cl_some h
    refine cVi (ws2 := (wM cA ad q5.2)) (As := [.int 10]) (rest := [.int 4, .ref (ad 2)]) C hw jnW (kX2_drawn ad hq5) kl_RX2_228 ki_yX2_drawn ks_yX2_drawn kn_RX2 kc_yX2_drawn ⟨rfl, rfl⟩ hdX2_drawn ⟨Nat.le_of_ble_eq_true rfl, Nat.le_of_ble_eq_true rfl⟩ (ci := 2) (q0 := 0) rfl rfl rfl rfl hl.1 (Nat.le_of_ble_eq_true rfl) dX2_lots_87 ⟨Nat.zero_le _, Nat.zero_le _⟩ (fun H locs hw => ?_)
    obtain ⟨iw6, h⟩ := ck_some h
    obtain ⟨w6, ew6⟩ : ∃ y : VS, y = up q5.2 1 (upd (q5.2 1) (4 : Int32).toNatClampNeg q5.1) := ⟨_, rfl⟩
    replace h := bn_some h ew6
    refine tSt (ws2 := (wM cA ad w6)) C hw 2 rfl iw6 (by rw [ew6]; rfl) dX2_lots_90 (fun H locs hw => ?_)
    refine lv_aload_n hx hb dX2_lots_91 rfl (lv_at hl 0 rfl) ?_
    refine tGet (T := TX2) (N := 13) (ci := 2) C hw inX2 1 0 rfl (by decide) kf_RX2_13 rfl rfl rfl dX2_lots_92 ?_
    refine lv_iconst (v := (-1)) hx hb dX2_lots_95 (by decide) ?_
    obtain ⟨w7, hw7, h⟩ := cl_some h
    obtain ⟨w8, ew8⟩ : ∃ y : VS, y = up w6 1 w7 := ⟨_, rfl⟩
    replace h := bn_some h ew8
    refine cSv (ws2 := (wM cA ad w8)) (As := [.ref (ad 2), .int (-1)]) (rest := []) C hw (by rw [ew8]; exact jM1) (kX2_night (ad 2) hw7) kl_RX2_87 kt_yX2_night kn_RX2 kc_yX2_night ⟨rfl, rfl⟩ hdX2_night ⟨Nat.le_of_ble_eq_true rfl, Nat.le_of_ble_eq_true rfl⟩ rfl hl.1 (Nat.le_of_ble_eq_true rfl) dX2_lots_96 ⟨Nat.zero_le _, Nat.zero_le _⟩ (fun H locs hw => ?_)
    obtain ⟨x9, ex9⟩ : ∃ y : Int32, y = x_6 + 1 := ⟨_, rfl⟩
    replace h := bn_some h ex9
    refine lv_iinc (v := x9) (lv' := [(6, .int x9), (0, .ref (ad 0)), (1, .int x_1), (3, .int x_3), (4, .int x_4), (5, .int x_5)]) hx hb dX2_lots_99 hl (k := 5) rfl (by rw [ex9]; rfl) (by decide) rfl (fun ls hl => ?_)
    refine lv_goto (tgt := 72) hx hb dX2_lots_102 (by decide) ?_
    exact hk72 (w8, x_1, x_3, x_4, x_5, x9) h _ _ _ hw (lv_sub hl [1, 2, 3, 4, 5, 0] rfl)
theorem lX2_lots_72 (C : Cx p s m args meth c cX2_lots 7 RX2 D cA g A) (hr : meth.sig.returnType = (some .int)) {z : (Int32 × VS)} (k52 : ((VS) × (Int32) × (Int32) × (Int32) × (Int32)) → Option (Int32 × VS)) (hk52 : ∀ x, k52 x = some z → GX2_lots_52 p l e s m args below meth c D cA A ad z x) (n : Nat) (x : (VS) × (Int32) × (Int32) × (Int32) × (Int32) × (Int32)) (h : lp (fX2_lots_72 k52) n x = some z) : GX2_lots_72 p l e s m args below meth c D cA A ad z x := lp_ok (GX2_lots_72 p l e s m args below meth c D cA A ad z) (fun kq hkq x h => kX2_lots_72 C hr k52 hk52 kq hkq x h) n x h
set_option maxHeartbeats 4000000 in
set_option maxRecDepth 100000 in
theorem kX2_lots_52 (C : Cx p s m args meth c cX2_lots 7 RX2 D cA g A) (hr : meth.sig.returnType = (some .int)) {z : (Int32 × VS)} (k52 : ((VS) × (Int32) × (Int32) × (Int32) × (Int32)) → Option (Int32 × VS)) (hk52 : ∀ x, k52 x = some z → GX2_lots_52 p l e s m args below meth c D cA A ad z x) (x : (VS) × (Int32) × (Int32) × (Int32) × (Int32)) (h : fX2_lots_52 k52 x = some z) : GX2_lots_52 p l e s m args below meth c D cA A ad z x := by
  obtain ⟨Y, x_1, x_3, x_4, x_5⟩ := x
  intro H locs ls hw hl
  have hw : Wd D A s.heap (wM cA ad Y) H locs := hw
  have hl : lv_has ls 7 [(0, .ref (ad 0)), (1, .int x_1), (3, .int x_3), (4, .int x_4), (5, .int x_5)] := hl
  have hx := C.1.1
  have hb := C.1.2.1
  have h : (if x_1 ≤ x_5 then some (x_4, Y) else cl (fX2_copies (Y 0) (Y 1)) (fun w2 => bn (up Y 1 w2) (fun w3 => lp (fX2_lots_72 k52) 5000 (w3, x_1, x_3, x_4, x_5, 0)))) = some z := h
  refine lv_iload hx hb dX2_lots_52 (lv_at hl 4 rfl) ?_
  refine lv_iload_n hx hb dX2_lots_54 rfl (lv_at hl 1 rfl) ?_
  refine lv_icmp_ge (tgt := 137) hx hb dX2_lots_55 (by decide) (fun c1 => ?_) (fun c1 => ?_)
  · replace h := (if_pos c1).symm.trans h
    refine lv_iload hx hb dX2_lots_137 (lv_at hl 3 rfl) ?_
    obtain rfl := some_e h
    exact rtI C hr hw dX2_lots_139
  · replace h := (if_neg c1).symm.trans h
    refine lv_aload_n hx hb dX2_lots_58 rfl (lv_at hl 0 rfl) ?_
    refine tGet (T := TX2) (N := 13) (ci := 2) C hw inX2 0 0 rfl (by decide) kf_RX2_9 rfl rfl rfl dX2_lots_59 ?_
    refine lv_aload_n hx hb dX2_lots_62 rfl (lv_at hl 0 rfl) ?_
    refine tGet (T := TX2) (N := 13) (ci := 2) C hw inX2 1 0 rfl (by decide) kf_RX2_13 rfl rfl rfl dX2_lots_63 ?_
    obtain ⟨w2, hw2, h⟩ := cl_some h
    obtain ⟨w3, ew3⟩ : ∃ y : VS, y = up Y 1 w2 := ⟨_, rfl⟩
    replace h := bn_some h ew3
    refine cSv (ws2 := (wM cA ad w3)) (As := [.ref (ad 1), .ref (ad 2)]) (rest := []) C hw (by rw [ew3]; exact jMM01) (kX2_copies (ad 1) (ad 2) hw2) kl_RX2_134 kt_yX2_copies kn_RX2 kc_yX2_copies ⟨rfl, rfl⟩ hdX2_copies ⟨Nat.le_of_ble_eq_true rfl, Nat.le_of_ble_eq_true rfl⟩ rfl hl.1 (Nat.le_of_ble_eq_true rfl) dX2_lots_66 ⟨Nat.zero_le _, Nat.zero_le _⟩ (fun H locs hw => ?_)
    refine lv_iconst (v := 0) hx hb dX2_lots_69 (by decide) ?_
    refine lv_istore (lv' := [(6, .int 0), (0, .ref (ad 0)), (1, .int x_1), (3, .int x_3), (4, .int x_4), (5, .int x_5)]) hx hb dX2_lots_70 hl (by decide) rfl (fun ls hl => ?_)
    exact lX2_lots_72 C hr k52 hk52 5000 (w3, x_1, x_3, x_4, x_5, 0) h _ _ _ hw (lv_sub hl [1, 2, 3, 4, 5, 0] rfl)
theorem lX2_lots_52 (C : Cx p s m args meth c cX2_lots 7 RX2 D cA g A) (hr : meth.sig.returnType = (some .int)) {z : (Int32 × VS)} (n : Nat) (x : (VS) × (Int32) × (Int32) × (Int32) × (Int32)) (h : lp (fX2_lots_52) n x = some z) : GX2_lots_52 p l e s m args below meth c D cA A ad z x := lp_ok (GX2_lots_52 p l e s m args below meth c D cA A ad z) (fun kq hkq x h => kX2_lots_52 C hr kq hkq x h) n x h
set_option maxHeartbeats 4000000 in
set_option maxRecDepth 100000 in
theorem kX2_lots (ad : Nat → Nat) {Y : VS} {a_1 : Int32} {a_2 : Int32} {a_3 : Int32} {z : (Int32 × VS)} (h : fX2_lots Y a_1 a_2 a_3 = some z) : MI l D cA g yX2_lots (Cond.code yX2_lots cX2_lots 7 (some .int) :: lw_g) rmX2_lots [.ref (ad 0), .int a_1, .int a_2, .int a_3] (wM cA ad Y) z.1 (wM cA ad z.2) := by
  intro sz
  refine Met.ofW (cc := cX2_lots) (maxL := 7) (ret := (some .int)) (by decide) rfl ?_
  intro p e s m args below meth c s₁ B hml hv
  obtain ⟨rfl, C, hr, hw⟩ := ent B hml hv
  generalize va_A (wM cA ad Y) sz = A at C hw ⊢
  have hl := lv_entry ([.ref (ad 0), .int a_1, .int a_2, .int a_3]) (n := 7) (Nat.le_of_ble_eq_true rfl)
  rw [lg_entry_eq]
  generalize (lg_sl ([.ref (ad 0), .int a_1, .int a_2, .int a_3]) ++ List.replicate (7 - (lg_sl ([.ref (ad 0), .int a_1, .int a_2, .int a_3])).length) Slot.unset).toArray = ls at hl ⊢
  have hl : lv_has ls 7 [(0, .ref (ad 0)), (1, .int a_1), (2, .int a_2), (3, .int a_3)] := hl
  have hx := C.1.1
  have hb := C.1.2.1
  have h : (if 1 ≤ a_1 then if a_1 ≤ 20 then cl (fX2_isIn a_3 0 1) (fun r3 => if r3 = 0 then cl (fX2_no Y (-2)) (fun q6 => some (q6.1, q6.2)) else bn (up Y 12 (fun _ => a_2)) (fun w5 => lp (fX2_lots_52) 5000 (w5, a_1, a_3, 0, 0))) else cl (fX2_no Y (-6)) (fun q7 => some (q7.1, q7.2)) else cl (fX2_no Y (-4)) (fun q8 => some (q8.1, q8.2))) = some z := h
  refine lv_iload_n hx hb dX2_lots_0 rfl (lv_at hl 1 rfl) ?_
  refine lv_iconst (v := 1) hx hb dX2_lots_1 (by decide) ?_
  refine lv_icmp_ge (tgt := 12) hx hb dX2_lots_2 (by decide) (fun c1 => ?_) (fun c1 => ?_)
  · replace h := (if_pos c1).symm.trans h
    refine lv_iload_n hx hb dX2_lots_12 rfl (lv_at hl 1 rfl) ?_
    refine lv_bipush (v := 20) hx hb dX2_lots_13 (by decide) ?_
    refine lv_icmp_le (tgt := 25) hx hb dX2_lots_15 (by decide) (fun c2 => ?_) (fun c2 => ?_)
    · replace h := (if_pos c2).symm.trans h
      refine lv_iload_n hx hb dX2_lots_25 rfl (lv_at hl 3 rfl) ?_
      refine lv_iconst (v := 0) hx hb dX2_lots_26 (by decide) ?_
      refine lv_iconst (v := 1) hx hb dX2_lots_27 (by decide) ?_
      obtain ⟨r3, hr3, h⟩ := cl_some h
      refine cSi (ws2 := (wM cA ad Y)) (As := [.int a_3, .int 0, .int 1]) (rest := []) C hw jnE (kX2_isIn hr3) kl_RX2_40 kt_yX2_isIn kn_RX2 kc_yX2_isIn ⟨rfl, rfl⟩ hdX2_isIn ⟨Nat.le_of_ble_eq_true rfl, Nat.le_of_ble_eq_true rfl⟩ rfl hl.1 (Nat.le_of_ble_eq_true rfl) dX2_lots_28 ⟨Nat.zero_le _, Nat.zero_le _⟩ (fun H locs hw => ?_)
      refine lv_if_ne (tgt := 41) hx hb dX2_lots_31 (by decide) (fun c4 => ?_) (fun c4 => ?_)
      · replace h := (if_neg c4).symm.trans h
        refine lv_aload_n hx hb dX2_lots_41 rfl (lv_at hl 0 rfl) ?_
        refine lv_iload_n hx hb dX2_lots_42 rfl (lv_at hl 2 rfl) ?_
        obtain ⟨w5, ew5⟩ : ∃ y : VS, y = up Y 12 (fun _ => a_2) := ⟨_, rfl⟩
        replace h := bn_some h ew5
        refine tPut (T := TX2) (N := 13) (ci := 2) (ws2 := (wM cA ad w5)) C hw inX2 tyX2 tyX2_ok nmX2 12 0 rfl (by decide) kf_RX2_222 rfl rfl rfl rfl rfl (Nat.le_of_ble_eq_true rfl) (by rw [ew5]; rfl) dX2_lots_43 (fun H locs hw => ?_)
        refine lv_iconst (v := 0) hx hb dX2_lots_46 (by decide) ?_
        refine lv_istore (lv' := [(4, .int 0), (0, .ref (ad 0)), (1, .int a_1), (2, .int a_2), (3, .int a_3)]) hx hb dX2_lots_47 hl (by decide) rfl (fun ls hl => ?_)
        refine lv_iconst (v := 0) hx hb dX2_lots_49 (by decide) ?_
        refine lv_istore (lv' := [(5, .int 0), (4, .int 0), (0, .ref (ad 0)), (1, .int a_1), (2, .int a_2), (3, .int a_3)]) hx hb dX2_lots_50 hl (by decide) rfl (fun ls hl => ?_)
        exact lX2_lots_52 C hr 5000 (w5, a_1, a_3, 0, 0) h _ _ _ hw (lv_sub hl [2, 3, 5, 1, 0] rfl)
      · replace h := (if_pos c4).symm.trans h
        refine lv_aload_n hx hb dX2_lots_34 rfl (lv_at hl 0 rfl) ?_
        refine lv_bipush (v := (-2)) hx hb dX2_lots_35 (by decide) ?_
        obtain ⟨q6, hq6, h⟩ := cl_some h
        refine cVi (ws2 := (wM cA ad q6.2)) (As := [.int (-2)]) (rest := []) C hw jnW (kX2_no ad hq6) kl_RX2_36 ki_yX2_no ks_yX2_no kn_RX2 kc_yX2_no ⟨rfl, rfl⟩ hdX2_no ⟨Nat.le_of_ble_eq_true rfl, Nat.le_of_ble_eq_true rfl⟩ (ci := 2) (q0 := 0) rfl rfl rfl rfl hl.1 (Nat.le_of_ble_eq_true rfl) dX2_lots_37 ⟨Nat.zero_le _, Nat.zero_le _⟩ (fun H locs hw => ?_)
        obtain rfl := some_e h
        exact rtI C hr hw dX2_lots_40
    · replace h := (if_neg c2).symm.trans h
      refine lv_aload_n hx hb dX2_lots_18 rfl (lv_at hl 0 rfl) ?_
      refine lv_bipush (v := (-6)) hx hb dX2_lots_19 (by decide) ?_
      obtain ⟨q7, hq7, h⟩ := cl_some h
      refine cVi (ws2 := (wM cA ad q7.2)) (As := [.int (-6)]) (rest := []) C hw jnW (kX2_no ad hq7) kl_RX2_36 ki_yX2_no ks_yX2_no kn_RX2 kc_yX2_no ⟨rfl, rfl⟩ hdX2_no ⟨Nat.le_of_ble_eq_true rfl, Nat.le_of_ble_eq_true rfl⟩ (ci := 2) (q0 := 0) rfl rfl rfl rfl hl.1 (Nat.le_of_ble_eq_true rfl) dX2_lots_21 ⟨Nat.zero_le _, Nat.zero_le _⟩ (fun H locs hw => ?_)
      obtain rfl := some_e h
      exact rtI C hr hw dX2_lots_24
  · replace h := (if_neg c1).symm.trans h
    refine lv_aload_n hx hb dX2_lots_5 rfl (lv_at hl 0 rfl) ?_
    refine lv_bipush (v := (-4)) hx hb dX2_lots_6 (by decide) ?_
    obtain ⟨q8, hq8, h⟩ := cl_some h
    refine cVi (ws2 := (wM cA ad q8.2)) (As := [.int (-4)]) (rest := []) C hw jnW (kX2_no ad hq8) kl_RX2_36 ki_yX2_no ks_yX2_no kn_RX2 kc_yX2_no ⟨rfl, rfl⟩ hdX2_no ⟨Nat.le_of_ble_eq_true rfl, Nat.le_of_ble_eq_true rfl⟩ (ci := 2) (q0 := 0) rfl rfl rfl rfl hl.1 (Nat.le_of_ble_eq_true rfl) dX2_lots_8 ⟨Nat.zero_le _, Nat.zero_le _⟩ (fun H locs hw => ?_)
    obtain rfl := some_e h
    exact rtI C hr hw dX2_lots_11
abbrev rmX2_image : Room := { frames := 1, cells := 0, slots := 0, locals := 22 }
theorem hdX2_image : yX2_image.cls = RX2 ∧ yX2_image.cls ≠ "java/lang/invoke/MethodHandle" ∧ yX2_image.cls ≠ "java/lang/invoke/VarHandle" ∧ (parseMethodDescriptor yX2_image.desc).map (fun d => d.parameters.length) = some 0 := by decide +kernel
def fX2_image (Y : VS) : Option (Int32 × VS) := cl (fX2_copies (Y 0) (Y 2)) (fun w1 => bn (up Y 2 w1) (fun w2 => bn (up w2 4 (fun _ => 1)) (fun w3 => rd 81 (w3 0) 2 (fun r4 => some (r4, w3)))))
set_option maxHeartbeats 4000000 in
set_option maxRecDepth 100000 in
theorem kX2_image (ad : Nat → Nat) {Y : VS} {z : (Int32 × VS)} (h : fX2_image Y = some z) : MI l D cA g yX2_image (Cond.code yX2_image cX2_image 1 (some .int) :: lw_g) rmX2_image [.ref (ad 0)] (wM cA ad Y) z.1 (wM cA ad z.2) := by
  intro sz
  refine Met.ofW (cc := cX2_image) (maxL := 1) (ret := (some .int)) (by decide) rfl ?_
  intro p e s m args below meth c s₁ B hml hv
  obtain ⟨rfl, C, hr, hw⟩ := ent B hml hv
  generalize va_A (wM cA ad Y) sz = A at C hw ⊢
  have hl := lv_entry ([.ref (ad 0)]) (n := 1) (Nat.le_of_ble_eq_true rfl)
  rw [lg_entry_eq]
  generalize (lg_sl ([.ref (ad 0)]) ++ List.replicate (1 - (lg_sl ([.ref (ad 0)])).length) Slot.unset).toArray = ls at hl ⊢
  have hl : lv_has ls 1 [(0, .ref (ad 0))] := hl
  have hx := C.1.1
  have hb := C.1.2.1
  have h : (cl (fX2_copies (Y 0) (Y 2)) (fun w1 => bn (up Y 2 w1) (fun w2 => bn (up w2 4 (fun _ => 1)) (fun w3 => rd 81 (w3 0) 2 (fun r4 => some (r4, w3)))))) = some z := h
  refine lv_aload_n hx hb dX2_image_0 rfl (lv_at hl 0 rfl) ?_
  refine tGet (T := TX2) (N := 13) (ci := 2) C hw inX2 0 0 rfl (by decide) kf_RX2_9 rfl rfl rfl dX2_image_1 ?_
  refine lv_aload_n hx hb dX2_image_4 rfl (lv_at hl 0 rfl) ?_
  refine tGet (T := TX2) (N := 13) (ci := 2) C hw inX2 2 0 rfl (by decide) kf_RX2_16 rfl rfl rfl dX2_image_5 ?_
  obtain ⟨w1, hw1, h⟩ := cl_some h
  obtain ⟨w2, ew2⟩ : ∃ y : VS, y = up Y 2 w1 := ⟨_, rfl⟩
  replace h := bn_some h ew2
  refine cSv (ws2 := (wM cA ad w2)) (As := [.ref (ad 1), .ref (ad 3)]) (rest := []) C hw (by rw [ew2]; exact jMM02) (kX2_copies (ad 1) (ad 3) hw1) kl_RX2_134 kt_yX2_copies kn_RX2 kc_yX2_copies ⟨rfl, rfl⟩ hdX2_copies ⟨Nat.le_of_ble_eq_true rfl, Nat.le_of_ble_eq_true rfl⟩ rfl hl.1 (Nat.le_of_ble_eq_true rfl) dX2_image_8 ⟨Nat.zero_le _, Nat.zero_le _⟩ (fun H locs hw => ?_)
  refine lv_aload_n hx hb dX2_image_11 rfl (lv_at hl 0 rfl) ?_
  refine lv_iconst (v := 1) hx hb dX2_image_12 (by decide) ?_
  obtain ⟨w3, ew3⟩ : ∃ y : VS, y = up w2 4 (fun _ => 1) := ⟨_, rfl⟩
  replace h := bn_some h ew3
  refine tPut (T := TX2) (N := 13) (ci := 2) (ws2 := (wM cA ad w3)) C hw inX2 tyX2 tyX2_ok nmX2 4 0 rfl (by decide) kf_RX2_231 rfl rfl rfl rfl rfl (Nat.le_of_ble_eq_true rfl) (by rw [ew3]; rfl) dX2_image_13 (fun H locs hw => ?_)
  refine lv_aload_n hx hb dX2_image_16 rfl (lv_at hl 0 rfl) ?_
  refine tGet (T := TX2) (N := 13) (ci := 2) C hw inX2 0 0 rfl (by decide) kf_RX2_9 rfl rfl rfl dX2_image_17 ?_
  refine lv_iconst (v := 2) hx hb dX2_image_20 (by decide) ?_
  obtain ⟨r4, ir4, er4, h⟩ := rd_some h
  refine tLd C hw 1 rfl ir4 er4 dX2_image_21 ?_
  obtain rfl := some_e h
  exact rtI C hr hw dX2_image_22
abbrev rmX2_on : Room := { frames := 1, cells := 0, slots := 0, locals := 22 }
theorem hdX2_on : yX2_on.cls = RX2 ∧ yX2_on.cls ≠ "java/lang/invoke/MethodHandle" ∧ yX2_on.cls ≠ "java/lang/invoke/VarHandle" ∧ (parseMethodDescriptor yX2_on.desc).map (fun d => d.parameters.length) = some 0 := by decide +kernel
def fX2_on (Y : VS) : Option (Int32 × VS) := if (Y 4 0) = 0 then cl (fX2_no Y (-3)) (fun q5 => some (q5.1, q5.2)) else cl (fX2_copies (Y 2) (Y 0)) (fun w2 => bn (up Y 0 w2) (fun w3 => rd 81 (w3 0) 2 (fun r4 => some (r4, w3))))
set_option maxHeartbeats 4000000 in
set_option maxRecDepth 100000 in
theorem kX2_on (ad : Nat → Nat) {Y : VS} {z : (Int32 × VS)} (h : fX2_on Y = some z) : MI l D cA g yX2_on (Cond.code yX2_on cX2_on 1 (some .int) :: lw_g) rmX2_on [.ref (ad 0)] (wM cA ad Y) z.1 (wM cA ad z.2) := by
  intro sz
  refine Met.ofW (cc := cX2_on) (maxL := 1) (ret := (some .int)) (by decide) rfl ?_
  intro p e s m args below meth c s₁ B hml hv
  obtain ⟨rfl, C, hr, hw⟩ := ent B hml hv
  generalize va_A (wM cA ad Y) sz = A at C hw ⊢
  have hl := lv_entry ([.ref (ad 0)]) (n := 1) (Nat.le_of_ble_eq_true rfl)
  rw [lg_entry_eq]
  generalize (lg_sl ([.ref (ad 0)]) ++ List.replicate (1 - (lg_sl ([.ref (ad 0)])).length) Slot.unset).toArray = ls at hl ⊢
  have hl : lv_has ls 1 [(0, .ref (ad 0))] := hl
  have hx := C.1.1
  have hb := C.1.2.1
  have h : (if (Y 4 0) = 0 then cl (fX2_no Y (-3)) (fun q5 => some (q5.1, q5.2)) else cl (fX2_copies (Y 2) (Y 0)) (fun w2 => bn (up Y 0 w2) (fun w3 => rd 81 (w3 0) 2 (fun r4 => some (r4, w3))))) = some z := h
  refine lv_aload_n hx hb dX2_on_0 rfl (lv_at hl 0 rfl) ?_
  refine tGet (T := TX2) (N := 13) (ci := 2) C hw inX2 4 0 rfl (by decide) kf_RX2_231 rfl rfl rfl dX2_on_1 ?_
  refine lv_if_ne (tgt := 14) hx hb dX2_on_4 (by decide) (fun c1 => ?_) (fun c1 => ?_)
  · replace h := (if_neg c1).symm.trans h
    refine lv_aload_n hx hb dX2_on_14 rfl (lv_at hl 0 rfl) ?_
    refine tGet (T := TX2) (N := 13) (ci := 2) C hw inX2 2 0 rfl (by decide) kf_RX2_16 rfl rfl rfl dX2_on_15 ?_
    refine lv_aload_n hx hb dX2_on_18 rfl (lv_at hl 0 rfl) ?_
    refine tGet (T := TX2) (N := 13) (ci := 2) C hw inX2 0 0 rfl (by decide) kf_RX2_9 rfl rfl rfl dX2_on_19 ?_
    obtain ⟨w2, hw2, h⟩ := cl_some h
    obtain ⟨w3, ew3⟩ : ∃ y : VS, y = up Y 0 w2 := ⟨_, rfl⟩
    replace h := bn_some h ew3
    refine cSv (ws2 := (wM cA ad w3)) (As := [.ref (ad 3), .ref (ad 1)]) (rest := []) C hw (by rw [ew3]; exact jMM20) (kX2_copies (ad 3) (ad 1) hw2) kl_RX2_134 kt_yX2_copies kn_RX2 kc_yX2_copies ⟨rfl, rfl⟩ hdX2_copies ⟨Nat.le_of_ble_eq_true rfl, Nat.le_of_ble_eq_true rfl⟩ rfl hl.1 (Nat.le_of_ble_eq_true rfl) dX2_on_22 ⟨Nat.zero_le _, Nat.zero_le _⟩ (fun H locs hw => ?_)
    refine lv_aload_n hx hb dX2_on_25 rfl (lv_at hl 0 rfl) ?_
    refine tGet (T := TX2) (N := 13) (ci := 2) C hw inX2 0 0 rfl (by decide) kf_RX2_9 rfl rfl rfl dX2_on_26 ?_
    refine lv_iconst (v := 2) hx hb dX2_on_29 (by decide) ?_
    obtain ⟨r4, ir4, er4, h⟩ := rd_some h
    refine tLd C hw 1 rfl ir4 er4 dX2_on_30 ?_
    obtain rfl := some_e h
    exact rtI C hr hw dX2_on_31
  · replace h := (if_pos c1).symm.trans h
    refine lv_aload_n hx hb dX2_on_7 rfl (lv_at hl 0 rfl) ?_
    refine lv_bipush (v := (-3)) hx hb dX2_on_8 (by decide) ?_
    obtain ⟨q5, hq5, h⟩ := cl_some h
    refine cVi (ws2 := (wM cA ad q5.2)) (As := [.int (-3)]) (rest := []) C hw jnW (kX2_no ad hq5) kl_RX2_36 ki_yX2_no ks_yX2_no kn_RX2 kc_yX2_no ⟨rfl, rfl⟩ hdX2_no ⟨Nat.le_of_ble_eq_true rfl, Nat.le_of_ble_eq_true rfl⟩ (ci := 2) (q0 := 0) rfl rfl rfl rfl hl.1 (Nat.le_of_ble_eq_true rfl) dX2_on_10 ⟨Nat.zero_le _, Nat.zero_le _⟩ (fun H locs hw => ?_)
    obtain rfl := some_e h
    exact rtI C hr hw dX2_on_13
abbrev rmX2_count : Room := { frames := 3, cells := 0, slots := 0, locals := 66 }
theorem hdX2_count : yX2_count.cls = RX2 ∧ yX2_count.cls ≠ "java/lang/invoke/MethodHandle" ∧ yX2_count.cls ≠ "java/lang/invoke/VarHandle" ∧ (parseMethodDescriptor yX2_count.desc).map (fun d => d.parameters.length) = some 1 := by decide +kernel
def GX2_count_68 (p : Program) (l : Launch) (e : Env) (s : State) (m : MethodId) (args : Array Value) (below : List Frame) (meth : Method) (c : Code) (D : va_G) (cA : ClassId) (A : Nat → Prop) (ad : Nat → Nat) (Y : VS) (z : Int32) (x : (Int32)) : Prop := ∀ (H : Heap) (locs : List Loc) (ls : Array Slot), Wd D A s.heap (wM cA ad Y) H locs → lv_has ls 2 [(0, .ref (ad 0)), (1, .int x)] → W p l e rmX2_count s m args below meth c H locs 0 0 (MQ below (QI D cA A z (wM cA ad Y)) args s 0 0 A) (F0 m 68 ls [])
def fX2_count_68 (Y : VS) : ((Int32)) → Option Int32 := fun x_1 => rd 81 (Y 0) x_1 (fun r1 => some r1)
def fX2_count (Y : VS) (a_1 : Int32) : Option Int32 := cl (fX2_isIn a_1 11 16) (fun r1 => if r1 = 0 then if a_1 = 0 then fX2_count_68 Y a_1 else if a_1 = 1 then fX2_count_68 Y a_1 else if a_1 = 2 then fX2_count_68 Y a_1 else if a_1 = 3 then fX2_count_68 Y a_1 else if a_1 = 4 then cl (fX2_sentIn (Y 0)) (fun r8 => some r8) else if a_1 = 5 then cl (fX2_allWords (Y 0)) (fun r10 => some r10) else if a_1 = 6 then some (Y 9 0) else if a_1 = 7 then some (Y 8 0) else some (-9) else rd 7 (Y 7) (a_1 - (10 : Int32)) (fun r13 => some r13))
set_option maxHeartbeats 4000000 in
set_option maxRecDepth 100000 in
theorem kX2_count_68 (C : Cx p s m args meth c cX2_count 2 RX2 D cA g A) (hr : meth.sig.returnType = (some .int)) {z : Int32} (Y : VS) (x : (Int32)) (h : fX2_count_68 Y x = some z) : GX2_count_68 p l e s m args below meth c D cA A ad Y z x := by
  obtain ⟨x_1, rfl⟩ : ∃ y, y = x := ⟨_, rfl⟩
  intro H locs ls hw hl
  have hw : Wd D A s.heap (wM cA ad Y) H locs := hw
  have hl : lv_has ls 2 [(0, .ref (ad 0)), (1, .int x_1)] := hl
  have hx := C.1.1
  have hb := C.1.2.1
  have h : (rd 81 (Y 0) x_1 (fun r1 => some r1)) = some z := h
  refine lv_aload_n hx hb dX2_count_68 rfl (lv_at hl 0 rfl) ?_
  refine tGet (T := TX2) (N := 13) (ci := 2) C hw inX2 0 0 rfl (by decide) kf_RX2_9 rfl rfl rfl dX2_count_69 ?_
  refine lv_iload_n hx hb dX2_count_72 rfl (lv_at hl 1 rfl) ?_
  obtain ⟨r1, ir1, er1, h⟩ := rd_some h
  refine tLd C hw 1 rfl ir1 er1 dX2_count_73 ?_
  obtain rfl := some_e h
  exact rtI C hr hw dX2_count_74
set_option maxHeartbeats 4000000 in
set_option maxRecDepth 100000 in
theorem kX2_count (ad : Nat → Nat) {Y : VS} {a_1 : Int32} {z : Int32} (h : fX2_count Y a_1 = some z) : MI l D cA g yX2_count (Cond.code yX2_count cX2_count 2 (some .int) :: lw_g) rmX2_count [.ref (ad 0), .int a_1] (wM cA ad Y) z (wM cA ad Y) := by
  intro sz
  refine Met.ofW (cc := cX2_count) (maxL := 2) (ret := (some .int)) (by decide) rfl ?_
  intro p e s m args below meth c s₁ B hml hv
  obtain ⟨rfl, C, hr, hw⟩ := ent B hml hv
  generalize va_A (wM cA ad Y) sz = A at C hw ⊢
  have hl := lv_entry ([.ref (ad 0), .int a_1]) (n := 2) (Nat.le_of_ble_eq_true rfl)
  rw [lg_entry_eq]
  generalize (lg_sl ([.ref (ad 0), .int a_1]) ++ List.replicate (2 - (lg_sl ([.ref (ad 0), .int a_1])).length) Slot.unset).toArray = ls at hl ⊢
  have hl : lv_has ls 2 [(0, .ref (ad 0)), (1, .int a_1)] := hl
  have hx := C.1.1
  have hb := C.1.2.1
  have h : (cl (fX2_isIn a_1 11 16) (fun r1 => if r1 = 0 then if a_1 = 0 then fX2_count_68 Y a_1 else if a_1 = 1 then fX2_count_68 Y a_1 else if a_1 = 2 then fX2_count_68 Y a_1 else if a_1 = 3 then fX2_count_68 Y a_1 else if a_1 = 4 then cl (fX2_sentIn (Y 0)) (fun r8 => some r8) else if a_1 = 5 then cl (fX2_allWords (Y 0)) (fun r10 => some r10) else if a_1 = 6 then some (Y 9 0) else if a_1 = 7 then some (Y 8 0) else some (-9) else rd 7 (Y 7) (a_1 - (10 : Int32)) (fun r13 => some r13))) = some z := h
  refine lv_iload_n hx hb dX2_count_0 rfl (lv_at hl 1 rfl) ?_
  refine lv_bipush (v := 11) hx hb dX2_count_1 (by decide) ?_
  refine lv_bipush (v := 16) hx hb dX2_count_3 (by decide) ?_
  obtain ⟨r1, hr1, h⟩ := cl_some h
  refine cSi (ws2 := (wM cA ad Y)) (As := [.int a_1, .int 11, .int 16]) (rest := []) C hw jnE (kX2_isIn hr1) kl_RX2_40 kt_yX2_isIn kn_RX2 kc_yX2_isIn ⟨rfl, rfl⟩ hdX2_isIn ⟨Nat.le_of_ble_eq_true rfl, Nat.le_of_ble_eq_true rfl⟩ rfl hl.1 (Nat.le_of_ble_eq_true rfl) dX2_count_5 ⟨Nat.zero_le _, Nat.zero_le _⟩ (fun H locs hw => ?_)
  refine lv_if_eq (tgt := 21) hx hb dX2_count_8 (by decide) (fun c2 => ?_) (fun c2 => ?_)
  · replace h := (if_pos c2).symm.trans h
    refine lv_iload_n hx hb dX2_count_21 rfl (lv_at hl 1 rfl) ?_
    by_cases c3 : a_1 = 0
    · replace h := (if_pos c3).symm.trans h
      refine lv_tableIn (tgt := 68) hx hb dX2_count_22 (by rw [c3]; decide) (by rw [c3]; decide) (by rw [c3]; rfl) (by decide) ?_
      exact kX2_count_68 C hr Y a_1 h _ _ _ hw (lv_sub hl [0, 1] rfl)
    replace h := (if_neg c3).symm.trans h
    by_cases c4 : a_1 = 1
    · replace h := (if_pos c4).symm.trans h
      refine lv_tableIn (tgt := 68) hx hb dX2_count_22 (by rw [c4]; decide) (by rw [c4]; decide) (by rw [c4]; rfl) (by decide) ?_
      exact kX2_count_68 C hr Y a_1 h _ _ _ hw (lv_sub hl [0, 1] rfl)
    replace h := (if_neg c4).symm.trans h
    by_cases c5 : a_1 = 2
    · replace h := (if_pos c5).symm.trans h
      refine lv_tableIn (tgt := 68) hx hb dX2_count_22 (by rw [c5]; decide) (by rw [c5]; decide) (by rw [c5]; rfl) (by decide) ?_
      exact kX2_count_68 C hr Y a_1 h _ _ _ hw (lv_sub hl [0, 1] rfl)
    replace h := (if_neg c5).symm.trans h
    by_cases c6 : a_1 = 3
    · replace h := (if_pos c6).symm.trans h
      refine lv_tableIn (tgt := 68) hx hb dX2_count_22 (by rw [c6]; decide) (by rw [c6]; decide) (by rw [c6]; rfl) (by decide) ?_
      exact kX2_count_68 C hr Y a_1 h _ _ _ hw (lv_sub hl [0, 1] rfl)
    replace h := (if_neg c6).symm.trans h
    by_cases c7 : a_1 = 4
    · replace h := (if_pos c7).symm.trans h
      refine lv_tableIn (tgt := 75) hx hb dX2_count_22 (by rw [c7]; decide) (by rw [c7]; decide) (by rw [c7]; rfl) (by decide) ?_
      refine lv_aload_n hx hb dX2_count_75 rfl (lv_at hl 0 rfl) ?_
      refine tGet (T := TX2) (N := 13) (ci := 2) C hw inX2 0 0 rfl (by decide) kf_RX2_9 rfl rfl rfl dX2_count_76 ?_
      obtain ⟨r8, hr8, h⟩ := cl_some h
      refine cSi (ws2 := (wM cA ad Y)) (As := [.ref (ad 1)]) (rest := []) C hw jM0r (kX2_sentIn (ad 1) hr8) kl_RX2_150 kt_yX2_sentIn kn_RX2 kc_yX2_sentIn ⟨rfl, rfl⟩ hdX2_sentIn ⟨Nat.le_of_ble_eq_true rfl, Nat.le_of_ble_eq_true rfl⟩ rfl hl.1 (Nat.le_of_ble_eq_true rfl) dX2_count_79 ⟨Nat.zero_le _, Nat.zero_le _⟩ (fun H locs hw => ?_)
      obtain rfl := some_e h
      exact rtI C hr hw dX2_count_82
    replace h := (if_neg c7).symm.trans h
    by_cases c9 : a_1 = 5
    · replace h := (if_pos c9).symm.trans h
      refine lv_tableIn (tgt := 83) hx hb dX2_count_22 (by rw [c9]; decide) (by rw [c9]; decide) (by rw [c9]; rfl) (by decide) ?_
      refine lv_aload_n hx hb dX2_count_83 rfl (lv_at hl 0 rfl) ?_
      refine tGet (T := TX2) (N := 13) (ci := 2) C hw inX2 0 0 rfl (by decide) kf_RX2_9 rfl rfl rfl dX2_count_84 ?_
      obtain ⟨r10, hr10, h⟩ := cl_some h
      refine cSi (ws2 := (wM cA ad Y)) (As := [.ref (ad 1)]) (rest := []) C hw jM0r (kX2_allWords (ad 1) hr10) kl_RX2_183 kt_yX2_allWords kn_RX2 kc_yX2_allWords ⟨rfl, rfl⟩ hdX2_allWords ⟨Nat.le_of_ble_eq_true rfl, Nat.le_of_ble_eq_true rfl⟩ rfl hl.1 (Nat.le_of_ble_eq_true rfl) dX2_count_87 ⟨Nat.zero_le _, Nat.zero_le _⟩ (fun H locs hw => ?_)
      obtain rfl := some_e h
      exact rtI C hr hw dX2_count_90
    replace h := (if_neg c9).symm.trans h
    by_cases c11 : a_1 = 6
    · replace h := (if_pos c11).symm.trans h
      refine lv_tableIn (tgt := 91) hx hb dX2_count_22 (by rw [c11]; decide) (by rw [c11]; decide) (by rw [c11]; rfl) (by decide) ?_
      refine lv_aload_n hx hb dX2_count_91 rfl (lv_at hl 0 rfl) ?_
      refine tGet (T := TX2) (N := 13) (ci := 2) C hw inX2 9 0 rfl (by decide) kf_RX2_216 rfl rfl rfl dX2_count_92 ?_
      obtain rfl := some_e h
      exact rtI C hr hw dX2_count_95
    replace h := (if_neg c11).symm.trans h
    by_cases c12 : a_1 = 7
    · replace h := (if_pos c12).symm.trans h
      refine lv_tableIn (tgt := 96) hx hb dX2_count_22 (by rw [c12]; decide) (by rw [c12]; decide) (by rw [c12]; rfl) (by decide) ?_
      refine lv_aload_n hx hb dX2_count_96 rfl (lv_at hl 0 rfl) ?_
      refine tGet (T := TX2) (N := 13) (ci := 2) C hw inX2 8 0 rfl (by decide) kf_RX2_97 rfl rfl rfl dX2_count_97 ?_
      obtain rfl := some_e h
      exact rtI C hr hw dX2_count_100
    replace h := (if_neg c12).symm.trans h
    have hout : (a_1 : Int32).toInt < 0 ∨ 7 < (a_1 : Int32).toInt := sw_out (fun k h1 h2 => by
      have hk : k = 0 ∨ k = 1 ∨ k = 2 ∨ k = 3 ∨ k = 4 ∨ k = 5 ∨ k = 6 ∨ k = 7 := by omega
      rcases hk with rfl | rfl | rfl | rfl | rfl | rfl | rfl | rfl
      · exact sw_ne c3 (by decide)
      · exact sw_ne c4 (by decide)
      · exact sw_ne c5 (by decide)
      · exact sw_ne c6 (by decide)
      · exact sw_ne c7 (by decide)
      · exact sw_ne c9 (by decide)
      · exact sw_ne c11 (by decide)
      · exact sw_ne c12 (by decide))
    refine lv_tableOut (tgt := 101) hx hb dX2_count_22 hout (by decide) ?_
    refine lv_bipush (v := (-9)) hx hb dX2_count_101 (by decide) ?_
    obtain rfl := some_e h
    exact rtI C hr hw dX2_count_103
  · replace h := (if_neg c2).symm.trans h
    refine lv_aload_n hx hb dX2_count_11 rfl (lv_at hl 0 rfl) ?_
    refine tGet (T := TX2) (N := 13) (ci := 2) C hw inX2 7 0 rfl (by decide) kf_RX2_28 rfl rfl rfl dX2_count_12 ?_
    refine lv_iload_n hx hb dX2_count_15 rfl (lv_at hl 1 rfl) ?_
    refine lv_bipush (v := 10) hx hb dX2_count_16 (by decide) ?_
    refine lv_isub hx hb dX2_count_18 ?_
    obtain ⟨r13, ir13, er13, h⟩ := rd_some h
    refine tLd C hw 7 rfl ir13 er13 dX2_count_19 ?_
    obtain rfl := some_e h
    exact rtI C hr hw dX2_count_20
end
