section
variable {p : Program} {l : Launch} {e : Env} {s : State} {m : MethodId} {args : Array Value} {below : List Frame} {meth : Method} {c : Code} {D : va_G} {cA : ClassId} {g : Nat → Nat} {A : Nat → Prop} {ad ad2 : Nat → Nat} {a0 a1 : Nat}
abbrev rmX1_refuseLong : Room := { frames := 1, cells := 0, slots := 0, locals := 21 }
theorem hdX1_refuseLong : yX1_refuseLong.cls = RX1 ∧ yX1_refuseLong.cls ≠ "java/lang/invoke/MethodHandle" ∧ yX1_refuseLong.cls ≠ "java/lang/invoke/VarHandle" ∧ (parseMethodDescriptor yX1_refuseLong.desc).map (fun d => d.parameters.length) = some 1 := by decide +kernel
def fX1_refuseLong (X : Nat → VS) (a_1 : Int32) : Option (Int64 × (Nat → VS)) := cl (fX1_refuse X a_1) (fun q1 => some (((4000000000000000000 : Int64) - (q1.1 : Int32).toInt64), q1.2))
set_option maxHeartbeats 4000000 in
set_option maxRecDepth 100000 in
theorem kX1_refuseLong (ad : Nat → Nat) {X : Nat → VS} {a_1 : Int32} {z : (Int64 × (Nat → VS))} (h : fX1_refuseLong X a_1 = some z) : ML l D cA g yX1_refuseLong (Cond.code yX1_refuseLong cX1_refuseLong 2 (some .long) :: lw_g) rmX1_refuseLong [.ref (ad 0), .int a_1] (wR cA ad X) z.1 (wR cA ad z.2) := by
  intro sz
  refine Met.ofW (cc := cX1_refuseLong) (maxL := 2) (ret := (some .long)) (by decide) rfl ?_
  intro p e s m args below meth c s₁ B hml hv
  obtain ⟨rfl, C, hr, hw⟩ := ent B hml hv
  generalize va_A (wR cA ad X) sz = A at C hw ⊢
  have hl := lv_entry ([.ref (ad 0), .int a_1]) (n := 2) (Nat.le_of_ble_eq_true rfl)
  rw [lg_entry_eq]
  generalize (lg_sl ([.ref (ad 0), .int a_1]) ++ List.replicate (2 - (lg_sl ([.ref (ad 0), .int a_1])).length) Slot.unset).toArray = ls at hl ⊢
  have hl : lv_has ls 2 [(0, .ref (ad 0)), (1, .int a_1)] := hl
  have hx := C.1.1
  have hb := C.1.2.1
  have h : (cl (fX1_refuse X a_1) (fun q1 => some (((4000000000000000000 : Int64) - (q1.1 : Int32).toInt64), q1.2))) = some z := h
  refine lv_ldc2 (v := 4000000000000000000) hx hb C.1.2.2.2.1 (C.1.2.2.2.2 _ kk_RX1_251) dX1_refuseLong_0 ?_
  refine lv_aload_n hx hb dX1_refuseLong_3 rfl (lv_at hl 0 rfl) ?_
  refine lv_iload_n hx hb dX1_refuseLong_4 rfl (lv_at hl 1 rfl) ?_
  obtain ⟨q1, hq1, h⟩ := cl_some h
  refine cVi (ws2 := (wR cA ad q1.2)) (As := [.int a_1]) (rest := [.long 4000000000000000000]) C hw jnW (kX1_refuse ad hq1) kl_RX1_52 ki_yX1_refuse ks_yX1_refuse kn_RX1 kc_yX1_refuse ⟨rfl, rfl⟩ hdX1_refuse ⟨Nat.le_of_ble_eq_true rfl, Nat.le_of_ble_eq_true rfl⟩ (ci := 1) (q0 := 0) rfl rfl rfl rfl hl.1 (Nat.le_of_ble_eq_true rfl) dX1_refuseLong_5 ⟨Nat.zero_le _, Nat.zero_le _⟩ (fun H locs hw => ?_)
  refine lv_i2l (v := (q1.1 : Int32).toInt64) hx hb dX1_refuseLong_8 rfl ?_
  refine lv_lsub hx hb dX1_refuseLong_9 ?_
  obtain rfl := some_e h
  exact rtL C hr hw dX1_refuseLong_10
abbrev rmX1_isWholeAfter : Room := { frames := 4, cells := 0, slots := 0, locals := 100 }
theorem hdX1_isWholeAfter : yX1_isWholeAfter.cls = RX1 ∧ yX1_isWholeAfter.cls ≠ "java/lang/invoke/MethodHandle" ∧ yX1_isWholeAfter.cls ≠ "java/lang/invoke/VarHandle" ∧ (parseMethodDescriptor yX1_isWholeAfter.desc).map (fun d => d.parameters.length) = some 3 := by decide +kernel
def GX1_isWholeAfter_41 (p : Program) (l : Launch) (e : Env) (s : State) (m : MethodId) (args : Array Value) (below : List Frame) (meth : Method) (c : Code) (D : va_G) (cA : ClassId) (A : Nat → Prop) (ad : Nat → Nat) (z : (Int32 × (Nat → VS))) (x : (Nat → VS) × (Int32) × (Int32) × (Int32) × (Int32) × (Int32) × (Int32)) : Prop := ∀ (H : Heap) (locs : List Loc) (ls : Array Slot), Wd D A s.heap (wR cA ad x.1) H locs → lv_has ls 5 [(0, .ref (ad 0)), (1, .int x.2.1), (2, .int x.2.2.1), (3, .int x.2.2.2.1), (4, .int x.2.2.2.2.1)] → W p l e rmX1_isWholeAfter s m args below meth c H locs 0 0 (MQ below (QI D cA A z.1 (wR cA ad z.2)) args s 0 0 A) (F0 m 41 ls [.int x.2.2.2.2.2.1, .int x.2.2.2.2.2.2, .ref (ad 8)])
def GX1_isWholeAfter_14 (p : Program) (l : Launch) (e : Env) (s : State) (m : MethodId) (args : Array Value) (below : List Frame) (meth : Method) (c : Code) (D : va_G) (cA : ClassId) (A : Nat → Prop) (ad : Nat → Nat) (z : (Int32 × (Nat → VS))) (x : (Nat → VS) × (Int32) × (Int32) × (Int32) × (Int32)) : Prop := ∀ (H : Heap) (locs : List Loc) (ls : Array Slot), Wd D A s.heap (wR cA ad x.1) H locs → lv_has ls 5 [(0, .ref (ad 0)), (1, .int x.2.1), (2, .int x.2.2.1), (3, .int x.2.2.2.1), (4, .int x.2.2.2.2)] → W p l e rmX1_isWholeAfter s m args below meth c H locs 0 0 (MQ below (QI D cA A z.1 (wR cA ad z.2)) args s 0 0 A) (F0 m 14 ls [])
def fX1_isWholeAfter_41 (k14 : ((Nat → VS) × (Int32) × (Int32) × (Int32) × (Int32)) → Option (Int32 × (Nat → VS))) : ((Nat → VS) × (Int32) × (Int32) × (Int32) × (Int32) × (Int32) × (Int32)) → Option (Int32 × (Nat → VS)) := fun x => match x with | (X, x_1, x_2, x_3, x_4, y_0, y_1) => cl (fX0_passNights (X 1) y_1 y_0) (fun w1 => bn (up X 1 w1) (fun w2 => bn (x_4 + 1) (fun x3 => k14 (w2, x_1, x_2, x_3, x3))))
def fX1_isWholeAfter_14 (k14 : ((Nat → VS) × (Int32) × (Int32) × (Int32) × (Int32)) → Option (Int32 × (Nat → VS))) : ((Nat → VS) × (Int32) × (Int32) × (Int32) × (Int32)) → Option (Int32 × (Nat → VS)) := fun x => match x with | (X, x_1, x_2, x_3, x_4) => if x_2 ≤ x_4 then cl (fX0_isWhole (X 1) x_1) (fun r2 => bz r2 (some (r2, X))) else if ((x_3 >>> (x_4 &&& 31)) &&& (1 : Int32)) = 1 then fX1_isWholeAfter_41 k14 (X, x_1, x_2, x_3, x_4, 31, 1) else fX1_isWholeAfter_41 k14 (X, x_1, x_2, x_3, x_4, 0, 1)
def fX1_isWholeAfter (X : Nat → VS) (a_1 : Int32) (a_2 : Int32) (a_3 : Int32) : Option (Int32 × (Nat → VS)) := cl (fX0_copyFrom (X 1) (X 0)) (fun w1 => bn (up X 1 w1) (fun w2 => lp (fX1_isWholeAfter_14) 5000 (w2, a_1, a_2, a_3, 0)))
set_option maxHeartbeats 4000000 in
set_option maxRecDepth 100000 in
theorem kX1_isWholeAfter_41 (C : Cx p s m args meth c cX1_isWholeAfter 5 RX1 D cA g A) (hr : meth.sig.returnType = (some .boolean)) {z : (Int32 × (Nat → VS))} (k14 : ((Nat → VS) × (Int32) × (Int32) × (Int32) × (Int32)) → Option (Int32 × (Nat → VS))) (hk14 : ∀ x, k14 x = some z → GX1_isWholeAfter_14 p l e s m args below meth c D cA A ad z x) (x : (Nat → VS) × (Int32) × (Int32) × (Int32) × (Int32) × (Int32) × (Int32)) (h : fX1_isWholeAfter_41 k14 x = some z) : GX1_isWholeAfter_41 p l e s m args below meth c D cA A ad z x := by
  obtain ⟨X, x_1, x_2, x_3, x_4, y_0, y_1⟩ := x
  intro H locs ls hw hl
  have hw : Wd D A s.heap (wR cA ad X) H locs := hw
  have hl : lv_has ls 5 [(0, .ref (ad 0)), (1, .int x_1), (2, .int x_2), (3, .int x_3), (4, .int x_4)] := hl
  show W p l e rmX1_isWholeAfter s m args below meth c H locs 0 0 (MQ below (QI D cA A z.1 (wR cA ad z.2)) args s 0 0 A) (F0 m 41 ls [.int y_0, .int y_1, .ref (ad 8)])
  have hx := C.1.1
  have hb := C.1.2.1
  have h : (cl (fX0_passNights (X 1) y_1 y_0) (fun w1 => bn (up X 1 w1) (fun w2 => bn (x_4 + 1) (fun x3 => k14 (w2, x_1, x_2, x_3, x3))))) = some z := h
  obtain ⟨w1, hw1, h⟩ := cl_some h
  obtain ⟨w2, ew2⟩ : ∃ y : Nat → VS, y = up X 1 w1 := ⟨_, rfl⟩
  replace h := bn_some h ew2
  refine cVv (ws2 := (wR cA ad w2)) (As := [.int y_1, .int y_0]) (rest := []) C hw (by rw [ew2]; exact jR1) (kX0_passNights (fun k => ad (8 + k)) hw1) kl_RX1_150 ki_yX0_passNights ks_yX0_passNights kn_RX0 kc_yX0_passNights ⟨rfl, rfl⟩ hdX0_passNights ⟨Nat.le_of_ble_eq_true rfl, Nat.le_of_ble_eq_true rfl⟩ (ci := 0) (q0 := 0) rfl rfl rfl rfl hl.1 (Nat.le_of_ble_eq_true rfl) dX1_isWholeAfter_41 ⟨Nat.zero_le _, Nat.zero_le _⟩ (fun H locs hw => ?_)
  obtain ⟨x3, ex3⟩ : ∃ y : Int32, y = x_4 + 1 := ⟨_, rfl⟩
  replace h := bn_some h ex3
  refine lv_iinc (v := x3) (lv' := [(4, .int x3), (0, .ref (ad 0)), (1, .int x_1), (2, .int x_2), (3, .int x_3)]) hx hb dX1_isWholeAfter_44 hl (k := 4) rfl (by rw [ex3]; rfl) (by decide) rfl (fun ls hl => ?_)
  refine lv_goto (tgt := 14) hx hb dX1_isWholeAfter_47 (by decide) ?_
  exact hk14 (w2, x_1, x_2, x_3, x3) h _ _ _ hw (lv_sub hl [1, 2, 3, 4, 0] rfl)
set_option maxHeartbeats 4000000 in
set_option maxRecDepth 100000 in
theorem kX1_isWholeAfter_14 (C : Cx p s m args meth c cX1_isWholeAfter 5 RX1 D cA g A) (hr : meth.sig.returnType = (some .boolean)) {z : (Int32 × (Nat → VS))} (k14 : ((Nat → VS) × (Int32) × (Int32) × (Int32) × (Int32)) → Option (Int32 × (Nat → VS))) (hk14 : ∀ x, k14 x = some z → GX1_isWholeAfter_14 p l e s m args below meth c D cA A ad z x) (x : (Nat → VS) × (Int32) × (Int32) × (Int32) × (Int32)) (h : fX1_isWholeAfter_14 k14 x = some z) : GX1_isWholeAfter_14 p l e s m args below meth c D cA A ad z x := by
  obtain ⟨X, x_1, x_2, x_3, x_4⟩ := x
  intro H locs ls hw hl
  have hw : Wd D A s.heap (wR cA ad X) H locs := hw
  have hl : lv_has ls 5 [(0, .ref (ad 0)), (1, .int x_1), (2, .int x_2), (3, .int x_3), (4, .int x_4)] := hl
  have hx := C.1.1
  have hb := C.1.2.1
  have h : (if x_2 ≤ x_4 then cl (fX0_isWhole (X 1) x_1) (fun r2 => bz r2 (some (r2, X))) else if ((x_3 >>> (x_4 &&& 31)) &&& (1 : Int32)) = 1 then fX1_isWholeAfter_41 k14 (X, x_1, x_2, x_3, x_4, 31, 1) else fX1_isWholeAfter_41 k14 (X, x_1, x_2, x_3, x_4, 0, 1)) = some z := h
  refine lv_iload hx hb dX1_isWholeAfter_14 (lv_at hl 4 rfl) ?_
  refine lv_iload_n hx hb dX1_isWholeAfter_16 rfl (lv_at hl 2 rfl) ?_
  refine lv_icmp_ge (tgt := 50) hx hb dX1_isWholeAfter_17 (by decide) (fun c1 => ?_) (fun c1 => ?_)
  · replace h := (if_pos c1).symm.trans h
    refine lv_aload_n hx hb dX1_isWholeAfter_50 rfl (lv_at hl 0 rfl) ?_
    refine tGet (T := TX1) (N := 12) (ci := 1) C hw inX1 1 0 rfl (by decide) kf_RX1_16 rfl rfl rfl dX1_isWholeAfter_51 ?_
    refine lv_iload_n hx hb dX1_isWholeAfter_54 rfl (lv_at hl 1 rfl) ?_
    obtain ⟨r2, hr2, h⟩ := cl_some h
    refine cVi (ws2 := (wR cA ad X)) (As := [.int x_1]) (rest := []) C hw jR1r (kX0_isWhole (fun k => ad (8 + k)) hr2) kl_RX1_288 ki_yX0_isWhole ks_yX0_isWhole kn_RX0 kc_yX0_isWhole ⟨rfl, rfl⟩ hdX0_isWhole ⟨Nat.le_of_ble_eq_true rfl, Nat.le_of_ble_eq_true rfl⟩ (ci := 0) (q0 := 0) rfl rfl rfl rfl hl.1 (Nat.le_of_ble_eq_true rfl) dX1_isWholeAfter_55 ⟨Nat.zero_le _, Nat.zero_le _⟩ (fun H locs hw => ?_)
    obtain ⟨hz, h⟩ := bz_some h
    obtain rfl := some_e h
    exact rtZ C hr hz hw dX1_isWholeAfter_58
  · replace h := (if_neg c1).symm.trans h
    refine lv_aload_n hx hb dX1_isWholeAfter_20 rfl (lv_at hl 0 rfl) ?_
    refine tGet (T := TX1) (N := 12) (ci := 1) C hw inX1 1 0 rfl (by decide) kf_RX1_16 rfl rfl rfl dX1_isWholeAfter_21 ?_
    refine lv_iconst (v := 1) hx hb dX1_isWholeAfter_24 (by decide) ?_
    refine lv_iload_n hx hb dX1_isWholeAfter_25 rfl (lv_at hl 3 rfl) ?_
    refine lv_iload hx hb dX1_isWholeAfter_26 (lv_at hl 4 rfl) ?_
    refine lv_ishr hx hb dX1_isWholeAfter_28 ?_
    refine lv_iconst (v := 1) hx hb dX1_isWholeAfter_29 (by decide) ?_
    refine lv_iand hx hb dX1_isWholeAfter_30 ?_
    refine lv_iconst (v := 1) hx hb dX1_isWholeAfter_31 (by decide) ?_
    refine lv_icmp_ne (tgt := 40) hx hb dX1_isWholeAfter_32 (by decide) (fun c3 => ?_) (fun c3 => ?_)
    · replace h := (if_neg c3).symm.trans h
      refine lv_iconst (v := 0) hx hb dX1_isWholeAfter_40 (by decide) ?_
      exact kX1_isWholeAfter_41 C hr k14 hk14 (X, x_1, x_2, x_3, x_4, 0, 1) h _ _ _ hw (lv_sub hl [0, 1, 2, 3, 4] rfl)
    · replace h := (if_pos c3).symm.trans h
      refine lv_bipush (v := 31) hx hb dX1_isWholeAfter_35 (by decide) ?_
      refine lv_goto (tgt := 41) hx hb dX1_isWholeAfter_37 (by decide) ?_
      exact kX1_isWholeAfter_41 C hr k14 hk14 (X, x_1, x_2, x_3, x_4, 31, 1) h _ _ _ hw (lv_sub hl [0, 1, 2, 3, 4] rfl)
theorem lX1_isWholeAfter_14 (C : Cx p s m args meth c cX1_isWholeAfter 5 RX1 D cA g A) (hr : meth.sig.returnType = (some .boolean)) {z : (Int32 × (Nat → VS))} (n : Nat) (x : (Nat → VS) × (Int32) × (Int32) × (Int32) × (Int32)) (h : lp (fX1_isWholeAfter_14) n x = some z) : GX1_isWholeAfter_14 p l e s m args below meth c D cA A ad z x := lp_ok (GX1_isWholeAfter_14 p l e s m args below meth c D cA A ad z) (fun kq hkq x h => kX1_isWholeAfter_14 C hr kq hkq x h) n x h
set_option maxHeartbeats 4000000 in
set_option maxRecDepth 100000 in
theorem kX1_isWholeAfter (ad : Nat → Nat) {X : Nat → VS} {a_1 : Int32} {a_2 : Int32} {a_3 : Int32} {z : (Int32 × (Nat → VS))} (h : fX1_isWholeAfter X a_1 a_2 a_3 = some z) : MI l D cA g yX1_isWholeAfter (Cond.code yX1_isWholeAfter cX1_isWholeAfter 5 (some .boolean) :: lw_g) rmX1_isWholeAfter [.ref (ad 0), .int a_1, .int a_2, .int a_3] (wR cA ad X) z.1 (wR cA ad z.2) := by
  intro sz
  refine Met.ofW (cc := cX1_isWholeAfter) (maxL := 5) (ret := (some .boolean)) (by decide) rfl ?_
  intro p e s m args below meth c s₁ B hml hv
  obtain ⟨rfl, C, hr, hw⟩ := ent B hml hv
  generalize va_A (wR cA ad X) sz = A at C hw ⊢
  have hl := lv_entry ([.ref (ad 0), .int a_1, .int a_2, .int a_3]) (n := 5) (Nat.le_of_ble_eq_true rfl)
  rw [lg_entry_eq]
  generalize (lg_sl ([.ref (ad 0), .int a_1, .int a_2, .int a_3]) ++ List.replicate (5 - (lg_sl ([.ref (ad 0), .int a_1, .int a_2, .int a_3])).length) Slot.unset).toArray = ls at hl ⊢
  have hl : lv_has ls 5 [(0, .ref (ad 0)), (1, .int a_1), (2, .int a_2), (3, .int a_3)] := hl
  have hx := C.1.1
  have hb := C.1.2.1
  have h : (cl (fX0_copyFrom (X 1) (X 0)) (fun w1 => bn (up X 1 w1) (fun w2 => lp (fX1_isWholeAfter_14) 5000 (w2, a_1, a_2, a_3, 0)))) = some z := h
  refine lv_aload_n hx hb dX1_isWholeAfter_0 rfl (lv_at hl 0 rfl) ?_
  refine tGet (T := TX1) (N := 12) (ci := 1) C hw inX1 1 0 rfl (by decide) kf_RX1_16 rfl rfl rfl dX1_isWholeAfter_1 ?_
  refine lv_aload_n hx hb dX1_isWholeAfter_4 rfl (lv_at hl 0 rfl) ?_
  refine tGet (T := TX1) (N := 12) (ci := 1) C hw inX1 0 0 rfl (by decide) kf_RX1_10 rfl rfl rfl dX1_isWholeAfter_5 ?_
  obtain ⟨w1, hw1, h⟩ := cl_some h
  obtain ⟨w2, ew2⟩ : ∃ y : Nat → VS, y = up X 1 w1 := ⟨_, rfl⟩
  replace h := bn_some h ew2
  refine cVv (ws2 := (wR cA ad w2)) (As := [.ref (ad 1)]) (rest := []) C hw (by rw [ew2]; exact jRR10) (kX0_copyFrom (fun k => ad (8 + k)) (fun k => ad (1 + k)) hw1) kl_RX1_59 ki_yX0_copyFrom ks_yX0_copyFrom kn_RX0 kc_yX0_copyFrom ⟨rfl, rfl⟩ hdX0_copyFrom ⟨Nat.le_of_ble_eq_true rfl, Nat.le_of_ble_eq_true rfl⟩ (ci := 0) (q0 := 0) rfl rfl rfl rfl hl.1 (Nat.le_of_ble_eq_true rfl) dX1_isWholeAfter_8 ⟨Nat.zero_le _, Nat.zero_le _⟩ (fun H locs hw => ?_)
  refine lv_iconst (v := 0) hx hb dX1_isWholeAfter_11 (by decide) ?_
  refine lv_istore (lv' := [(4, .int 0), (0, .ref (ad 0)), (1, .int a_1), (2, .int a_2), (3, .int a_3)]) hx hb dX1_isWholeAfter_12 hl (by decide) rfl (fun ls hl => ?_)
  exact lX1_isWholeAfter_14 C hr 5000 (w2, a_1, a_2, a_3, 0) h _ _ _ hw (lv_sub hl [1, 2, 3, 4, 0] rfl)
abbrev rmX1_power : Room := { frames := 0, cells := 0, slots := 0, locals := 0 }
theorem hdX1_power : yX1_power.cls ≠ "java/lang/invoke/MethodHandle" ∧ yX1_power.cls ≠ "java/lang/invoke/VarHandle" ∧ (parseMethodDescriptor yX1_power.desc).map (fun d => d.parameters.length) = some 2 := by decide +kernel
def GX1_power_5 (p : Program) (l : Launch) (e : Env) (s : State) (m : MethodId) (args : Array Value) (below : List Frame) (meth : Method) (c : Code) (D : va_G) (cA : ClassId) (A : Nat → Prop)  (z : Int64) (x : (Int32) × (Int32) × (Int64) × (Int32)) : Prop := ∀ (H : Heap) (locs : List Loc) (ls : Array Slot), Wd D A s.heap ([] : va_W) H locs → lv_has ls 5 [(0, .int x.1), (1, .int x.2.1), (2, .long x.2.2.1), (4, .int x.2.2.2)] → W p l e rmX1_power s m args below meth c H locs 0 0 (MQ below (QL D cA A z ([] : va_W)) args s 0 0 A) (F0 m 5 ls [])
def fX1_power_5 (k5 : ((Int32) × (Int32) × (Int64) × (Int32)) → Option Int64) : ((Int32) × (Int32) × (Int64) × (Int32)) → Option Int64 := fun x => match x with | (x_0, x_1, x_2, x_4) => if x_1 ≤ x_4 then some x_2 else bn (x_2 * (x_0 : Int32).toInt64) (fun x2 => bn (x_4 + 1) (fun x3 => k5 (x_0, x_1, x2, x3)))
def fX1_power (a_0 : Int32) (a_1 : Int32) : Option Int64 := lp (fX1_power_5) 5000 (a_0, a_1, 1, 0)
set_option maxHeartbeats 4000000 in
set_option maxRecDepth 100000 in
theorem kX1_power_5 (C : Cx p s m args meth c cX1_power 5 RX1 D cA g A) (hr : meth.sig.returnType = (some .long)) {z : Int64} (k5 : ((Int32) × (Int32) × (Int64) × (Int32)) → Option Int64) (hk5 : ∀ x, k5 x = some z → GX1_power_5 p l e s m args below meth c D cA A  z x) (x : (Int32) × (Int32) × (Int64) × (Int32)) (h : fX1_power_5 k5 x = some z) : GX1_power_5 p l e s m args below meth c D cA A  z x := by
  obtain ⟨x_0, x_1, x_2, x_4⟩ := x
  intro H locs ls hw hl
  have hw : Wd D A s.heap ([] : va_W) H locs := hw
  have hl : lv_has ls 5 [(0, .int x_0), (1, .int x_1), (2, .long x_2), (4, .int x_4)] := hl
  have hx := C.1.1
  have hb := C.1.2.1
  have h : (if x_1 ≤ x_4 then some x_2 else bn (x_2 * (x_0 : Int32).toInt64) (fun x2 => bn (x_4 + 1) (fun x3 => k5 (x_0, x_1, x2, x3)))) = some z := h
  refine lv_iload hx hb dX1_power_5 (lv_at hl 3 rfl) ?_
  refine lv_iload_n hx hb dX1_power_7 rfl (lv_at hl 1 rfl) ?_
  refine lv_icmp_ge (tgt := 22) hx hb dX1_power_8 (by decide) (fun c1 => ?_) (fun c1 => ?_)
  · replace h := (if_pos c1).symm.trans h
    refine lv_lload_n hx hb dX1_power_22 rfl (lv_at hl 2 rfl) ?_
    obtain rfl := some_e h
    exact rtL C hr hw dX1_power_23
  · replace h := (if_neg c1).symm.trans h
    refine lv_lload_n hx hb dX1_power_11 rfl (lv_at hl 2 rfl) ?_
    refine lv_iload_n hx hb dX1_power_12 rfl (lv_at hl 0 rfl) ?_
    refine lv_i2l (v := (x_0 : Int32).toInt64) hx hb dX1_power_13 rfl ?_
    refine lv_lmul hx hb dX1_power_14 ?_
    refine lv_topl (fun x2 ex2 => ?_)
    replace h := bn_some h ex2
    refine lv_lstore_n (lv' := [(2, .long x2), (0, .int x_0), (1, .int x_1), (4, .int x_4)]) hx hb dX1_power_15 rfl hl (by decide) rfl (fun ls hl => ?_)
    obtain ⟨x3, ex3⟩ : ∃ y : Int32, y = x_4 + 1 := ⟨_, rfl⟩
    replace h := bn_some h ex3
    refine lv_iinc (v := x3) (lv' := [(4, .int x3), (2, .long x2), (0, .int x_0), (1, .int x_1)]) hx hb dX1_power_16 hl (k := 3) rfl (by rw [ex3]; rfl) (by decide) rfl (fun ls hl => ?_)
    refine lv_goto (tgt := 5) hx hb dX1_power_19 (by decide) ?_
    exact hk5 (x_0, x_1, x2, x3) h _ _ _ hw (lv_sub hl [2, 3, 1, 0] rfl)
theorem lX1_power_5 (C : Cx p s m args meth c cX1_power 5 RX1 D cA g A) (hr : meth.sig.returnType = (some .long)) {z : Int64} (n : Nat) (x : (Int32) × (Int32) × (Int64) × (Int32)) (h : lp (fX1_power_5) n x = some z) : GX1_power_5 p l e s m args below meth c D cA A  z x := lp_ok (GX1_power_5 p l e s m args below meth c D cA A  z) (fun kq hkq x h => kX1_power_5 C hr kq hkq x h) n x h
set_option maxHeartbeats 4000000 in
set_option maxRecDepth 100000 in
theorem kX1_power  {a_0 : Int32} {a_1 : Int32} {z : Int64} (h : fX1_power a_0 a_1 = some z) : ML l D cA g yX1_power (Cond.code yX1_power cX1_power 5 (some .long) :: lw_g) rmX1_power [.int a_0, .int a_1] ([] : va_W) z ([] : va_W) := by
  intro sz
  refine Met.ofW (cc := cX1_power) (maxL := 5) (ret := (some .long)) (by decide) rfl ?_
  intro p e s m args below meth c s₁ B hml hv
  obtain ⟨rfl, C, hr, hw⟩ := ent B hml hv
  generalize va_A ([] : va_W) sz = A at C hw ⊢
  have hl := lv_entry ([.int a_0, .int a_1]) (n := 5) (Nat.le_of_ble_eq_true rfl)
  rw [lg_entry_eq]
  generalize (lg_sl ([.int a_0, .int a_1]) ++ List.replicate (5 - (lg_sl ([.int a_0, .int a_1])).length) Slot.unset).toArray = ls at hl ⊢
  have hl : lv_has ls 5 [(0, .int a_0), (1, .int a_1)] := hl
  have hx := C.1.1
  have hb := C.1.2.1
  have h : (lp (fX1_power_5) 5000 (a_0, a_1, 1, 0)) = some z := h
  refine lv_lconst (v := 1) hx hb dX1_power_0 (by decide) ?_
  refine lv_lstore_n (lv' := [(2, .long 1), (0, .int a_0), (1, .int a_1)]) hx hb dX1_power_1 rfl hl (by decide) rfl (fun ls hl => ?_)
  refine lv_iconst (v := 0) hx hb dX1_power_2 (by decide) ?_
  refine lv_istore (lv' := [(4, .int 0), (2, .long 1), (0, .int a_0), (1, .int a_1)]) hx hb dX1_power_3 hl (by decide) rfl (fun ls hl => ?_)
  exact lX1_power_5 C hr 5000 (a_0, a_1, 1, 0) h _ _ _ hw (lv_sub hl [2, 3, 1, 0] rfl)
abbrev rmX1_commonDivisor : Room := { frames := 0, cells := 0, slots := 0, locals := 0 }
theorem hdX1_commonDivisor : yX1_commonDivisor.cls ≠ "java/lang/invoke/MethodHandle" ∧ yX1_commonDivisor.cls ≠ "java/lang/invoke/VarHandle" ∧ (parseMethodDescriptor yX1_commonDivisor.desc).map (fun d => d.parameters.length) = some 2 := by decide +kernel
def GX1_commonDivisor_9 (p : Program) (l : Launch) (e : Env) (s : State) (m : MethodId) (args : Array Value) (below : List Frame) (meth : Method) (c : Code) (D : va_G) (cA : ClassId) (A : Nat → Prop)  (z : Int64) (x : (Int64) × (Int64) × (Int32)) : Prop := ∀ (H : Heap) (locs : List Loc) (ls : Array Slot), Wd D A s.heap ([] : va_W) H locs → lv_has ls 11 [(4, .long x.1), (6, .long x.2.1), (8, .int x.2.2)] → W p l e rmX1_commonDivisor s m args below meth c H locs 0 0 (MQ below (QL D cA A z ([] : va_W)) args s 0 0 A) (F0 m 9 ls [])
def fX1_commonDivisor_9 (k9 : ((Int64) × (Int64) × (Int32)) → Option Int64) : ((Int64) × (Int64) × (Int32)) → Option Int64 := fun x => match x with | (x_4, x_6, x_8) => if 1000 ≤ x_8 then some x_4 else if (lg_cmp x_6 (0 : Int64)) = 0 then some x_4 else dvl x_6 (bn (x_4 - x_4 / x_6 * x_6) (fun x4 => bn (x_8 + 1) (fun x5 => k9 (x_6, x4, x5))))
def fX1_commonDivisor (a_0 : Int64) (a_2 : Int64) : Option Int64 := lp (fX1_commonDivisor_9) 5000 (a_0, a_2, 0)
set_option maxHeartbeats 4000000 in
set_option maxRecDepth 100000 in
theorem kX1_commonDivisor_9 (C : Cx p s m args meth c cX1_commonDivisor 11 RX1 D cA g A) (hr : meth.sig.returnType = (some .long)) {z : Int64} (k9 : ((Int64) × (Int64) × (Int32)) → Option Int64) (hk9 : ∀ x, k9 x = some z → GX1_commonDivisor_9 p l e s m args below meth c D cA A  z x) (x : (Int64) × (Int64) × (Int32)) (h : fX1_commonDivisor_9 k9 x = some z) : GX1_commonDivisor_9 p l e s m args below meth c D cA A  z x := by
  obtain ⟨x_4, x_6, x_8⟩ := x
  intro H locs ls hw hl
  have hw : Wd D A s.heap ([] : va_W) H locs := hw
  have hl : lv_has ls 11 [(4, .long x_4), (6, .long x_6), (8, .int x_8)] := hl
  have hx := C.1.1
  have hb := C.1.2.1
  have h : (if 1000 ≤ x_8 then some x_4 else if (lg_cmp x_6 (0 : Int64)) = 0 then some x_4 else dvl x_6 (bn (x_4 - x_4 / x_6 * x_6) (fun x4 => bn (x_8 + 1) (fun x5 => k9 (x_6, x4, x5))))) = some z := h
  refine lv_iload hx hb dX1_commonDivisor_9 (lv_at hl 2 rfl) ?_
  refine lv_sipush (v := 1000) hx hb dX1_commonDivisor_11 (by decide) ?_
  refine lv_icmp_ge (tgt := 45) hx hb dX1_commonDivisor_14 (by decide) (fun c1 => ?_) (fun c1 => ?_)
  · replace h := (if_pos c1).symm.trans h
    refine lv_lload hx hb dX1_commonDivisor_45 (lv_at hl 0 rfl) ?_
    obtain rfl := some_e h
    exact rtL C hr hw dX1_commonDivisor_47
  · replace h := (if_neg c1).symm.trans h
    refine lv_lload hx hb dX1_commonDivisor_17 (lv_at hl 1 rfl) ?_
    refine lv_lconst (v := 0) hx hb dX1_commonDivisor_19 (by decide) ?_
    refine W.lcmp hx hb dX1_commonDivisor_20 ?_
    refine lv_if_eq (tgt := 45) hx hb dX1_commonDivisor_21 (by decide) (fun c2 => ?_) (fun c2 => ?_)
    · replace h := (if_pos c2).symm.trans h
      refine lv_lload hx hb dX1_commonDivisor_45 (lv_at hl 0 rfl) ?_
      obtain rfl := some_e h
      exact rtL C hr hw dX1_commonDivisor_47
    · replace h := (if_neg c2).symm.trans h
      refine lv_lload hx hb dX1_commonDivisor_24 (lv_at hl 0 rfl) ?_
      refine lv_lload hx hb dX1_commonDivisor_26 (lv_at hl 1 rfl) ?_
      obtain ⟨hn3, h⟩ := dvl_some h
      refine lv_lrem hx hb dX1_commonDivisor_28 hn3 ?_
      refine lv_topl (fun x4 ex4 => ?_)
      replace h := bn_some h ex4
      refine lv_lstore (lv' := [(9, .long x4), (4, .long x_4), (6, .long x_6), (8, .int x_8)]) hx hb dX1_commonDivisor_29 hl (by decide) rfl (fun ls hl => ?_)
      refine lv_lload hx hb dX1_commonDivisor_31 (lv_at hl 2 rfl) ?_
      refine lv_lstore (lv' := [(4, .long x_6), (9, .long x4), (6, .long x_6), (8, .int x_8)]) hx hb dX1_commonDivisor_33 hl (by decide) rfl (fun ls hl => ?_)
      refine lv_lload hx hb dX1_commonDivisor_35 (lv_at hl 1 rfl) ?_
      refine lv_lstore (lv' := [(6, .long x4), (4, .long x_6), (9, .long x4), (8, .int x_8)]) hx hb dX1_commonDivisor_37 hl (by decide) rfl (fun ls hl => ?_)
      obtain ⟨x5, ex5⟩ : ∃ y : Int32, y = x_8 + 1 := ⟨_, rfl⟩
      replace h := bn_some h ex5
      refine lv_iinc (v := x5) (lv' := [(8, .int x5), (6, .long x4), (4, .long x_6), (9, .long x4)]) hx hb dX1_commonDivisor_39 hl (k := 3) rfl (by rw [ex5]; rfl) (by decide) rfl (fun ls hl => ?_)
      refine lv_goto (tgt := 9) hx hb dX1_commonDivisor_42 (by decide) ?_
      exact hk9 (x_6, x4, x5) h _ _ _ hw (lv_sub hl [2, 1, 0] rfl)
theorem lX1_commonDivisor_9 (C : Cx p s m args meth c cX1_commonDivisor 11 RX1 D cA g A) (hr : meth.sig.returnType = (some .long)) {z : Int64} (n : Nat) (x : (Int64) × (Int64) × (Int32)) (h : lp (fX1_commonDivisor_9) n x = some z) : GX1_commonDivisor_9 p l e s m args below meth c D cA A  z x := lp_ok (GX1_commonDivisor_9 p l e s m args below meth c D cA A  z) (fun kq hkq x h => kX1_commonDivisor_9 C hr kq hkq x h) n x h
set_option maxHeartbeats 4000000 in
set_option maxRecDepth 100000 in
theorem kX1_commonDivisor  {a_0 : Int64} {a_2 : Int64} {z : Int64} (h : fX1_commonDivisor a_0 a_2 = some z) : ML l D cA g yX1_commonDivisor (Cond.code yX1_commonDivisor cX1_commonDivisor 11 (some .long) :: lw_g) rmX1_commonDivisor [.long a_0, .long a_2] ([] : va_W) z ([] : va_W) := by
  intro sz
  refine Met.ofW (cc := cX1_commonDivisor) (maxL := 11) (ret := (some .long)) (by decide) rfl ?_
  intro p e s m args below meth c s₁ B hml hv
  obtain ⟨rfl, C, hr, hw⟩ := ent B hml hv
  generalize va_A ([] : va_W) sz = A at C hw ⊢
  have hl := lv_entry ([.long a_0, .long a_2]) (n := 11) (Nat.le_of_ble_eq_true rfl)
  rw [lg_entry_eq]
  generalize (lg_sl ([.long a_0, .long a_2]) ++ List.replicate (11 - (lg_sl ([.long a_0, .long a_2])).length) Slot.unset).toArray = ls at hl ⊢
  have hl : lv_has ls 11 [(0, .long a_0), (2, .long a_2)] := hl
  have hx := C.1.1
  have hb := C.1.2.1
  have h : (lp (fX1_commonDivisor_9) 5000 (a_0, a_2, 0)) = some z := h
  refine lv_lload_n hx hb dX1_commonDivisor_0 rfl (lv_at hl 0 rfl) ?_
  refine lv_lstore (lv' := [(4, .long a_0), (0, .long a_0), (2, .long a_2)]) hx hb dX1_commonDivisor_1 hl (by decide) rfl (fun ls hl => ?_)
  refine lv_lload_n hx hb dX1_commonDivisor_3 rfl (lv_at hl 2 rfl) ?_
  refine lv_lstore (lv' := [(6, .long a_2), (4, .long a_0), (0, .long a_0), (2, .long a_2)]) hx hb dX1_commonDivisor_4 hl (by decide) rfl (fun ls hl => ?_)
  refine lv_iconst (v := 0) hx hb dX1_commonDivisor_6 (by decide) ?_
  refine lv_istore (lv' := [(8, .int 0), (6, .long a_2), (4, .long a_0), (0, .long a_0), (2, .long a_2)]) hx hb dX1_commonDivisor_7 hl (by decide) rfl (fun ls hl => ?_)
  exact lX1_commonDivisor_9 C hr 5000 (a_0, a_2, 0) h _ _ _ hw (lv_sub hl [2, 1, 0] rfl)
abbrev rmX1_partOf : Room := { frames := 1, cells := 0, slots := 0, locals := 30 }
theorem hdX1_partOf : yX1_partOf.cls ≠ "java/lang/invoke/MethodHandle" ∧ yX1_partOf.cls ≠ "java/lang/invoke/VarHandle" ∧ (parseMethodDescriptor yX1_partOf.desc).map (fun d => d.parameters.length) = some 3 := by decide +kernel
def GX1_partOf_28 (p : Program) (l : Launch) (e : Env) (s : State) (m : MethodId) (args : Array Value) (below : List Frame) (meth : Method) (c : Code) (D : va_G) (cA : ClassId) (A : Nat → Prop)  (z : Int64) (x : (Int64) × (Int64)) : Prop := ∀ (H : Heap) (locs : List Loc) (ls : Array Slot), Wd D A s.heap ([] : va_W) H locs → lv_has ls 7 [(5, .long x.1)] → W p l e rmX1_partOf s m args below meth c H locs 0 0 (MQ below (QL D cA A z ([] : va_W)) args s 0 0 A) (F0 m 28 ls [.long x.2])
def fX1_partOf_28 : ((Int64) × (Int64)) → Option Int64 := fun x => match x with | (x_5, y_0) => dvl x_5 (some (y_0 / x_5))
def fX1_partOf (a_0 : Int64) (a_2 : Int64) (a_4 : Int32) : Option Int64 := cl (fX1_commonDivisor a_0 a_2) (fun r1 => if (lg_cmp r1 (0 : Int64)) = 0 then some ((a_4 : Int32).toInt64) else if a_4 = 0 then fX1_partOf_28 (r1, a_0) else fX1_partOf_28 (r1, a_2))
set_option maxHeartbeats 4000000 in
set_option maxRecDepth 100000 in
theorem kX1_partOf_28 (C : Cx p s m args meth c cX1_partOf 7 RX1 D cA g A) (hr : meth.sig.returnType = (some .long)) {z : Int64} (x : (Int64) × (Int64)) (h : fX1_partOf_28 x = some z) : GX1_partOf_28 p l e s m args below meth c D cA A  z x := by
  obtain ⟨x_5, y_0⟩ := x
  intro H locs ls hw hl
  have hw : Wd D A s.heap ([] : va_W) H locs := hw
  have hl : lv_has ls 7 [(5, .long x_5)] := hl
  show W p l e rmX1_partOf s m args below meth c H locs 0 0 (MQ below (QL D cA A z ([] : va_W)) args s 0 0 A) (F0 m 28 ls [.long y_0])
  have hx := C.1.1
  have hb := C.1.2.1
  have h : (dvl x_5 (some (y_0 / x_5))) = some z := h
  refine lv_lload hx hb dX1_partOf_28 (lv_at hl 0 rfl) ?_
  obtain ⟨hn1, h⟩ := dvl_some h
  refine lv_ldiv hx hb dX1_partOf_30 hn1 ?_
  obtain rfl := some_e h
  exact rtL C hr hw dX1_partOf_31
set_option maxHeartbeats 4000000 in
set_option maxRecDepth 100000 in
theorem kX1_partOf  {a_0 : Int64} {a_2 : Int64} {a_4 : Int32} {z : Int64} (h : fX1_partOf a_0 a_2 a_4 = some z) : ML l D cA g yX1_partOf (Cond.code yX1_partOf cX1_partOf 7 (some .long) :: lw_g) rmX1_partOf [.long a_0, .long a_2, .int a_4] ([] : va_W) z ([] : va_W) := by
  intro sz
  refine Met.ofW (cc := cX1_partOf) (maxL := 7) (ret := (some .long)) (by decide) rfl ?_
  intro p e s m args below meth c s₁ B hml hv
  obtain ⟨rfl, C, hr, hw⟩ := ent B hml hv
  generalize va_A ([] : va_W) sz = A at C hw ⊢
  have hl := lv_entry ([.long a_0, .long a_2, .int a_4]) (n := 7) (Nat.le_of_ble_eq_true rfl)
  rw [lg_entry_eq]
  generalize (lg_sl ([.long a_0, .long a_2, .int a_4]) ++ List.replicate (7 - (lg_sl ([.long a_0, .long a_2, .int a_4])).length) Slot.unset).toArray = ls at hl ⊢
  have hl : lv_has ls 7 [(0, .long a_0), (2, .long a_2), (4, .int a_4)] := hl
  have hx := C.1.1
  have hb := C.1.2.1
  have h : (cl (fX1_commonDivisor a_0 a_2) (fun r1 => if (lg_cmp r1 (0 : Int64)) = 0 then some ((a_4 : Int32).toInt64) else if a_4 = 0 then fX1_partOf_28 (r1, a_0) else fX1_partOf_28 (r1, a_2))) = some z := h
  refine lv_lload_n hx hb dX1_partOf_0 rfl (lv_at hl 0 rfl) ?_
  refine lv_lload_n hx hb dX1_partOf_1 rfl (lv_at hl 1 rfl) ?_
  obtain ⟨r1, hr1, h⟩ := cl_some h
  refine cSl (ws2 := ([] : va_W)) (As := [.long a_0, .long a_2]) (rest := []) C hw jnE (kX1_commonDivisor hr1) kl_RX1_313 kt_yX1_commonDivisor kn_RX1 kc_yX1_commonDivisor ⟨rfl, rfl⟩ hdX1_commonDivisor ⟨Nat.le_of_ble_eq_true rfl, Nat.le_of_ble_eq_true rfl⟩ rfl hl.1 (Nat.le_of_ble_eq_true rfl) dX1_partOf_2 ⟨Nat.zero_le _, Nat.zero_le _⟩ (fun H locs hw => ?_)
  refine lv_lstore (lv' := [(5, .long r1), (0, .long a_0), (2, .long a_2), (4, .int a_4)]) hx hb dX1_partOf_5 hl (by decide) rfl (fun ls hl => ?_)
  refine lv_lload hx hb dX1_partOf_7 (lv_at hl 0 rfl) ?_
  refine lv_lconst (v := 0) hx hb dX1_partOf_9 (by decide) ?_
  refine W.lcmp hx hb dX1_partOf_10 ?_
  refine lv_if_ne (tgt := 18) hx hb dX1_partOf_11 (by decide) (fun c2 => ?_) (fun c2 => ?_)
  · replace h := (if_neg c2).symm.trans h
    refine lv_iload hx hb dX1_partOf_18 (lv_at hl 3 rfl) ?_
    refine lv_if_ne (tgt := 27) hx hb dX1_partOf_20 (by decide) (fun c3 => ?_) (fun c3 => ?_)
    · replace h := (if_neg c3).symm.trans h
      refine lv_lload_n hx hb dX1_partOf_27 rfl (lv_at hl 2 rfl) ?_
      exact kX1_partOf_28 C hr (r1, a_2) h _ _ _ hw (lv_sub hl [0] rfl)
    · replace h := (if_pos c3).symm.trans h
      refine lv_lload_n hx hb dX1_partOf_23 rfl (lv_at hl 1 rfl) ?_
      refine lv_goto (tgt := 28) hx hb dX1_partOf_24 (by decide) ?_
      exact kX1_partOf_28 C hr (r1, a_0) h _ _ _ hw (lv_sub hl [0] rfl)
  · replace h := (if_pos c2).symm.trans h
    refine lv_iload hx hb dX1_partOf_14 (lv_at hl 3 rfl) ?_
    refine lv_i2l (v := (a_4 : Int32).toInt64) hx hb dX1_partOf_16 rfl ?_
    obtain rfl := some_e h
    exact rtL C hr hw dX1_partOf_17
abbrev rmX1_rain : Room := { frames := 5, cells := 0, slots := 0, locals := 124 }
theorem hdX1_rain : yX1_rain.cls = RX1 ∧ yX1_rain.cls ≠ "java/lang/invoke/MethodHandle" ∧ yX1_rain.cls ≠ "java/lang/invoke/VarHandle" ∧ (parseMethodDescriptor yX1_rain.desc).map (fun d => d.parameters.length) = some 4 := by decide +kernel
def GX1_rain_26 (p : Program) (l : Launch) (e : Env) (s : State) (m : MethodId) (args : Array Value) (below : List Frame) (meth : Method) (c : Code) (D : va_G) (cA : ClassId) (A : Nat → Prop) (ad : Nat → Nat) (z : (Int64 × (Nat → VS))) (x : (Nat → VS)) : Prop := ∀ (H : Heap) (locs : List Loc) (ls : Array Slot), Wd D A s.heap (wR cA ad x) H locs → lv_has ls 8 [(0, .ref (ad 0))] → W p l e rmX1_rain s m args below meth c H locs 0 0 (MQ below (QL D cA A z.1 (wR cA ad z.2)) args s 0 0 A) (F0 m 26 ls [])
def GX1_rain_45 (p : Program) (l : Launch) (e : Env) (s : State) (m : MethodId) (args : Array Value) (below : List Frame) (meth : Method) (c : Code) (D : va_G) (cA : ClassId) (A : Nat → Prop) (ad : Nat → Nat) (z : (Int64 × (Nat → VS))) (x : (Nat → VS)) : Prop := ∀ (H : Heap) (locs : List Loc) (ls : Array Slot), Wd D A s.heap (wR cA ad x) H locs → lv_has ls 8 [(0, .ref (ad 0))] → W p l e rmX1_rain s m args below meth c H locs 0 0 (MQ below (QL D cA A z.1 (wR cA ad z.2)) args s 0 0 A) (F0 m 45 ls [])
def GX1_rain_108 (p : Program) (l : Launch) (e : Env) (s : State) (m : MethodId) (args : Array Value) (below : List Frame) (meth : Method) (c : Code) (D : va_G) (cA : ClassId) (A : Nat → Prop) (ad : Nat → Nat) (z : (Int64 × (Nat → VS))) (x : (Nat → VS) × (Int32) × (Int32) × (Int32) × (Int32) × (Int64) × (Int32)) : Prop := ∀ (H : Heap) (locs : List Loc) (ls : Array Slot), Wd D A s.heap (wR cA ad x.1) H locs → lv_has ls 8 [(0, .ref (ad 0)), (1, .int x.2.1), (2, .int x.2.2.1), (3, .int x.2.2.2.1), (4, .int x.2.2.2.2.1), (5, .long x.2.2.2.2.2.1), (7, .int x.2.2.2.2.2.2)] → W p l e rmX1_rain s m args below meth c H locs 0 0 (MQ below (QL D cA A z.1 (wR cA ad z.2)) args s 0 0 A) (F0 m 108 ls [])
def GX1_rain_73 (p : Program) (l : Launch) (e : Env) (s : State) (m : MethodId) (args : Array Value) (below : List Frame) (meth : Method) (c : Code) (D : va_G) (cA : ClassId) (A : Nat → Prop) (ad : Nat → Nat) (z : (Int64 × (Nat → VS))) (x : (Nat → VS) × (Int32) × (Int32) × (Int32) × (Int32) × (Int64) × (Int32)) : Prop := ∀ (H : Heap) (locs : List Loc) (ls : Array Slot), Wd D A s.heap (wR cA ad x.1) H locs → lv_has ls 8 [(0, .ref (ad 0)), (1, .int x.2.1), (2, .int x.2.2.1), (3, .int x.2.2.2.1), (4, .int x.2.2.2.2.1), (5, .long x.2.2.2.2.2.1), (7, .int x.2.2.2.2.2.2)] → W p l e rmX1_rain s m args below meth c H locs 0 0 (MQ below (QL D cA A z.1 (wR cA ad z.2)) args s 0 0 A) (F0 m 73 ls [])
def fX1_rain_26 : ((Nat → VS)) → Option (Int64 × (Nat → VS)) := fun X => cl (fX1_refuseLong X (-4)) (fun q1 => some (q1.1, q1.2))
def fX1_rain_45 : ((Nat → VS)) → Option (Int64 × (Nat → VS)) := fun X => cl (fX1_refuseLong X (-6)) (fun q1 => some (q1.1, q1.2))
def fX1_rain_108 (k73 : ((Nat → VS) × (Int32) × (Int32) × (Int32) × (Int32) × (Int64) × (Int32)) → Option (Int64 × (Nat → VS))) : ((Nat → VS) × (Int32) × (Int32) × (Int32) × (Int32) × (Int64) × (Int32)) → Option (Int64 × (Nat → VS)) := fun x => match x with | (X, x_1, x_2, x_3, x_4, x_5, x_7) => bn (x_7 + 1) (fun x1 => k73 (X, x_1, x_2, x_3, x_4, x_5, x1))
def fX1_rain_73 (k73 : ((Nat → VS) × (Int32) × (Int32) × (Int32) × (Int32) × (Int64) × (Int32)) → Option (Int64 × (Nat → VS))) : ((Nat → VS) × (Int32) × (Int32) × (Int32) × (Int32) × (Int64) × (Int32)) → Option (Int64 × (Nat → VS)) := fun x => match x with | (X, x_1, x_2, x_3, x_4, x_5, x_7) => if ((1 : Int32) <<< (x_2 &&& 31)) ≤ x_7 then cl (fX1_power x_3 x_2) (fun r2 => cl (fX1_partOf x_5 r2 x_4) (fun r3 => some (r3, X))) else cl (fX1_isWholeAfter X x_1 x_2 x_7) (fun q4 => if q4.1 = 0 then fX1_rain_108 k73 (q4.2, x_1, x_2, x_3, x_4, x_5, x_7) else cl (fJ6_bitCount_0f7a4 x_7) (fun r6 => cl (fX1_power (x_3 - (1 : Int32)) r6) (fun r7 => bn (x_5 + r7) (fun x8 => fX1_rain_108 k73 (q4.2, x_1, x_2, x_3, x_4, x8, x_7)))))
def fX1_rain (X : Nat → VS) (a_1 : Int32) (a_2 : Int32) (a_3 : Int32) (a_4 : Int32) : Option (Int64 × (Nat → VS)) := cl (fX0_hasReader (X 0) a_1) (fun r1 => if r1 = 0 then cl (fX1_refuseLong X (-1)) (fun q10 => some (q10.1, q10.2)) else if a_2 < 0 then fX1_rain_26 X else if 2 ≤ a_3 then if 7 < a_2 then fX1_rain_45 X else if a_3 ≤ 20 then cl (fX1_isOneOfTwo a_4) (fun r7 => if r7 = 0 then cl (fX1_refuseLong X (-2)) (fun q9 => some (q9.1, q9.2)) else lp (fX1_rain_73) 5000 (X, a_1, a_2, a_3, a_4, 0, 0)) else fX1_rain_45 X else fX1_rain_26 X)
set_option maxHeartbeats 4000000 in
set_option maxRecDepth 100000 in
theorem kX1_rain_26 (C : Cx p s m args meth c cX1_rain 8 RX1 D cA g A) (hr : meth.sig.returnType = (some .long)) {z : (Int64 × (Nat → VS))} (x : (Nat → VS)) (h : fX1_rain_26 x = some z) : GX1_rain_26 p l e s m args below meth c D cA A ad z x := by
  obtain ⟨X, rfl⟩ : ∃ y, y = x := ⟨_, rfl⟩
  intro H locs ls hw hl
  have hw : Wd D A s.heap (wR cA ad X) H locs := hw
  have hl : lv_has ls 8 [(0, .ref (ad 0))] := hl
  have hx := C.1.1
  have hb := C.1.2.1
  have h : (cl (fX1_refuseLong X (-4)) (fun q1 => some (q1.1, q1.2))) = some z := h
  refine lv_aload_n hx hb dX1_rain_26 rfl (lv_at hl 0 rfl) ?_
  refine lv_bipush (v := (-4)) hx hb dX1_rain_27 (by decide) ?_
  obtain ⟨q1, hq1, h⟩ := cl_some h
  refine cVl (ws2 := (wR cA ad q1.2)) (As := [.int (-4)]) (rest := []) C hw jnW (kX1_refuseLong ad hq1) kl_RX1_215 ki_yX1_refuseLong ks_yX1_refuseLong kn_RX1 kc_yX1_refuseLong ⟨rfl, rfl⟩ hdX1_refuseLong ⟨Nat.le_of_ble_eq_true rfl, Nat.le_of_ble_eq_true rfl⟩ (ci := 1) (q0 := 0) rfl rfl rfl rfl hl.1 (Nat.le_of_ble_eq_true rfl) dX1_rain_29 ⟨Nat.zero_le _, Nat.zero_le _⟩ (fun H locs hw => ?_)
  obtain rfl := some_e h
  exact rtL C hr hw dX1_rain_32
set_option maxHeartbeats 4000000 in
set_option maxRecDepth 100000 in
theorem kX1_rain_45 (C : Cx p s m args meth c cX1_rain 8 RX1 D cA g A) (hr : meth.sig.returnType = (some .long)) {z : (Int64 × (Nat → VS))} (x : (Nat → VS)) (h : fX1_rain_45 x = some z) : GX1_rain_45 p l e s m args below meth c D cA A ad z x := by
  obtain ⟨X, rfl⟩ : ∃ y, y = x := ⟨_, rfl⟩
  intro H locs ls hw hl
  have hw : Wd D A s.heap (wR cA ad X) H locs := hw
  have hl : lv_has ls 8 [(0, .ref (ad 0))] := hl
  have hx := C.1.1
  have hb := C.1.2.1
  have h : (cl (fX1_refuseLong X (-6)) (fun q1 => some (q1.1, q1.2))) = some z := h
  refine lv_aload_n hx hb dX1_rain_45 rfl (lv_at hl 0 rfl) ?_
  refine lv_bipush (v := (-6)) hx hb dX1_rain_46 (by decide) ?_
  obtain ⟨q1, hq1, h⟩ := cl_some h
  refine cVl (ws2 := (wR cA ad q1.2)) (As := [.int (-6)]) (rest := []) C hw jnW (kX1_refuseLong ad hq1) kl_RX1_215 ki_yX1_refuseLong ks_yX1_refuseLong kn_RX1 kc_yX1_refuseLong ⟨rfl, rfl⟩ hdX1_refuseLong ⟨Nat.le_of_ble_eq_true rfl, Nat.le_of_ble_eq_true rfl⟩ (ci := 1) (q0 := 0) rfl rfl rfl rfl hl.1 (Nat.le_of_ble_eq_true rfl) dX1_rain_48 ⟨Nat.zero_le _, Nat.zero_le _⟩ (fun H locs hw => ?_)
  obtain rfl := some_e h
  exact rtL C hr hw dX1_rain_51
set_option maxHeartbeats 4000000 in
set_option maxRecDepth 100000 in
theorem kX1_rain_108 (C : Cx p s m args meth c cX1_rain 8 RX1 D cA g A) (hr : meth.sig.returnType = (some .long)) {z : (Int64 × (Nat → VS))} (k73 : ((Nat → VS) × (Int32) × (Int32) × (Int32) × (Int32) × (Int64) × (Int32)) → Option (Int64 × (Nat → VS))) (hk73 : ∀ x, k73 x = some z → GX1_rain_73 p l e s m args below meth c D cA A ad z x) (x : (Nat → VS) × (Int32) × (Int32) × (Int32) × (Int32) × (Int64) × (Int32)) (h : fX1_rain_108 k73 x = some z) : GX1_rain_108 p l e s m args below meth c D cA A ad z x := by
  obtain ⟨X, x_1, x_2, x_3, x_4, x_5, x_7⟩ := x
  intro H locs ls hw hl
  have hw : Wd D A s.heap (wR cA ad X) H locs := hw
  have hl : lv_has ls 8 [(0, .ref (ad 0)), (1, .int x_1), (2, .int x_2), (3, .int x_3), (4, .int x_4), (5, .long x_5), (7, .int x_7)] := hl
  have hx := C.1.1
  have hb := C.1.2.1
  have h : (bn (x_7 + 1) (fun x1 => k73 (X, x_1, x_2, x_3, x_4, x_5, x1))) = some z := h
  obtain ⟨x1, ex1⟩ : ∃ y : Int32, y = x_7 + 1 := ⟨_, rfl⟩
  replace h := bn_some h ex1
  refine lv_iinc (v := x1) (lv' := [(7, .int x1), (0, .ref (ad 0)), (1, .int x_1), (2, .int x_2), (3, .int x_3), (4, .int x_4), (5, .long x_5)]) hx hb dX1_rain_108 hl (k := 6) rfl (by rw [ex1]; rfl) (by decide) rfl (fun ls hl => ?_)
  refine lv_goto (tgt := 73) hx hb dX1_rain_111 (by decide) ?_
  exact hk73 (X, x_1, x_2, x_3, x_4, x_5, x1) h _ _ _ hw (lv_sub hl [1, 2, 3, 4, 5, 6, 0] rfl)
set_option maxHeartbeats 4000000 in
set_option maxRecDepth 100000 in
theorem kX1_rain_73 (C : Cx p s m args meth c cX1_rain 8 RX1 D cA g A) (hr : meth.sig.returnType = (some .long)) {z : (Int64 × (Nat → VS))} (k73 : ((Nat → VS) × (Int32) × (Int32) × (Int32) × (Int32) × (Int64) × (Int32)) → Option (Int64 × (Nat → VS))) (hk73 : ∀ x, k73 x = some z → GX1_rain_73 p l e s m args below meth c D cA A ad z x) (x : (Nat → VS) × (Int32) × (Int32) × (Int32) × (Int32) × (Int64) × (Int32)) (h : fX1_rain_73 k73 x = some z) : GX1_rain_73 p l e s m args below meth c D cA A ad z x := by
  obtain ⟨X, x_1, x_2, x_3, x_4, x_5, x_7⟩ := x
  intro H locs ls hw hl
  have hw : Wd D A s.heap (wR cA ad X) H locs := hw
  have hl : lv_has ls 8 [(0, .ref (ad 0)), (1, .int x_1), (2, .int x_2), (3, .int x_3), (4, .int x_4), (5, .long x_5), (7, .int x_7)] := hl
  have hx := C.1.1
  have hb := C.1.2.1
  have h : (if ((1 : Int32) <<< (x_2 &&& 31)) ≤ x_7 then cl (fX1_power x_3 x_2) (fun r2 => cl (fX1_partOf x_5 r2 x_4) (fun r3 => some (r3, X))) else cl (fX1_isWholeAfter X x_1 x_2 x_7) (fun q4 => if q4.1 = 0 then fX1_rain_108 k73 (q4.2, x_1, x_2, x_3, x_4, x_5, x_7) else cl (fJ6_bitCount_0f7a4 x_7) (fun r6 => cl (fX1_power (x_3 - (1 : Int32)) r6) (fun r7 => bn (x_5 + r7) (fun x8 => fX1_rain_108 k73 (q4.2, x_1, x_2, x_3, x_4, x8, x_7)))))) = some z := h
  refine lv_iload hx hb dX1_rain_73 (lv_at hl 6 rfl) ?_
  refine lv_iconst (v := 1) hx hb dX1_rain_75 (by decide) ?_
  refine lv_iload_n hx hb dX1_rain_76 rfl (lv_at hl 2 rfl) ?_
  refine lv_ishl hx hb dX1_rain_77 ?_
  refine lv_icmp_ge (tgt := 114) hx hb dX1_rain_78 (by decide) (fun c1 => ?_) (fun c1 => ?_)
  · replace h := (if_pos c1).symm.trans h
    refine lv_lload hx hb dX1_rain_114 (lv_at hl 5 rfl) ?_
    refine lv_iload_n hx hb dX1_rain_116 rfl (lv_at hl 3 rfl) ?_
    refine lv_iload_n hx hb dX1_rain_117 rfl (lv_at hl 2 rfl) ?_
    obtain ⟨r2, hr2, h⟩ := cl_some h
    refine cSl (ws2 := (wR cA ad X)) (As := [.int x_3, .int x_2]) (rest := [.long x_5]) C hw jnE (kX1_power hr2) kl_RX1_223 kt_yX1_power kn_RX1 kc_yX1_power ⟨rfl, rfl⟩ hdX1_power ⟨Nat.le_of_ble_eq_true rfl, Nat.le_of_ble_eq_true rfl⟩ rfl hl.1 (Nat.le_of_ble_eq_true rfl) dX1_rain_118 ⟨Nat.zero_le _, Nat.zero_le _⟩ (fun H locs hw => ?_)
    refine lv_iload hx hb dX1_rain_121 (lv_at hl 4 rfl) ?_
    obtain ⟨r3, hr3, h⟩ := cl_some h
    refine cSl (ws2 := (wR cA ad X)) (As := [.long x_5, .long r2, .int x_4]) (rest := []) C hw jnE (kX1_partOf hr3) kl_RX1_227 kt_yX1_partOf kn_RX1 kc_yX1_partOf ⟨rfl, rfl⟩ hdX1_partOf ⟨Nat.le_of_ble_eq_true rfl, Nat.le_of_ble_eq_true rfl⟩ rfl hl.1 (Nat.le_of_ble_eq_true rfl) dX1_rain_123 ⟨Nat.zero_le _, Nat.zero_le _⟩ (fun H locs hw => ?_)
    obtain rfl := some_e h
    exact rtL C hr hw dX1_rain_126
  · replace h := (if_neg c1).symm.trans h
    refine lv_aload_n hx hb dX1_rain_81 rfl (lv_at hl 0 rfl) ?_
    refine lv_iload_n hx hb dX1_rain_82 rfl (lv_at hl 1 rfl) ?_
    refine lv_iload_n hx hb dX1_rain_83 rfl (lv_at hl 2 rfl) ?_
    refine lv_iload hx hb dX1_rain_84 (lv_at hl 6 rfl) ?_
    obtain ⟨q4, hq4, h⟩ := cl_some h
    refine cVi (ws2 := (wR cA ad q4.2)) (As := [.int x_1, .int x_2, .int x_7]) (rest := []) C hw jnW (kX1_isWholeAfter ad hq4) kl_RX1_219 ki_yX1_isWholeAfter ks_yX1_isWholeAfter kn_RX1 kc_yX1_isWholeAfter ⟨rfl, rfl⟩ hdX1_isWholeAfter ⟨Nat.le_of_ble_eq_true rfl, Nat.le_of_ble_eq_true rfl⟩ (ci := 1) (q0 := 0) rfl rfl rfl rfl hl.1 (Nat.le_of_ble_eq_true rfl) dX1_rain_86 ⟨Nat.zero_le _, Nat.zero_le _⟩ (fun H locs hw => ?_)
    refine lv_if_eq (tgt := 108) hx hb dX1_rain_89 (by decide) (fun c5 => ?_) (fun c5 => ?_)
    · replace h := (if_pos c5).symm.trans h
      exact kX1_rain_108 C hr k73 hk73 (q4.2, x_1, x_2, x_3, x_4, x_5, x_7) h _ _ _ hw (lv_sub hl [0, 1, 2, 3, 4, 5, 6] rfl)
    · replace h := (if_neg c5).symm.trans h
      refine lv_lload hx hb dX1_rain_92 (lv_at hl 5 rfl) ?_
      refine lv_iload_n hx hb dX1_rain_94 rfl (lv_at hl 3 rfl) ?_
      refine lv_iconst (v := 1) hx hb dX1_rain_95 (by decide) ?_
      refine lv_isub hx hb dX1_rain_96 ?_
      refine lv_iload hx hb dX1_rain_97 (lv_at hl 6 rfl) ?_
      obtain ⟨r6, hr6, h⟩ := cl_some h
      refine cSi (ws2 := (wR cA ad q4.2)) (As := [.int x_7]) (rest := [.int (x_3 - (1 : Int32)), .long x_5]) C hw jnE (kJ6_bitCount_0f7a4 hr6) kl_RX1_135 kt_yJ6_bitCount_0f7a4 kn_RJ6 kc_yJ6_bitCount_0f7a4 ⟨rfl, rfl⟩ hdJ6_bitCount_0f7a4 ⟨Nat.le_of_ble_eq_true rfl, Nat.le_of_ble_eq_true rfl⟩ rfl hl.1 (Nat.le_of_ble_eq_true rfl) dX1_rain_99 ⟨Nat.zero_le _, Nat.zero_le _⟩ (fun H locs hw => ?_)
      obtain ⟨r7, hr7, h⟩ := cl_some h
      refine cSl (ws2 := (wR cA ad q4.2)) (As := [.int (x_3 - (1 : Int32)), .int r6]) (rest := [.long x_5]) C hw jnE (kX1_power hr7) kl_RX1_223 kt_yX1_power kn_RX1 kc_yX1_power ⟨rfl, rfl⟩ hdX1_power ⟨Nat.le_of_ble_eq_true rfl, Nat.le_of_ble_eq_true rfl⟩ rfl hl.1 (Nat.le_of_ble_eq_true rfl) dX1_rain_102 ⟨Nat.zero_le _, Nat.zero_le _⟩ (fun H locs hw => ?_)
      refine lv_ladd hx hb dX1_rain_105 ?_
      refine lv_topl (fun x8 ex8 => ?_)
      replace h := bn_some h ex8
      refine lv_lstore (lv' := [(5, .long x8), (0, .ref (ad 0)), (1, .int x_1), (2, .int x_2), (3, .int x_3), (4, .int x_4), (7, .int x_7)]) hx hb dX1_rain_106 hl (by decide) rfl (fun ls hl => ?_)
      exact kX1_rain_108 C hr k73 hk73 (q4.2, x_1, x_2, x_3, x_4, x8, x_7) h _ _ _ hw (lv_sub hl [1, 2, 3, 4, 5, 0, 6] rfl)
theorem lX1_rain_73 (C : Cx p s m args meth c cX1_rain 8 RX1 D cA g A) (hr : meth.sig.returnType = (some .long)) {z : (Int64 × (Nat → VS))} (n : Nat) (x : (Nat → VS) × (Int32) × (Int32) × (Int32) × (Int32) × (Int64) × (Int32)) (h : lp (fX1_rain_73) n x = some z) : GX1_rain_73 p l e s m args below meth c D cA A ad z x := lp_ok (GX1_rain_73 p l e s m args below meth c D cA A ad z) (fun kq hkq x h => kX1_rain_73 C hr kq hkq x h) n x h
set_option maxHeartbeats 4000000 in
set_option maxRecDepth 100000 in
theorem kX1_rain (ad : Nat → Nat) {X : Nat → VS} {a_1 : Int32} {a_2 : Int32} {a_3 : Int32} {a_4 : Int32} {z : (Int64 × (Nat → VS))} (h : fX1_rain X a_1 a_2 a_3 a_4 = some z) : ML l D cA g yX1_rain (Cond.code yX1_rain cX1_rain 8 (some .long) :: lw_g) rmX1_rain [.ref (ad 0), .int a_1, .int a_2, .int a_3, .int a_4] (wR cA ad X) z.1 (wR cA ad z.2) := by
  intro sz
  refine Met.ofW (cc := cX1_rain) (maxL := 8) (ret := (some .long)) (by decide) rfl ?_
  intro p e s m args below meth c s₁ B hml hv
  obtain ⟨rfl, C, hr, hw⟩ := ent B hml hv
  generalize va_A (wR cA ad X) sz = A at C hw ⊢
  have hl := lv_entry ([.ref (ad 0), .int a_1, .int a_2, .int a_3, .int a_4]) (n := 8) (Nat.le_of_ble_eq_true rfl)
  rw [lg_entry_eq]
  generalize (lg_sl ([.ref (ad 0), .int a_1, .int a_2, .int a_3, .int a_4]) ++ List.replicate (8 - (lg_sl ([.ref (ad 0), .int a_1, .int a_2, .int a_3, .int a_4])).length) Slot.unset).toArray = ls at hl ⊢
  have hl : lv_has ls 8 [(0, .ref (ad 0)), (1, .int a_1), (2, .int a_2), (3, .int a_3), (4, .int a_4)] := hl
  have hx := C.1.1
  have hb := C.1.2.1
  have h : (cl (fX0_hasReader (X 0) a_1) (fun r1 => if r1 = 0 then cl (fX1_refuseLong X (-1)) (fun q10 => some (q10.1, q10.2)) else if a_2 < 0 then fX1_rain_26 X else if 2 ≤ a_3 then if 7 < a_2 then fX1_rain_45 X else if a_3 ≤ 20 then cl (fX1_isOneOfTwo a_4) (fun r7 => if r7 = 0 then cl (fX1_refuseLong X (-2)) (fun q9 => some (q9.1, q9.2)) else lp (fX1_rain_73) 5000 (X, a_1, a_2, a_3, a_4, 0, 0)) else fX1_rain_45 X else fX1_rain_26 X)) = some z := h
  refine lv_aload_n hx hb dX1_rain_0 rfl (lv_at hl 0 rfl) ?_
  refine tGet (T := TX1) (N := 12) (ci := 1) C hw inX1 0 0 rfl (by decide) kf_RX1_10 rfl rfl rfl dX1_rain_1 ?_
  refine lv_iload_n hx hb dX1_rain_4 rfl (lv_at hl 1 rfl) ?_
  obtain ⟨r1, hr1, h⟩ := cl_some h
  refine cVi (ws2 := (wR cA ad X)) (As := [.int a_1]) (rest := []) C hw jR0r (kX0_hasReader (fun k => ad (1 + k)) hr1) kl_RX1_100 ki_yX0_hasReader ks_yX0_hasReader kn_RX0 kc_yX0_hasReader ⟨rfl, rfl⟩ hdX0_hasReader ⟨Nat.le_of_ble_eq_true rfl, Nat.le_of_ble_eq_true rfl⟩ (ci := 0) (q0 := 0) rfl rfl rfl rfl hl.1 (Nat.le_of_ble_eq_true rfl) dX1_rain_5 ⟨Nat.zero_le _, Nat.zero_le _⟩ (fun H locs hw => ?_)
  refine lv_if_ne (tgt := 17) hx hb dX1_rain_8 (by decide) (fun c2 => ?_) (fun c2 => ?_)
  · replace h := (if_neg c2).symm.trans h
    refine lv_iload_n hx hb dX1_rain_17 rfl (lv_at hl 2 rfl) ?_
    refine lv_if_lt (tgt := 26) hx hb dX1_rain_18 (by decide) (fun c3 => ?_) (fun c3 => ?_)
    · replace h := (if_pos c3).symm.trans h
      exact kX1_rain_26 C hr X h _ _ _ hw (lv_sub hl [0] rfl)
    · replace h := (if_neg c3).symm.trans h
      refine lv_iload_n hx hb dX1_rain_21 rfl (lv_at hl 3 rfl) ?_
      refine lv_iconst (v := 2) hx hb dX1_rain_22 (by decide) ?_
      refine lv_icmp_ge (tgt := 33) hx hb dX1_rain_23 (by decide) (fun c4 => ?_) (fun c4 => ?_)
      · replace h := (if_pos c4).symm.trans h
        refine lv_iload_n hx hb dX1_rain_33 rfl (lv_at hl 2 rfl) ?_
        refine lv_bipush (v := 7) hx hb dX1_rain_34 (by decide) ?_
        refine lv_icmp_gt (tgt := 45) hx hb dX1_rain_36 (by decide) (fun c5 => ?_) (fun c5 => ?_)
        · replace h := (if_pos c5).symm.trans h
          exact kX1_rain_45 C hr X h _ _ _ hw (lv_sub hl [0] rfl)
        · replace h := (if_neg c5).symm.trans h
          refine lv_iload_n hx hb dX1_rain_39 rfl (lv_at hl 3 rfl) ?_
          refine lv_bipush (v := 20) hx hb dX1_rain_40 (by decide) ?_
          refine lv_icmp_le (tgt := 52) hx hb dX1_rain_42 (by decide) (fun c6 => ?_) (fun c6 => ?_)
          · replace h := (if_pos c6).symm.trans h
            refine lv_iload hx hb dX1_rain_52 (lv_at hl 4 rfl) ?_
            obtain ⟨r7, hr7, h⟩ := cl_some h
            refine cSi (ws2 := (wR cA ad X)) (As := [.int a_4]) (rest := []) C hw jnE (kX1_isOneOfTwo hr7) kl_RX1_156 kt_yX1_isOneOfTwo kn_RX1 kc_yX1_isOneOfTwo ⟨rfl, rfl⟩ hdX1_isOneOfTwo ⟨Nat.le_of_ble_eq_true rfl, Nat.le_of_ble_eq_true rfl⟩ rfl hl.1 (Nat.le_of_ble_eq_true rfl) dX1_rain_54 ⟨Nat.zero_le _, Nat.zero_le _⟩ (fun H locs hw => ?_)
            refine lv_if_ne (tgt := 67) hx hb dX1_rain_57 (by decide) (fun c8 => ?_) (fun c8 => ?_)
            · replace h := (if_neg c8).symm.trans h
              refine lv_lconst (v := 0) hx hb dX1_rain_67 (by decide) ?_
              refine lv_lstore (lv' := [(5, .long 0), (0, .ref (ad 0)), (1, .int a_1), (2, .int a_2), (3, .int a_3), (4, .int a_4)]) hx hb dX1_rain_68 hl (by decide) rfl (fun ls hl => ?_)
              refine lv_iconst (v := 0) hx hb dX1_rain_70 (by decide) ?_
              refine lv_istore (lv' := [(7, .int 0), (5, .long 0), (0, .ref (ad 0)), (1, .int a_1), (2, .int a_2), (3, .int a_3), (4, .int a_4)]) hx hb dX1_rain_71 hl (by decide) rfl (fun ls hl => ?_)
              exact lX1_rain_73 C hr 5000 (X, a_1, a_2, a_3, a_4, 0, 0) h _ _ _ hw (lv_sub hl [2, 3, 4, 5, 6, 1, 0] rfl)
            · replace h := (if_pos c8).symm.trans h
              refine lv_aload_n hx hb dX1_rain_60 rfl (lv_at hl 0 rfl) ?_
              refine lv_bipush (v := (-2)) hx hb dX1_rain_61 (by decide) ?_
              obtain ⟨q9, hq9, h⟩ := cl_some h
              refine cVl (ws2 := (wR cA ad q9.2)) (As := [.int (-2)]) (rest := []) C hw jnW (kX1_refuseLong ad hq9) kl_RX1_215 ki_yX1_refuseLong ks_yX1_refuseLong kn_RX1 kc_yX1_refuseLong ⟨rfl, rfl⟩ hdX1_refuseLong ⟨Nat.le_of_ble_eq_true rfl, Nat.le_of_ble_eq_true rfl⟩ (ci := 1) (q0 := 0) rfl rfl rfl rfl hl.1 (Nat.le_of_ble_eq_true rfl) dX1_rain_63 ⟨Nat.zero_le _, Nat.zero_le _⟩ (fun H locs hw => ?_)
              obtain rfl := some_e h
              exact rtL C hr hw dX1_rain_66
          · replace h := (if_neg c6).symm.trans h
            exact kX1_rain_45 C hr X h _ _ _ hw (lv_sub hl [0] rfl)
      · replace h := (if_neg c4).symm.trans h
        exact kX1_rain_26 C hr X h _ _ _ hw (lv_sub hl [0] rfl)
  · replace h := (if_pos c2).symm.trans h
    refine lv_aload_n hx hb dX1_rain_11 rfl (lv_at hl 0 rfl) ?_
    refine lv_iconst (v := (-1)) hx hb dX1_rain_12 (by decide) ?_
    obtain ⟨q10, hq10, h⟩ := cl_some h
    refine cVl (ws2 := (wR cA ad q10.2)) (As := [.int (-1)]) (rest := []) C hw jnW (kX1_refuseLong ad hq10) kl_RX1_215 ki_yX1_refuseLong ks_yX1_refuseLong kn_RX1 kc_yX1_refuseLong ⟨rfl, rfl⟩ hdX1_refuseLong ⟨Nat.le_of_ble_eq_true rfl, Nat.le_of_ble_eq_true rfl⟩ (ci := 1) (q0 := 0) rfl rfl rfl rfl hl.1 (Nat.le_of_ble_eq_true rfl) dX1_rain_13 ⟨Nat.zero_le _, Nat.zero_le _⟩ (fun H locs hw => ?_)
    obtain rfl := some_e h
    exact rtL C hr hw dX1_rain_16
abbrev rmX1_mean : Room := { frames := 2, cells := 0, slots := 0, locals := 56 }
theorem hdX1_mean : yX1_mean.cls = RX1 ∧ yX1_mean.cls ≠ "java/lang/invoke/MethodHandle" ∧ yX1_mean.cls ≠ "java/lang/invoke/VarHandle" ∧ (parseMethodDescriptor yX1_mean.desc).map (fun d => d.parameters.length) = some 1 := by decide +kernel
def GX1_mean_19 (p : Program) (l : Launch) (e : Env) (s : State) (m : MethodId) (args : Array Value) (below : List Frame) (meth : Method) (c : Code) (D : va_G) (cA : ClassId) (A : Nat → Prop) (ad : Nat → Nat) (z : (Int64 × (Nat → VS))) (x : (Nat → VS) × (Int32) × (Int64) × (Int32)) : Prop := ∀ (H : Heap) (locs : List Loc) (ls : Array Slot), Wd D A s.heap (wR cA ad x.1) H locs → lv_has ls 5 [(0, .ref (ad 0)), (1, .int x.2.1), (2, .long x.2.2.1), (4, .int x.2.2.2)] → W p l e rmX1_mean s m args below meth c H locs 0 0 (MQ below (QL D cA A z.1 (wR cA ad z.2)) args s 0 0 A) (F0 m 19 ls [])
def fX1_mean_19 (k19 : ((Nat → VS) × (Int32) × (Int64) × (Int32)) → Option (Int64 × (Nat → VS))) : ((Nat → VS) × (Int32) × (Int64) × (Int32)) → Option (Int64 × (Nat → VS)) := fun x => match x with | (X, x_1, x_2, x_4) => if (X 0 0 0) ≤ x_4 then bn (if (X 0 0 0) < 1 then 1 else (X 0 0 0)) (fun x2 => cl (fX1_partOf x_2 ((x2 : Int32).toInt64) x_1) (fun r3 => some (r3, X))) else cl (fX0_costOf (X 0) x_4) (fun r4 => bn (x_2 + (r4 : Int32).toInt64) (fun x5 => bn (x_4 + 1) (fun x6 => k19 (X, x_1, x5, x6))))
def fX1_mean (X : Nat → VS) (a_1 : Int32) : Option (Int64 × (Nat → VS)) := cl (fX1_isOneOfTwo a_1) (fun r1 => if r1 = 0 then cl (fX1_refuseLong X (-2)) (fun q3 => some (q3.1, q3.2)) else lp (fX1_mean_19) 5000 (X, a_1, 0, 0))
set_option maxHeartbeats 4000000 in
set_option maxRecDepth 100000 in
theorem kX1_mean_19 (C : Cx p s m args meth c cX1_mean 5 RX1 D cA g A) (hr : meth.sig.returnType = (some .long)) {z : (Int64 × (Nat → VS))} (k19 : ((Nat → VS) × (Int32) × (Int64) × (Int32)) → Option (Int64 × (Nat → VS))) (hk19 : ∀ x, k19 x = some z → GX1_mean_19 p l e s m args below meth c D cA A ad z x) (x : (Nat → VS) × (Int32) × (Int64) × (Int32)) (h : fX1_mean_19 k19 x = some z) : GX1_mean_19 p l e s m args below meth c D cA A ad z x := by
  obtain ⟨X, x_1, x_2, x_4⟩ := x
  intro H locs ls hw hl
  have hw : Wd D A s.heap (wR cA ad X) H locs := hw
  have hl : lv_has ls 5 [(0, .ref (ad 0)), (1, .int x_1), (2, .long x_2), (4, .int x_4)] := hl
  have hx := C.1.1
  have hb := C.1.2.1
  have h : (if (X 0 0 0) ≤ x_4 then bn (if (X 0 0 0) < 1 then 1 else (X 0 0 0)) (fun x2 => cl (fX1_partOf x_2 ((x2 : Int32).toInt64) x_1) (fun r3 => some (r3, X))) else cl (fX0_costOf (X 0) x_4) (fun r4 => bn (x_2 + (r4 : Int32).toInt64) (fun x5 => bn (x_4 + 1) (fun x6 => k19 (X, x_1, x5, x6))))) = some z := h
  refine lv_iload hx hb dX1_mean_19 (lv_at hl 3 rfl) ?_
  refine lv_aload_n hx hb dX1_mean_21 rfl (lv_at hl 0 rfl) ?_
  refine tGet (T := TX1) (N := 12) (ci := 1) C hw inX1 0 0 rfl (by decide) kf_RX1_10 rfl rfl rfl dX1_mean_22 ?_
  refine tGet (T := TX0) (N := 12) (ci := 0) C hw inX0 0 1 rfl (by decide) kf_RX1_129 rfl rfl rfl dX1_mean_25 ?_
  refine lv_icmp_ge (tgt := 50) hx hb dX1_mean_28 (by decide) (fun c1 => ?_) (fun c1 => ?_)
  · replace h := (if_pos c1).symm.trans h
    refine lv_lload_n hx hb dX1_mean_50 rfl (lv_at hl 2 rfl) ?_
    refine lv_aload_n hx hb dX1_mean_51 rfl (lv_at hl 0 rfl) ?_
    refine tGet (T := TX1) (N := 12) (ci := 1) C hw inX1 0 0 rfl (by decide) kf_RX1_10 rfl rfl rfl dX1_mean_52 ?_
    refine tGet (T := TX0) (N := 12) (ci := 0) C hw inX0 0 1 rfl (by decide) kf_RX1_129 rfl rfl rfl dX1_mean_55 ?_
    refine lv_iconst (v := 1) hx hb dX1_mean_58 (by decide) ?_
    refine va_mmax hx hb (by rw [hl.1]; exact C.1.2.2.1) C.1.2.2.2.1 (C.1.2.2.2.2 _ kl_RX1_231) (C.1.2.2.2.2 _ kt_yJ9_max_7cf53) (C.1.2.2.2.2 _ kn_RJ9) (C.1.2.2.2.2 _ kc_yJ9_max_7cf53) (Nat.le_of_ble_eq_true rfl) (Nat.le_of_ble_eq_true rfl) (Nat.zero_le _) (Nat.zero_le _) dX1_mean_59 ?_
    refine lv_topi (fun x2 ex2 => ?_)
    replace h := bn_some h ex2
    refine lv_i2l (v := (x2 : Int32).toInt64) hx hb dX1_mean_62 rfl ?_
    refine lv_iload_n hx hb dX1_mean_63 rfl (lv_at hl 1 rfl) ?_
    obtain ⟨r3, hr3, h⟩ := cl_some h
    refine cSl (ws2 := (wR cA ad X)) (As := [.long x_2, .long ((x2 : Int32).toInt64), .int x_1]) (rest := []) C hw jnE (kX1_partOf hr3) kl_RX1_227 kt_yX1_partOf kn_RX1 kc_yX1_partOf ⟨rfl, rfl⟩ hdX1_partOf ⟨Nat.le_of_ble_eq_true rfl, Nat.le_of_ble_eq_true rfl⟩ rfl hl.1 (Nat.le_of_ble_eq_true rfl) dX1_mean_64 ⟨Nat.zero_le _, Nat.zero_le _⟩ (fun H locs hw => ?_)
    obtain rfl := some_e h
    exact rtL C hr hw dX1_mean_67
  · replace h := (if_neg c1).symm.trans h
    refine lv_lload_n hx hb dX1_mean_31 rfl (lv_at hl 2 rfl) ?_
    refine lv_aload_n hx hb dX1_mean_32 rfl (lv_at hl 0 rfl) ?_
    refine tGet (T := TX1) (N := 12) (ci := 1) C hw inX1 0 0 rfl (by decide) kf_RX1_10 rfl rfl rfl dX1_mean_33 ?_
    refine lv_iload hx hb dX1_mean_36 (lv_at hl 3 rfl) ?_
    obtain ⟨r4, hr4, h⟩ := cl_some h
    refine cVi (ws2 := (wR cA ad X)) (As := [.int x_4]) (rest := [.long x_2]) C hw jR0r (kX0_costOf (fun k => ad (1 + k)) hr4) kl_RX1_85 ki_yX0_costOf ks_yX0_costOf kn_RX0 kc_yX0_costOf ⟨rfl, rfl⟩ hdX0_costOf ⟨Nat.le_of_ble_eq_true rfl, Nat.le_of_ble_eq_true rfl⟩ (ci := 0) (q0 := 0) rfl rfl rfl rfl hl.1 (Nat.le_of_ble_eq_true rfl) dX1_mean_38 ⟨Nat.zero_le _, Nat.zero_le _⟩ (fun H locs hw => ?_)
    refine lv_i2l (v := (r4 : Int32).toInt64) hx hb dX1_mean_41 rfl ?_
    refine lv_ladd hx hb dX1_mean_42 ?_
    refine lv_topl (fun x5 ex5 => ?_)
    replace h := bn_some h ex5
    refine lv_lstore_n (lv' := [(2, .long x5), (0, .ref (ad 0)), (1, .int x_1), (4, .int x_4)]) hx hb dX1_mean_43 rfl hl (by decide) rfl (fun ls hl => ?_)
    obtain ⟨x6, ex6⟩ : ∃ y : Int32, y = x_4 + 1 := ⟨_, rfl⟩
    replace h := bn_some h ex6
    refine lv_iinc (v := x6) (lv' := [(4, .int x6), (2, .long x5), (0, .ref (ad 0)), (1, .int x_1)]) hx hb dX1_mean_44 hl (k := 3) rfl (by rw [ex6]; rfl) (by decide) rfl (fun ls hl => ?_)
    refine lv_goto (tgt := 19) hx hb dX1_mean_47 (by decide) ?_
    exact hk19 (X, x_1, x5, x6) h _ _ _ hw (lv_sub hl [2, 3, 1, 0] rfl)
theorem lX1_mean_19 (C : Cx p s m args meth c cX1_mean 5 RX1 D cA g A) (hr : meth.sig.returnType = (some .long)) {z : (Int64 × (Nat → VS))} (n : Nat) (x : (Nat → VS) × (Int32) × (Int64) × (Int32)) (h : lp (fX1_mean_19) n x = some z) : GX1_mean_19 p l e s m args below meth c D cA A ad z x := lp_ok (GX1_mean_19 p l e s m args below meth c D cA A ad z) (fun kq hkq x h => kX1_mean_19 C hr kq hkq x h) n x h
set_option maxHeartbeats 4000000 in
set_option maxRecDepth 100000 in
theorem kX1_mean (ad : Nat → Nat) {X : Nat → VS} {a_1 : Int32} {z : (Int64 × (Nat → VS))} (h : fX1_mean X a_1 = some z) : ML l D cA g yX1_mean (Cond.code yX1_mean cX1_mean 5 (some .long) :: lw_g) rmX1_mean [.ref (ad 0), .int a_1] (wR cA ad X) z.1 (wR cA ad z.2) := by
  intro sz
  refine Met.ofW (cc := cX1_mean) (maxL := 5) (ret := (some .long)) (by decide) rfl ?_
  intro p e s m args below meth c s₁ B hml hv
  obtain ⟨rfl, C, hr, hw⟩ := ent B hml hv
  generalize va_A (wR cA ad X) sz = A at C hw ⊢
  have hl := lv_entry ([.ref (ad 0), .int a_1]) (n := 5) (Nat.le_of_ble_eq_true rfl)
  rw [lg_entry_eq]
  generalize (lg_sl ([.ref (ad 0), .int a_1]) ++ List.replicate (5 - (lg_sl ([.ref (ad 0), .int a_1])).length) Slot.unset).toArray = ls at hl ⊢
  have hl : lv_has ls 5 [(0, .ref (ad 0)), (1, .int a_1)] := hl
  have hx := C.1.1
  have hb := C.1.2.1
  have h : (cl (fX1_isOneOfTwo a_1) (fun r1 => if r1 = 0 then cl (fX1_refuseLong X (-2)) (fun q3 => some (q3.1, q3.2)) else lp (fX1_mean_19) 5000 (X, a_1, 0, 0))) = some z := h
  refine lv_iload_n hx hb dX1_mean_0 rfl (lv_at hl 1 rfl) ?_
  obtain ⟨r1, hr1, h⟩ := cl_some h
  refine cSi (ws2 := (wR cA ad X)) (As := [.int a_1]) (rest := []) C hw jnE (kX1_isOneOfTwo hr1) kl_RX1_156 kt_yX1_isOneOfTwo kn_RX1 kc_yX1_isOneOfTwo ⟨rfl, rfl⟩ hdX1_isOneOfTwo ⟨Nat.le_of_ble_eq_true rfl, Nat.le_of_ble_eq_true rfl⟩ rfl hl.1 (Nat.le_of_ble_eq_true rfl) dX1_mean_1 ⟨Nat.zero_le _, Nat.zero_le _⟩ (fun H locs hw => ?_)
  refine lv_if_ne (tgt := 14) hx hb dX1_mean_4 (by decide) (fun c2 => ?_) (fun c2 => ?_)
  · replace h := (if_neg c2).symm.trans h
    refine lv_lconst (v := 0) hx hb dX1_mean_14 (by decide) ?_
    refine lv_lstore_n (lv' := [(2, .long 0), (0, .ref (ad 0)), (1, .int a_1)]) hx hb dX1_mean_15 rfl hl (by decide) rfl (fun ls hl => ?_)
    refine lv_iconst (v := 0) hx hb dX1_mean_16 (by decide) ?_
    refine lv_istore (lv' := [(4, .int 0), (2, .long 0), (0, .ref (ad 0)), (1, .int a_1)]) hx hb dX1_mean_17 hl (by decide) rfl (fun ls hl => ?_)
    exact lX1_mean_19 C hr 5000 (X, a_1, 0, 0) h _ _ _ hw (lv_sub hl [2, 3, 1, 0] rfl)
  · replace h := (if_pos c2).symm.trans h
    refine lv_aload_n hx hb dX1_mean_7 rfl (lv_at hl 0 rfl) ?_
    refine lv_bipush (v := (-2)) hx hb dX1_mean_8 (by decide) ?_
    obtain ⟨q3, hq3, h⟩ := cl_some h
    refine cVl (ws2 := (wR cA ad q3.2)) (As := [.int (-2)]) (rest := []) C hw jnW (kX1_refuseLong ad hq3) kl_RX1_215 ki_yX1_refuseLong ks_yX1_refuseLong kn_RX1 kc_yX1_refuseLong ⟨rfl, rfl⟩ hdX1_refuseLong ⟨Nat.le_of_ble_eq_true rfl, Nat.le_of_ble_eq_true rfl⟩ (ci := 1) (q0 := 0) rfl rfl rfl rfl hl.1 (Nat.le_of_ble_eq_true rfl) dX1_mean_10 ⟨Nat.zero_le _, Nat.zero_le _⟩ (fun H locs hw => ?_)
    obtain rfl := some_e h
    exact rtL C hr hw dX1_mean_13
abbrev rmX1_rowFitsMind : Room := { frames := 1, cells := 0, slots := 0, locals := 23 }
theorem hdX1_rowFitsMind : yX1_rowFitsMind.cls = RX1 ∧ yX1_rowFitsMind.cls ≠ "java/lang/invoke/MethodHandle" ∧ yX1_rowFitsMind.cls ≠ "java/lang/invoke/VarHandle" ∧ (parseMethodDescriptor yX1_rowFitsMind.desc).map (fun d => d.parameters.length) = some 0 := by decide +kernel
def GX1_rowFitsMind_18 (p : Program) (l : Launch) (e : Env) (s : State) (m : MethodId) (args : Array Value) (below : List Frame) (meth : Method) (c : Code) (D : va_G) (cA : ClassId) (A : Nat → Prop) (ad : Nat → Nat) (X : Nat → VS) (z : Int32) (x : (Int32)) : Prop := ∀ (H : Heap) (locs : List Loc) (ls : Array Slot), Wd D A s.heap (wR cA ad X) H locs → lv_has ls 2 [(0, .ref (ad 0)), (1, .int x)] → W p l e rmX1_rowFitsMind s m args below meth c H locs 0 0 (MQ below (QI D cA A z (wR cA ad X)) args s 0 0 A) (F0 m 18 ls [])
def fX1_rowFitsMind_18 (X : Nat → VS) (k18 : ((Int32)) → Option Int32) : ((Int32)) → Option Int32 := fun x_1 => if (X 3 7 0) ≤ x_1 then some 1 else cl (fX0_wordsOf (X 1) x_1) (fun r2 => cl (fJ6_bitCount_0f7a4 r2) (fun r3 => rd 16 (X 3 6) x_1 (fun r4 => if r3 = r4 then bn (x_1 + 1) (fun x6 => k18 x6) else some 0)))
def fX1_rowFitsMind (X : Nat → VS) : Option Int32 := if (X 3 7 0) ≤ (X 1 5 0) then lp (fX1_rowFitsMind_18 X) 5000 0 else some 0
set_option maxHeartbeats 4000000 in
set_option maxRecDepth 100000 in
theorem kX1_rowFitsMind_18 (C : Cx p s m args meth c cX1_rowFitsMind 2 RX1 D cA g A) (hr : meth.sig.returnType = (some .boolean)) {z : Int32} (X : Nat → VS) (k18 : ((Int32)) → Option Int32) (hk18 : ∀ x, k18 x = some z → GX1_rowFitsMind_18 p l e s m args below meth c D cA A ad X z x) (x : (Int32)) (h : fX1_rowFitsMind_18 X k18 x = some z) : GX1_rowFitsMind_18 p l e s m args below meth c D cA A ad X z x := by
  obtain ⟨x_1, rfl⟩ : ∃ y, y = x := ⟨_, rfl⟩
  intro H locs ls hw hl
  have hw : Wd D A s.heap (wR cA ad X) H locs := hw
  have hl : lv_has ls 2 [(0, .ref (ad 0)), (1, .int x_1)] := hl
  have hx := C.1.1
  have hb := C.1.2.1
  have h : (if (X 3 7 0) ≤ x_1 then some 1 else cl (fX0_wordsOf (X 1) x_1) (fun r2 => cl (fJ6_bitCount_0f7a4 r2) (fun r3 => rd 16 (X 3 6) x_1 (fun r4 => if r3 = r4 then bn (x_1 + 1) (fun x6 => k18 x6) else some 0)))) = some z := h
  refine lv_iload_n hx hb dX1_rowFitsMind_18 rfl (lv_at hl 1 rfl) ?_
  refine lv_aload_n hx hb dX1_rowFitsMind_19 rfl (lv_at hl 0 rfl) ?_
  refine tGet (T := TX1) (N := 12) (ci := 1) C hw inX1 7 0 rfl (by decide) kf_RX1_37 rfl rfl rfl dX1_rowFitsMind_20 ?_
  refine lv_icmp_ge (tgt := 54) hx hb dX1_rowFitsMind_23 (by decide) (fun c1 => ?_) (fun c1 => ?_)
  · replace h := (if_pos c1).symm.trans h
    refine lv_iconst (v := 1) hx hb dX1_rowFitsMind_54 (by decide) ?_
    obtain rfl := some_e h
    exact rtZ C hr nz1 hw dX1_rowFitsMind_55
  · replace h := (if_neg c1).symm.trans h
    refine lv_aload_n hx hb dX1_rowFitsMind_26 rfl (lv_at hl 0 rfl) ?_
    refine tGet (T := TX1) (N := 12) (ci := 1) C hw inX1 1 0 rfl (by decide) kf_RX1_16 rfl rfl rfl dX1_rowFitsMind_27 ?_
    refine lv_iload_n hx hb dX1_rowFitsMind_30 rfl (lv_at hl 1 rfl) ?_
    obtain ⟨r2, hr2, h⟩ := cl_some h
    refine cVi (ws2 := (wR cA ad X)) (As := [.int x_1]) (rest := []) C hw jR1r (kX0_wordsOf (fun k => ad (8 + k)) hr2) kl_RX1_109 ki_yX0_wordsOf ks_yX0_wordsOf kn_RX0 kc_yX0_wordsOf ⟨rfl, rfl⟩ hdX0_wordsOf ⟨Nat.le_of_ble_eq_true rfl, Nat.le_of_ble_eq_true rfl⟩ (ci := 0) (q0 := 0) rfl rfl rfl rfl hl.1 (Nat.le_of_ble_eq_true rfl) dX1_rowFitsMind_31 ⟨Nat.zero_le _, Nat.zero_le _⟩ (fun H locs hw => ?_)
    obtain ⟨r3, hr3, h⟩ := cl_some h
    refine cSi (ws2 := (wR cA ad X)) (As := [.int r2]) (rest := []) C hw jnE (kJ6_bitCount_0f7a4 hr3) kl_RX1_135 kt_yJ6_bitCount_0f7a4 kn_RJ6 kc_yJ6_bitCount_0f7a4 ⟨rfl, rfl⟩ hdJ6_bitCount_0f7a4 ⟨Nat.le_of_ble_eq_true rfl, Nat.le_of_ble_eq_true rfl⟩ rfl hl.1 (Nat.le_of_ble_eq_true rfl) dX1_rowFitsMind_34 ⟨Nat.zero_le _, Nat.zero_le _⟩ (fun H locs hw => ?_)
    refine lv_aload_n hx hb dX1_rowFitsMind_37 rfl (lv_at hl 0 rfl) ?_
    refine tGet (T := TX1) (N := 12) (ci := 1) C hw inX1 6 0 rfl (by decide) kf_RX1_34 rfl rfl rfl dX1_rowFitsMind_38 ?_
    refine lv_iload_n hx hb dX1_rowFitsMind_41 rfl (lv_at hl 1 rfl) ?_
    obtain ⟨r4, ir4, er4, h⟩ := rd_some h
    refine tLd C hw 23 rfl ir4 er4 dX1_rowFitsMind_42 ?_
    refine lv_icmp_eq (tgt := 48) hx hb dX1_rowFitsMind_43 (by decide) (fun c5 => ?_) (fun c5 => ?_)
    · replace h := (if_pos c5).symm.trans h
      obtain ⟨x6, ex6⟩ : ∃ y : Int32, y = x_1 + 1 := ⟨_, rfl⟩
      replace h := bn_some h ex6
      refine lv_iinc (v := x6) (lv' := [(1, .int x6), (0, .ref (ad 0))]) hx hb dX1_rowFitsMind_48 hl (k := 1) rfl (by rw [ex6]; rfl) (by decide) rfl (fun ls hl => ?_)
      refine lv_goto (tgt := 18) hx hb dX1_rowFitsMind_51 (by decide) ?_
      exact hk18 x6 h _ _ _ hw (lv_sub hl [1, 0] rfl)
    · replace h := (if_neg c5).symm.trans h
      refine lv_iconst (v := 0) hx hb dX1_rowFitsMind_46 (by decide) ?_
      obtain rfl := some_e h
      exact rtZ C hr nz0 hw dX1_rowFitsMind_47
theorem lX1_rowFitsMind_18 (C : Cx p s m args meth c cX1_rowFitsMind 2 RX1 D cA g A) (hr : meth.sig.returnType = (some .boolean)) {z : Int32} (X : Nat → VS) (n : Nat) (x : (Int32)) (h : lp (fX1_rowFitsMind_18 X) n x = some z) : GX1_rowFitsMind_18 p l e s m args below meth c D cA A ad X z x := lp_ok (GX1_rowFitsMind_18 p l e s m args below meth c D cA A ad X z) (fun kq hkq x h => kX1_rowFitsMind_18 C hr X kq hkq x h) n x h
set_option maxHeartbeats 4000000 in
set_option maxRecDepth 100000 in
theorem kX1_rowFitsMind (ad : Nat → Nat) {X : Nat → VS} {z : Int32} (h : fX1_rowFitsMind X = some z) : MI l D cA g yX1_rowFitsMind (Cond.code yX1_rowFitsMind cX1_rowFitsMind 2 (some .boolean) :: lw_g) rmX1_rowFitsMind [.ref (ad 0)] (wR cA ad X) z (wR cA ad X) := by
  intro sz
  refine Met.ofW (cc := cX1_rowFitsMind) (maxL := 2) (ret := (some .boolean)) (by decide) rfl ?_
  intro p e s m args below meth c s₁ B hml hv
  obtain ⟨rfl, C, hr, hw⟩ := ent B hml hv
  generalize va_A (wR cA ad X) sz = A at C hw ⊢
  have hl := lv_entry ([.ref (ad 0)]) (n := 2) (Nat.le_of_ble_eq_true rfl)
  rw [lg_entry_eq]
  generalize (lg_sl ([.ref (ad 0)]) ++ List.replicate (2 - (lg_sl ([.ref (ad 0)])).length) Slot.unset).toArray = ls at hl ⊢
  have hl : lv_has ls 2 [(0, .ref (ad 0))] := hl
  have hx := C.1.1
  have hb := C.1.2.1
  have h : (if (X 3 7 0) ≤ (X 1 5 0) then lp (fX1_rowFitsMind_18 X) 5000 0 else some 0) = some z := h
  refine lv_aload_n hx hb dX1_rowFitsMind_0 rfl (lv_at hl 0 rfl) ?_
  refine tGet (T := TX1) (N := 12) (ci := 1) C hw inX1 7 0 rfl (by decide) kf_RX1_37 rfl rfl rfl dX1_rowFitsMind_1 ?_
  refine lv_aload_n hx hb dX1_rowFitsMind_4 rfl (lv_at hl 0 rfl) ?_
  refine tGet (T := TX1) (N := 12) (ci := 1) C hw inX1 1 0 rfl (by decide) kf_RX1_16 rfl rfl rfl dX1_rowFitsMind_5 ?_
  refine tGet (T := TX0) (N := 12) (ci := 0) C hw inX0 5 8 rfl (by decide) kf_RX1_203 rfl rfl rfl dX1_rowFitsMind_8 ?_
  refine lv_icmp_le (tgt := 16) hx hb dX1_rowFitsMind_11 (by decide) (fun c1 => ?_) (fun c1 => ?_)
  · replace h := (if_pos c1).symm.trans h
    refine lv_iconst (v := 0) hx hb dX1_rowFitsMind_16 (by decide) ?_
    refine lv_istore_n (lv' := [(1, .int 0), (0, .ref (ad 0))]) hx hb dX1_rowFitsMind_17 rfl hl (by decide) rfl (fun ls hl => ?_)
    exact lX1_rowFitsMind_18 C hr X 5000 0 h _ _ _ hw (lv_sub hl [1, 0] rfl)
  · replace h := (if_neg c1).symm.trans h
    refine lv_iconst (v := 0) hx hb dX1_rowFitsMind_14 (by decide) ?_
    obtain rfl := some_e h
    exact rtZ C hr nz0 hw dX1_rowFitsMind_15
abbrev rmX1_whatSaid : Room := { frames := 3, cells := 0, slots := 0, locals := 76 }
theorem hdX1_whatSaid : yX1_whatSaid.cls = RX1 ∧ yX1_whatSaid.cls ≠ "java/lang/invoke/MethodHandle" ∧ yX1_whatSaid.cls ≠ "java/lang/invoke/VarHandle" ∧ (parseMethodDescriptor yX1_whatSaid.desc).map (fun d => d.parameters.length) = some 2 := by decide +kernel
def GX1_whatSaid_120 (p : Program) (l : Launch) (e : Env) (s : State) (m : MethodId) (args : Array Value) (below : List Frame) (meth : Method) (c : Code) (D : va_G) (cA : ClassId) (A : Nat → Prop) (ad : Nat → Nat) (z : (Int32 × (Nat → VS))) (x : (Nat → VS) × (Int32) × (Int32) × (Int32) × (Int32) × (Int32)) : Prop := ∀ (H : Heap) (locs : List Loc) (ls : Array Slot), Wd D A s.heap (wR cA ad x.1) H locs → lv_has ls 6 [(0, .ref (ad 0)), (1, .int x.2.1), (2, .int x.2.2.1), (3, .int x.2.2.2.1), (4, .int x.2.2.2.2.1), (5, .int x.2.2.2.2.2)] → W p l e rmX1_whatSaid s m args below meth c H locs 0 0 (MQ below (QI D cA A z.1 (wR cA ad z.2)) args s 0 0 A) (F0 m 120 ls [])
def GX1_whatSaid_96 (p : Program) (l : Launch) (e : Env) (s : State) (m : MethodId) (args : Array Value) (below : List Frame) (meth : Method) (c : Code) (D : va_G) (cA : ClassId) (A : Nat → Prop) (ad : Nat → Nat) (z : (Int32 × (Nat → VS))) (x : (Nat → VS) × (Int32) × (Int32) × (Int32) × (Int32) × (Int32)) : Prop := ∀ (H : Heap) (locs : List Loc) (ls : Array Slot), Wd D A s.heap (wR cA ad x.1) H locs → lv_has ls 6 [(0, .ref (ad 0)), (1, .int x.2.1), (2, .int x.2.2.1), (3, .int x.2.2.2.1), (4, .int x.2.2.2.2.1), (5, .int x.2.2.2.2.2)] → W p l e rmX1_whatSaid s m args below meth c H locs 0 0 (MQ below (QI D cA A z.1 (wR cA ad z.2)) args s 0 0 A) (F0 m 96 ls [])
def GX1_whatSaid_49 (p : Program) (l : Launch) (e : Env) (s : State) (m : MethodId) (args : Array Value) (below : List Frame) (meth : Method) (c : Code) (D : va_G) (cA : ClassId) (A : Nat → Prop) (ad : Nat → Nat) (z : (Int32 × (Nat → VS))) (x : (Nat → VS) × (Int32) × (Int32) × (Int32) × (Int32) × (Int32)) : Prop := ∀ (H : Heap) (locs : List Loc) (ls : Array Slot), Wd D A s.heap (wR cA ad x.1) H locs → lv_has ls 6 [(0, .ref (ad 0)), (1, .int x.2.1), (2, .int x.2.2.1), (3, .int x.2.2.2.1), (4, .int x.2.2.2.2.1), (5, .int x.2.2.2.2.2)] → W p l e rmX1_whatSaid s m args below meth c H locs 0 0 (MQ below (QI D cA A z.1 (wR cA ad z.2)) args s 0 0 A) (F0 m 49 ls [])
def GX1_whatSaid_44 (p : Program) (l : Launch) (e : Env) (s : State) (m : MethodId) (args : Array Value) (below : List Frame) (meth : Method) (c : Code) (D : va_G) (cA : ClassId) (A : Nat → Prop) (ad : Nat → Nat) (z : (Int32 × (Nat → VS))) (x : (Nat → VS) × (Int32) × (Int32) × (Int32) × (Int32)) : Prop := ∀ (H : Heap) (locs : List Loc) (ls : Array Slot), Wd D A s.heap (wR cA ad x.1) H locs → lv_has ls 6 [(0, .ref (ad 0)), (1, .int x.2.1), (2, .int x.2.2.1), (3, .int x.2.2.2.1)] → W p l e rmX1_whatSaid s m args below meth c H locs 0 0 (MQ below (QI D cA A z.1 (wR cA ad z.2)) args s 0 0 A) (F0 m 44 ls [.int x.2.2.2.2])
def fX1_whatSaid_120 (k49 : ((Nat → VS) × (Int32) × (Int32) × (Int32) × (Int32) × (Int32)) → Option (Int32 × (Nat → VS))) : ((Nat → VS) × (Int32) × (Int32) × (Int32) × (Int32) × (Int32)) → Option (Int32 × (Nat → VS)) := fun x => match x with | (X, x_1, x_2, x_3, x_4, x_5) => bn (x_5 + 1) (fun x1 => k49 (X, x_1, x_2, x_3, x_4, x1))
def fX1_whatSaid_96 (k49 : ((Nat → VS) × (Int32) × (Int32) × (Int32) × (Int32) × (Int32)) → Option (Int32 × (Nat → VS))) : ((Nat → VS) × (Int32) × (Int32) × (Int32) × (Int32) × (Int32)) → Option (Int32 × (Nat → VS)) := fun x => match x with | (X, x_1, x_2, x_3, x_4, x_5) => cl (fX0_sendUp (X 1) x_1 31) (fun w1 => bn (up X 1 w1) (fun w2 => cl (fX1_rowFitsMind w2) (fun r3 => if r3 = 0 then fX1_whatSaid_120 k49 (w2, x_1, x_2, x_3, x_4, x_5) else bn (x_3 ||| ((1 : Int32) <<< (x_5 &&& 31))) (fun x5 => fX1_whatSaid_120 k49 (w2, x_1, x_2, x5, x_4, x_5)))))
def fX1_whatSaid_49 (k49 : ((Nat → VS) × (Int32) × (Int32) × (Int32) × (Int32) × (Int32)) → Option (Int32 × (Nat → VS))) : ((Nat → VS) × (Int32) × (Int32) × (Int32) × (Int32) × (Int32)) → Option (Int32 × (Nat → VS)) := fun x => match x with | (X, x_1, x_2, x_3, x_4, x_5) => if x_4 ≤ x_5 then some (x_3, X) else cl (fX0_copyFrom (X 1) (X 0)) (fun w2 => bn (up X 1 w2) (fun w3 => if x_2 = 0 then ck 9 x_1 (bn (up w3 1 (up (w3 1) 3 (upd (w3 1 3) (x_1 : Int32).toNatClampNeg x_5))) (fun w6 => fX1_whatSaid_96 k49 (w6, x_1, x_2, x_3, x_4, x_5))) else ck 9 x_1 (bn (up w3 1 (up (w3 1) 1 (upd (w3 1 1) (x_1 : Int32).toNatClampNeg x_5))) (fun w5 => fX1_whatSaid_96 k49 (w5, x_1, x_2, x_3, x_4, x_5)))))
def fX1_whatSaid_44 : ((Nat → VS) × (Int32) × (Int32) × (Int32) × (Int32)) → Option (Int32 × (Nat → VS)) := fun x => match x with | (X, x_1, x_2, x_3, y_0) => lp (fX1_whatSaid_49) 5000 (X, x_1, x_2, x_3, y_0, 0)
def fX1_whatSaid (X : Nat → VS) (a_1 : Int32) (a_2 : Int32) : Option (Int32 × (Nat → VS)) := cl (fX0_hasRocket (X 0) a_1) (fun r1 => if r1 = 0 then cl (fX1_refuse X (-1)) (fun q7 => some (q7.1, q7.2)) else cl (fX1_isOneOfTwo a_2) (fun r3 => if r3 = 0 then cl (fX1_refuse X (-2)) (fun q6 => some (q6.1, q6.2)) else if a_2 = 0 then fX1_whatSaid_44 (X, a_1, a_2, 0, 6) else fX1_whatSaid_44 (X, a_1, a_2, 0, 6)))
set_option maxHeartbeats 4000000 in
set_option maxRecDepth 100000 in
theorem kX1_whatSaid_120 (C : Cx p s m args meth c cX1_whatSaid 6 RX1 D cA g A) (hr : meth.sig.returnType = (some .int)) {z : (Int32 × (Nat → VS))} (k49 : ((Nat → VS) × (Int32) × (Int32) × (Int32) × (Int32) × (Int32)) → Option (Int32 × (Nat → VS))) (hk49 : ∀ x, k49 x = some z → GX1_whatSaid_49 p l e s m args below meth c D cA A ad z x) (x : (Nat → VS) × (Int32) × (Int32) × (Int32) × (Int32) × (Int32)) (h : fX1_whatSaid_120 k49 x = some z) : GX1_whatSaid_120 p l e s m args below meth c D cA A ad z x := by
  obtain ⟨X, x_1, x_2, x_3, x_4, x_5⟩ := x
  intro H locs ls hw hl
  have hw : Wd D A s.heap (wR cA ad X) H locs := hw
  have hl : lv_has ls 6 [(0, .ref (ad 0)), (1, .int x_1), (2, .int x_2), (3, .int x_3), (4, .int x_4), (5, .int x_5)] := hl
  have hx := C.1.1
  have hb := C.1.2.1
  have h : (bn (x_5 + 1) (fun x1 => k49 (X, x_1, x_2, x_3, x_4, x1))) = some z := h
  obtain ⟨x1, ex1⟩ : ∃ y : Int32, y = x_5 + 1 := ⟨_, rfl⟩
  replace h := bn_some h ex1
  refine lv_iinc (v := x1) (lv' := [(5, .int x1), (0, .ref (ad 0)), (1, .int x_1), (2, .int x_2), (3, .int x_3), (4, .int x_4)]) hx hb dX1_whatSaid_120 hl (k := 5) rfl (by rw [ex1]; rfl) (by decide) rfl (fun ls hl => ?_)
  refine lv_goto (tgt := 49) hx hb dX1_whatSaid_123 (by decide) ?_
  exact hk49 (X, x_1, x_2, x_3, x_4, x1) h _ _ _ hw (lv_sub hl [1, 2, 3, 4, 5, 0] rfl)
set_option maxHeartbeats 4000000 in
set_option maxRecDepth 100000 in
theorem kX1_whatSaid_96 (C : Cx p s m args meth c cX1_whatSaid 6 RX1 D cA g A) (hr : meth.sig.returnType = (some .int)) {z : (Int32 × (Nat → VS))} (k49 : ((Nat → VS) × (Int32) × (Int32) × (Int32) × (Int32) × (Int32)) → Option (Int32 × (Nat → VS))) (hk49 : ∀ x, k49 x = some z → GX1_whatSaid_49 p l e s m args below meth c D cA A ad z x) (x : (Nat → VS) × (Int32) × (Int32) × (Int32) × (Int32) × (Int32)) (h : fX1_whatSaid_96 k49 x = some z) : GX1_whatSaid_96 p l e s m args below meth c D cA A ad z x := by
  obtain ⟨X, x_1, x_2, x_3, x_4, x_5⟩ := x
  intro H locs ls hw hl
  have hw : Wd D A s.heap (wR cA ad X) H locs := hw
  have hl : lv_has ls 6 [(0, .ref (ad 0)), (1, .int x_1), (2, .int x_2), (3, .int x_3), (4, .int x_4), (5, .int x_5)] := hl
  have hx := C.1.1
  have hb := C.1.2.1
  have h : (cl (fX0_sendUp (X 1) x_1 31) (fun w1 => bn (up X 1 w1) (fun w2 => cl (fX1_rowFitsMind w2) (fun r3 => if r3 = 0 then fX1_whatSaid_120 k49 (w2, x_1, x_2, x_3, x_4, x_5) else bn (x_3 ||| ((1 : Int32) <<< (x_5 &&& 31))) (fun x5 => fX1_whatSaid_120 k49 (w2, x_1, x_2, x5, x_4, x_5)))))) = some z := h
  refine lv_aload_n hx hb dX1_whatSaid_96 rfl (lv_at hl 0 rfl) ?_
  refine tGet (T := TX1) (N := 12) (ci := 1) C hw inX1 1 0 rfl (by decide) kf_RX1_16 rfl rfl rfl dX1_whatSaid_97 ?_
  refine lv_iload_n hx hb dX1_whatSaid_100 rfl (lv_at hl 1 rfl) ?_
  refine lv_bipush (v := 31) hx hb dX1_whatSaid_101 (by decide) ?_
  obtain ⟨w1, hw1, h⟩ := cl_some h
  obtain ⟨w2, ew2⟩ : ∃ y : Nat → VS, y = up X 1 w1 := ⟨_, rfl⟩
  replace h := bn_some h ew2
  refine cVv (ws2 := (wR cA ad w2)) (As := [.int x_1, .int 31]) (rest := []) C hw (by rw [ew2]; exact jR1) (kX0_sendUp (fun k => ad (8 + k)) hw1) kl_RX1_118 ki_yX0_sendUp ks_yX0_sendUp kn_RX0 kc_yX0_sendUp ⟨rfl, rfl⟩ hdX0_sendUp ⟨Nat.le_of_ble_eq_true rfl, Nat.le_of_ble_eq_true rfl⟩ (ci := 0) (q0 := 0) rfl rfl rfl rfl hl.1 (Nat.le_of_ble_eq_true rfl) dX1_whatSaid_103 ⟨Nat.zero_le _, Nat.zero_le _⟩ (fun H locs hw => ?_)
  refine lv_aload_n hx hb dX1_whatSaid_106 rfl (lv_at hl 0 rfl) ?_
  obtain ⟨r3, hr3, h⟩ := cl_some h
  refine cVi (ws2 := (wR cA ad w2)) (As := []) (rest := []) C hw jnW (kX1_rowFitsMind ad hr3) kl_RX1_235 ki_yX1_rowFitsMind ks_yX1_rowFitsMind kn_RX1 kc_yX1_rowFitsMind ⟨rfl, rfl⟩ hdX1_rowFitsMind ⟨Nat.le_of_ble_eq_true rfl, Nat.le_of_ble_eq_true rfl⟩ (ci := 1) (q0 := 0) rfl rfl rfl rfl hl.1 (Nat.le_of_ble_eq_true rfl) dX1_whatSaid_107 ⟨Nat.zero_le _, Nat.zero_le _⟩ (fun H locs hw => ?_)
  refine lv_if_eq (tgt := 120) hx hb dX1_whatSaid_110 (by decide) (fun c4 => ?_) (fun c4 => ?_)
  · replace h := (if_pos c4).symm.trans h
    exact kX1_whatSaid_120 C hr k49 hk49 (w2, x_1, x_2, x_3, x_4, x_5) h _ _ _ hw (lv_sub hl [0, 1, 2, 3, 4, 5] rfl)
  · replace h := (if_neg c4).symm.trans h
    refine lv_iload_n hx hb dX1_whatSaid_113 rfl (lv_at hl 3 rfl) ?_
    refine lv_iconst (v := 1) hx hb dX1_whatSaid_114 (by decide) ?_
    refine lv_iload hx hb dX1_whatSaid_115 (lv_at hl 5 rfl) ?_
    refine lv_ishl hx hb dX1_whatSaid_117 ?_
    refine lv_ior hx hb dX1_whatSaid_118 ?_
    refine lv_topi (fun x5 ex5 => ?_)
    replace h := bn_some h ex5
    refine lv_istore_n (lv' := [(3, .int x5), (0, .ref (ad 0)), (1, .int x_1), (2, .int x_2), (4, .int x_4), (5, .int x_5)]) hx hb dX1_whatSaid_119 rfl hl (by decide) rfl (fun ls hl => ?_)
    exact kX1_whatSaid_120 C hr k49 hk49 (w2, x_1, x_2, x5, x_4, x_5) h _ _ _ hw (lv_sub hl [1, 2, 3, 0, 4, 5] rfl)
set_option maxHeartbeats 4000000 in
set_option maxRecDepth 100000 in
theorem kX1_whatSaid_49 (C : Cx p s m args meth c cX1_whatSaid 6 RX1 D cA g A) (hr : meth.sig.returnType = (some .int)) {z : (Int32 × (Nat → VS))} (k49 : ((Nat → VS) × (Int32) × (Int32) × (Int32) × (Int32) × (Int32)) → Option (Int32 × (Nat → VS))) (hk49 : ∀ x, k49 x = some z → GX1_whatSaid_49 p l e s m args below meth c D cA A ad z x) (x : (Nat → VS) × (Int32) × (Int32) × (Int32) × (Int32) × (Int32)) (h : fX1_whatSaid_49 k49 x = some z) : GX1_whatSaid_49 p l e s m args below meth c D cA A ad z x := by
  obtain ⟨X, x_1, x_2, x_3, x_4, x_5⟩ := x
  intro H locs ls hw hl
  have hw : Wd D A s.heap (wR cA ad X) H locs := hw
  have hl : lv_has ls 6 [(0, .ref (ad 0)), (1, .int x_1), (2, .int x_2), (3, .int x_3), (4, .int x_4), (5, .int x_5)] := hl
  have hx := C.1.1
  have hb := C.1.2.1
  have h : (if x_4 ≤ x_5 then some (x_3, X) else cl (fX0_copyFrom (X 1) (X 0)) (fun w2 => bn (up X 1 w2) (fun w3 => if x_2 = 0 then ck 9 x_1 (bn (up w3 1 (up (w3 1) 3 (upd (w3 1 3) (x_1 : Int32).toNatClampNeg x_5))) (fun w6 => fX1_whatSaid_96 k49 (w6, x_1, x_2, x_3, x_4, x_5))) else ck 9 x_1 (bn (up w3 1 (up (w3 1) 1 (upd (w3 1 1) (x_1 : Int32).toNatClampNeg x_5))) (fun w5 => fX1_whatSaid_96 k49 (w5, x_1, x_2, x_3, x_4, x_5)))))) = some z := h
  refine lv_iload hx hb dX1_whatSaid_49 (lv_at hl 5 rfl) ?_
  refine lv_iload hx hb dX1_whatSaid_51 (lv_at hl 4 rfl) ?_
  refine lv_icmp_ge (tgt := 126) hx hb dX1_whatSaid_53 (by decide) (fun c1 => ?_) (fun c1 => ?_)
  · replace h := (if_pos c1).symm.trans h
    refine lv_iload_n hx hb dX1_whatSaid_126 rfl (lv_at hl 3 rfl) ?_
    obtain rfl := some_e h
    exact rtI C hr hw dX1_whatSaid_127
  · replace h := (if_neg c1).symm.trans h
    refine lv_aload_n hx hb dX1_whatSaid_56 rfl (lv_at hl 0 rfl) ?_
    refine tGet (T := TX1) (N := 12) (ci := 1) C hw inX1 1 0 rfl (by decide) kf_RX1_16 rfl rfl rfl dX1_whatSaid_57 ?_
    refine lv_aload_n hx hb dX1_whatSaid_60 rfl (lv_at hl 0 rfl) ?_
    refine tGet (T := TX1) (N := 12) (ci := 1) C hw inX1 0 0 rfl (by decide) kf_RX1_10 rfl rfl rfl dX1_whatSaid_61 ?_
    obtain ⟨w2, hw2, h⟩ := cl_some h
    obtain ⟨w3, ew3⟩ : ∃ y : Nat → VS, y = up X 1 w2 := ⟨_, rfl⟩
    replace h := bn_some h ew3
    refine cVv (ws2 := (wR cA ad w3)) (As := [.ref (ad 1)]) (rest := []) C hw (by rw [ew3]; exact jRR10) (kX0_copyFrom (fun k => ad (8 + k)) (fun k => ad (1 + k)) hw2) kl_RX1_59 ki_yX0_copyFrom ks_yX0_copyFrom kn_RX0 kc_yX0_copyFrom ⟨rfl, rfl⟩ hdX0_copyFrom ⟨Nat.le_of_ble_eq_true rfl, Nat.le_of_ble_eq_true rfl⟩ (ci := 0) (q0 := 0) rfl rfl rfl rfl hl.1 (Nat.le_of_ble_eq_true rfl) dX1_whatSaid_64 ⟨Nat.zero_le _, Nat.zero_le _⟩ (fun H locs hw => ?_)
    refine lv_iload_n hx hb dX1_whatSaid_67 rfl (lv_at hl 2 rfl) ?_
    refine lv_if_ne (tgt := 85) hx hb dX1_whatSaid_68 (by decide) (fun c4 => ?_) (fun c4 => ?_)
    · replace h := (if_neg c4).symm.trans h
      refine lv_aload_n hx hb dX1_whatSaid_85 rfl (lv_at hl 0 rfl) ?_
      refine tGet (T := TX1) (N := 12) (ci := 1) C hw inX1 1 0 rfl (by decide) kf_RX1_16 rfl rfl rfl dX1_whatSaid_86 ?_
      refine tGet (T := TX0) (N := 12) (ci := 0) C hw inX0 1 8 rfl (by decide) kf_RX1_73 rfl rfl rfl dX1_whatSaid_89 ?_
      refine lv_iload_n hx hb dX1_whatSaid_92 rfl (lv_at hl 1 rfl) ?_
      refine lv_iload hx hb dX1_whatSaid_93 (lv_at hl 5 rfl) ?_
      obtain ⟨iw5, h⟩ := ck_some h
      obtain ⟨w5, ew5⟩ : ∃ y : Nat → VS, y = up w3 1 (up (w3 1) 1 (upd (w3 1 1) (x_1 : Int32).toNatClampNeg x_5)) := ⟨_, rfl⟩
      replace h := bn_some h ew5
      refine tSt (ws2 := (wR cA ad w5)) C hw 9 rfl iw5 (by rw [ew5]; rfl) dX1_whatSaid_95 (fun H locs hw => ?_)
      exact kX1_whatSaid_96 C hr k49 hk49 (w5, x_1, x_2, x_3, x_4, x_5) h _ _ _ hw (lv_sub hl [0, 1, 2, 3, 4, 5] rfl)
    · replace h := (if_pos c4).symm.trans h
      refine lv_aload_n hx hb dX1_whatSaid_71 rfl (lv_at hl 0 rfl) ?_
      refine tGet (T := TX1) (N := 12) (ci := 1) C hw inX1 1 0 rfl (by decide) kf_RX1_16 rfl rfl rfl dX1_whatSaid_72 ?_
      refine tGet (T := TX0) (N := 12) (ci := 0) C hw inX0 3 8 rfl (by decide) kf_RX1_79 rfl rfl rfl dX1_whatSaid_75 ?_
      refine lv_iload_n hx hb dX1_whatSaid_78 rfl (lv_at hl 1 rfl) ?_
      refine lv_iload hx hb dX1_whatSaid_79 (lv_at hl 5 rfl) ?_
      obtain ⟨iw6, h⟩ := ck_some h
      obtain ⟨w6, ew6⟩ : ∃ y : Nat → VS, y = up w3 1 (up (w3 1) 3 (upd (w3 1 3) (x_1 : Int32).toNatClampNeg x_5)) := ⟨_, rfl⟩
      replace h := bn_some h ew6
      refine tSt (ws2 := (wR cA ad w6)) C hw 11 rfl iw6 (by rw [ew6]; rfl) dX1_whatSaid_81 (fun H locs hw => ?_)
      refine lv_goto (tgt := 96) hx hb dX1_whatSaid_82 (by decide) ?_
      exact kX1_whatSaid_96 C hr k49 hk49 (w6, x_1, x_2, x_3, x_4, x_5) h _ _ _ hw (lv_sub hl [0, 1, 2, 3, 4, 5] rfl)
theorem lX1_whatSaid_49 (C : Cx p s m args meth c cX1_whatSaid 6 RX1 D cA g A) (hr : meth.sig.returnType = (some .int)) {z : (Int32 × (Nat → VS))} (n : Nat) (x : (Nat → VS) × (Int32) × (Int32) × (Int32) × (Int32) × (Int32)) (h : lp (fX1_whatSaid_49) n x = some z) : GX1_whatSaid_49 p l e s m args below meth c D cA A ad z x := lp_ok (GX1_whatSaid_49 p l e s m args below meth c D cA A ad z) (fun kq hkq x h => kX1_whatSaid_49 C hr kq hkq x h) n x h
set_option maxHeartbeats 4000000 in
set_option maxRecDepth 100000 in
theorem kX1_whatSaid_44 (C : Cx p s m args meth c cX1_whatSaid 6 RX1 D cA g A) (hr : meth.sig.returnType = (some .int)) {z : (Int32 × (Nat → VS))} (x : (Nat → VS) × (Int32) × (Int32) × (Int32) × (Int32)) (h : fX1_whatSaid_44 x = some z) : GX1_whatSaid_44 p l e s m args below meth c D cA A ad z x := by
  obtain ⟨X, x_1, x_2, x_3, y_0⟩ := x
  intro H locs ls hw hl
  have hw : Wd D A s.heap (wR cA ad X) H locs := hw
  have hl : lv_has ls 6 [(0, .ref (ad 0)), (1, .int x_1), (2, .int x_2), (3, .int x_3)] := hl
  show W p l e rmX1_whatSaid s m args below meth c H locs 0 0 (MQ below (QI D cA A z.1 (wR cA ad z.2)) args s 0 0 A) (F0 m 44 ls [.int y_0])
  have hx := C.1.1
  have hb := C.1.2.1
  have h : (lp (fX1_whatSaid_49) 5000 (X, x_1, x_2, x_3, y_0, 0)) = some z := h
  refine lv_istore (lv' := [(4, .int y_0), (0, .ref (ad 0)), (1, .int x_1), (2, .int x_2), (3, .int x_3)]) hx hb dX1_whatSaid_44 hl (by decide) rfl (fun ls hl => ?_)
  refine lv_iconst (v := 0) hx hb dX1_whatSaid_46 (by decide) ?_
  refine lv_istore (lv' := [(5, .int 0), (4, .int y_0), (0, .ref (ad 0)), (1, .int x_1), (2, .int x_2), (3, .int x_3)]) hx hb dX1_whatSaid_47 hl (by decide) rfl (fun ls hl => ?_)
  exact lX1_whatSaid_49 C hr 5000 (X, x_1, x_2, x_3, y_0, 0) h _ _ _ hw (lv_sub hl [2, 3, 4, 5, 1, 0] rfl)
set_option maxHeartbeats 4000000 in
set_option maxRecDepth 100000 in
theorem kX1_whatSaid (ad : Nat → Nat) {X : Nat → VS} {a_1 : Int32} {a_2 : Int32} {z : (Int32 × (Nat → VS))} (h : fX1_whatSaid X a_1 a_2 = some z) : MI l D cA g yX1_whatSaid (Cond.code yX1_whatSaid cX1_whatSaid 6 (some .int) :: lw_g) rmX1_whatSaid [.ref (ad 0), .int a_1, .int a_2] (wR cA ad X) z.1 (wR cA ad z.2) := by
  intro sz
  refine Met.ofW (cc := cX1_whatSaid) (maxL := 6) (ret := (some .int)) (by decide) rfl ?_
  intro p e s m args below meth c s₁ B hml hv
  obtain ⟨rfl, C, hr, hw⟩ := ent B hml hv
  generalize va_A (wR cA ad X) sz = A at C hw ⊢
  have hl := lv_entry ([.ref (ad 0), .int a_1, .int a_2]) (n := 6) (Nat.le_of_ble_eq_true rfl)
  rw [lg_entry_eq]
  generalize (lg_sl ([.ref (ad 0), .int a_1, .int a_2]) ++ List.replicate (6 - (lg_sl ([.ref (ad 0), .int a_1, .int a_2])).length) Slot.unset).toArray = ls at hl ⊢
  have hl : lv_has ls 6 [(0, .ref (ad 0)), (1, .int a_1), (2, .int a_2)] := hl
  have hx := C.1.1
  have hb := C.1.2.1
  have h : (cl (fX0_hasRocket (X 0) a_1) (fun r1 => if r1 = 0 then cl (fX1_refuse X (-1)) (fun q7 => some (q7.1, q7.2)) else cl (fX1_isOneOfTwo a_2) (fun r3 => if r3 = 0 then cl (fX1_refuse X (-2)) (fun q6 => some (q6.1, q6.2)) else if a_2 = 0 then fX1_whatSaid_44 (X, a_1, a_2, 0, 6) else fX1_whatSaid_44 (X, a_1, a_2, 0, 6)))) = some z := h
  refine lv_aload_n hx hb dX1_whatSaid_0 rfl (lv_at hl 0 rfl) ?_
  refine tGet (T := TX1) (N := 12) (ci := 1) C hw inX1 0 0 rfl (by decide) kf_RX1_10 rfl rfl rfl dX1_whatSaid_1 ?_
  refine lv_iload_n hx hb dX1_whatSaid_4 rfl (lv_at hl 1 rfl) ?_
  obtain ⟨r1, hr1, h⟩ := cl_some h
  refine cVi (ws2 := (wR cA ad X)) (As := [.int a_1]) (rest := []) C hw jR0r (kX0_hasRocket (fun k => ad (1 + k)) hr1) kl_RX1_70 ki_yX0_hasRocket ks_yX0_hasRocket kn_RX0 kc_yX0_hasRocket ⟨rfl, rfl⟩ hdX0_hasRocket ⟨Nat.le_of_ble_eq_true rfl, Nat.le_of_ble_eq_true rfl⟩ (ci := 0) (q0 := 0) rfl rfl rfl rfl hl.1 (Nat.le_of_ble_eq_true rfl) dX1_whatSaid_5 ⟨Nat.zero_le _, Nat.zero_le _⟩ (fun H locs hw => ?_)
  refine lv_if_ne (tgt := 17) hx hb dX1_whatSaid_8 (by decide) (fun c2 => ?_) (fun c2 => ?_)
  · replace h := (if_neg c2).symm.trans h
    refine lv_iload_n hx hb dX1_whatSaid_17 rfl (lv_at hl 2 rfl) ?_
    obtain ⟨r3, hr3, h⟩ := cl_some h
    refine cSi (ws2 := (wR cA ad X)) (As := [.int a_2]) (rest := []) C hw jnE (kX1_isOneOfTwo hr3) kl_RX1_156 kt_yX1_isOneOfTwo kn_RX1 kc_yX1_isOneOfTwo ⟨rfl, rfl⟩ hdX1_isOneOfTwo ⟨Nat.le_of_ble_eq_true rfl, Nat.le_of_ble_eq_true rfl⟩ rfl hl.1 (Nat.le_of_ble_eq_true rfl) dX1_whatSaid_18 ⟨Nat.zero_le _, Nat.zero_le _⟩ (fun H locs hw => ?_)
    refine lv_if_ne (tgt := 31) hx hb dX1_whatSaid_21 (by decide) (fun c4 => ?_) (fun c4 => ?_)
    · replace h := (if_neg c4).symm.trans h
      refine lv_iconst (v := 0) hx hb dX1_whatSaid_31 (by decide) ?_
      refine lv_istore_n (lv' := [(3, .int 0), (0, .ref (ad 0)), (1, .int a_1), (2, .int a_2)]) hx hb dX1_whatSaid_32 rfl hl (by decide) rfl (fun ls hl => ?_)
      refine lv_iload_n hx hb dX1_whatSaid_33 rfl (lv_at hl 3 rfl) ?_
      refine lv_if_ne (tgt := 42) hx hb dX1_whatSaid_34 (by decide) (fun c5 => ?_) (fun c5 => ?_)
      · replace h := (if_neg c5).symm.trans h
        refine lv_bipush (v := 6) hx hb dX1_whatSaid_42 (by decide) ?_
        exact kX1_whatSaid_44 C hr (X, a_1, a_2, 0, 6) h _ _ _ hw (lv_sub hl [1, 2, 3, 0] rfl)
      · replace h := (if_pos c5).symm.trans h
        refine lv_bipush (v := 6) hx hb dX1_whatSaid_37 (by decide) ?_
        refine lv_goto (tgt := 44) hx hb dX1_whatSaid_39 (by decide) ?_
        exact kX1_whatSaid_44 C hr (X, a_1, a_2, 0, 6) h _ _ _ hw (lv_sub hl [1, 2, 3, 0] rfl)
    · replace h := (if_pos c4).symm.trans h
      refine lv_aload_n hx hb dX1_whatSaid_24 rfl (lv_at hl 0 rfl) ?_
      refine lv_bipush (v := (-2)) hx hb dX1_whatSaid_25 (by decide) ?_
      obtain ⟨q6, hq6, h⟩ := cl_some h
      refine cVi (ws2 := (wR cA ad q6.2)) (As := [.int (-2)]) (rest := []) C hw jnW (kX1_refuse ad hq6) kl_RX1_52 ki_yX1_refuse ks_yX1_refuse kn_RX1 kc_yX1_refuse ⟨rfl, rfl⟩ hdX1_refuse ⟨Nat.le_of_ble_eq_true rfl, Nat.le_of_ble_eq_true rfl⟩ (ci := 1) (q0 := 0) rfl rfl rfl rfl hl.1 (Nat.le_of_ble_eq_true rfl) dX1_whatSaid_27 ⟨Nat.zero_le _, Nat.zero_le _⟩ (fun H locs hw => ?_)
      obtain rfl := some_e h
      exact rtI C hr hw dX1_whatSaid_30
  · replace h := (if_pos c2).symm.trans h
    refine lv_aload_n hx hb dX1_whatSaid_11 rfl (lv_at hl 0 rfl) ?_
    refine lv_iconst (v := (-1)) hx hb dX1_whatSaid_12 (by decide) ?_
    obtain ⟨q7, hq7, h⟩ := cl_some h
    refine cVi (ws2 := (wR cA ad q7.2)) (As := [.int (-1)]) (rest := []) C hw jnW (kX1_refuse ad hq7) kl_RX1_52 ki_yX1_refuse ks_yX1_refuse kn_RX1 kc_yX1_refuse ⟨rfl, rfl⟩ hdX1_refuse ⟨Nat.le_of_ble_eq_true rfl, Nat.le_of_ble_eq_true rfl⟩ (ci := 1) (q0 := 0) rfl rfl rfl rfl hl.1 (Nat.le_of_ble_eq_true rfl) dX1_whatSaid_13 ⟨Nat.zero_le _, Nat.zero_le _⟩ (fun H locs hw => ?_)
    obtain rfl := some_e h
    exact rtI C hr hw dX1_whatSaid_16
abbrev rmX1_row : Room := { frames := 1, cells := 0, slots := 0, locals := 22 }
theorem hdX1_row : yX1_row.cls = RX1 ∧ yX1_row.cls ≠ "java/lang/invoke/MethodHandle" ∧ yX1_row.cls ≠ "java/lang/invoke/VarHandle" ∧ (parseMethodDescriptor yX1_row.desc).map (fun d => d.parameters.length) = some 1 := by decide +kernel
def fX1_row (X : Nat → VS) (a_1 : Int32) : Option (Int32 × (Nat → VS)) := cl (fX1_outside a_1 0 99) (fun r1 => if r1 = 0 then if (X 3 7 0) < 16 then ck 16 (X 3 7 0) (bn (up X 3 (up (X 3) 6 (upd (X 3 6) ((X 3 7 0) : Int32).toNatClampNeg a_1))) (fun w4 => bn (up w4 3 (up (w4 3) 7 (fun _ => ((w4 3 7 0) + (1 : Int32))))) (fun w5 => some ((w5 3 7 0), w5)))) else cl (fX1_refuse X (-6)) (fun q6 => some (q6.1, q6.2)) else cl (fX1_refuse X r1) (fun q7 => some (q7.1, q7.2)))
set_option maxHeartbeats 4000000 in
set_option maxRecDepth 100000 in
theorem kX1_row (ad : Nat → Nat) {X : Nat → VS} {a_1 : Int32} {z : (Int32 × (Nat → VS))} (h : fX1_row X a_1 = some z) : MI l D cA g yX1_row (Cond.code yX1_row cX1_row 3 (some .int) :: lw_g) rmX1_row [.ref (ad 0), .int a_1] (wR cA ad X) z.1 (wR cA ad z.2) := by
  intro sz
  refine Met.ofW (cc := cX1_row) (maxL := 3) (ret := (some .int)) (by decide) rfl ?_
  intro p e s m args below meth c s₁ B hml hv
  obtain ⟨rfl, C, hr, hw⟩ := ent B hml hv
  generalize va_A (wR cA ad X) sz = A at C hw ⊢
  have hl := lv_entry ([.ref (ad 0), .int a_1]) (n := 3) (Nat.le_of_ble_eq_true rfl)
  rw [lg_entry_eq]
  generalize (lg_sl ([.ref (ad 0), .int a_1]) ++ List.replicate (3 - (lg_sl ([.ref (ad 0), .int a_1])).length) Slot.unset).toArray = ls at hl ⊢
  have hl : lv_has ls 3 [(0, .ref (ad 0)), (1, .int a_1)] := hl
  have hx := C.1.1
  have hb := C.1.2.1
  have h : (cl (fX1_outside a_1 0 99) (fun r1 => if r1 = 0 then if (X 3 7 0) < 16 then ck 16 (X 3 7 0) (bn (up X 3 (up (X 3) 6 (upd (X 3 6) ((X 3 7 0) : Int32).toNatClampNeg a_1))) (fun w4 => bn (up w4 3 (up (w4 3) 7 (fun _ => ((w4 3 7 0) + (1 : Int32))))) (fun w5 => some ((w5 3 7 0), w5)))) else cl (fX1_refuse X (-6)) (fun q6 => some (q6.1, q6.2)) else cl (fX1_refuse X r1) (fun q7 => some (q7.1, q7.2)))) = some z := h
  refine lv_iload_n hx hb dX1_row_0 rfl (lv_at hl 1 rfl) ?_
  refine lv_iconst (v := 0) hx hb dX1_row_1 (by decide) ?_
  refine lv_bipush (v := 99) hx hb dX1_row_2 (by decide) ?_
  obtain ⟨r1, hr1, h⟩ := cl_some h
  refine cSi (ws2 := (wR cA ad X)) (As := [.int a_1, .int 0, .int 99]) (rest := []) C hw jnE (kX1_outside hr1) kl_RX1_140 kt_yX1_outside kn_RX1 kc_yX1_outside ⟨rfl, rfl⟩ hdX1_outside ⟨Nat.le_of_ble_eq_true rfl, Nat.le_of_ble_eq_true rfl⟩ rfl hl.1 (Nat.le_of_ble_eq_true rfl) dX1_row_4 ⟨Nat.zero_le _, Nat.zero_le _⟩ (fun H locs hw => ?_)
  refine lv_istore_n (lv' := [(2, .int r1), (0, .ref (ad 0)), (1, .int a_1)]) hx hb dX1_row_7 rfl hl (by decide) rfl (fun ls hl => ?_)
  refine lv_iload_n hx hb dX1_row_8 rfl (lv_at hl 0 rfl) ?_
  refine lv_if_eq (tgt := 18) hx hb dX1_row_9 (by decide) (fun c2 => ?_) (fun c2 => ?_)
  · replace h := (if_pos c2).symm.trans h
    refine lv_aload_n hx hb dX1_row_18 rfl (lv_at hl 1 rfl) ?_
    refine tGet (T := TX1) (N := 12) (ci := 1) C hw inX1 7 0 rfl (by decide) kf_RX1_37 rfl rfl rfl dX1_row_19 ?_
    refine lv_bipush (v := 16) hx hb dX1_row_22 (by decide) ?_
    refine lv_icmp_lt (tgt := 34) hx hb dX1_row_24 (by decide) (fun c3 => ?_) (fun c3 => ?_)
    · replace h := (if_pos c3).symm.trans h
      refine lv_aload_n hx hb dX1_row_34 rfl (lv_at hl 1 rfl) ?_
      refine tGet (T := TX1) (N := 12) (ci := 1) C hw inX1 6 0 rfl (by decide) kf_RX1_34 rfl rfl rfl dX1_row_35 ?_
      refine lv_aload_n hx hb dX1_row_38 rfl (lv_at hl 1 rfl) ?_
      refine tGet (T := TX1) (N := 12) (ci := 1) C hw inX1 7 0 rfl (by decide) kf_RX1_37 rfl rfl rfl dX1_row_39 ?_
      refine lv_iload_n hx hb dX1_row_42 rfl (lv_at hl 2 rfl) ?_
      obtain ⟨iw4, h⟩ := ck_some h
      obtain ⟨w4, ew4⟩ : ∃ y : Nat → VS, y = up X 3 (up (X 3) 6 (upd (X 3 6) ((X 3 7 0) : Int32).toNatClampNeg a_1)) := ⟨_, rfl⟩
      replace h := bn_some h ew4
      refine tSt (ws2 := (wR cA ad w4)) C hw 23 rfl iw4 (by rw [ew4]; rfl) dX1_row_43 (fun H locs hw => ?_)
      refine lv_aload_n hx hb dX1_row_44 rfl (lv_at hl 1 rfl) ?_
      refine lv_dup hx hb dX1_row_45 rfl ?_
      refine tGet (T := TX1) (N := 12) (ci := 1) C hw inX1 7 0 rfl (by decide) kf_RX1_37 rfl rfl rfl dX1_row_46 ?_
      refine lv_iconst (v := 1) hx hb dX1_row_49 (by decide) ?_
      refine lv_iadd hx hb dX1_row_50 ?_
      obtain ⟨w5, ew5⟩ : ∃ y : Nat → VS, y = up w4 3 (up (w4 3) 7 (fun _ => ((w4 3 7 0) + (1 : Int32)))) := ⟨_, rfl⟩
      replace h := bn_some h ew5
      refine tPut (T := TX1) (N := 12) (ci := 1) (ws2 := (wR cA ad w5)) C hw inX1 tyX1 tyX1_ok nmX1 7 0 rfl (by decide) kf_RX1_37 rfl rfl rfl rfl rfl (Nat.le_of_ble_eq_true rfl) (by rw [ew5]; rfl) dX1_row_51 (fun H locs hw => ?_)
      refine lv_aload_n hx hb dX1_row_54 rfl (lv_at hl 1 rfl) ?_
      refine tGet (T := TX1) (N := 12) (ci := 1) C hw inX1 7 0 rfl (by decide) kf_RX1_37 rfl rfl rfl dX1_row_55 ?_
      obtain rfl := some_e h
      exact rtI C hr hw dX1_row_58
    · replace h := (if_neg c3).symm.trans h
      refine lv_aload_n hx hb dX1_row_27 rfl (lv_at hl 1 rfl) ?_
      refine lv_bipush (v := (-6)) hx hb dX1_row_28 (by decide) ?_
      obtain ⟨q6, hq6, h⟩ := cl_some h
      refine cVi (ws2 := (wR cA ad q6.2)) (As := [.int (-6)]) (rest := []) C hw jnW (kX1_refuse ad hq6) kl_RX1_52 ki_yX1_refuse ks_yX1_refuse kn_RX1 kc_yX1_refuse ⟨rfl, rfl⟩ hdX1_refuse ⟨Nat.le_of_ble_eq_true rfl, Nat.le_of_ble_eq_true rfl⟩ (ci := 1) (q0 := 0) rfl rfl rfl rfl hl.1 (Nat.le_of_ble_eq_true rfl) dX1_row_30 ⟨Nat.zero_le _, Nat.zero_le _⟩ (fun H locs hw => ?_)
      obtain rfl := some_e h
      exact rtI C hr hw dX1_row_33
  · replace h := (if_neg c2).symm.trans h
    refine lv_aload_n hx hb dX1_row_12 rfl (lv_at hl 1 rfl) ?_
    refine lv_iload_n hx hb dX1_row_13 rfl (lv_at hl 0 rfl) ?_
    obtain ⟨q7, hq7, h⟩ := cl_some h
    refine cVi (ws2 := (wR cA ad q7.2)) (As := [.int r1]) (rest := []) C hw jnW (kX1_refuse ad hq7) kl_RX1_52 ki_yX1_refuse ks_yX1_refuse kn_RX1 kc_yX1_refuse ⟨rfl, rfl⟩ hdX1_refuse ⟨Nat.le_of_ble_eq_true rfl, Nat.le_of_ble_eq_true rfl⟩ (ci := 1) (q0 := 0) rfl rfl rfl rfl hl.1 (Nat.le_of_ble_eq_true rfl) dX1_row_14 ⟨Nat.zero_le _, Nat.zero_le _⟩ (fun H locs hw => ?_)
    obtain rfl := some_e h
    exact rtI C hr hw dX1_row_17
abbrev rmX1_judge : Room := { frames := 4, cells := 0, slots := 0, locals := 100 }
theorem hdX1_judge : yX1_judge.cls = RX1 ∧ yX1_judge.cls ≠ "java/lang/invoke/MethodHandle" ∧ yX1_judge.cls ≠ "java/lang/invoke/VarHandle" ∧ (parseMethodDescriptor yX1_judge.desc).map (fun d => d.parameters.length) = some 0 := by decide +kernel
def GX1_judge_23 (p : Program) (l : Launch) (e : Env) (s : State) (m : MethodId) (args : Array Value) (below : List Frame) (meth : Method) (c : Code) (D : va_G) (cA : ClassId) (A : Nat → Prop) (ad : Nat → Nat) (z : (Int32 × (Nat → VS))) (x : (Nat → VS) × (Int32) × (Int32)) : Prop := ∀ (H : Heap) (locs : List Loc) (ls : Array Slot), Wd D A s.heap (wR cA ad x.1) H locs → lv_has ls 3 [(0, .ref (ad 0)), (1, .int x.2.1), (2, .int x.2.2)] → W p l e rmX1_judge s m args below meth c H locs 0 0 (MQ below (QI D cA A z.1 (wR cA ad z.2)) args s 0 0 A) (F0 m 23 ls [])
def fX1_judge_23 (k23 : ((Nat → VS) × (Int32) × (Int32)) → Option (Int32 × (Nat → VS))) : ((Nat → VS) × (Int32) × (Int32)) → Option (Int32 × (Nat → VS)) := fun x => match x with | (X, x_1, x_2) => if x_1 ≤ x_2 then some ((-9), X) else rd 16 (X 3 6) x_2 (fun r2 => bn (if 99 < (X 1 9 0) then 99 else (X 1 9 0)) (fun x3 => if r2 = x3 then cl (fX0_passNights (X 1) 1 31) (fun w5 => bn (up X 1 w5) (fun w6 => bn (x_2 + 1) (fun x7 => k23 (w6, x_1, x7)))) else some (x_2, X)))
def fX1_judge (X : Nat → VS) : Option (Int32 × (Nat → VS)) := bn (X 3 7 0) (fun x1 => bn (up X 3 (up (X 3) 7 (fun _ => 0))) (fun w2 => cl (fX0_copyFrom (w2 1) (w2 0)) (fun w3 => bn (up w2 1 w3) (fun w4 => lp (fX1_judge_23) 5000 (w4, x1, 0)))))
set_option maxHeartbeats 4000000 in
set_option maxRecDepth 100000 in
theorem kX1_judge_23 (C : Cx p s m args meth c cX1_judge 3 RX1 D cA g A) (hr : meth.sig.returnType = (some .int)) {z : (Int32 × (Nat → VS))} (k23 : ((Nat → VS) × (Int32) × (Int32)) → Option (Int32 × (Nat → VS))) (hk23 : ∀ x, k23 x = some z → GX1_judge_23 p l e s m args below meth c D cA A ad z x) (x : (Nat → VS) × (Int32) × (Int32)) (h : fX1_judge_23 k23 x = some z) : GX1_judge_23 p l e s m args below meth c D cA A ad z x := by
  obtain ⟨X, x_1, x_2⟩ := x
  intro H locs ls hw hl
  have hw : Wd D A s.heap (wR cA ad X) H locs := hw
  have hl : lv_has ls 3 [(0, .ref (ad 0)), (1, .int x_1), (2, .int x_2)] := hl
  have hx := C.1.1
  have hb := C.1.2.1
  have h : (if x_1 ≤ x_2 then some ((-9), X) else rd 16 (X 3 6) x_2 (fun r2 => bn (if 99 < (X 1 9 0) then 99 else (X 1 9 0)) (fun x3 => if r2 = x3 then cl (fX0_passNights (X 1) 1 31) (fun w5 => bn (up X 1 w5) (fun w6 => bn (x_2 + 1) (fun x7 => k23 (w6, x_1, x7)))) else some (x_2, X)))) = some z := h
  refine lv_iload_n hx hb dX1_judge_23 rfl (lv_at hl 2 rfl) ?_
  refine lv_iload_n hx hb dX1_judge_24 rfl (lv_at hl 1 rfl) ?_
  refine lv_icmp_ge (tgt := 67) hx hb dX1_judge_25 (by decide) (fun c1 => ?_) (fun c1 => ?_)
  · replace h := (if_pos c1).symm.trans h
    refine lv_bipush (v := (-9)) hx hb dX1_judge_67 (by decide) ?_
    obtain rfl := some_e h
    exact rtI C hr hw dX1_judge_69
  · replace h := (if_neg c1).symm.trans h
    refine lv_aload_n hx hb dX1_judge_28 rfl (lv_at hl 0 rfl) ?_
    refine tGet (T := TX1) (N := 12) (ci := 1) C hw inX1 6 0 rfl (by decide) kf_RX1_34 rfl rfl rfl dX1_judge_29 ?_
    refine lv_iload_n hx hb dX1_judge_32 rfl (lv_at hl 2 rfl) ?_
    obtain ⟨r2, ir2, er2, h⟩ := rd_some h
    refine tLd C hw 23 rfl ir2 er2 dX1_judge_33 ?_
    refine lv_aload_n hx hb dX1_judge_34 rfl (lv_at hl 0 rfl) ?_
    refine tGet (T := TX1) (N := 12) (ci := 1) C hw inX1 1 0 rfl (by decide) kf_RX1_16 rfl rfl rfl dX1_judge_35 ?_
    refine tGet (T := TX0) (N := 12) (ci := 0) C hw inX0 9 8 rfl (by decide) kf_RX1_122 rfl rfl rfl dX1_judge_38 ?_
    refine lv_bipush (v := 99) hx hb dX1_judge_41 (by decide) ?_
    refine va_mmin hx hb (by rw [hl.1]; exact C.1.2.2.1) C.1.2.2.2.1 (C.1.2.2.2.2 _ kl_RX1_239) (C.1.2.2.2.2 _ kt_yJ9_min_7cf53) (C.1.2.2.2.2 _ kn_RJ9) (C.1.2.2.2.2 _ kc_yJ9_min_7cf53) (Nat.le_of_ble_eq_true rfl) (Nat.le_of_ble_eq_true rfl) (Nat.zero_le _) (Nat.zero_le _) dX1_judge_43 ?_
    refine lv_topi (fun x3 ex3 => ?_)
    replace h := bn_some h ex3
    refine lv_icmp_eq (tgt := 51) hx hb dX1_judge_46 (by decide) (fun c4 => ?_) (fun c4 => ?_)
    · replace h := (if_pos c4).symm.trans h
      refine lv_aload_n hx hb dX1_judge_51 rfl (lv_at hl 0 rfl) ?_
      refine tGet (T := TX1) (N := 12) (ci := 1) C hw inX1 1 0 rfl (by decide) kf_RX1_16 rfl rfl rfl dX1_judge_52 ?_
      refine lv_iconst (v := 1) hx hb dX1_judge_55 (by decide) ?_
      refine lv_bipush (v := 31) hx hb dX1_judge_56 (by decide) ?_
      obtain ⟨w5, hw5, h⟩ := cl_some h
      obtain ⟨w6, ew6⟩ : ∃ y : Nat → VS, y = up X 1 w5 := ⟨_, rfl⟩
      replace h := bn_some h ew6
      refine cVv (ws2 := (wR cA ad w6)) (As := [.int 1, .int 31]) (rest := []) C hw (by rw [ew6]; exact jR1) (kX0_passNights (fun k => ad (8 + k)) hw5) kl_RX1_150 ki_yX0_passNights ks_yX0_passNights kn_RX0 kc_yX0_passNights ⟨rfl, rfl⟩ hdX0_passNights ⟨Nat.le_of_ble_eq_true rfl, Nat.le_of_ble_eq_true rfl⟩ (ci := 0) (q0 := 0) rfl rfl rfl rfl hl.1 (Nat.le_of_ble_eq_true rfl) dX1_judge_58 ⟨Nat.zero_le _, Nat.zero_le _⟩ (fun H locs hw => ?_)
      obtain ⟨x7, ex7⟩ : ∃ y : Int32, y = x_2 + 1 := ⟨_, rfl⟩
      replace h := bn_some h ex7
      refine lv_iinc (v := x7) (lv' := [(2, .int x7), (0, .ref (ad 0)), (1, .int x_1)]) hx hb dX1_judge_61 hl (k := 2) rfl (by rw [ex7]; rfl) (by decide) rfl (fun ls hl => ?_)
      refine lv_goto (tgt := 23) hx hb dX1_judge_64 (by decide) ?_
      exact hk23 (w6, x_1, x7) h _ _ _ hw (lv_sub hl [1, 2, 0] rfl)
    · replace h := (if_neg c4).symm.trans h
      refine lv_iload_n hx hb dX1_judge_49 rfl (lv_at hl 2 rfl) ?_
      obtain rfl := some_e h
      exact rtI C hr hw dX1_judge_50
theorem lX1_judge_23 (C : Cx p s m args meth c cX1_judge 3 RX1 D cA g A) (hr : meth.sig.returnType = (some .int)) {z : (Int32 × (Nat → VS))} (n : Nat) (x : (Nat → VS) × (Int32) × (Int32)) (h : lp (fX1_judge_23) n x = some z) : GX1_judge_23 p l e s m args below meth c D cA A ad z x := lp_ok (GX1_judge_23 p l e s m args below meth c D cA A ad z) (fun kq hkq x h => kX1_judge_23 C hr kq hkq x h) n x h
set_option maxHeartbeats 4000000 in
set_option maxRecDepth 100000 in
theorem kX1_judge (ad : Nat → Nat) {X : Nat → VS} {z : (Int32 × (Nat → VS))} (h : fX1_judge X = some z) : MI l D cA g yX1_judge (Cond.code yX1_judge cX1_judge 3 (some .int) :: lw_g) rmX1_judge [.ref (ad 0)] (wR cA ad X) z.1 (wR cA ad z.2) := by
  intro sz
  refine Met.ofW (cc := cX1_judge) (maxL := 3) (ret := (some .int)) (by decide) rfl ?_
  intro p e s m args below meth c s₁ B hml hv
  obtain ⟨rfl, C, hr, hw⟩ := ent B hml hv
  generalize va_A (wR cA ad X) sz = A at C hw ⊢
  have hl := lv_entry ([.ref (ad 0)]) (n := 3) (Nat.le_of_ble_eq_true rfl)
  rw [lg_entry_eq]
  generalize (lg_sl ([.ref (ad 0)]) ++ List.replicate (3 - (lg_sl ([.ref (ad 0)])).length) Slot.unset).toArray = ls at hl ⊢
  have hl : lv_has ls 3 [(0, .ref (ad 0))] := hl
  have hx := C.1.1
  have hb := C.1.2.1
  have h : (bn (X 3 7 0) (fun x1 => bn (up X 3 (up (X 3) 7 (fun _ => 0))) (fun w2 => cl (fX0_copyFrom (w2 1) (w2 0)) (fun w3 => bn (up w2 1 w3) (fun w4 => lp (fX1_judge_23) 5000 (w4, x1, 0)))))) = some z := h
  refine lv_aload_n hx hb dX1_judge_0 rfl (lv_at hl 0 rfl) ?_
  refine tGet (T := TX1) (N := 12) (ci := 1) C hw inX1 7 0 rfl (by decide) kf_RX1_37 rfl rfl rfl dX1_judge_1 ?_
  refine lv_topi (fun x1 ex1 => ?_)
  replace h := bn_some h ex1
  refine lv_istore_n (lv' := [(1, .int x1), (0, .ref (ad 0))]) hx hb dX1_judge_4 rfl hl (by decide) rfl (fun ls hl => ?_)
  refine lv_aload_n hx hb dX1_judge_5 rfl (lv_at hl 1 rfl) ?_
  refine lv_iconst (v := 0) hx hb dX1_judge_6 (by decide) ?_
  obtain ⟨w2, ew2⟩ : ∃ y : Nat → VS, y = up X 3 (up (X 3) 7 (fun _ => 0)) := ⟨_, rfl⟩
  replace h := bn_some h ew2
  refine tPut (T := TX1) (N := 12) (ci := 1) (ws2 := (wR cA ad w2)) C hw inX1 tyX1 tyX1_ok nmX1 7 0 rfl (by decide) kf_RX1_37 rfl rfl rfl rfl rfl (Nat.le_of_ble_eq_true rfl) (by rw [ew2]; rfl) dX1_judge_7 (fun H locs hw => ?_)
  refine lv_aload_n hx hb dX1_judge_10 rfl (lv_at hl 1 rfl) ?_
  refine tGet (T := TX1) (N := 12) (ci := 1) C hw inX1 1 0 rfl (by decide) kf_RX1_16 rfl rfl rfl dX1_judge_11 ?_
  refine lv_aload_n hx hb dX1_judge_14 rfl (lv_at hl 1 rfl) ?_
  refine tGet (T := TX1) (N := 12) (ci := 1) C hw inX1 0 0 rfl (by decide) kf_RX1_10 rfl rfl rfl dX1_judge_15 ?_
  obtain ⟨w3, hw3, h⟩ := cl_some h
  obtain ⟨w4, ew4⟩ : ∃ y : Nat → VS, y = up w2 1 w3 := ⟨_, rfl⟩
  replace h := bn_some h ew4
  refine cVv (ws2 := (wR cA ad w4)) (As := [.ref (ad 1)]) (rest := []) C hw (by rw [ew4]; exact jRR10) (kX0_copyFrom (fun k => ad (8 + k)) (fun k => ad (1 + k)) hw3) kl_RX1_59 ki_yX0_copyFrom ks_yX0_copyFrom kn_RX0 kc_yX0_copyFrom ⟨rfl, rfl⟩ hdX0_copyFrom ⟨Nat.le_of_ble_eq_true rfl, Nat.le_of_ble_eq_true rfl⟩ (ci := 0) (q0 := 0) rfl rfl rfl rfl hl.1 (Nat.le_of_ble_eq_true rfl) dX1_judge_18 ⟨Nat.zero_le _, Nat.zero_le _⟩ (fun H locs hw => ?_)
  refine lv_iconst (v := 0) hx hb dX1_judge_21 (by decide) ?_
  refine lv_istore_n (lv' := [(2, .int 0), (1, .int x1), (0, .ref (ad 0))]) hx hb dX1_judge_22 rfl hl (by decide) rfl (fun ls hl => ?_)
  exact lX1_judge_23 C hr 5000 (w4, x1, 0) h _ _ _ hw (lv_sub hl [2, 1, 0] rfl)
abbrev rmX1_clear : Room := { frames := 0, cells := 0, slots := 0, locals := 0 }
theorem hdX1_clear : yX1_clear.cls = RX1 ∧ yX1_clear.cls ≠ "java/lang/invoke/MethodHandle" ∧ yX1_clear.cls ≠ "java/lang/invoke/VarHandle" ∧ (parseMethodDescriptor yX1_clear.desc).map (fun d => d.parameters.length) = some 0 := by decide +kernel
def fX1_clear (X : Nat → VS) : Option (Int32 × (Nat → VS)) := bn (X 3 7 0) (fun x1 => bn (up X 3 (up (X 3) 7 (fun _ => 0))) (fun w2 => some (x1, w2)))
set_option maxHeartbeats 4000000 in
set_option maxRecDepth 100000 in
theorem kX1_clear (ad : Nat → Nat) {X : Nat → VS} {z : (Int32 × (Nat → VS))} (h : fX1_clear X = some z) : MI l D cA g yX1_clear (Cond.code yX1_clear cX1_clear 2 (some .int) :: lw_g) rmX1_clear [.ref (ad 0)] (wR cA ad X) z.1 (wR cA ad z.2) := by
  intro sz
  refine Met.ofW (cc := cX1_clear) (maxL := 2) (ret := (some .int)) (by decide) rfl ?_
  intro p e s m args below meth c s₁ B hml hv
  obtain ⟨rfl, C, hr, hw⟩ := ent B hml hv
  generalize va_A (wR cA ad X) sz = A at C hw ⊢
  have hl := lv_entry ([.ref (ad 0)]) (n := 2) (Nat.le_of_ble_eq_true rfl)
  rw [lg_entry_eq]
  generalize (lg_sl ([.ref (ad 0)]) ++ List.replicate (2 - (lg_sl ([.ref (ad 0)])).length) Slot.unset).toArray = ls at hl ⊢
  have hl : lv_has ls 2 [(0, .ref (ad 0))] := hl
  have hx := C.1.1
  have hb := C.1.2.1
  have h : (bn (X 3 7 0) (fun x1 => bn (up X 3 (up (X 3) 7 (fun _ => 0))) (fun w2 => some (x1, w2)))) = some z := h
  refine lv_aload_n hx hb dX1_clear_0 rfl (lv_at hl 0 rfl) ?_
  refine tGet (T := TX1) (N := 12) (ci := 1) C hw inX1 7 0 rfl (by decide) kf_RX1_37 rfl rfl rfl dX1_clear_1 ?_
  refine lv_topi (fun x1 ex1 => ?_)
  replace h := bn_some h ex1
  refine lv_istore_n (lv' := [(1, .int x1), (0, .ref (ad 0))]) hx hb dX1_clear_4 rfl hl (by decide) rfl (fun ls hl => ?_)
  refine lv_aload_n hx hb dX1_clear_5 rfl (lv_at hl 1 rfl) ?_
  refine lv_iconst (v := 0) hx hb dX1_clear_6 (by decide) ?_
  obtain ⟨w2, ew2⟩ : ∃ y : Nat → VS, y = up X 3 (up (X 3) 7 (fun _ => 0)) := ⟨_, rfl⟩
  replace h := bn_some h ew2
  refine tPut (T := TX1) (N := 12) (ci := 1) (ws2 := (wR cA ad w2)) C hw inX1 tyX1 tyX1_ok nmX1 7 0 rfl (by decide) kf_RX1_37 rfl rfl rfl rfl rfl (Nat.le_of_ble_eq_true rfl) (by rw [ew2]; rfl) dX1_clear_7 (fun H locs hw => ?_)
  refine lv_iload_n hx hb dX1_clear_10 rfl (lv_at hl 0 rfl) ?_
  obtain rfl := some_e h
  exact rtI C hr hw dX1_clear_11
abbrev rmX1_lots : Room := { frames := 4, cells := 0, slots := 0, locals := 100 }
theorem hdX1_lots : yX1_lots.cls = RX1 ∧ yX1_lots.cls ≠ "java/lang/invoke/MethodHandle" ∧ yX1_lots.cls ≠ "java/lang/invoke/VarHandle" ∧ (parseMethodDescriptor yX1_lots.desc).map (fun d => d.parameters.length) = some 3 := by decide +kernel
def GX1_lots_139 (p : Program) (l : Launch) (e : Env) (s : State) (m : MethodId) (args : Array Value) (below : List Frame) (meth : Method) (c : Code) (D : va_G) (cA : ClassId) (A : Nat → Prop) (ad : Nat → Nat) (z : (Int32 × (Nat → VS))) (x : (Nat → VS) × (Int32) × (Int32) × (Int32) × (Int32) × (Int32) × (Int32)) : Prop := ∀ (H : Heap) (locs : List Loc) (ls : Array Slot), Wd D A s.heap (wR cA ad x.1) H locs → lv_has ls 9 [(0, .ref (ad 0)), (1, .int x.2.1), (3, .int x.2.2.1), (5, .int x.2.2.2.1), (7, .int x.2.2.2.2.1)] → W p l e rmX1_lots s m args below meth c H locs 0 0 (MQ below (QI D cA A z.1 (wR cA ad z.2)) args s 0 0 A) (F0 m 139 ls [.int x.2.2.2.2.2.1, .int x.2.2.2.2.2.2])
def GX1_lots_64 (p : Program) (l : Launch) (e : Env) (s : State) (m : MethodId) (args : Array Value) (below : List Frame) (meth : Method) (c : Code) (D : va_G) (cA : ClassId) (A : Nat → Prop) (ad : Nat → Nat) (z : (Int32 × (Nat → VS))) (x : (Nat → VS) × (Int32) × (Int32) × (Int32) × (Int32) × (Int32) × (Int32)) : Prop := ∀ (H : Heap) (locs : List Loc) (ls : Array Slot), Wd D A s.heap (wR cA ad x.1) H locs → lv_has ls 9 [(0, .ref (ad 0)), (1, .int x.2.1), (3, .int x.2.2.1), (5, .int x.2.2.2.1), (6, .int x.2.2.2.2.1), (7, .int x.2.2.2.2.2.1), (8, .int x.2.2.2.2.2.2)] → W p l e rmX1_lots s m args below meth c H locs 0 0 (MQ below (QI D cA A z.1 (wR cA ad z.2)) args s 0 0 A) (F0 m 64 ls [])
def GX1_lots_44 (p : Program) (l : Launch) (e : Env) (s : State) (m : MethodId) (args : Array Value) (below : List Frame) (meth : Method) (c : Code) (D : va_G) (cA : ClassId) (A : Nat → Prop) (ad : Nat → Nat) (z : (Int32 × (Nat → VS))) (x : (Nat → VS) × (Int32) × (Int32) × (Int32) × (Int32) × (Int32)) : Prop := ∀ (H : Heap) (locs : List Loc) (ls : Array Slot), Wd D A s.heap (wR cA ad x.1) H locs → lv_has ls 9 [(0, .ref (ad 0)), (1, .int x.2.1), (3, .int x.2.2.1), (5, .int x.2.2.2.1), (6, .int x.2.2.2.2.1), (7, .int x.2.2.2.2.2)] → W p l e rmX1_lots s m args below meth c H locs 0 0 (MQ below (QI D cA A z.1 (wR cA ad z.2)) args s 0 0 A) (F0 m 44 ls [])
def fX1_lots_139 (k44 : ((Nat → VS) × (Int32) × (Int32) × (Int32) × (Int32) × (Int32)) → Option (Int32 × (Nat → VS))) : ((Nat → VS) × (Int32) × (Int32) × (Int32) × (Int32) × (Int32) × (Int32)) → Option (Int32 × (Nat → VS)) := fun x => match x with | (X, x_1, x_3, x_5, x_7, y_0, y_1) => bn (y_1 + y_0) (fun x1 => bn (x_7 + 1) (fun x2 => k44 (X, x_1, x_3, x_5, x1, x2)))
def fX1_lots_64 (k44 : ((Nat → VS) × (Int32) × (Int32) × (Int32) × (Int32) × (Int32)) → Option (Int32 × (Nat → VS))) (k64 : ((Nat → VS) × (Int32) × (Int32) × (Int32) × (Int32) × (Int32) × (Int32)) → Option (Int32 × (Nat → VS))) : ((Nat → VS) × (Int32) × (Int32) × (Int32) × (Int32) × (Int32) × (Int32)) → Option (Int32 × (Nat → VS)) := fun x => match x with | (X, x_1, x_3, x_5, x_6, x_7, x_8) => if 8 ≤ x_8 then if x_3 = 0 then cl (fX0_countWhole (X 1)) (fun r4 => fX1_lots_139 k44 (X, x_1, x_3, x_5, x_7, r4, x_6)) else cl (fX0_countWords (X 1)) (fun r3 => fX1_lots_139 k44 (X, x_1, x_3, x_5, x_7, r3, x_6)) else bn ((x_5 * (1664525 : Int32)) + (1013904223 : Int32)) (fun x5 => bn (up X 1 (up (X 1) 10 (fun _ => (((x5 &&& (2147483647 : Int32)) / (256 : Int32)) - ((x5 &&& (2147483647 : Int32)) / (256 : Int32)) / (10 : Int32) * (10 : Int32))))) (fun w6 => cl (fX0_passNights (w6 1) 1 31) (fun w7 => bn (up w6 1 w7) (fun w8 => bn (x_8 + 1) (fun x9 => k64 (w8, x_1, x_3, x5, x_6, x_7, x9))))))
def fX1_lots_44 (k44 : ((Nat → VS) × (Int32) × (Int32) × (Int32) × (Int32) × (Int32)) → Option (Int32 × (Nat → VS))) : ((Nat → VS) × (Int32) × (Int32) × (Int32) × (Int32) × (Int32)) → Option (Int32 × (Nat → VS)) := fun x => match x with | (X, x_1, x_3, x_5, x_6, x_7) => if x_1 ≤ x_7 then some (x_6, X) else cl (fX0_copyFrom (X 1) (X 0)) (fun w2 => bn (up X 1 w2) (fun w3 => lp (fX1_lots_64 k44) 5000 (w3, x_1, x_3, x_5, x_6, x_7, 0)))
def fX1_lots (X : Nat → VS) (a_1 : Int32) (a_2 : Int32) (a_3 : Int32) : Option (Int32 × (Nat → VS)) := cl (fX1_outside a_1 1 20) (fun r1 => if r1 = 0 then cl (fX1_isOneOfTwo a_3) (fun r3 => if r3 = 0 then cl (fX1_refuse X (-2)) (fun q5 => some (q5.1, q5.2)) else lp (fX1_lots_44) 5000 (X, a_1, a_3, a_2, 0, 0)) else cl (fX1_refuse X r1) (fun q6 => some (q6.1, q6.2)))
set_option maxHeartbeats 4000000 in
set_option maxRecDepth 100000 in
theorem kX1_lots_139 (C : Cx p s m args meth c cX1_lots 9 RX1 D cA g A) (hr : meth.sig.returnType = (some .int)) {z : (Int32 × (Nat → VS))} (k44 : ((Nat → VS) × (Int32) × (Int32) × (Int32) × (Int32) × (Int32)) → Option (Int32 × (Nat → VS))) (hk44 : ∀ x, k44 x = some z → GX1_lots_44 p l e s m args below meth c D cA A ad z x) (x : (Nat → VS) × (Int32) × (Int32) × (Int32) × (Int32) × (Int32) × (Int32)) (h : fX1_lots_139 k44 x = some z) : GX1_lots_139 p l e s m args below meth c D cA A ad z x := by
  obtain ⟨X, x_1, x_3, x_5, x_7, y_0, y_1⟩ := x
  intro H locs ls hw hl
  have hw : Wd D A s.heap (wR cA ad X) H locs := hw
  have hl : lv_has ls 9 [(0, .ref (ad 0)), (1, .int x_1), (3, .int x_3), (5, .int x_5), (7, .int x_7)] := hl
  show W p l e rmX1_lots s m args below meth c H locs 0 0 (MQ below (QI D cA A z.1 (wR cA ad z.2)) args s 0 0 A) (F0 m 139 ls [.int y_0, .int y_1])
  have hx := C.1.1
  have hb := C.1.2.1
  have h : (bn (y_1 + y_0) (fun x1 => bn (x_7 + 1) (fun x2 => k44 (X, x_1, x_3, x_5, x1, x2)))) = some z := h
  refine lv_iadd hx hb dX1_lots_139 ?_
  refine lv_topi (fun x1 ex1 => ?_)
  replace h := bn_some h ex1
  refine lv_istore (lv' := [(6, .int x1), (0, .ref (ad 0)), (1, .int x_1), (3, .int x_3), (5, .int x_5), (7, .int x_7)]) hx hb dX1_lots_140 hl (by decide) rfl (fun ls hl => ?_)
  obtain ⟨x2, ex2⟩ : ∃ y : Int32, y = x_7 + 1 := ⟨_, rfl⟩
  replace h := bn_some h ex2
  refine lv_iinc (v := x2) (lv' := [(7, .int x2), (6, .int x1), (0, .ref (ad 0)), (1, .int x_1), (3, .int x_3), (5, .int x_5)]) hx hb dX1_lots_142 hl (k := 5) rfl (by rw [ex2]; rfl) (by decide) rfl (fun ls hl => ?_)
  refine lv_goto (tgt := 44) hx hb dX1_lots_145 (by decide) ?_
  exact hk44 (X, x_1, x_3, x_5, x1, x2) h _ _ _ hw (lv_sub hl [2, 3, 4, 5, 1, 0] rfl)
set_option maxHeartbeats 4000000 in
set_option maxRecDepth 100000 in
theorem kX1_lots_64 (C : Cx p s m args meth c cX1_lots 9 RX1 D cA g A) (hr : meth.sig.returnType = (some .int)) {z : (Int32 × (Nat → VS))} (k44 : ((Nat → VS) × (Int32) × (Int32) × (Int32) × (Int32) × (Int32)) → Option (Int32 × (Nat → VS))) (hk44 : ∀ x, k44 x = some z → GX1_lots_44 p l e s m args below meth c D cA A ad z x) (k64 : ((Nat → VS) × (Int32) × (Int32) × (Int32) × (Int32) × (Int32) × (Int32)) → Option (Int32 × (Nat → VS))) (hk64 : ∀ x, k64 x = some z → GX1_lots_64 p l e s m args below meth c D cA A ad z x) (x : (Nat → VS) × (Int32) × (Int32) × (Int32) × (Int32) × (Int32) × (Int32)) (h : fX1_lots_64 k44 k64 x = some z) : GX1_lots_64 p l e s m args below meth c D cA A ad z x := by
  obtain ⟨X, x_1, x_3, x_5, x_6, x_7, x_8⟩ := x
  intro H locs ls hw hl
  have hw : Wd D A s.heap (wR cA ad X) H locs := hw
  have hl : lv_has ls 9 [(0, .ref (ad 0)), (1, .int x_1), (3, .int x_3), (5, .int x_5), (6, .int x_6), (7, .int x_7), (8, .int x_8)] := hl
  have hx := C.1.1
  have hb := C.1.2.1
  have h : (if 8 ≤ x_8 then if x_3 = 0 then cl (fX0_countWhole (X 1)) (fun r4 => fX1_lots_139 k44 (X, x_1, x_3, x_5, x_7, r4, x_6)) else cl (fX0_countWords (X 1)) (fun r3 => fX1_lots_139 k44 (X, x_1, x_3, x_5, x_7, r3, x_6)) else bn ((x_5 * (1664525 : Int32)) + (1013904223 : Int32)) (fun x5 => bn (up X 1 (up (X 1) 10 (fun _ => (((x5 &&& (2147483647 : Int32)) / (256 : Int32)) - ((x5 &&& (2147483647 : Int32)) / (256 : Int32)) / (10 : Int32) * (10 : Int32))))) (fun w6 => cl (fX0_passNights (w6 1) 1 31) (fun w7 => bn (up w6 1 w7) (fun w8 => bn (x_8 + 1) (fun x9 => k64 (w8, x_1, x_3, x5, x_6, x_7, x9))))))) = some z := h
  refine lv_iload hx hb dX1_lots_64 (lv_at hl 6 rfl) ?_
  refine lv_bipush (v := 8) hx hb dX1_lots_66 (by decide) ?_
  refine lv_icmp_ge (tgt := 116) hx hb dX1_lots_68 (by decide) (fun c1 => ?_) (fun c1 => ?_)
  · replace h := (if_pos c1).symm.trans h
    refine lv_iload hx hb dX1_lots_116 (lv_at hl 4 rfl) ?_
    refine lv_iload_n hx hb dX1_lots_118 rfl (lv_at hl 2 rfl) ?_
    refine lv_if_ne (tgt := 132) hx hb dX1_lots_119 (by decide) (fun c2 => ?_) (fun c2 => ?_)
    · replace h := (if_neg c2).symm.trans h
      refine lv_aload_n hx hb dX1_lots_132 rfl (lv_at hl 0 rfl) ?_
      refine tGet (T := TX1) (N := 12) (ci := 1) C hw inX1 1 0 rfl (by decide) kf_RX1_16 rfl rfl rfl dX1_lots_133 ?_
      obtain ⟨r3, hr3, h⟩ := cl_some h
      refine cVi (ws2 := (wR cA ad X)) (As := []) (rest := [.int x_6]) C hw jR1r (kX0_countWords (fun k => ad (8 + k)) hr3) kl_RX1_245 ki_yX0_countWords ks_yX0_countWords kn_RX0 kc_yX0_countWords ⟨rfl, rfl⟩ hdX0_countWords ⟨Nat.le_of_ble_eq_true rfl, Nat.le_of_ble_eq_true rfl⟩ (ci := 0) (q0 := 0) rfl rfl rfl rfl hl.1 (Nat.le_of_ble_eq_true rfl) dX1_lots_136 ⟨Nat.zero_le _, Nat.zero_le _⟩ (fun H locs hw => ?_)
      exact kX1_lots_139 C hr k44 hk44 (X, x_1, x_3, x_5, x_7, r3, x_6) h _ _ _ hw (lv_sub hl [0, 1, 2, 3, 5] rfl)
    · replace h := (if_pos c2).symm.trans h
      refine lv_aload_n hx hb dX1_lots_122 rfl (lv_at hl 0 rfl) ?_
      refine tGet (T := TX1) (N := 12) (ci := 1) C hw inX1 1 0 rfl (by decide) kf_RX1_16 rfl rfl rfl dX1_lots_123 ?_
      obtain ⟨r4, hr4, h⟩ := cl_some h
      refine cVi (ws2 := (wR cA ad X)) (As := []) (rest := [.int x_6]) C hw jR1r (kX0_countWhole (fun k => ad (8 + k)) hr4) kl_RX1_181 ki_yX0_countWhole ks_yX0_countWhole kn_RX0 kc_yX0_countWhole ⟨rfl, rfl⟩ hdX0_countWhole ⟨Nat.le_of_ble_eq_true rfl, Nat.le_of_ble_eq_true rfl⟩ (ci := 0) (q0 := 0) rfl rfl rfl rfl hl.1 (Nat.le_of_ble_eq_true rfl) dX1_lots_126 ⟨Nat.zero_le _, Nat.zero_le _⟩ (fun H locs hw => ?_)
      refine lv_goto (tgt := 139) hx hb dX1_lots_129 (by decide) ?_
      exact kX1_lots_139 C hr k44 hk44 (X, x_1, x_3, x_5, x_7, r4, x_6) h _ _ _ hw (lv_sub hl [0, 1, 2, 3, 5] rfl)
  · replace h := (if_neg c1).symm.trans h
    refine lv_iload hx hb dX1_lots_71 (lv_at hl 3 rfl) ?_
    refine lv_ldc (v := 1664525) hx hb C.1.2.2.2.1 (C.1.2.2.2.2 _ kk_RX1_242) dX1_lots_73 ?_
    refine lv_imul hx hb dX1_lots_75 ?_
    refine lv_ldc (v := 1013904223) hx hb C.1.2.2.2.1 (C.1.2.2.2.2 _ kk_RX1_243) dX1_lots_76 ?_
    refine lv_iadd hx hb dX1_lots_78 ?_
    refine lv_topi (fun x5 ex5 => ?_)
    replace h := bn_some h ex5
    refine lv_istore (lv' := [(5, .int x5), (0, .ref (ad 0)), (1, .int x_1), (3, .int x_3), (6, .int x_6), (7, .int x_7), (8, .int x_8)]) hx hb dX1_lots_79 hl (by decide) rfl (fun ls hl => ?_)
    refine lv_aload_n hx hb dX1_lots_81 rfl (lv_at hl 1 rfl) ?_
    refine tGet (T := TX1) (N := 12) (ci := 1) C hw inX1 1 0 rfl (by decide) kf_RX1_16 rfl rfl rfl dX1_lots_82 ?_
    refine lv_iload hx hb dX1_lots_85 (lv_at hl 0 rfl) ?_
    refine lv_ldc (v := 2147483647) hx hb C.1.2.2.2.1 (C.1.2.2.2.2 _ kk_RX1_244) dX1_lots_87 ?_
    refine lv_iand hx hb dX1_lots_89 ?_
    refine lv_sipush (v := 256) hx hb dX1_lots_90 (by decide) ?_
    refine lv_idiv hx hb dX1_lots_93 (by decide) ?_
    refine lv_bipush (v := 10) hx hb dX1_lots_94 (by decide) ?_
    refine lv_irem hx hb dX1_lots_96 (by decide) ?_
    obtain ⟨w6, ew6⟩ : ∃ y : Nat → VS, y = up X 1 (up (X 1) 10 (fun _ => (((x5 &&& (2147483647 : Int32)) / (256 : Int32)) - ((x5 &&& (2147483647 : Int32)) / (256 : Int32)) / (10 : Int32) * (10 : Int32)))) := ⟨_, rfl⟩
    replace h := bn_some h ew6
    refine tPut (T := TX0) (N := 12) (ci := 0) (ws2 := (wR cA ad w6)) C hw inX0 tyX0 tyX0_ok nmX0 10 8 rfl (by decide) kf_RX1_144 rfl rfl rfl rfl rfl (Nat.le_of_ble_eq_true rfl) (by rw [ew6]; rfl) dX1_lots_97 (fun H locs hw => ?_)
    refine lv_aload_n hx hb dX1_lots_100 rfl (lv_at hl 1 rfl) ?_
    refine tGet (T := TX1) (N := 12) (ci := 1) C hw inX1 1 0 rfl (by decide) kf_RX1_16 rfl rfl rfl dX1_lots_101 ?_
    refine lv_iconst (v := 1) hx hb dX1_lots_104 (by decide) ?_
    refine lv_bipush (v := 31) hx hb dX1_lots_105 (by decide) ?_
    obtain ⟨w7, hw7, h⟩ := cl_some h
    obtain ⟨w8, ew8⟩ : ∃ y : Nat → VS, y = up w6 1 w7 := ⟨_, rfl⟩
    replace h := bn_some h ew8
    refine cVv (ws2 := (wR cA ad w8)) (As := [.int 1, .int 31]) (rest := []) C hw (by rw [ew8]; exact jR1) (kX0_passNights (fun k => ad (8 + k)) hw7) kl_RX1_150 ki_yX0_passNights ks_yX0_passNights kn_RX0 kc_yX0_passNights ⟨rfl, rfl⟩ hdX0_passNights ⟨Nat.le_of_ble_eq_true rfl, Nat.le_of_ble_eq_true rfl⟩ (ci := 0) (q0 := 0) rfl rfl rfl rfl hl.1 (Nat.le_of_ble_eq_true rfl) dX1_lots_107 ⟨Nat.zero_le _, Nat.zero_le _⟩ (fun H locs hw => ?_)
    obtain ⟨x9, ex9⟩ : ∃ y : Int32, y = x_8 + 1 := ⟨_, rfl⟩
    replace h := bn_some h ex9
    refine lv_iinc (v := x9) (lv' := [(8, .int x9), (5, .int x5), (0, .ref (ad 0)), (1, .int x_1), (3, .int x_3), (6, .int x_6), (7, .int x_7)]) hx hb dX1_lots_110 hl (k := 6) rfl (by rw [ex9]; rfl) (by decide) rfl (fun ls hl => ?_)
    refine lv_goto (tgt := 64) hx hb dX1_lots_113 (by decide) ?_
    exact hk64 (w8, x_1, x_3, x5, x_6, x_7, x9) h _ _ _ hw (lv_sub hl [2, 3, 4, 1, 5, 6, 0] rfl)
theorem lX1_lots_64 (C : Cx p s m args meth c cX1_lots 9 RX1 D cA g A) (hr : meth.sig.returnType = (some .int)) {z : (Int32 × (Nat → VS))} (k44 : ((Nat → VS) × (Int32) × (Int32) × (Int32) × (Int32) × (Int32)) → Option (Int32 × (Nat → VS))) (hk44 : ∀ x, k44 x = some z → GX1_lots_44 p l e s m args below meth c D cA A ad z x) (n : Nat) (x : (Nat → VS) × (Int32) × (Int32) × (Int32) × (Int32) × (Int32) × (Int32)) (h : lp (fX1_lots_64 k44) n x = some z) : GX1_lots_64 p l e s m args below meth c D cA A ad z x := lp_ok (GX1_lots_64 p l e s m args below meth c D cA A ad z) (fun kq hkq x h => kX1_lots_64 C hr k44 hk44 kq hkq x h) n x h
set_option maxHeartbeats 4000000 in
set_option maxRecDepth 100000 in
theorem kX1_lots_44 (C : Cx p s m args meth c cX1_lots 9 RX1 D cA g A) (hr : meth.sig.returnType = (some .int)) {z : (Int32 × (Nat → VS))} (k44 : ((Nat → VS) × (Int32) × (Int32) × (Int32) × (Int32) × (Int32)) → Option (Int32 × (Nat → VS))) (hk44 : ∀ x, k44 x = some z → GX1_lots_44 p l e s m args below meth c D cA A ad z x) (x : (Nat → VS) × (Int32) × (Int32) × (Int32) × (Int32) × (Int32)) (h : fX1_lots_44 k44 x = some z) : GX1_lots_44 p l e s m args below meth c D cA A ad z x := by
  obtain ⟨X, x_1, x_3, x_5, x_6, x_7⟩ := x
  intro H locs ls hw hl
  have hw : Wd D A s.heap (wR cA ad X) H locs := hw
  have hl : lv_has ls 9 [(0, .ref (ad 0)), (1, .int x_1), (3, .int x_3), (5, .int x_5), (6, .int x_6), (7, .int x_7)] := hl
  have hx := C.1.1
  have hb := C.1.2.1
  have h : (if x_1 ≤ x_7 then some (x_6, X) else cl (fX0_copyFrom (X 1) (X 0)) (fun w2 => bn (up X 1 w2) (fun w3 => lp (fX1_lots_64 k44) 5000 (w3, x_1, x_3, x_5, x_6, x_7, 0)))) = some z := h
  refine lv_iload hx hb dX1_lots_44 (lv_at hl 5 rfl) ?_
  refine lv_iload_n hx hb dX1_lots_46 rfl (lv_at hl 1 rfl) ?_
  refine lv_icmp_ge (tgt := 148) hx hb dX1_lots_47 (by decide) (fun c1 => ?_) (fun c1 => ?_)
  · replace h := (if_pos c1).symm.trans h
    refine lv_iload hx hb dX1_lots_148 (lv_at hl 4 rfl) ?_
    obtain rfl := some_e h
    exact rtI C hr hw dX1_lots_150
  · replace h := (if_neg c1).symm.trans h
    refine lv_aload_n hx hb dX1_lots_50 rfl (lv_at hl 0 rfl) ?_
    refine tGet (T := TX1) (N := 12) (ci := 1) C hw inX1 1 0 rfl (by decide) kf_RX1_16 rfl rfl rfl dX1_lots_51 ?_
    refine lv_aload_n hx hb dX1_lots_54 rfl (lv_at hl 0 rfl) ?_
    refine tGet (T := TX1) (N := 12) (ci := 1) C hw inX1 0 0 rfl (by decide) kf_RX1_10 rfl rfl rfl dX1_lots_55 ?_
    obtain ⟨w2, hw2, h⟩ := cl_some h
    obtain ⟨w3, ew3⟩ : ∃ y : Nat → VS, y = up X 1 w2 := ⟨_, rfl⟩
    replace h := bn_some h ew3
    refine cVv (ws2 := (wR cA ad w3)) (As := [.ref (ad 1)]) (rest := []) C hw (by rw [ew3]; exact jRR10) (kX0_copyFrom (fun k => ad (8 + k)) (fun k => ad (1 + k)) hw2) kl_RX1_59 ki_yX0_copyFrom ks_yX0_copyFrom kn_RX0 kc_yX0_copyFrom ⟨rfl, rfl⟩ hdX0_copyFrom ⟨Nat.le_of_ble_eq_true rfl, Nat.le_of_ble_eq_true rfl⟩ (ci := 0) (q0 := 0) rfl rfl rfl rfl hl.1 (Nat.le_of_ble_eq_true rfl) dX1_lots_58 ⟨Nat.zero_le _, Nat.zero_le _⟩ (fun H locs hw => ?_)
    refine lv_iconst (v := 0) hx hb dX1_lots_61 (by decide) ?_
    refine lv_istore (lv' := [(8, .int 0), (0, .ref (ad 0)), (1, .int x_1), (3, .int x_3), (5, .int x_5), (6, .int x_6), (7, .int x_7)]) hx hb dX1_lots_62 hl (by decide) rfl (fun ls hl => ?_)
    exact lX1_lots_64 C hr k44 hk44 5000 (w3, x_1, x_3, x_5, x_6, x_7, 0) h _ _ _ hw (lv_sub hl [1, 2, 3, 4, 5, 6, 0] rfl)
theorem lX1_lots_44 (C : Cx p s m args meth c cX1_lots 9 RX1 D cA g A) (hr : meth.sig.returnType = (some .int)) {z : (Int32 × (Nat → VS))} (n : Nat) (x : (Nat → VS) × (Int32) × (Int32) × (Int32) × (Int32) × (Int32)) (h : lp (fX1_lots_44) n x = some z) : GX1_lots_44 p l e s m args below meth c D cA A ad z x := lp_ok (GX1_lots_44 p l e s m args below meth c D cA A ad z) (fun kq hkq x h => kX1_lots_44 C hr kq hkq x h) n x h
set_option maxHeartbeats 4000000 in
set_option maxRecDepth 100000 in
theorem kX1_lots (ad : Nat → Nat) {X : Nat → VS} {a_1 : Int32} {a_2 : Int32} {a_3 : Int32} {z : (Int32 × (Nat → VS))} (h : fX1_lots X a_1 a_2 a_3 = some z) : MI l D cA g yX1_lots (Cond.code yX1_lots cX1_lots 9 (some .int) :: lw_g) rmX1_lots [.ref (ad 0), .int a_1, .int a_2, .int a_3] (wR cA ad X) z.1 (wR cA ad z.2) := by
  intro sz
  refine Met.ofW (cc := cX1_lots) (maxL := 9) (ret := (some .int)) (by decide) rfl ?_
  intro p e s m args below meth c s₁ B hml hv
  obtain ⟨rfl, C, hr, hw⟩ := ent B hml hv
  generalize va_A (wR cA ad X) sz = A at C hw ⊢
  have hl := lv_entry ([.ref (ad 0), .int a_1, .int a_2, .int a_3]) (n := 9) (Nat.le_of_ble_eq_true rfl)
  rw [lg_entry_eq]
  generalize (lg_sl ([.ref (ad 0), .int a_1, .int a_2, .int a_3]) ++ List.replicate (9 - (lg_sl ([.ref (ad 0), .int a_1, .int a_2, .int a_3])).length) Slot.unset).toArray = ls at hl ⊢
  have hl : lv_has ls 9 [(0, .ref (ad 0)), (1, .int a_1), (2, .int a_2), (3, .int a_3)] := hl
  have hx := C.1.1
  have hb := C.1.2.1
  have h : (cl (fX1_outside a_1 1 20) (fun r1 => if r1 = 0 then cl (fX1_isOneOfTwo a_3) (fun r3 => if r3 = 0 then cl (fX1_refuse X (-2)) (fun q5 => some (q5.1, q5.2)) else lp (fX1_lots_44) 5000 (X, a_1, a_3, a_2, 0, 0)) else cl (fX1_refuse X r1) (fun q6 => some (q6.1, q6.2)))) = some z := h
  refine lv_iload_n hx hb dX1_lots_0 rfl (lv_at hl 1 rfl) ?_
  refine lv_iconst (v := 1) hx hb dX1_lots_1 (by decide) ?_
  refine lv_bipush (v := 20) hx hb dX1_lots_2 (by decide) ?_
  obtain ⟨r1, hr1, h⟩ := cl_some h
  refine cSi (ws2 := (wR cA ad X)) (As := [.int a_1, .int 1, .int 20]) (rest := []) C hw jnE (kX1_outside hr1) kl_RX1_140 kt_yX1_outside kn_RX1 kc_yX1_outside ⟨rfl, rfl⟩ hdX1_outside ⟨Nat.le_of_ble_eq_true rfl, Nat.le_of_ble_eq_true rfl⟩ rfl hl.1 (Nat.le_of_ble_eq_true rfl) dX1_lots_4 ⟨Nat.zero_le _, Nat.zero_le _⟩ (fun H locs hw => ?_)
  refine lv_istore (lv' := [(4, .int r1), (0, .ref (ad 0)), (1, .int a_1), (2, .int a_2), (3, .int a_3)]) hx hb dX1_lots_7 hl (by decide) rfl (fun ls hl => ?_)
  refine lv_iload hx hb dX1_lots_9 (lv_at hl 0 rfl) ?_
  refine lv_if_eq (tgt := 21) hx hb dX1_lots_11 (by decide) (fun c2 => ?_) (fun c2 => ?_)
  · replace h := (if_pos c2).symm.trans h
    refine lv_iload_n hx hb dX1_lots_21 rfl (lv_at hl 4 rfl) ?_
    obtain ⟨r3, hr3, h⟩ := cl_some h
    refine cSi (ws2 := (wR cA ad X)) (As := [.int a_3]) (rest := []) C hw jnE (kX1_isOneOfTwo hr3) kl_RX1_156 kt_yX1_isOneOfTwo kn_RX1 kc_yX1_isOneOfTwo ⟨rfl, rfl⟩ hdX1_isOneOfTwo ⟨Nat.le_of_ble_eq_true rfl, Nat.le_of_ble_eq_true rfl⟩ rfl hl.1 (Nat.le_of_ble_eq_true rfl) dX1_lots_22 ⟨Nat.zero_le _, Nat.zero_le _⟩ (fun H locs hw => ?_)
    refine lv_if_ne (tgt := 35) hx hb dX1_lots_25 (by decide) (fun c4 => ?_) (fun c4 => ?_)
    · replace h := (if_neg c4).symm.trans h
      refine lv_iload_n hx hb dX1_lots_35 rfl (lv_at hl 3 rfl) ?_
      refine lv_istore (lv' := [(5, .int a_2), (4, .int r1), (0, .ref (ad 0)), (1, .int a_1), (2, .int a_2), (3, .int a_3)]) hx hb dX1_lots_36 hl (by decide) rfl (fun ls hl => ?_)
      refine lv_iconst (v := 0) hx hb dX1_lots_38 (by decide) ?_
      refine lv_istore (lv' := [(6, .int 0), (5, .int a_2), (4, .int r1), (0, .ref (ad 0)), (1, .int a_1), (2, .int a_2), (3, .int a_3)]) hx hb dX1_lots_39 hl (by decide) rfl (fun ls hl => ?_)
      refine lv_iconst (v := 0) hx hb dX1_lots_41 (by decide) ?_
      refine lv_istore (lv' := [(7, .int 0), (6, .int 0), (5, .int a_2), (4, .int r1), (0, .ref (ad 0)), (1, .int a_1), (2, .int a_2), (3, .int a_3)]) hx hb dX1_lots_42 hl (by decide) rfl (fun ls hl => ?_)
      exact lX1_lots_44 C hr 5000 (X, a_1, a_3, a_2, 0, 0) h _ _ _ hw (lv_sub hl [4, 5, 7, 2, 1, 0] rfl)
    · replace h := (if_pos c4).symm.trans h
      refine lv_aload_n hx hb dX1_lots_28 rfl (lv_at hl 1 rfl) ?_
      refine lv_bipush (v := (-2)) hx hb dX1_lots_29 (by decide) ?_
      obtain ⟨q5, hq5, h⟩ := cl_some h
      refine cVi (ws2 := (wR cA ad q5.2)) (As := [.int (-2)]) (rest := []) C hw jnW (kX1_refuse ad hq5) kl_RX1_52 ki_yX1_refuse ks_yX1_refuse kn_RX1 kc_yX1_refuse ⟨rfl, rfl⟩ hdX1_refuse ⟨Nat.le_of_ble_eq_true rfl, Nat.le_of_ble_eq_true rfl⟩ (ci := 1) (q0 := 0) rfl rfl rfl rfl hl.1 (Nat.le_of_ble_eq_true rfl) dX1_lots_31 ⟨Nat.zero_le _, Nat.zero_le _⟩ (fun H locs hw => ?_)
      obtain rfl := some_e h
      exact rtI C hr hw dX1_lots_34
  · replace h := (if_neg c2).symm.trans h
    refine lv_aload_n hx hb dX1_lots_14 rfl (lv_at hl 1 rfl) ?_
    refine lv_iload hx hb dX1_lots_15 (lv_at hl 0 rfl) ?_
    obtain ⟨q6, hq6, h⟩ := cl_some h
    refine cVi (ws2 := (wR cA ad q6.2)) (As := [.int r1]) (rest := []) C hw jnW (kX1_refuse ad hq6) kl_RX1_52 ki_yX1_refuse ks_yX1_refuse kn_RX1 kc_yX1_refuse ⟨rfl, rfl⟩ hdX1_refuse ⟨Nat.le_of_ble_eq_true rfl, Nat.le_of_ble_eq_true rfl⟩ (ci := 1) (q0 := 0) rfl rfl rfl rfl hl.1 (Nat.le_of_ble_eq_true rfl) dX1_lots_17 ⟨Nat.zero_le _, Nat.zero_le _⟩ (fun H locs hw => ?_)
    obtain rfl := some_e h
    exact rtI C hr hw dX1_lots_20
abbrev rmX1_image : Room := { frames := 2, cells := 0, slots := 0, locals := 51 }
theorem hdX1_image : yX1_image.cls = RX1 ∧ yX1_image.cls ≠ "java/lang/invoke/MethodHandle" ∧ yX1_image.cls ≠ "java/lang/invoke/VarHandle" ∧ (parseMethodDescriptor yX1_image.desc).map (fun d => d.parameters.length) = some 0 := by decide +kernel
def fX1_image (X : Nat → VS) : Option (Int32 × (Nat → VS)) := cl (fX0_copyFrom (X 2) (X 0)) (fun w1 => bn (up X 2 w1) (fun w2 => bn (up w2 3 (up (w2 3) 3 (fun _ => 1))) (fun w3 => some ((w3 0 11 0), w3))))
set_option maxHeartbeats 4000000 in
set_option maxRecDepth 100000 in
theorem kX1_image (ad : Nat → Nat) {X : Nat → VS} {z : (Int32 × (Nat → VS))} (h : fX1_image X = some z) : MI l D cA g yX1_image (Cond.code yX1_image cX1_image 1 (some .int) :: lw_g) rmX1_image [.ref (ad 0)] (wR cA ad X) z.1 (wR cA ad z.2) := by
  intro sz
  refine Met.ofW (cc := cX1_image) (maxL := 1) (ret := (some .int)) (by decide) rfl ?_
  intro p e s m args below meth c s₁ B hml hv
  obtain ⟨rfl, C, hr, hw⟩ := ent B hml hv
  generalize va_A (wR cA ad X) sz = A at C hw ⊢
  have hl := lv_entry ([.ref (ad 0)]) (n := 1) (Nat.le_of_ble_eq_true rfl)
  rw [lg_entry_eq]
  generalize (lg_sl ([.ref (ad 0)]) ++ List.replicate (1 - (lg_sl ([.ref (ad 0)])).length) Slot.unset).toArray = ls at hl ⊢
  have hl : lv_has ls 1 [(0, .ref (ad 0))] := hl
  have hx := C.1.1
  have hb := C.1.2.1
  have h : (cl (fX0_copyFrom (X 2) (X 0)) (fun w1 => bn (up X 2 w1) (fun w2 => bn (up w2 3 (up (w2 3) 3 (fun _ => 1))) (fun w3 => some ((w3 0 11 0), w3))))) = some z := h
  refine lv_aload_n hx hb dX1_image_0 rfl (lv_at hl 0 rfl) ?_
  refine tGet (T := TX1) (N := 12) (ci := 1) C hw inX1 2 0 rfl (by decide) kf_RX1_19 rfl rfl rfl dX1_image_1 ?_
  refine lv_aload_n hx hb dX1_image_4 rfl (lv_at hl 0 rfl) ?_
  refine tGet (T := TX1) (N := 12) (ci := 1) C hw inX1 0 0 rfl (by decide) kf_RX1_10 rfl rfl rfl dX1_image_5 ?_
  obtain ⟨w1, hw1, h⟩ := cl_some h
  obtain ⟨w2, ew2⟩ : ∃ y : Nat → VS, y = up X 2 w1 := ⟨_, rfl⟩
  replace h := bn_some h ew2
  refine cVv (ws2 := (wR cA ad w2)) (As := [.ref (ad 1)]) (rest := []) C hw (by rw [ew2]; exact jRR20) (kX0_copyFrom (fun k => ad (15 + k)) (fun k => ad (1 + k)) hw1) kl_RX1_59 ki_yX0_copyFrom ks_yX0_copyFrom kn_RX0 kc_yX0_copyFrom ⟨rfl, rfl⟩ hdX0_copyFrom ⟨Nat.le_of_ble_eq_true rfl, Nat.le_of_ble_eq_true rfl⟩ (ci := 0) (q0 := 0) rfl rfl rfl rfl hl.1 (Nat.le_of_ble_eq_true rfl) dX1_image_8 ⟨Nat.zero_le _, Nat.zero_le _⟩ (fun H locs hw => ?_)
  refine lv_aload_n hx hb dX1_image_11 rfl (lv_at hl 0 rfl) ?_
  refine lv_iconst (v := 1) hx hb dX1_image_12 (by decide) ?_
  obtain ⟨w3, ew3⟩ : ∃ y : Nat → VS, y = up w2 3 (up (w2 3) 3 (fun _ => 1)) := ⟨_, rfl⟩
  replace h := bn_some h ew3
  refine tPut (T := TX1) (N := 12) (ci := 1) (ws2 := (wR cA ad w3)) C hw inX1 tyX1 tyX1_ok nmX1 3 0 rfl (by decide) kf_RX1_22 rfl rfl rfl rfl rfl (Nat.le_of_ble_eq_true rfl) (by rw [ew3]; rfl) dX1_image_13 (fun H locs hw => ?_)
  refine lv_aload_n hx hb dX1_image_16 rfl (lv_at hl 0 rfl) ?_
  refine tGet (T := TX1) (N := 12) (ci := 1) C hw inX1 0 0 rfl (by decide) kf_RX1_10 rfl rfl rfl dX1_image_17 ?_
  refine tGet (T := TX0) (N := 12) (ci := 0) C hw inX0 11 1 rfl (by decide) kf_RX1_147 rfl rfl rfl dX1_image_20 ?_
  obtain rfl := some_e h
  exact rtI C hr hw dX1_image_23
abbrev rmX1_on : Room := { frames := 2, cells := 0, slots := 0, locals := 51 }
theorem hdX1_on : yX1_on.cls = RX1 ∧ yX1_on.cls ≠ "java/lang/invoke/MethodHandle" ∧ yX1_on.cls ≠ "java/lang/invoke/VarHandle" ∧ (parseMethodDescriptor yX1_on.desc).map (fun d => d.parameters.length) = some 0 := by decide +kernel
def fX1_on (X : Nat → VS) : Option (Int32 × (Nat → VS)) := if (X 3 3 0) = 0 then cl (fX1_refuse X (-3)) (fun q4 => some (q4.1, q4.2)) else cl (fX0_copyFrom (X 0) (X 2)) (fun w2 => bn (up X 0 w2) (fun w3 => some ((w3 0 11 0), w3)))
set_option maxHeartbeats 4000000 in
set_option maxRecDepth 100000 in
theorem kX1_on (ad : Nat → Nat) {X : Nat → VS} {z : (Int32 × (Nat → VS))} (h : fX1_on X = some z) : MI l D cA g yX1_on (Cond.code yX1_on cX1_on 1 (some .int) :: lw_g) rmX1_on [.ref (ad 0)] (wR cA ad X) z.1 (wR cA ad z.2) := by
  intro sz
  refine Met.ofW (cc := cX1_on) (maxL := 1) (ret := (some .int)) (by decide) rfl ?_
  intro p e s m args below meth c s₁ B hml hv
  obtain ⟨rfl, C, hr, hw⟩ := ent B hml hv
  generalize va_A (wR cA ad X) sz = A at C hw ⊢
  have hl := lv_entry ([.ref (ad 0)]) (n := 1) (Nat.le_of_ble_eq_true rfl)
  rw [lg_entry_eq]
  generalize (lg_sl ([.ref (ad 0)]) ++ List.replicate (1 - (lg_sl ([.ref (ad 0)])).length) Slot.unset).toArray = ls at hl ⊢
  have hl : lv_has ls 1 [(0, .ref (ad 0))] := hl
  have hx := C.1.1
  have hb := C.1.2.1
  have h : (if (X 3 3 0) = 0 then cl (fX1_refuse X (-3)) (fun q4 => some (q4.1, q4.2)) else cl (fX0_copyFrom (X 0) (X 2)) (fun w2 => bn (up X 0 w2) (fun w3 => some ((w3 0 11 0), w3)))) = some z := h
  refine lv_aload_n hx hb dX1_on_0 rfl (lv_at hl 0 rfl) ?_
  refine tGet (T := TX1) (N := 12) (ci := 1) C hw inX1 3 0 rfl (by decide) kf_RX1_22 rfl rfl rfl dX1_on_1 ?_
  refine lv_if_ne (tgt := 14) hx hb dX1_on_4 (by decide) (fun c1 => ?_) (fun c1 => ?_)
  · replace h := (if_neg c1).symm.trans h
    refine lv_aload_n hx hb dX1_on_14 rfl (lv_at hl 0 rfl) ?_
    refine tGet (T := TX1) (N := 12) (ci := 1) C hw inX1 0 0 rfl (by decide) kf_RX1_10 rfl rfl rfl dX1_on_15 ?_
    refine lv_aload_n hx hb dX1_on_18 rfl (lv_at hl 0 rfl) ?_
    refine tGet (T := TX1) (N := 12) (ci := 1) C hw inX1 2 0 rfl (by decide) kf_RX1_19 rfl rfl rfl dX1_on_19 ?_
    obtain ⟨w2, hw2, h⟩ := cl_some h
    obtain ⟨w3, ew3⟩ : ∃ y : Nat → VS, y = up X 0 w2 := ⟨_, rfl⟩
    replace h := bn_some h ew3
    refine cVv (ws2 := (wR cA ad w3)) (As := [.ref (ad 15)]) (rest := []) C hw (by rw [ew3]; exact jRR02) (kX0_copyFrom (fun k => ad (1 + k)) (fun k => ad (15 + k)) hw2) kl_RX1_59 ki_yX0_copyFrom ks_yX0_copyFrom kn_RX0 kc_yX0_copyFrom ⟨rfl, rfl⟩ hdX0_copyFrom ⟨Nat.le_of_ble_eq_true rfl, Nat.le_of_ble_eq_true rfl⟩ (ci := 0) (q0 := 0) rfl rfl rfl rfl hl.1 (Nat.le_of_ble_eq_true rfl) dX1_on_22 ⟨Nat.zero_le _, Nat.zero_le _⟩ (fun H locs hw => ?_)
    refine lv_aload_n hx hb dX1_on_25 rfl (lv_at hl 0 rfl) ?_
    refine tGet (T := TX1) (N := 12) (ci := 1) C hw inX1 0 0 rfl (by decide) kf_RX1_10 rfl rfl rfl dX1_on_26 ?_
    refine tGet (T := TX0) (N := 12) (ci := 0) C hw inX0 11 1 rfl (by decide) kf_RX1_147 rfl rfl rfl dX1_on_29 ?_
    obtain rfl := some_e h
    exact rtI C hr hw dX1_on_32
  · replace h := (if_pos c1).symm.trans h
    refine lv_aload_n hx hb dX1_on_7 rfl (lv_at hl 0 rfl) ?_
    refine lv_bipush (v := (-3)) hx hb dX1_on_8 (by decide) ?_
    obtain ⟨q4, hq4, h⟩ := cl_some h
    refine cVi (ws2 := (wR cA ad q4.2)) (As := [.int (-3)]) (rest := []) C hw jnW (kX1_refuse ad hq4) kl_RX1_52 ki_yX1_refuse ks_yX1_refuse kn_RX1 kc_yX1_refuse ⟨rfl, rfl⟩ hdX1_refuse ⟨Nat.le_of_ble_eq_true rfl, Nat.le_of_ble_eq_true rfl⟩ (ci := 1) (q0 := 0) rfl rfl rfl rfl hl.1 (Nat.le_of_ble_eq_true rfl) dX1_on_10 ⟨Nat.zero_le _, Nat.zero_le _⟩ (fun H locs hw => ?_)
    obtain rfl := some_e h
    exact rtI C hr hw dX1_on_13
abbrev rmX1_refusalsOf : Room := { frames := 0, cells := 0, slots := 0, locals := 0 }
theorem hdX1_refusalsOf : yX1_refusalsOf.cls = RX1 ∧ yX1_refusalsOf.cls ≠ "java/lang/invoke/MethodHandle" ∧ yX1_refusalsOf.cls ≠ "java/lang/invoke/VarHandle" ∧ (parseMethodDescriptor yX1_refusalsOf.desc).map (fun d => d.parameters.length) = some 1 := by decide +kernel
def GX1_refusalsOf_20 (p : Program) (l : Launch) (e : Env) (s : State) (m : MethodId) (args : Array Value) (below : List Frame) (meth : Method) (c : Code) (D : va_G) (cA : ClassId) (A : Nat → Prop) (ad : Nat → Nat) (X : Nat → VS) (z : Int32) (x : Unit) : Prop := ∀ (H : Heap) (locs : List Loc) (ls : Array Slot), Wd D A s.heap (wR cA ad X) H locs → lv_has ls 2 [] → W p l e rmX1_refusalsOf s m args below meth c H locs 0 0 (MQ below (QI D cA A z (wR cA ad X)) args s 0 0 A) (F0 m 20 ls [])
def fX1_refusalsOf_20 (X : Nat → VS) : (Unit) → Option Int32 := fun _ => some (-9)
def fX1_refusalsOf (X : Nat → VS) (a_1 : Int32) : Option Int32 := if a_1 < 1 then fX1_refusalsOf_20 X () else if 6 < a_1 then fX1_refusalsOf_20 X () else rd 7 (X 3 8) a_1 (fun r3 => some r3)
set_option maxHeartbeats 4000000 in
set_option maxRecDepth 100000 in
theorem kX1_refusalsOf_20 (C : Cx p s m args meth c cX1_refusalsOf 2 RX1 D cA g A) (hr : meth.sig.returnType = (some .int)) {z : Int32} (X : Nat → VS) (x : Unit) (h : fX1_refusalsOf_20 X x = some z) : GX1_refusalsOf_20 p l e s m args below meth c D cA A ad X z x := by
  intro H locs ls hw hl
  have hw : Wd D A s.heap (wR cA ad X) H locs := hw
  have hl : lv_has ls 2 [] := hl
  have hx := C.1.1
  have hb := C.1.2.1
  have h : (some (-9)) = some z := h
  refine lv_bipush (v := (-9)) hx hb dX1_refusalsOf_20 (by decide) ?_
  obtain rfl := some_e h
  exact rtI C hr hw dX1_refusalsOf_22
set_option maxHeartbeats 4000000 in
set_option maxRecDepth 100000 in
theorem kX1_refusalsOf (ad : Nat → Nat) {X : Nat → VS} {a_1 : Int32} {z : Int32} (h : fX1_refusalsOf X a_1 = some z) : MI l D cA g yX1_refusalsOf (Cond.code yX1_refusalsOf cX1_refusalsOf 2 (some .int) :: lw_g) rmX1_refusalsOf [.ref (ad 0), .int a_1] (wR cA ad X) z (wR cA ad X) := by
  intro sz
  refine Met.ofW (cc := cX1_refusalsOf) (maxL := 2) (ret := (some .int)) (by decide) rfl ?_
  intro p e s m args below meth c s₁ B hml hv
  obtain ⟨rfl, C, hr, hw⟩ := ent B hml hv
  generalize va_A (wR cA ad X) sz = A at C hw ⊢
  have hl := lv_entry ([.ref (ad 0), .int a_1]) (n := 2) (Nat.le_of_ble_eq_true rfl)
  rw [lg_entry_eq]
  generalize (lg_sl ([.ref (ad 0), .int a_1]) ++ List.replicate (2 - (lg_sl ([.ref (ad 0), .int a_1])).length) Slot.unset).toArray = ls at hl ⊢
  have hl : lv_has ls 2 [(0, .ref (ad 0)), (1, .int a_1)] := hl
  have hx := C.1.1
  have hb := C.1.2.1
  have h : (if a_1 < 1 then fX1_refusalsOf_20 X () else if 6 < a_1 then fX1_refusalsOf_20 X () else rd 7 (X 3 8) a_1 (fun r3 => some r3)) = some z := h
  refine lv_iload_n hx hb dX1_refusalsOf_0 rfl (lv_at hl 1 rfl) ?_
  refine lv_iconst (v := 1) hx hb dX1_refusalsOf_1 (by decide) ?_
  refine lv_icmp_lt (tgt := 20) hx hb dX1_refusalsOf_2 (by decide) (fun c1 => ?_) (fun c1 => ?_)
  · replace h := (if_pos c1).symm.trans h
    exact kX1_refusalsOf_20 C hr X () h _ _ _ hw (lv_sub hl [] rfl)
  · replace h := (if_neg c1).symm.trans h
    refine lv_iload_n hx hb dX1_refusalsOf_5 rfl (lv_at hl 1 rfl) ?_
    refine lv_bipush (v := 6) hx hb dX1_refusalsOf_6 (by decide) ?_
    refine lv_icmp_gt (tgt := 20) hx hb dX1_refusalsOf_8 (by decide) (fun c2 => ?_) (fun c2 => ?_)
    · replace h := (if_pos c2).symm.trans h
      exact kX1_refusalsOf_20 C hr X () h _ _ _ hw (lv_sub hl [] rfl)
    · replace h := (if_neg c2).symm.trans h
      refine lv_aload_n hx hb dX1_refusalsOf_11 rfl (lv_at hl 0 rfl) ?_
      refine tGet (T := TX1) (N := 12) (ci := 1) C hw inX1 8 0 rfl (by decide) kf_RX1_40 rfl rfl rfl dX1_refusalsOf_12 ?_
      refine lv_iload_n hx hb dX1_refusalsOf_15 rfl (lv_at hl 1 rfl) ?_
      obtain ⟨r3, ir3, er3, h⟩ := rd_some h
      refine tLd C hw 24 rfl ir3 er3 dX1_refusalsOf_16 ?_
      refine lv_goto (tgt := 22) hx hb dX1_refusalsOf_17 (by decide) ?_
      obtain rfl := some_e h
      exact rtI C hr hw dX1_refusalsOf_22
abbrev rmX1_count : Room := { frames := 2, cells := 0, slots := 0, locals := 45 }
theorem hdX1_count : yX1_count.cls = RX1 ∧ yX1_count.cls ≠ "java/lang/invoke/MethodHandle" ∧ yX1_count.cls ≠ "java/lang/invoke/VarHandle" ∧ (parseMethodDescriptor yX1_count.desc).map (fun d => d.parameters.length) = some 1 := by decide +kernel
def fX1_count (X : Nat → VS) (a_1 : Int32) : Option Int32 := if a_1 = 0 then some (X 0 0 0) else if a_1 = 1 then some (X 0 5 0) else if a_1 = 2 then some (X 0 11 0) else if a_1 = 3 then some (X 0 9 0) else if a_1 = 4 then some (X 0 4 0) else if a_1 = 5 then cl (fX0_countWords (X 0)) (fun r7 => some r7) else if a_1 = 6 then some (X 3 7 0) else if a_1 = 7 then some (X 3 5 0) else cl (fX1_refusalsOf X (a_1 - (10 : Int32))) (fun r10 => some r10)
set_option maxHeartbeats 4000000 in
set_option maxRecDepth 100000 in
theorem kX1_count (ad : Nat → Nat) {X : Nat → VS} {a_1 : Int32} {z : Int32} (h : fX1_count X a_1 = some z) : MI l D cA g yX1_count (Cond.code yX1_count cX1_count 2 (some .int) :: lw_g) rmX1_count [.ref (ad 0), .int a_1] (wR cA ad X) z (wR cA ad X) := by
  intro sz
  refine Met.ofW (cc := cX1_count) (maxL := 2) (ret := (some .int)) (by decide) rfl ?_
  intro p e s m args below meth c s₁ B hml hv
  obtain ⟨rfl, C, hr, hw⟩ := ent B hml hv
  generalize va_A (wR cA ad X) sz = A at C hw ⊢
  have hl := lv_entry ([.ref (ad 0), .int a_1]) (n := 2) (Nat.le_of_ble_eq_true rfl)
  rw [lg_entry_eq]
  generalize (lg_sl ([.ref (ad 0), .int a_1]) ++ List.replicate (2 - (lg_sl ([.ref (ad 0), .int a_1])).length) Slot.unset).toArray = ls at hl ⊢
  have hl : lv_has ls 2 [(0, .ref (ad 0)), (1, .int a_1)] := hl
  have hx := C.1.1
  have hb := C.1.2.1
  have h : (if a_1 = 0 then some (X 0 0 0) else if a_1 = 1 then some (X 0 5 0) else if a_1 = 2 then some (X 0 11 0) else if a_1 = 3 then some (X 0 9 0) else if a_1 = 4 then some (X 0 4 0) else if a_1 = 5 then cl (fX0_countWords (X 0)) (fun r7 => some r7) else if a_1 = 6 then some (X 3 7 0) else if a_1 = 7 then some (X 3 5 0) else cl (fX1_refusalsOf X (a_1 - (10 : Int32))) (fun r10 => some r10)) = some z := h
  refine lv_iload_n hx hb dX1_count_0 rfl (lv_at hl 1 rfl) ?_
  by_cases c1 : a_1 = 0
  · replace h := (if_pos c1).symm.trans h
    refine lv_tableIn (tgt := 48) hx hb dX1_count_1 (by rw [c1]; decide) (by rw [c1]; decide) (by rw [c1]; rfl) (by decide) ?_
    refine lv_aload_n hx hb dX1_count_48 rfl (lv_at hl 0 rfl) ?_
    refine tGet (T := TX1) (N := 12) (ci := 1) C hw inX1 0 0 rfl (by decide) kf_RX1_10 rfl rfl rfl dX1_count_49 ?_
    refine tGet (T := TX0) (N := 12) (ci := 0) C hw inX0 0 1 rfl (by decide) kf_RX1_129 rfl rfl rfl dX1_count_52 ?_
    obtain rfl := some_e h
    exact rtI C hr hw dX1_count_55
  replace h := (if_neg c1).symm.trans h
  by_cases c2 : a_1 = 1
  · replace h := (if_pos c2).symm.trans h
    refine lv_tableIn (tgt := 56) hx hb dX1_count_1 (by rw [c2]; decide) (by rw [c2]; decide) (by rw [c2]; rfl) (by decide) ?_
    refine lv_aload_n hx hb dX1_count_56 rfl (lv_at hl 0 rfl) ?_
    refine tGet (T := TX1) (N := 12) (ci := 1) C hw inX1 0 0 rfl (by decide) kf_RX1_10 rfl rfl rfl dX1_count_57 ?_
    refine tGet (T := TX0) (N := 12) (ci := 0) C hw inX0 5 1 rfl (by decide) kf_RX1_203 rfl rfl rfl dX1_count_60 ?_
    obtain rfl := some_e h
    exact rtI C hr hw dX1_count_63
  replace h := (if_neg c2).symm.trans h
  by_cases c3 : a_1 = 2
  · replace h := (if_pos c3).symm.trans h
    refine lv_tableIn (tgt := 64) hx hb dX1_count_1 (by rw [c3]; decide) (by rw [c3]; decide) (by rw [c3]; rfl) (by decide) ?_
    refine lv_aload_n hx hb dX1_count_64 rfl (lv_at hl 0 rfl) ?_
    refine tGet (T := TX1) (N := 12) (ci := 1) C hw inX1 0 0 rfl (by decide) kf_RX1_10 rfl rfl rfl dX1_count_65 ?_
    refine tGet (T := TX0) (N := 12) (ci := 0) C hw inX0 11 1 rfl (by decide) kf_RX1_147 rfl rfl rfl dX1_count_68 ?_
    obtain rfl := some_e h
    exact rtI C hr hw dX1_count_71
  replace h := (if_neg c3).symm.trans h
  by_cases c4 : a_1 = 3
  · replace h := (if_pos c4).symm.trans h
    refine lv_tableIn (tgt := 72) hx hb dX1_count_1 (by rw [c4]; decide) (by rw [c4]; decide) (by rw [c4]; rfl) (by decide) ?_
    refine lv_aload_n hx hb dX1_count_72 rfl (lv_at hl 0 rfl) ?_
    refine tGet (T := TX1) (N := 12) (ci := 1) C hw inX1 0 0 rfl (by decide) kf_RX1_10 rfl rfl rfl dX1_count_73 ?_
    refine tGet (T := TX0) (N := 12) (ci := 0) C hw inX0 9 1 rfl (by decide) kf_RX1_122 rfl rfl rfl dX1_count_76 ?_
    obtain rfl := some_e h
    exact rtI C hr hw dX1_count_79
  replace h := (if_neg c4).symm.trans h
  by_cases c5 : a_1 = 4
  · replace h := (if_pos c5).symm.trans h
    refine lv_tableIn (tgt := 80) hx hb dX1_count_1 (by rw [c5]; decide) (by rw [c5]; decide) (by rw [c5]; rfl) (by decide) ?_
    refine lv_aload_n hx hb dX1_count_80 rfl (lv_at hl 0 rfl) ?_
    refine tGet (T := TX1) (N := 12) (ci := 1) C hw inX1 0 0 rfl (by decide) kf_RX1_10 rfl rfl rfl dX1_count_81 ?_
    refine tGet (T := TX0) (N := 12) (ci := 0) C hw inX0 4 1 rfl (by decide) kf_RX1_132 rfl rfl rfl dX1_count_84 ?_
    obtain rfl := some_e h
    exact rtI C hr hw dX1_count_87
  replace h := (if_neg c5).symm.trans h
  by_cases c6 : a_1 = 5
  · replace h := (if_pos c6).symm.trans h
    refine lv_tableIn (tgt := 88) hx hb dX1_count_1 (by rw [c6]; decide) (by rw [c6]; decide) (by rw [c6]; rfl) (by decide) ?_
    refine lv_aload_n hx hb dX1_count_88 rfl (lv_at hl 0 rfl) ?_
    refine tGet (T := TX1) (N := 12) (ci := 1) C hw inX1 0 0 rfl (by decide) kf_RX1_10 rfl rfl rfl dX1_count_89 ?_
    obtain ⟨r7, hr7, h⟩ := cl_some h
    refine cVi (ws2 := (wR cA ad X)) (As := []) (rest := []) C hw jR0r (kX0_countWords (fun k => ad (1 + k)) hr7) kl_RX1_245 ki_yX0_countWords ks_yX0_countWords kn_RX0 kc_yX0_countWords ⟨rfl, rfl⟩ hdX0_countWords ⟨Nat.le_of_ble_eq_true rfl, Nat.le_of_ble_eq_true rfl⟩ (ci := 0) (q0 := 0) rfl rfl rfl rfl hl.1 (Nat.le_of_ble_eq_true rfl) dX1_count_92 ⟨Nat.zero_le _, Nat.zero_le _⟩ (fun H locs hw => ?_)
    obtain rfl := some_e h
    exact rtI C hr hw dX1_count_95
  replace h := (if_neg c6).symm.trans h
  by_cases c8 : a_1 = 6
  · replace h := (if_pos c8).symm.trans h
    refine lv_tableIn (tgt := 96) hx hb dX1_count_1 (by rw [c8]; decide) (by rw [c8]; decide) (by rw [c8]; rfl) (by decide) ?_
    refine lv_aload_n hx hb dX1_count_96 rfl (lv_at hl 0 rfl) ?_
    refine tGet (T := TX1) (N := 12) (ci := 1) C hw inX1 7 0 rfl (by decide) kf_RX1_37 rfl rfl rfl dX1_count_97 ?_
    obtain rfl := some_e h
    exact rtI C hr hw dX1_count_100
  replace h := (if_neg c8).symm.trans h
  by_cases c9 : a_1 = 7
  · replace h := (if_pos c9).symm.trans h
    refine lv_tableIn (tgt := 101) hx hb dX1_count_1 (by rw [c9]; decide) (by rw [c9]; decide) (by rw [c9]; rfl) (by decide) ?_
    refine lv_aload_n hx hb dX1_count_101 rfl (lv_at hl 0 rfl) ?_
    refine tGet (T := TX1) (N := 12) (ci := 1) C hw inX1 5 0 rfl (by decide) kf_RX1_30 rfl rfl rfl dX1_count_102 ?_
    obtain rfl := some_e h
    exact rtI C hr hw dX1_count_105
  replace h := (if_neg c9).symm.trans h
  have hout : (a_1 : Int32).toInt < 0 ∨ 7 < (a_1 : Int32).toInt := sw_out (fun k h1 h2 => by
    have hk : k = 0 ∨ k = 1 ∨ k = 2 ∨ k = 3 ∨ k = 4 ∨ k = 5 ∨ k = 6 ∨ k = 7 := by omega
    rcases hk with rfl | rfl | rfl | rfl | rfl | rfl | rfl | rfl
    · exact sw_ne c1 (by decide)
    · exact sw_ne c2 (by decide)
    · exact sw_ne c3 (by decide)
    · exact sw_ne c4 (by decide)
    · exact sw_ne c5 (by decide)
    · exact sw_ne c6 (by decide)
    · exact sw_ne c8 (by decide)
    · exact sw_ne c9 (by decide))
  refine lv_tableOut (tgt := 106) hx hb dX1_count_1 hout (by decide) ?_
  refine lv_aload_n hx hb dX1_count_106 rfl (lv_at hl 0 rfl) ?_
  refine lv_iload_n hx hb dX1_count_107 rfl (lv_at hl 1 rfl) ?_
  refine lv_bipush (v := 10) hx hb dX1_count_108 (by decide) ?_
  refine lv_isub hx hb dX1_count_110 ?_
  obtain ⟨r10, hr10, h⟩ := cl_some h
  refine cVi (ws2 := (wR cA ad X)) (As := [.int (a_1 - (10 : Int32))]) (rest := []) C hw jnW (kX1_refusalsOf ad hr10) kl_RX1_248 ki_yX1_refusalsOf ks_yX1_refusalsOf kn_RX1 kc_yX1_refusalsOf ⟨rfl, rfl⟩ hdX1_refusalsOf ⟨Nat.le_of_ble_eq_true rfl, Nat.le_of_ble_eq_true rfl⟩ (ci := 1) (q0 := 0) rfl rfl rfl rfl hl.1 (Nat.le_of_ble_eq_true rfl) dX1_count_111 ⟨Nat.zero_le _, Nat.zero_le _⟩ (fun H locs hw => ?_)
  obtain rfl := some_e h
  exact rtI C hr hw dX1_count_114
end
