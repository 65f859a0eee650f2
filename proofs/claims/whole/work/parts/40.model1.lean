section
variable {p : Program} {l : Launch} {e : Env} {s : State} {m : MethodId} {args : Array Value} {below : List Frame} {meth : Method} {c : Code} {D : va_G} {cA : ClassId} {g : Nat → Nat} {A : Nat → Prop} {ad ad2 : Nat → Nat} {a0 a1 : Nat}
abbrev rmX2_isIn : Room := { frames := 0, cells := 0, slots := 0, locals := 0 }
theorem hdX2_isIn : yX2_isIn.cls ≠ "java/lang/invoke/MethodHandle" ∧ yX2_isIn.cls ≠ "java/lang/invoke/VarHandle" ∧ (parseMethodDescriptor yX2_isIn.desc).map (fun d => d.parameters.length) = some 3 := by decide +kernel
def fX2_isIn (a_0 : Int32) (a_1 : Int32) (a_2 : Int32) : Option Int32 := if a_0 < a_1 then some 0 else if a_2 < a_0 then some 0 else some 1
set_option maxHeartbeats 4000000 in
set_option maxRecDepth 100000 in
theorem kX2_isIn  {a_0 : Int32} {a_1 : Int32} {a_2 : Int32} {z : Int32} (h : fX2_isIn a_0 a_1 a_2 = some z) : MI l D cA g yX2_isIn (Cond.code yX2_isIn cX2_isIn 3 (some .boolean) :: lw_g) rmX2_isIn [.int a_0, .int a_1, .int a_2] ([] : va_W) z ([] : va_W) := by
  intro sz
  refine Met.ofW (cc := cX2_isIn) (maxL := 3) (ret := (some .boolean)) (by decide) rfl ?_
  intro p e s m args below meth c s₁ B hml hv
  obtain ⟨rfl, C, hr, hw⟩ := ent B hml hv
  generalize va_A ([] : va_W) sz = A at C hw ⊢
  have hl := lv_entry ([.int a_0, .int a_1, .int a_2]) (n := 3) (Nat.le_of_ble_eq_true rfl)
  rw [lg_entry_eq]
  generalize (lg_sl ([.int a_0, .int a_1, .int a_2]) ++ List.replicate (3 - (lg_sl ([.int a_0, .int a_1, .int a_2])).length) Slot.unset).toArray = ls at hl ⊢
  have hl : lv_has ls 3 [(0, .int a_0), (1, .int a_1), (2, .int a_2)] := hl
  have hx := C.1.1
  have hb := C.1.2.1
  have h : (if a_0 < a_1 then some 0 else if a_2 < a_0 then some 0 else some 1) = some z := h
  refine lv_iload_n hx hb dX2_isIn_0 rfl (lv_at hl 0 rfl) ?_
  refine lv_iload_n hx hb dX2_isIn_1 rfl (lv_at hl 1 rfl) ?_
  refine lv_icmp_lt (tgt := 14) hx hb dX2_isIn_2 (by decide) (fun c1 => ?_) (fun c1 => ?_)
  · replace h := (if_pos c1).symm.trans h
    refine lv_iconst (v := 0) hx hb dX2_isIn_14 (by decide) ?_
    obtain rfl := some_e h
    exact rtZ C hr nz0 hw dX2_isIn_15
  · replace h := (if_neg c1).symm.trans h
    refine lv_iload_n hx hb dX2_isIn_5 rfl (lv_at hl 0 rfl) ?_
    refine lv_iload_n hx hb dX2_isIn_6 rfl (lv_at hl 2 rfl) ?_
    refine lv_icmp_gt (tgt := 14) hx hb dX2_isIn_7 (by decide) (fun c2 => ?_) (fun c2 => ?_)
    · replace h := (if_pos c2).symm.trans h
      refine lv_iconst (v := 0) hx hb dX2_isIn_14 (by decide) ?_
      obtain rfl := some_e h
      exact rtZ C hr nz0 hw dX2_isIn_15
    · replace h := (if_neg c2).symm.trans h
      refine lv_iconst (v := 1) hx hb dX2_isIn_10 (by decide) ?_
      refine lv_goto (tgt := 15) hx hb dX2_isIn_11 (by decide) ?_
      obtain rfl := some_e h
      exact rtZ C hr nz1 hw dX2_isIn_15
abbrev rmX2_apart : Room := { frames := 0, cells := 0, slots := 0, locals := 0 }
theorem hdX2_apart : yX2_apart.cls ≠ "java/lang/invoke/MethodHandle" ∧ yX2_apart.cls ≠ "java/lang/invoke/VarHandle" ∧ (parseMethodDescriptor yX2_apart.desc).map (fun d => d.parameters.length) = some 2 := by decide +kernel
def fX2_apart (a_0 : Int32) (a_1 : Int32) : Option Int32 := if a_1 ≤ a_0 then some (a_0 - a_1) else some (a_1 - a_0)
set_option maxHeartbeats 4000000 in
set_option maxRecDepth 100000 in
theorem kX2_apart  {a_0 : Int32} {a_1 : Int32} {z : Int32} (h : fX2_apart a_0 a_1 = some z) : MI l D cA g yX2_apart (Cond.code yX2_apart cX2_apart 2 (some .int) :: lw_g) rmX2_apart [.int a_0, .int a_1] ([] : va_W) z ([] : va_W) := by
  intro sz
  refine Met.ofW (cc := cX2_apart) (maxL := 2) (ret := (some .int)) (by decide) rfl ?_
  intro p e s m args below meth c s₁ B hml hv
  obtain ⟨rfl, C, hr, hw⟩ := ent B hml hv
  generalize va_A ([] : va_W) sz = A at C hw ⊢
  have hl := lv_entry ([.int a_0, .int a_1]) (n := 2) (Nat.le_of_ble_eq_true rfl)
  rw [lg_entry_eq]
  generalize (lg_sl ([.int a_0, .int a_1]) ++ List.replicate (2 - (lg_sl ([.int a_0, .int a_1])).length) Slot.unset).toArray = ls at hl ⊢
  have hl : lv_has ls 2 [(0, .int a_0), (1, .int a_1)] := hl
  have hx := C.1.1
  have hb := C.1.2.1
  have h : (if a_1 ≤ a_0 then some (a_0 - a_1) else some (a_1 - a_0)) = some z := h
  refine lv_iload_n hx hb dX2_apart_0 rfl (lv_at hl 0 rfl) ?_
  refine lv_iload_n hx hb dX2_apart_1 rfl (lv_at hl 1 rfl) ?_
  refine lv_icmp_ge (tgt := 11) hx hb dX2_apart_2 (by decide) (fun c1 => ?_) (fun c1 => ?_)
  · replace h := (if_pos c1).symm.trans h
    refine lv_iload_n hx hb dX2_apart_11 rfl (lv_at hl 0 rfl) ?_
    refine lv_iload_n hx hb dX2_apart_12 rfl (lv_at hl 1 rfl) ?_
    refine lv_isub hx hb dX2_apart_13 ?_
    obtain rfl := some_e h
    exact rtI C hr hw dX2_apart_14
  · replace h := (if_neg c1).symm.trans h
    refine lv_iload_n hx hb dX2_apart_5 rfl (lv_at hl 1 rfl) ?_
    refine lv_iload_n hx hb dX2_apart_6 rfl (lv_at hl 0 rfl) ?_
    refine lv_isub hx hb dX2_apart_7 ?_
    refine lv_goto (tgt := 14) hx hb dX2_apart_8 (by decide) ?_
    obtain rfl := some_e h
    exact rtI C hr hw dX2_apart_14
abbrev rmX2_copies : Room := { frames := 0, cells := 0, slots := 0, locals := 0 }
theorem hdX2_copies : yX2_copies.cls ≠ "java/lang/invoke/MethodHandle" ∧ yX2_copies.cls ≠ "java/lang/invoke/VarHandle" ∧ (parseMethodDescriptor yX2_copies.desc).map (fun d => d.parameters.length) = some 2 := by decide +kernel
def GX2_copies_2 (p : Program) (l : Launch) (e : Env) (s : State) (m : MethodId) (args : Array Value) (below : List Frame) (meth : Method) (c : Code) (D : va_G) (cA : ClassId) (A : Nat → Prop) (a0 a1 : Nat) (f0 : Nat → Int32) (z : (Nat → Int32)) (x : (Nat → Int32) × (Int32)) : Prop := ∀ (H : Heap) (locs : List Loc) (ls : Array Slot), Wd D A s.heap (wAA cA a0 a1 f0 x.1) H locs → lv_has ls 3 [(0, .ref a0), (1, .ref a1), (2, .int x.2)] → W p l e rmX2_copies s m args below meth c H locs 0 0 (MQ below (QV D cA A (wAA cA a0 a1 f0 z)) args s 0 0 A) (F0 m 2 ls [])
def fX2_copies_2 (f0 : Nat → Int32) (k2 : ((Nat → Int32) × (Int32)) → Option (Nat → Int32)) : ((Nat → Int32) × (Int32)) → Option (Nat → Int32) := fun x => match x with | (f1, x_2) => if 81 ≤ x_2 then some f1 else rd 81 f0 x_2 (fun r2 => ck 81 x_2 (bn (upd f1 (x_2 : Int32).toNatClampNeg r2) (fun w3 => bn (x_2 + 1) (fun x4 => k2 (w3, x4)))))
def fX2_copies (f0 : Nat → Int32) (f1 : Nat → Int32) : Option (Nat → Int32) := lp (fX2_copies_2 f0) 5000 (f1, 0)
set_option maxHeartbeats 4000000 in
set_option maxRecDepth 100000 in
theorem kX2_copies_2 (C : Cx p s m args meth c cX2_copies 3 RX2 D cA g A) (hr : meth.sig.returnType = none) {z : (Nat → Int32)} (f0 : Nat → Int32) (k2 : ((Nat → Int32) × (Int32)) → Option (Nat → Int32)) (hk2 : ∀ x, k2 x = some z → GX2_copies_2 p l e s m args below meth c D cA A a0 a1 f0 z x) (x : (Nat → Int32) × (Int32)) (h : fX2_copies_2 f0 k2 x = some z) : GX2_copies_2 p l e s m args below meth c D cA A a0 a1 f0 z x := by
  obtain ⟨f1, x_2⟩ := x
  intro H locs ls hw hl
  have hw : Wd D A s.heap (wAA cA a0 a1 f0 f1) H locs := hw
  have hl : lv_has ls 3 [(0, .ref a0), (1, .ref a1), (2, .int x_2)] := hl
  have hx := C.1.1
  have hb := C.1.2.1
  have h : (if 81 ≤ x_2 then some f1 else rd 81 f0 x_2 (fun r2 => ck 81 x_2 (bn (upd f1 (x_2 : Int32).toNatClampNeg r2) (fun w3 => bn (x_2 + 1) (fun x4 => k2 (w3, x4)))))) = some z := h
  refine lv_iload_n hx hb dX2_copies_2 rfl (lv_at hl 2 rfl) ?_
  refine lv_bipush (v := 81) hx hb dX2_copies_3 (by decide) ?_
  refine lv_icmp_ge (tgt := 20) hx hb dX2_copies_5 (by decide) (fun c1 => ?_) (fun c1 => ?_)
  · replace h := (if_pos c1).symm.trans h
    obtain rfl := some_e h
    exact rtV C hr hw dX2_copies_20
  · replace h := (if_neg c1).symm.trans h
    refine lv_aload_n hx hb dX2_copies_8 rfl (lv_at hl 1 rfl) ?_
    refine lv_iload_n hx hb dX2_copies_9 rfl (lv_at hl 2 rfl) ?_
    refine lv_aload_n hx hb dX2_copies_10 rfl (lv_at hl 0 rfl) ?_
    refine lv_iload_n hx hb dX2_copies_11 rfl (lv_at hl 2 rfl) ?_
    obtain ⟨r2, ir2, er2, h⟩ := rd_some h
    refine tLd C hw 0 rfl ir2 er2 dX2_copies_12 ?_
    obtain ⟨iw3, h⟩ := ck_some h
    obtain ⟨w3, ew3⟩ : ∃ y : Nat → Int32, y = upd f1 (x_2 : Int32).toNatClampNeg r2 := ⟨_, rfl⟩
    replace h := bn_some h ew3
    refine tSt (ws2 := (wAA cA a0 a1 f0 w3)) C hw 1 rfl iw3 (by rw [ew3]; rfl) dX2_copies_13 (fun H locs hw => ?_)
    obtain ⟨x4, ex4⟩ : ∃ y : Int32, y = x_2 + 1 := ⟨_, rfl⟩
    replace h := bn_some h ex4
    refine lv_iinc (v := x4) (lv' := [(2, .int x4), (0, .ref a0), (1, .ref a1)]) hx hb dX2_copies_14 hl (k := 2) rfl (by rw [ex4]; rfl) (by decide) rfl (fun ls hl => ?_)
    refine lv_goto (tgt := 2) hx hb dX2_copies_17 (by decide) ?_
    exact hk2 (w3, x4) h _ _ _ hw (lv_sub hl [1, 2, 0] rfl)
theorem lX2_copies_2 (C : Cx p s m args meth c cX2_copies 3 RX2 D cA g A) (hr : meth.sig.returnType = none) {z : (Nat → Int32)} (f0 : Nat → Int32) (n : Nat) (x : (Nat → Int32) × (Int32)) (h : lp (fX2_copies_2 f0) n x = some z) : GX2_copies_2 p l e s m args below meth c D cA A a0 a1 f0 z x := lp_ok (GX2_copies_2 p l e s m args below meth c D cA A a0 a1 f0 z) (fun kq hkq x h => kX2_copies_2 C hr f0 kq hkq x h) n x h
set_option maxHeartbeats 4000000 in
set_option maxRecDepth 100000 in
theorem kX2_copies (a0 a1 : Nat) {f0 : Nat → Int32} {f1 : Nat → Int32} {z : (Nat → Int32)} (h : fX2_copies f0 f1 = some z) : MV l D cA g yX2_copies (Cond.code yX2_copies cX2_copies 3 none :: lw_g) rmX2_copies [.ref a0, .ref a1] (wAA cA a0 a1 f0 f1) (wAA cA a0 a1 f0 z) := by
  intro sz
  refine Met.ofW (cc := cX2_copies) (maxL := 3) (ret := none) (by decide) rfl ?_
  intro p e s m args below meth c s₁ B hml hv
  obtain ⟨rfl, C, hr, hw⟩ := ent B hml hv
  generalize va_A (wAA cA a0 a1 f0 f1) sz = A at C hw ⊢
  have hl := lv_entry ([.ref a0, .ref a1]) (n := 3) (Nat.le_of_ble_eq_true rfl)
  rw [lg_entry_eq]
  generalize (lg_sl ([.ref a0, .ref a1]) ++ List.replicate (3 - (lg_sl ([.ref a0, .ref a1])).length) Slot.unset).toArray = ls at hl ⊢
  have hl : lv_has ls 3 [(0, .ref a0), (1, .ref a1)] := hl
  have hx := C.1.1
  have hb := C.1.2.1
  have h : (lp (fX2_copies_2 f0) 5000 (f1, 0)) = some z := h
  refine lv_iconst (v := 0) hx hb dX2_copies_0 (by decide) ?_
  refine lv_istore_n (lv' := [(2, .int 0), (0, .ref a0), (1, .ref a1)]) hx hb dX2_copies_1 rfl hl (by decide) rfl (fun ls hl => ?_)
  exact lX2_copies_2 C hr f0 5000 (f1, 0) h _ _ _ hw (lv_sub hl [1, 2, 0] rfl)
abbrev rmX2_no : Room := { frames := 0, cells := 0, slots := 0, locals := 0 }
theorem hdX2_no : yX2_no.cls = RX2 ∧ yX2_no.cls ≠ "java/lang/invoke/MethodHandle" ∧ yX2_no.cls ≠ "java/lang/invoke/VarHandle" ∧ (parseMethodDescriptor yX2_no.desc).map (fun d => d.parameters.length) = some 1 := by decide +kernel
def fX2_no (Y : VS) (a_1 : Int32) : Option (Int32 × VS) := rd 7 (Y 7) (-a_1) (fun r1 => ck 7 (-a_1) (bn (up Y 7 (upd (Y 7) ((-a_1) : Int32).toNatClampNeg (r1 + (1 : Int32)))) (fun w2 => some (a_1, w2))))
set_option maxHeartbeats 4000000 in
set_option maxRecDepth 100000 in
theorem kX2_no (ad : Nat → Nat) {Y : VS} {a_1 : Int32} {z : (Int32 × VS)} (h : fX2_no Y a_1 = some z) : MI l D cA g yX2_no (Cond.code yX2_no cX2_no 2 (some .int) :: lw_g) rmX2_no [.ref (ad 0), .int a_1] (wM cA ad Y) z.1 (wM cA ad z.2) := by
  intro sz
  refine Met.ofW (cc := cX2_no) (maxL := 2) (ret := (some .int)) (by decide) rfl ?_
  intro p e s m args below meth c s₁ B hml hv
  obtain ⟨rfl, C, hr, hw⟩ := ent B hml hv
  generalize va_A (wM cA ad Y) sz = A at C hw ⊢
  have hl := lv_entry ([.ref (ad 0), .int a_1]) (n := 2) (Nat.le_of_ble_eq_true rfl)
  rw [lg_entry_eq]
  generalize (lg_sl ([.ref (ad 0), .int a_1]) ++ List.replicate (2 - (lg_sl ([.ref (ad 0), .int a_1])).length) Slot.unset).toArray = ls at hl ⊢
  have hl : lv_has ls 2 [(0, .ref (ad 0)), (1, .int a_1)] := hl
  have hx := C.1.1
  have hb := C.1.2.1
  have h : (rd 7 (Y 7) (-a_1) (fun r1 => ck 7 (-a_1) (bn (up Y 7 (upd (Y 7) ((-a_1) : Int32).toNatClampNeg (r1 + (1 : Int32)))) (fun w2 => some (a_1, w2))))) = some z := h
  refine lv_aload_n hx hb dX2_no_0 rfl (lv_at hl 0 rfl) ?_
  refine tGet (T := TX2) (N := 13) (ci := 2) C hw inX2 7 0 rfl (by decide) kf_RX2_28 rfl rfl rfl dX2_no_1 ?_
  refine lv_iload_n hx hb dX2_no_4 rfl (lv_at hl 1 rfl) ?_
  refine lv_ineg hx hb dX2_no_5 ?_
  refine lv_dup2_11 hx hb dX2_no_6 rfl rfl ?_
  obtain ⟨r1, ir1, er1, h⟩ := rd_some h
  refine tLd C hw 7 rfl ir1 er1 dX2_no_7 ?_
  refine lv_iconst (v := 1) hx hb dX2_no_8 (by decide) ?_
  refine lv_iadd hx hb dX2_no_9 ?_
  obtain ⟨iw2, h⟩ := ck_some h
  obtain ⟨w2, ew2⟩ : ∃ y : VS, y = up Y 7 (upd (Y 7) ((-a_1) : Int32).toNatClampNeg (r1 + (1 : Int32))) := ⟨_, rfl⟩
  replace h := bn_some h ew2
  refine tSt (ws2 := (wM cA ad w2)) C hw 7 rfl iw2 (by rw [ew2]; rfl) dX2_no_10 (fun H locs hw => ?_)
  refine lv_iload_n hx hb dX2_no_11 rfl (lv_at hl 1 rfl) ?_
  obtain rfl := some_e h
  exact rtI C hr hw dX2_no_12
abbrev rmX2_noWide : Room := { frames := 1, cells := 0, slots := 0, locals := 21 }
theorem hdX2_noWide : yX2_noWide.cls = RX2 ∧ yX2_noWide.cls ≠ "java/lang/invoke/MethodHandle" ∧ yX2_noWide.cls ≠ "java/lang/invoke/VarHandle" ∧ (parseMethodDescriptor yX2_noWide.desc).map (fun d => d.parameters.length) = some 1 := by decide +kernel
def fX2_noWide (Y : VS) (a_1 : Int32) : Option (Int64 × VS) := cl (fX2_no Y a_1) (fun q1 => some (((4000000000000000000 : Int64) - (q1.1 : Int32).toInt64), q1.2))
set_option maxHeartbeats 4000000 in
set_option maxRecDepth 100000 in
theorem kX2_noWide (ad : Nat → Nat) {Y : VS} {a_1 : Int32} {z : (Int64 × VS)} (h : fX2_noWide Y a_1 = some z) : ML l D cA g yX2_noWide (Cond.code yX2_noWide cX2_noWide 2 (some .long) :: lw_g) rmX2_noWide [.ref (ad 0), .int a_1] (wM cA ad Y) z.1 (wM cA ad z.2) := by
  intro sz
  refine Met.ofW (cc := cX2_noWide) (maxL := 2) (ret := (some .long)) (by decide) rfl ?_
  intro p e s m args below meth c s₁ B hml hv
  obtain ⟨rfl, C, hr, hw⟩ := ent B hml hv
  generalize va_A (wM cA ad Y) sz = A at C hw ⊢
  have hl := lv_entry ([.ref (ad 0), .int a_1]) (n := 2) (Nat.le_of_ble_eq_true rfl)
  rw [lg_entry_eq]
  generalize (lg_sl ([.ref (ad 0), .int a_1]) ++ List.replicate (2 - (lg_sl ([.ref (ad 0), .int a_1])).length) Slot.unset).toArray = ls at hl ⊢
  have hl : lv_has ls 2 [(0, .ref (ad 0)), (1, .int a_1)] := hl
  have hx := C.1.1
  have hb := C.1.2.1
  have h : (cl (fX2_no Y a_1) (fun q1 => some (((4000000000000000000 : Int64) - (q1.1 : Int32).toInt64), q1.2))) = some z := h
  refine lv_ldc2 (v := 4000000000000000000) hx hb C.1.2.2.2.1 (C.1.2.2.2.2 _ kk_RX2_34) dX2_noWide_0 ?_
  refine lv_aload_n hx hb dX2_noWide_3 rfl (lv_at hl 0 rfl) ?_
  refine lv_iload_n hx hb dX2_noWide_4 rfl (lv_at hl 1 rfl) ?_
  obtain ⟨q1, hq1, h⟩ := cl_some h
  refine cVi (ws2 := (wM cA ad q1.2)) (As := [.int a_1]) (rest := [.long 4000000000000000000]) C hw jnW (kX2_no ad hq1) kl_RX2_36 ki_yX2_no ks_yX2_no kn_RX2 kc_yX2_no ⟨rfl, rfl⟩ hdX2_no ⟨Nat.le_of_ble_eq_true rfl, Nat.le_of_ble_eq_true rfl⟩ (ci := 2) (q0 := 0) rfl rfl rfl rfl hl.1 (Nat.le_of_ble_eq_true rfl) dX2_noWide_5 ⟨Nat.zero_le _, Nat.zero_le _⟩ (fun H locs hw => ?_)
  refine lv_i2l (v := (q1.1 : Int32).toInt64) hx hb dX2_noWide_8 rfl ?_
  refine lv_lsub hx hb dX2_noWide_9 ?_
  obtain rfl := some_e h
  exact rtL C hr hw dX2_noWide_10
abbrev rmX2_ofR : Room := { frames := 0, cells := 0, slots := 0, locals := 0 }
theorem hdX2_ofR : yX2_ofR.cls ≠ "java/lang/invoke/MethodHandle" ∧ yX2_ofR.cls ≠ "java/lang/invoke/VarHandle" ∧ (parseMethodDescriptor yX2_ofR.desc).map (fun d => d.parameters.length) = some 2 := by decide +kernel
def fX2_ofR (a_0 : Int32) (a_1 : Int32) : Option Int32 := some (((5 : Int32) + ((4 : Int32) * a_0)) + a_1)
set_option maxHeartbeats 4000000 in
set_option maxRecDepth 100000 in
theorem kX2_ofR  {a_0 : Int32} {a_1 : Int32} {z : Int32} (h : fX2_ofR a_0 a_1 = some z) : MI l D cA g yX2_ofR (Cond.code yX2_ofR cX2_ofR 2 (some .int) :: lw_g) rmX2_ofR [.int a_0, .int a_1] ([] : va_W) z ([] : va_W) := by
  intro sz
  refine Met.ofW (cc := cX2_ofR) (maxL := 2) (ret := (some .int)) (by decide) rfl ?_
  intro p e s m args below meth c s₁ B hml hv
  obtain ⟨rfl, C, hr, hw⟩ := ent B hml hv
  generalize va_A ([] : va_W) sz = A at C hw ⊢
  have hl := lv_entry ([.int a_0, .int a_1]) (n := 2) (Nat.le_of_ble_eq_true rfl)
  rw [lg_entry_eq]
  generalize (lg_sl ([.int a_0, .int a_1]) ++ List.replicate (2 - (lg_sl ([.int a_0, .int a_1])).length) Slot.unset).toArray = ls at hl ⊢
  have hl : lv_has ls 2 [(0, .int a_0), (1, .int a_1)] := hl
  have hx := C.1.1
  have hb := C.1.2.1
  have h : (some (((5 : Int32) + ((4 : Int32) * a_0)) + a_1)) = some z := h
  refine lv_iconst (v := 5) hx hb dX2_ofR_0 (by decide) ?_
  refine lv_iconst (v := 4) hx hb dX2_ofR_1 (by decide) ?_
  refine lv_iload_n hx hb dX2_ofR_2 rfl (lv_at hl 0 rfl) ?_
  refine lv_imul hx hb dX2_ofR_3 ?_
  refine lv_iadd hx hb dX2_ofR_4 ?_
  refine lv_iload_n hx hb dX2_ofR_5 rfl (lv_at hl 1 rfl) ?_
  refine lv_iadd hx hb dX2_ofR_6 ?_
  obtain rfl := some_e h
  exact rtI C hr hw dX2_ofR_7
abbrev rmX2_ofP : Room := { frames := 0, cells := 0, slots := 0, locals := 0 }
theorem hdX2_ofP : yX2_ofP.cls ≠ "java/lang/invoke/MethodHandle" ∧ yX2_ofP.cls ≠ "java/lang/invoke/VarHandle" ∧ (parseMethodDescriptor yX2_ofP.desc).map (fun d => d.parameters.length) = some 2 := by decide +kernel
def fX2_ofP (a_0 : Int32) (a_1 : Int32) : Option Int32 := some (((41 : Int32) + ((8 : Int32) * a_0)) + a_1)
set_option maxHeartbeats 4000000 in
set_option maxRecDepth 100000 in
theorem kX2_ofP  {a_0 : Int32} {a_1 : Int32} {z : Int32} (h : fX2_ofP a_0 a_1 = some z) : MI l D cA g yX2_ofP (Cond.code yX2_ofP cX2_ofP 2 (some .int) :: lw_g) rmX2_ofP [.int a_0, .int a_1] ([] : va_W) z ([] : va_W) := by
  intro sz
  refine Met.ofW (cc := cX2_ofP) (maxL := 2) (ret := (some .int)) (by decide) rfl ?_
  intro p e s m args below meth c s₁ B hml hv
  obtain ⟨rfl, C, hr, hw⟩ := ent B hml hv
  generalize va_A ([] : va_W) sz = A at C hw ⊢
  have hl := lv_entry ([.int a_0, .int a_1]) (n := 2) (Nat.le_of_ble_eq_true rfl)
  rw [lg_entry_eq]
  generalize (lg_sl ([.int a_0, .int a_1]) ++ List.replicate (2 - (lg_sl ([.int a_0, .int a_1])).length) Slot.unset).toArray = ls at hl ⊢
  have hl : lv_has ls 2 [(0, .int a_0), (1, .int a_1)] := hl
  have hx := C.1.1
  have hb := C.1.2.1
  have h : (some (((41 : Int32) + ((8 : Int32) * a_0)) + a_1)) = some z := h
  refine lv_bipush (v := 41) hx hb dX2_ofP_0 (by decide) ?_
  refine lv_bipush (v := 8) hx hb dX2_ofP_2 (by decide) ?_
  refine lv_iload_n hx hb dX2_ofP_4 rfl (lv_at hl 0 rfl) ?_
  refine lv_imul hx hb dX2_ofP_5 ?_
  refine lv_iadd hx hb dX2_ofP_6 ?_
  refine lv_iload_n hx hb dX2_ofP_7 rfl (lv_at hl 1 rfl) ?_
  refine lv_iadd hx hb dX2_ofP_8 ?_
  obtain rfl := some_e h
  exact rtI C hr hw dX2_ofP_9
abbrev rmX2_isRocket : Room := { frames := 1, cells := 0, slots := 0, locals := 22 }
theorem hdX2_isRocket : yX2_isRocket.cls = RX2 ∧ yX2_isRocket.cls ≠ "java/lang/invoke/MethodHandle" ∧ yX2_isRocket.cls ≠ "java/lang/invoke/VarHandle" ∧ (parseMethodDescriptor yX2_isRocket.desc).map (fun d => d.parameters.length) = some 1 := by decide +kernel
def fX2_isRocket (Y : VS) (a_1 : Int32) : Option Int32 := rd 81 (Y 0) 0 (fun r1 => cl (fX2_isIn a_1 0 (r1 - (1 : Int32))) (fun r2 => bz r2 (some r2)))
set_option maxHeartbeats 4000000 in
set_option maxRecDepth 100000 in
theorem kX2_isRocket (ad : Nat → Nat) {Y : VS} {a_1 : Int32} {z : Int32} (h : fX2_isRocket Y a_1 = some z) : MI l D cA g yX2_isRocket (Cond.code yX2_isRocket cX2_isRocket 2 (some .boolean) :: lw_g) rmX2_isRocket [.ref (ad 0), .int a_1] (wM cA ad Y) z (wM cA ad Y) := by
  intro sz
  refine Met.ofW (cc := cX2_isRocket) (maxL := 2) (ret := (some .boolean)) (by decide) rfl ?_
  intro p e s m args below meth c s₁ B hml hv
  obtain ⟨rfl, C, hr, hw⟩ := ent B hml hv
  generalize va_A (wM cA ad Y) sz = A at C hw ⊢
  have hl := lv_entry ([.ref (ad 0), .int a_1]) (n := 2) (Nat.le_of_ble_eq_true rfl)
  rw [lg_entry_eq]
  generalize (lg_sl ([.ref (ad 0), .int a_1]) ++ List.replicate (2 - (lg_sl ([.ref (ad 0), .int a_1])).length) Slot.unset).toArray = ls at hl ⊢
  have hl : lv_has ls 2 [(0, .ref (ad 0)), (1, .int a_1)] := hl
  have hx := C.1.1
  have hb := C.1.2.1
  have h : (rd 81 (Y 0) 0 (fun r1 => cl (fX2_isIn a_1 0 (r1 - (1 : Int32))) (fun r2 => bz r2 (some r2)))) = some z := h
  refine lv_iload_n hx hb dX2_isRocket_0 rfl (lv_at hl 1 rfl) ?_
  refine lv_iconst (v := 0) hx hb dX2_isRocket_1 (by decide) ?_
  refine lv_aload_n hx hb dX2_isRocket_2 rfl (lv_at hl 0 rfl) ?_
  refine tGet (T := TX2) (N := 13) (ci := 2) C hw inX2 0 0 rfl (by decide) kf_RX2_9 rfl rfl rfl dX2_isRocket_3 ?_
  refine lv_iconst (v := 0) hx hb dX2_isRocket_6 (by decide) ?_
  obtain ⟨r1, ir1, er1, h⟩ := rd_some h
  refine tLd C hw 1 rfl ir1 er1 dX2_isRocket_7 ?_
  refine lv_iconst (v := 1) hx hb dX2_isRocket_8 (by decide) ?_
  refine lv_isub hx hb dX2_isRocket_9 ?_
  obtain ⟨r2, hr2, h⟩ := cl_some h
  refine cSi (ws2 := (wM cA ad Y)) (As := [.int a_1, .int 0, .int (r1 - (1 : Int32))]) (rest := []) C hw jnE (kX2_isIn hr2) kl_RX2_40 kt_yX2_isIn kn_RX2 kc_yX2_isIn ⟨rfl, rfl⟩ hdX2_isIn ⟨Nat.le_of_ble_eq_true rfl, Nat.le_of_ble_eq_true rfl⟩ rfl hl.1 (Nat.le_of_ble_eq_true rfl) dX2_isRocket_10 ⟨Nat.zero_le _, Nat.zero_le _⟩ (fun H locs hw => ?_)
  obtain ⟨hz, h⟩ := bz_some h
  obtain rfl := some_e h
  exact rtZ C hr hz hw dX2_isRocket_13
abbrev rmX2_isReader : Room := { frames := 1, cells := 0, slots := 0, locals := 22 }
theorem hdX2_isReader : yX2_isReader.cls = RX2 ∧ yX2_isReader.cls ≠ "java/lang/invoke/MethodHandle" ∧ yX2_isReader.cls ≠ "java/lang/invoke/VarHandle" ∧ (parseMethodDescriptor yX2_isReader.desc).map (fun d => d.parameters.length) = some 1 := by decide +kernel
def fX2_isReader (Y : VS) (a_1 : Int32) : Option Int32 := rd 81 (Y 0) 1 (fun r1 => cl (fX2_isIn a_1 0 (r1 - (1 : Int32))) (fun r2 => bz r2 (some r2)))
set_option maxHeartbeats 4000000 in
set_option maxRecDepth 100000 in
theorem kX2_isReader (ad : Nat → Nat) {Y : VS} {a_1 : Int32} {z : Int32} (h : fX2_isReader Y a_1 = some z) : MI l D cA g yX2_isReader (Cond.code yX2_isReader cX2_isReader 2 (some .boolean) :: lw_g) rmX2_isReader [.ref (ad 0), .int a_1] (wM cA ad Y) z (wM cA ad Y) := by
  intro sz
  refine Met.ofW (cc := cX2_isReader) (maxL := 2) (ret := (some .boolean)) (by decide) rfl ?_
  intro p e s m args below meth c s₁ B hml hv
  obtain ⟨rfl, C, hr, hw⟩ := ent B hml hv
  generalize va_A (wM cA ad Y) sz = A at C hw ⊢
  have hl := lv_entry ([.ref (ad 0), .int a_1]) (n := 2) (Nat.le_of_ble_eq_true rfl)
  rw [lg_entry_eq]
  generalize (lg_sl ([.ref (ad 0), .int a_1]) ++ List.replicate (2 - (lg_sl ([.ref (ad 0), .int a_1])).length) Slot.unset).toArray = ls at hl ⊢
  have hl : lv_has ls 2 [(0, .ref (ad 0)), (1, .int a_1)] := hl
  have hx := C.1.1
  have hb := C.1.2.1
  have h : (rd 81 (Y 0) 1 (fun r1 => cl (fX2_isIn a_1 0 (r1 - (1 : Int32))) (fun r2 => bz r2 (some r2)))) = some z := h
  refine lv_iload_n hx hb dX2_isReader_0 rfl (lv_at hl 1 rfl) ?_
  refine lv_iconst (v := 0) hx hb dX2_isReader_1 (by decide) ?_
  refine lv_aload_n hx hb dX2_isReader_2 rfl (lv_at hl 0 rfl) ?_
  refine tGet (T := TX2) (N := 13) (ci := 2) C hw inX2 0 0 rfl (by decide) kf_RX2_9 rfl rfl rfl dX2_isReader_3 ?_
  refine lv_iconst (v := 1) hx hb dX2_isReader_6 (by decide) ?_
  obtain ⟨r1, ir1, er1, h⟩ := rd_some h
  refine tLd C hw 1 rfl ir1 er1 dX2_isReader_7 ?_
  refine lv_iconst (v := 1) hx hb dX2_isReader_8 (by decide) ?_
  refine lv_isub hx hb dX2_isReader_9 ?_
  obtain ⟨r2, hr2, h⟩ := cl_some h
  refine cSi (ws2 := (wM cA ad Y)) (As := [.int a_1, .int 0, .int (r1 - (1 : Int32))]) (rest := []) C hw jnE (kX2_isIn hr2) kl_RX2_40 kt_yX2_isIn kn_RX2 kc_yX2_isIn ⟨rfl, rfl⟩ hdX2_isIn ⟨Nat.le_of_ble_eq_true rfl, Nat.le_of_ble_eq_true rfl⟩ rfl hl.1 (Nat.le_of_ble_eq_true rfl) dX2_isReader_10 ⟨Nat.zero_le _, Nat.zero_le _⟩ (fun H locs hw => ?_)
  obtain ⟨hz, h⟩ := bz_some h
  obtain rfl := some_e h
  exact rtZ C hr hz hw dX2_isReader_13
abbrev rmX2_has : Room := { frames := 0, cells := 0, slots := 0, locals := 0 }
theorem hdX2_has : yX2_has.cls ≠ "java/lang/invoke/MethodHandle" ∧ yX2_has.cls ≠ "java/lang/invoke/VarHandle" ∧ (parseMethodDescriptor yX2_has.desc).map (fun d => d.parameters.length) = some 2 := by decide +kernel
def fX2_has (a_0 : Int32) (a_1 : Int32) : Option Int32 := if ((a_0 >>> (a_1 &&& 31)) &&& (1 : Int32)) = 1 then some 1 else some 0
set_option maxHeartbeats 4000000 in
set_option maxRecDepth 100000 in
theorem kX2_has  {a_0 : Int32} {a_1 : Int32} {z : Int32} (h : fX2_has a_0 a_1 = some z) : MI l D cA g yX2_has (Cond.code yX2_has cX2_has 2 (some .boolean) :: lw_g) rmX2_has [.int a_0, .int a_1] ([] : va_W) z ([] : va_W) := by
  intro sz
  refine Met.ofW (cc := cX2_has) (maxL := 2) (ret := (some .boolean)) (by decide) rfl ?_
  intro p e s m args below meth c s₁ B hml hv
  obtain ⟨rfl, C, hr, hw⟩ := ent B hml hv
  generalize va_A ([] : va_W) sz = A at C hw ⊢
  have hl := lv_entry ([.int a_0, .int a_1]) (n := 2) (Nat.le_of_ble_eq_true rfl)
  rw [lg_entry_eq]
  generalize (lg_sl ([.int a_0, .int a_1]) ++ List.replicate (2 - (lg_sl ([.int a_0, .int a_1])).length) Slot.unset).toArray = ls at hl ⊢
  have hl : lv_has ls 2 [(0, .int a_0), (1, .int a_1)] := hl
  have hx := C.1.1
  have hb := C.1.2.1
  have h : (if ((a_0 >>> (a_1 &&& 31)) &&& (1 : Int32)) = 1 then some 1 else some 0) = some z := h
  refine lv_iload_n hx hb dX2_has_0 rfl (lv_at hl 0 rfl) ?_
  refine lv_iload_n hx hb dX2_has_1 rfl (lv_at hl 1 rfl) ?_
  refine lv_ishr hx hb dX2_has_2 ?_
  refine lv_iconst (v := 1) hx hb dX2_has_3 (by decide) ?_
  refine lv_iand hx hb dX2_has_4 ?_
  refine lv_iconst (v := 1) hx hb dX2_has_5 (by decide) ?_
  refine lv_icmp_ne (tgt := 13) hx hb dX2_has_6 (by decide) (fun c1 => ?_) (fun c1 => ?_)
  · replace h := (if_neg c1).symm.trans h
    refine lv_iconst (v := 0) hx hb dX2_has_13 (by decide) ?_
    obtain rfl := some_e h
    exact rtZ C hr nz0 hw dX2_has_14
  · replace h := (if_pos c1).symm.trans h
    refine lv_iconst (v := 1) hx hb dX2_has_9 (by decide) ?_
    refine lv_goto (tgt := 14) hx hb dX2_has_10 (by decide) ?_
    obtain rfl := some_e h
    exact rtZ C hr nz1 hw dX2_has_14
abbrev rmX2_bits : Room := { frames := 0, cells := 0, slots := 0, locals := 0 }
theorem hdX2_bits : yX2_bits.cls ≠ "java/lang/invoke/MethodHandle" ∧ yX2_bits.cls ≠ "java/lang/invoke/VarHandle" ∧ (parseMethodDescriptor yX2_bits.desc).map (fun d => d.parameters.length) = some 1 := by decide +kernel
def GX2_bits_4 (p : Program) (l : Launch) (e : Env) (s : State) (m : MethodId) (args : Array Value) (below : List Frame) (meth : Method) (c : Code) (D : va_G) (cA : ClassId) (A : Nat → Prop)  (z : Int32) (x : (Int32) × (Int32) × (Int32)) : Prop := ∀ (H : Heap) (locs : List Loc) (ls : Array Slot), Wd D A s.heap ([] : va_W) H locs → lv_has ls 3 [(0, .int x.1), (1, .int x.2.1), (2, .int x.2.2)] → W p l e rmX2_bits s m args below meth c H locs 0 0 (MQ below (QI D cA A z ([] : va_W)) args s 0 0 A) (F0 m 4 ls [])
def fX2_bits_4 (k4 : ((Int32) × (Int32) × (Int32)) → Option Int32) : ((Int32) × (Int32) × (Int32)) → Option Int32 := fun x => match x with | (x_0, x_1, x_2) => if 9 ≤ x_2 then some x_1 else bn (x_1 + ((x_0 >>> (x_2 &&& 31)) &&& (1 : Int32))) (fun x2 => bn (x_2 + 1) (fun x3 => k4 (x_0, x2, x3)))
def fX2_bits (a_0 : Int32) : Option Int32 := lp (fX2_bits_4) 5000 (a_0, 0, 0)
set_option maxHeartbeats 4000000 in
set_option maxRecDepth 100000 in
theorem kX2_bits_4 (C : Cx p s m args meth c cX2_bits 3 RX2 D cA g A) (hr : meth.sig.returnType = (some .int)) {z : Int32} (k4 : ((Int32) × (Int32) × (Int32)) → Option Int32) (hk4 : ∀ x, k4 x = some z → GX2_bits_4 p l e s m args below meth c D cA A  z x) (x : (Int32) × (Int32) × (Int32)) (h : fX2_bits_4 k4 x = some z) : GX2_bits_4 p l e s m args below meth c D cA A  z x := by
  obtain ⟨x_0, x_1, x_2⟩ := x
  intro H locs ls hw hl
  have hw : Wd D A s.heap ([] : va_W) H locs := hw
  have hl : lv_has ls 3 [(0, .int x_0), (1, .int x_1), (2, .int x_2)] := hl
  have hx := C.1.1
  have hb := C.1.2.1
  have h : (if 9 ≤ x_2 then some x_1 else bn (x_1 + ((x_0 >>> (x_2 &&& 31)) &&& (1 : Int32))) (fun x2 => bn (x_2 + 1) (fun x3 => k4 (x_0, x2, x3)))) = some z := h
  refine lv_iload_n hx hb dX2_bits_4 rfl (lv_at hl 2 rfl) ?_
  refine lv_bipush (v := 9) hx hb dX2_bits_5 (by decide) ?_
  refine lv_icmp_ge (tgt := 24) hx hb dX2_bits_7 (by decide) (fun c1 => ?_) (fun c1 => ?_)
  · replace h := (if_pos c1).symm.trans h
    refine lv_iload_n hx hb dX2_bits_24 rfl (lv_at hl 1 rfl) ?_
    obtain rfl := some_e h
    exact rtI C hr hw dX2_bits_25
  · replace h := (if_neg c1).symm.trans h
    refine lv_iload_n hx hb dX2_bits_10 rfl (lv_at hl 1 rfl) ?_
    refine lv_iload_n hx hb dX2_bits_11 rfl (lv_at hl 0 rfl) ?_
    refine lv_iload_n hx hb dX2_bits_12 rfl (lv_at hl 2 rfl) ?_
    refine lv_ishr hx hb dX2_bits_13 ?_
    refine lv_iconst (v := 1) hx hb dX2_bits_14 (by decide) ?_
    refine lv_iand hx hb dX2_bits_15 ?_
    refine lv_iadd hx hb dX2_bits_16 ?_
    refine lv_topi (fun x2 ex2 => ?_)
    replace h := bn_some h ex2
    refine lv_istore_n (lv' := [(1, .int x2), (0, .int x_0), (2, .int x_2)]) hx hb dX2_bits_17 rfl hl (by decide) rfl (fun ls hl => ?_)
    obtain ⟨x3, ex3⟩ : ∃ y : Int32, y = x_2 + 1 := ⟨_, rfl⟩
    replace h := bn_some h ex3
    refine lv_iinc (v := x3) (lv' := [(2, .int x3), (1, .int x2), (0, .int x_0)]) hx hb dX2_bits_18 hl (k := 2) rfl (by rw [ex3]; rfl) (by decide) rfl (fun ls hl => ?_)
    refine lv_goto (tgt := 4) hx hb dX2_bits_21 (by decide) ?_
    exact hk4 (x_0, x2, x3) h _ _ _ hw (lv_sub hl [2, 1, 0] rfl)
theorem lX2_bits_4 (C : Cx p s m args meth c cX2_bits 3 RX2 D cA g A) (hr : meth.sig.returnType = (some .int)) {z : Int32} (n : Nat) (x : (Int32) × (Int32) × (Int32)) (h : lp (fX2_bits_4) n x = some z) : GX2_bits_4 p l e s m args below meth c D cA A  z x := lp_ok (GX2_bits_4 p l e s m args below meth c D cA A  z) (fun kq hkq x h => kX2_bits_4 C hr kq hkq x h) n x h
set_option maxHeartbeats 4000000 in
set_option maxRecDepth 100000 in
theorem kX2_bits  {a_0 : Int32} {z : Int32} (h : fX2_bits a_0 = some z) : MI l D cA g yX2_bits (Cond.code yX2_bits cX2_bits 3 (some .int) :: lw_g) rmX2_bits [.int a_0] ([] : va_W) z ([] : va_W) := by
  intro sz
  refine Met.ofW (cc := cX2_bits) (maxL := 3) (ret := (some .int)) (by decide) rfl ?_
  intro p e s m args below meth c s₁ B hml hv
  obtain ⟨rfl, C, hr, hw⟩ := ent B hml hv
  generalize va_A ([] : va_W) sz = A at C hw ⊢
  have hl := lv_entry ([.int a_0]) (n := 3) (Nat.le_of_ble_eq_true rfl)
  rw [lg_entry_eq]
  generalize (lg_sl ([.int a_0]) ++ List.replicate (3 - (lg_sl ([.int a_0])).length) Slot.unset).toArray = ls at hl ⊢
  have hl : lv_has ls 3 [(0, .int a_0)] := hl
  have hx := C.1.1
  have hb := C.1.2.1
  have h : (lp (fX2_bits_4) 5000 (a_0, 0, 0)) = some z := h
  refine lv_iconst (v := 0) hx hb dX2_bits_0 (by decide) ?_
  refine lv_istore_n (lv' := [(1, .int 0), (0, .int a_0)]) hx hb dX2_bits_1 rfl hl (by decide) rfl (fun ls hl => ?_)
  refine lv_iconst (v := 0) hx hb dX2_bits_2 (by decide) ?_
  refine lv_istore_n (lv' := [(2, .int 0), (1, .int 0), (0, .int a_0)]) hx hb dX2_bits_3 rfl hl (by decide) rfl (fun ls hl => ?_)
  exact lX2_bits_4 C hr 5000 (a_0, 0, 0) h _ _ _ hw (lv_sub hl [2, 1, 0] rfl)
abbrev rmX2_costBy : Room := { frames := 0, cells := 0, slots := 0, locals := 0 }
theorem hdX2_costBy : yX2_costBy.cls ≠ "java/lang/invoke/MethodHandle" ∧ yX2_costBy.cls ≠ "java/lang/invoke/VarHandle" ∧ (parseMethodDescriptor yX2_costBy.desc).map (fun d => d.parameters.length) = some 1 := by decide +kernel
def fX2_costBy (a_0 : Int32) : Option Int32 := if a_0 = 1 then some 1 else if a_0 = 2 then some 10 else if a_0 = 3 then some 11 else if a_0 = 4 then some 3 else if a_0 = 5 then some 21 else some 5
set_option maxHeartbeats 4000000 in
set_option maxRecDepth 100000 in
theorem kX2_costBy  {a_0 : Int32} {z : Int32} (h : fX2_costBy a_0 = some z) : MI l D cA g yX2_costBy (Cond.code yX2_costBy cX2_costBy 1 (some .int) :: lw_g) rmX2_costBy [.int a_0] ([] : va_W) z ([] : va_W) := by
  intro sz
  refine Met.ofW (cc := cX2_costBy) (maxL := 1) (ret := (some .int)) (by decide) rfl ?_
  intro p e s m args below meth c s₁ B hml hv
  obtain ⟨rfl, C, hr, hw⟩ := ent B hml hv
  generalize va_A ([] : va_W) sz = A at C hw ⊢
  have hl := lv_entry ([.int a_0]) (n := 1) (Nat.le_of_ble_eq_true rfl)
  rw [lg_entry_eq]
  generalize (lg_sl ([.int a_0]) ++ List.replicate (1 - (lg_sl ([.int a_0])).length) Slot.unset).toArray = ls at hl ⊢
  have hl : lv_has ls 1 [(0, .int a_0)] := hl
  have hx := C.1.1
  have hb := C.1.2.1
  have h : (if a_0 = 1 then some 1 else if a_0 = 2 then some 10 else if a_0 = 3 then some 11 else if a_0 = 4 then some 3 else if a_0 = 5 then some 21 else some 5) = some z := h
  refine lv_iload_n hx hb dX2_costBy_0 rfl (lv_at hl 0 rfl) ?_
  by_cases c1 : a_0 = 1
  · replace h := (if_pos c1).symm.trans h
    refine lv_tableIn (tgt := 36) hx hb dX2_costBy_1 (by rw [c1]; decide) (by rw [c1]; decide) (by rw [c1]; rfl) (by decide) ?_
    refine lv_iconst (v := 1) hx hb dX2_costBy_36 (by decide) ?_
    obtain rfl := some_e h
    exact rtI C hr hw dX2_costBy_37
  replace h := (if_neg c1).symm.trans h
  by_cases c2 : a_0 = 2
  · replace h := (if_pos c2).symm.trans h
    refine lv_tableIn (tgt := 38) hx hb dX2_costBy_1 (by rw [c2]; decide) (by rw [c2]; decide) (by rw [c2]; rfl) (by decide) ?_
    refine lv_bipush (v := 10) hx hb dX2_costBy_38 (by decide) ?_
    obtain rfl := some_e h
    exact rtI C hr hw dX2_costBy_40
  replace h := (if_neg c2).symm.trans h
  by_cases c3 : a_0 = 3
  · replace h := (if_pos c3).symm.trans h
    refine lv_tableIn (tgt := 41) hx hb dX2_costBy_1 (by rw [c3]; decide) (by rw [c3]; decide) (by rw [c3]; rfl) (by decide) ?_
    refine lv_bipush (v := 11) hx hb dX2_costBy_41 (by decide) ?_
    obtain rfl := some_e h
    exact rtI C hr hw dX2_costBy_43
  replace h := (if_neg c3).symm.trans h
  by_cases c4 : a_0 = 4
  · replace h := (if_pos c4).symm.trans h
    refine lv_tableIn (tgt := 44) hx hb dX2_costBy_1 (by rw [c4]; decide) (by rw [c4]; decide) (by rw [c4]; rfl) (by decide) ?_
    refine lv_iconst (v := 3) hx hb dX2_costBy_44 (by decide) ?_
    obtain rfl := some_e h
    exact rtI C hr hw dX2_costBy_45
  replace h := (if_neg c4).symm.trans h
  by_cases c5 : a_0 = 5
  · replace h := (if_pos c5).symm.trans h
    refine lv_tableIn (tgt := 46) hx hb dX2_costBy_1 (by rw [c5]; decide) (by rw [c5]; decide) (by rw [c5]; rfl) (by decide) ?_
    refine lv_bipush (v := 21) hx hb dX2_costBy_46 (by decide) ?_
    obtain rfl := some_e h
    exact rtI C hr hw dX2_costBy_48
  replace h := (if_neg c5).symm.trans h
  have hout : (a_0 : Int32).toInt < 1 ∨ 5 < (a_0 : Int32).toInt := sw_out (fun k h1 h2 => by
    have hk : k = 1 ∨ k = 2 ∨ k = 3 ∨ k = 4 ∨ k = 5 := by omega
    rcases hk with rfl | rfl | rfl | rfl | rfl
    · exact sw_ne c1 (by decide)
    · exact sw_ne c2 (by decide)
    · exact sw_ne c3 (by decide)
    · exact sw_ne c4 (by decide)
    · exact sw_ne c5 (by decide))
  refine lv_tableOut (tgt := 49) hx hb dX2_costBy_1 hout (by decide) ?_
  refine lv_iconst (v := 5) hx hb dX2_costBy_49 (by decide) ?_
  obtain rfl := some_e h
  exact rtI C hr hw dX2_costBy_50
abbrev rmX2_reachBy : Room := { frames := 0, cells := 0, slots := 0, locals := 0 }
theorem hdX2_reachBy : yX2_reachBy.cls ≠ "java/lang/invoke/MethodHandle" ∧ yX2_reachBy.cls ≠ "java/lang/invoke/VarHandle" ∧ (parseMethodDescriptor yX2_reachBy.desc).map (fun d => d.parameters.length) = some 2 := by decide +kernel
def GX2_reachBy_40 (p : Program) (l : Launch) (e : Env) (s : State) (m : MethodId) (args : Array Value) (below : List Frame) (meth : Method) (c : Code) (D : va_G) (cA : ClassId) (A : Nat → Prop)  (z : Int32) (x : (Int32)) : Prop := ∀ (H : Heap) (locs : List Loc) (ls : Array Slot), Wd D A s.heap ([] : va_W) H locs → lv_has ls 3 [(2, .int x)] → W p l e rmX2_reachBy s m args below meth c H locs 0 0 (MQ below (QI D cA A z ([] : va_W)) args s 0 0 A) (F0 m 40 ls [])
def GX2_reachBy_44 (p : Program) (l : Launch) (e : Env) (s : State) (m : MethodId) (args : Array Value) (below : List Frame) (meth : Method) (c : Code) (D : va_G) (cA : ClassId) (A : Nat → Prop)  (z : Int32) (x : (Int32)) : Prop := ∀ (H : Heap) (locs : List Loc) (ls : Array Slot), Wd D A s.heap ([] : va_W) H locs → lv_has ls 3 [(2, .int x)] → W p l e rmX2_reachBy s m args below meth c H locs 0 0 (MQ below (QI D cA A z ([] : va_W)) args s 0 0 A) (F0 m 44 ls [])
def fX2_reachBy_40 : ((Int32)) → Option Int32 := fun x_2 => some (x_2 / (2 : Int32))
def fX2_reachBy_44 : ((Int32)) → Option Int32 := fun x_2 => some (x_2 + (3 : Int32))
def fX2_reachBy (a_0 : Int32) (a_1 : Int32) : Option Int32 := bn ((a_1 / (2 : Int32)) + (2 : Int32)) (fun x1 => if a_0 = 1 then fX2_reachBy_40 x1 else if a_0 = 2 then fX2_reachBy_44 x1 else if a_0 = 3 then fX2_reachBy_44 x1 else if a_0 = 4 then fX2_reachBy_40 x1 else if a_0 = 5 then some ((2 : Int32) * (x1 + (3 : Int32))) else some x1)
set_option maxHeartbeats 4000000 in
set_option maxRecDepth 100000 in
theorem kX2_reachBy_40 (C : Cx p s m args meth c cX2_reachBy 3 RX2 D cA g A) (hr : meth.sig.returnType = (some .int)) {z : Int32} (x : (Int32)) (h : fX2_reachBy_40 x = some z) : GX2_reachBy_40 p l e s m args below meth c D cA A  z x := by
  obtain ⟨x_2, rfl⟩ : ∃ y, y = x := ⟨_, rfl⟩
  intro H locs ls hw hl
  have hw : Wd D A s.heap ([] : va_W) H locs := hw
  have hl : lv_has ls 3 [(2, .int x_2)] := hl
  have hx := C.1.1
  have hb := C.1.2.1
  have h : (some (x_2 / (2 : Int32))) = some z := h
  refine lv_iload_n hx hb dX2_reachBy_40 rfl (lv_at hl 0 rfl) ?_
  refine lv_iconst (v := 2) hx hb dX2_reachBy_41 (by decide) ?_
  refine lv_idiv hx hb dX2_reachBy_42 (by decide) ?_
  obtain rfl := some_e h
  exact rtI C hr hw dX2_reachBy_43
set_option maxHeartbeats 4000000 in
set_option maxRecDepth 100000 in
theorem kX2_reachBy_44 (C : Cx p s m args meth c cX2_reachBy 3 RX2 D cA g A) (hr : meth.sig.returnType = (some .int)) {z : Int32} (x : (Int32)) (h : fX2_reachBy_44 x = some z) : GX2_reachBy_44 p l e s m args below meth c D cA A  z x := by
  obtain ⟨x_2, rfl⟩ : ∃ y, y = x := ⟨_, rfl⟩
  intro H locs ls hw hl
  have hw : Wd D A s.heap ([] : va_W) H locs := hw
  have hl : lv_has ls 3 [(2, .int x_2)] := hl
  have hx := C.1.1
  have hb := C.1.2.1
  have h : (some (x_2 + (3 : Int32))) = some z := h
  refine lv_iload_n hx hb dX2_reachBy_44 rfl (lv_at hl 0 rfl) ?_
  refine lv_iconst (v := 3) hx hb dX2_reachBy_45 (by decide) ?_
  refine lv_iadd hx hb dX2_reachBy_46 ?_
  obtain rfl := some_e h
  exact rtI C hr hw dX2_reachBy_47
set_option maxHeartbeats 4000000 in
set_option maxRecDepth 100000 in
theorem kX2_reachBy  {a_0 : Int32} {a_1 : Int32} {z : Int32} (h : fX2_reachBy a_0 a_1 = some z) : MI l D cA g yX2_reachBy (Cond.code yX2_reachBy cX2_reachBy 3 (some .int) :: lw_g) rmX2_reachBy [.int a_0, .int a_1] ([] : va_W) z ([] : va_W) := by
  intro sz
  refine Met.ofW (cc := cX2_reachBy) (maxL := 3) (ret := (some .int)) (by decide) rfl ?_
  intro p e s m args below meth c s₁ B hml hv
  obtain ⟨rfl, C, hr, hw⟩ := ent B hml hv
  generalize va_A ([] : va_W) sz = A at C hw ⊢
  have hl := lv_entry ([.int a_0, .int a_1]) (n := 3) (Nat.le_of_ble_eq_true rfl)
  rw [lg_entry_eq]
  generalize (lg_sl ([.int a_0, .int a_1]) ++ List.replicate (3 - (lg_sl ([.int a_0, .int a_1])).length) Slot.unset).toArray = ls at hl ⊢
  have hl : lv_has ls 3 [(0, .int a_0), (1, .int a_1)] := hl
  have hx := C.1.1
  have hb := C.1.2.1
  have h : (bn ((a_1 / (2 : Int32)) + (2 : Int32)) (fun x1 => if a_0 = 1 then fX2_reachBy_40 x1 else if a_0 = 2 then fX2_reachBy_44 x1 else if a_0 = 3 then fX2_reachBy_44 x1 else if a_0 = 4 then fX2_reachBy_40 x1 else if a_0 = 5 then some ((2 : Int32) * (x1 + (3 : Int32))) else some x1)) = some z := h
  refine lv_iload_n hx hb dX2_reachBy_0 rfl (lv_at hl 1 rfl) ?_
  refine lv_iconst (v := 2) hx hb dX2_reachBy_1 (by decide) ?_
  refine lv_idiv hx hb dX2_reachBy_2 (by decide) ?_
  refine lv_iconst (v := 2) hx hb dX2_reachBy_3 (by decide) ?_
  refine lv_iadd hx hb dX2_reachBy_4 ?_
  refine lv_topi (fun x1 ex1 => ?_)
  replace h := bn_some h ex1
  refine lv_istore_n (lv' := [(2, .int x1), (0, .int a_0), (1, .int a_1)]) hx hb dX2_reachBy_5 rfl hl (by decide) rfl (fun ls hl => ?_)
  refine lv_iload_n hx hb dX2_reachBy_6 rfl (lv_at hl 1 rfl) ?_
  by_cases c2 : a_0 = 1
  · replace h := (if_pos c2).symm.trans h
    refine lv_tableIn (tgt := 40) hx hb dX2_reachBy_7 (by rw [c2]; decide) (by rw [c2]; decide) (by rw [c2]; rfl) (by decide) ?_
    exact kX2_reachBy_40 C hr x1 h _ _ _ hw (lv_sub hl [0] rfl)
  replace h := (if_neg c2).symm.trans h
  by_cases c3 : a_0 = 2
  · replace h := (if_pos c3).symm.trans h
    refine lv_tableIn (tgt := 44) hx hb dX2_reachBy_7 (by rw [c3]; decide) (by rw [c3]; decide) (by rw [c3]; rfl) (by decide) ?_
    exact kX2_reachBy_44 C hr x1 h _ _ _ hw (lv_sub hl [0] rfl)
  replace h := (if_neg c3).symm.trans h
  by_cases c4 : a_0 = 3
  · replace h := (if_pos c4).symm.trans h
    refine lv_tableIn (tgt := 44) hx hb dX2_reachBy_7 (by rw [c4]; decide) (by rw [c4]; decide) (by rw [c4]; rfl) (by decide) ?_
    exact kX2_reachBy_44 C hr x1 h _ _ _ hw (lv_sub hl [0] rfl)
  replace h := (if_neg c4).symm.trans h
  by_cases c5 : a_0 = 4
  · replace h := (if_pos c5).symm.trans h
    refine lv_tableIn (tgt := 40) hx hb dX2_reachBy_7 (by rw [c5]; decide) (by rw [c5]; decide) (by rw [c5]; rfl) (by decide) ?_
    exact kX2_reachBy_40 C hr x1 h _ _ _ hw (lv_sub hl [0] rfl)
  replace h := (if_neg c5).symm.trans h
  by_cases c6 : a_0 = 5
  · replace h := (if_pos c6).symm.trans h
    refine lv_tableIn (tgt := 48) hx hb dX2_reachBy_7 (by rw [c6]; decide) (by rw [c6]; decide) (by rw [c6]; rfl) (by decide) ?_
    refine lv_iconst (v := 2) hx hb dX2_reachBy_48 (by decide) ?_
    refine lv_iload_n hx hb dX2_reachBy_49 rfl (lv_at hl 0 rfl) ?_
    refine lv_iconst (v := 3) hx hb dX2_reachBy_50 (by decide) ?_
    refine lv_iadd hx hb dX2_reachBy_51 ?_
    refine lv_imul hx hb dX2_reachBy_52 ?_
    obtain rfl := some_e h
    exact rtI C hr hw dX2_reachBy_53
  replace h := (if_neg c6).symm.trans h
  have hout : (a_0 : Int32).toInt < 1 ∨ 5 < (a_0 : Int32).toInt := sw_out (fun k h1 h2 => by
    have hk : k = 1 ∨ k = 2 ∨ k = 3 ∨ k = 4 ∨ k = 5 := by omega
    rcases hk with rfl | rfl | rfl | rfl | rfl
    · exact sw_ne c2 (by decide)
    · exact sw_ne c3 (by decide)
    · exact sw_ne c4 (by decide)
    · exact sw_ne c5 (by decide)
    · exact sw_ne c6 (by decide))
  refine lv_tableOut (tgt := 54) hx hb dX2_reachBy_7 hout (by decide) ?_
  refine lv_iload_n hx hb dX2_reachBy_54 rfl (lv_at hl 0 rfl) ?_
  obtain rfl := some_e h
  exact rtI C hr hw dX2_reachBy_55
abbrev rmX2_darkBy : Room := { frames := 0, cells := 0, slots := 0, locals := 0 }
theorem hdX2_darkBy : yX2_darkBy.cls ≠ "java/lang/invoke/MethodHandle" ∧ yX2_darkBy.cls ≠ "java/lang/invoke/VarHandle" ∧ (parseMethodDescriptor yX2_darkBy.desc).map (fun d => d.parameters.length) = some 2 := by decide +kernel
def GX2_darkBy_41 (p : Program) (l : Launch) (e : Env) (s : State) (m : MethodId) (args : Array Value) (below : List Frame) (meth : Method) (c : Code) (D : va_G) (cA : ClassId) (A : Nat → Prop)  (z : Int32) (x : (Int32)) : Prop := ∀ (H : Heap) (locs : List Loc) (ls : Array Slot), Wd D A s.heap ([] : va_W) H locs → lv_has ls 2 [(1, .int x)] → W p l e rmX2_darkBy s m args below meth c H locs 0 0 (MQ below (QI D cA A z ([] : va_W)) args s 0 0 A) (F0 m 41 ls [])
def fX2_darkBy_41 : ((Int32)) → Option Int32 := fun x_1 => some ((2 : Int32) * (x_1 + (1 : Int32)))
def fX2_darkBy (a_0 : Int32) (a_1 : Int32) : Option Int32 := if a_0 = 1 then some 0 else if a_0 = 2 then fX2_darkBy_41 a_1 else if a_0 = 3 then fX2_darkBy_41 a_1 else if a_0 = 4 then some 9 else if a_0 = 5 then fX2_darkBy_41 a_1 else some (a_1 + (1 : Int32))
set_option maxHeartbeats 4000000 in
set_option maxRecDepth 100000 in
theorem kX2_darkBy_41 (C : Cx p s m args meth c cX2_darkBy 2 RX2 D cA g A) (hr : meth.sig.returnType = (some .int)) {z : Int32} (x : (Int32)) (h : fX2_darkBy_41 x = some z) : GX2_darkBy_41 p l e s m args below meth c D cA A  z x := by
  obtain ⟨x_1, rfl⟩ : ∃ y, y = x := ⟨_, rfl⟩
  intro H locs ls hw hl
  have hw : Wd D A s.heap ([] : va_W) H locs := hw
  have hl : lv_has ls 2 [(1, .int x_1)] := hl
  have hx := C.1.1
  have hb := C.1.2.1
  have h : (some ((2 : Int32) * (x_1 + (1 : Int32)))) = some z := h
  refine lv_iconst (v := 2) hx hb dX2_darkBy_41 (by decide) ?_
  refine lv_iload_n hx hb dX2_darkBy_42 rfl (lv_at hl 0 rfl) ?_
  refine lv_iconst (v := 1) hx hb dX2_darkBy_43 (by decide) ?_
  refine lv_iadd hx hb dX2_darkBy_44 ?_
  refine lv_imul hx hb dX2_darkBy_45 ?_
  obtain rfl := some_e h
  exact rtI C hr hw dX2_darkBy_46
set_option maxHeartbeats 4000000 in
set_option maxRecDepth 100000 in
theorem kX2_darkBy  {a_0 : Int32} {a_1 : Int32} {z : Int32} (h : fX2_darkBy a_0 a_1 = some z) : MI l D cA g yX2_darkBy (Cond.code yX2_darkBy cX2_darkBy 2 (some .int) :: lw_g) rmX2_darkBy [.int a_0, .int a_1] ([] : va_W) z ([] : va_W) := by
  intro sz
  refine Met.ofW (cc := cX2_darkBy) (maxL := 2) (ret := (some .int)) (by decide) rfl ?_
  intro p e s m args below meth c s₁ B hml hv
  obtain ⟨rfl, C, hr, hw⟩ := ent B hml hv
  generalize va_A ([] : va_W) sz = A at C hw ⊢
  have hl := lv_entry ([.int a_0, .int a_1]) (n := 2) (Nat.le_of_ble_eq_true rfl)
  rw [lg_entry_eq]
  generalize (lg_sl ([.int a_0, .int a_1]) ++ List.replicate (2 - (lg_sl ([.int a_0, .int a_1])).length) Slot.unset).toArray = ls at hl ⊢
  have hl : lv_has ls 2 [(0, .int a_0), (1, .int a_1)] := hl
  have hx := C.1.1
  have hb := C.1.2.1
  have h : (if a_0 = 1 then some 0 else if a_0 = 2 then fX2_darkBy_41 a_1 else if a_0 = 3 then fX2_darkBy_41 a_1 else if a_0 = 4 then some 9 else if a_0 = 5 then fX2_darkBy_41 a_1 else some (a_1 + (1 : Int32))) = some z := h
  refine lv_iload_n hx hb dX2_darkBy_0 rfl (lv_at hl 0 rfl) ?_
  by_cases c1 : a_0 = 1
  · replace h := (if_pos c1).symm.trans h
    refine lv_tableIn (tgt := 36) hx hb dX2_darkBy_1 (by rw [c1]; decide) (by rw [c1]; decide) (by rw [c1]; rfl) (by decide) ?_
    refine lv_iconst (v := 0) hx hb dX2_darkBy_36 (by decide) ?_
    obtain rfl := some_e h
    exact rtI C hr hw dX2_darkBy_37
  replace h := (if_neg c1).symm.trans h
  by_cases c2 : a_0 = 2
  · replace h := (if_pos c2).symm.trans h
    refine lv_tableIn (tgt := 41) hx hb dX2_darkBy_1 (by rw [c2]; decide) (by rw [c2]; decide) (by rw [c2]; rfl) (by decide) ?_
    exact kX2_darkBy_41 C hr a_1 h _ _ _ hw (lv_sub hl [1] rfl)
  replace h := (if_neg c2).symm.trans h
  by_cases c3 : a_0 = 3
  · replace h := (if_pos c3).symm.trans h
    refine lv_tableIn (tgt := 41) hx hb dX2_darkBy_1 (by rw [c3]; decide) (by rw [c3]; decide) (by rw [c3]; rfl) (by decide) ?_
    exact kX2_darkBy_41 C hr a_1 h _ _ _ hw (lv_sub hl [1] rfl)
  replace h := (if_neg c3).symm.trans h
  by_cases c4 : a_0 = 4
  · replace h := (if_pos c4).symm.trans h
    refine lv_tableIn (tgt := 38) hx hb dX2_darkBy_1 (by rw [c4]; decide) (by rw [c4]; decide) (by rw [c4]; rfl) (by decide) ?_
    refine lv_bipush (v := 9) hx hb dX2_darkBy_38 (by decide) ?_
    obtain rfl := some_e h
    exact rtI C hr hw dX2_darkBy_40
  replace h := (if_neg c4).symm.trans h
  by_cases c5 : a_0 = 5
  · replace h := (if_pos c5).symm.trans h
    refine lv_tableIn (tgt := 41) hx hb dX2_darkBy_1 (by rw [c5]; decide) (by rw [c5]; decide) (by rw [c5]; rfl) (by decide) ?_
    exact kX2_darkBy_41 C hr a_1 h _ _ _ hw (lv_sub hl [1] rfl)
  replace h := (if_neg c5).symm.trans h
  have hout : (a_0 : Int32).toInt < 1 ∨ 5 < (a_0 : Int32).toInt := sw_out (fun k h1 h2 => by
    have hk : k = 1 ∨ k = 2 ∨ k = 3 ∨ k = 4 ∨ k = 5 := by omega
    rcases hk with rfl | rfl | rfl | rfl | rfl
    · exact sw_ne c1 (by decide)
    · exact sw_ne c2 (by decide)
    · exact sw_ne c3 (by decide)
    · exact sw_ne c4 (by decide)
    · exact sw_ne c5 (by decide))
  refine lv_tableOut (tgt := 47) hx hb dX2_darkBy_1 hout (by decide) ?_
  refine lv_iload_n hx hb dX2_darkBy_47 rfl (lv_at hl 1 rfl) ?_
  refine lv_iconst (v := 1) hx hb dX2_darkBy_48 (by decide) ?_
  refine lv_iadd hx hb dX2_darkBy_49 ?_
  obtain rfl := some_e h
  exact rtI C hr hw dX2_darkBy_50
abbrev rmX2_burstsAt : Room := { frames := 1, cells := 0, slots := 0, locals := 21 }
theorem hdX2_burstsAt : yX2_burstsAt.cls ≠ "java/lang/invoke/MethodHandle" ∧ yX2_burstsAt.cls ≠ "java/lang/invoke/VarHandle" ∧ (parseMethodDescriptor yX2_burstsAt.desc).map (fun d => d.parameters.length) = some 2 := by decide +kernel
def GX2_burstsAt_30 (p : Program) (l : Launch) (e : Env) (s : State) (m : MethodId) (args : Array Value) (below : List Frame) (meth : Method) (c : Code) (D : va_G) (cA : ClassId) (A : Nat → Prop) (a0 : Nat) (f0 : Nat → Int32) (z : Int32) (x : (Int32) × (Int32) × (Int32)) : Prop := ∀ (H : Heap) (locs : List Loc) (ls : Array Slot), Wd D A s.heap (wA cA 81 a0 f0) H locs → lv_has ls 4 [] → W p l e rmX2_burstsAt s m args below meth c H locs 0 0 (MQ below (QI D cA A z (wA cA 81 a0 f0)) args s 0 0 A) (F0 m 30 ls [.int x.1, .int x.2.1, .int x.2.2])
def GX2_burstsAt_25 (p : Program) (l : Launch) (e : Env) (s : State) (m : MethodId) (args : Array Value) (below : List Frame) (meth : Method) (c : Code) (D : va_G) (cA : ClassId) (A : Nat → Prop) (a0 : Nat) (f0 : Nat → Int32) (z : Int32) (x : (Int32) × (Int32)) : Prop := ∀ (H : Heap) (locs : List Loc) (ls : Array Slot), Wd D A s.heap (wA cA 81 a0 f0) H locs → lv_has ls 4 [] → W p l e rmX2_burstsAt s m args below meth c H locs 0 0 (MQ below (QI D cA A z (wA cA 81 a0 f0)) args s 0 0 A) (F0 m 25 ls [.int x.1, .int x.2])
def fX2_burstsAt_30 (f0 : Nat → Int32) : ((Int32) × (Int32) × (Int32)) → Option Int32 := fun x => match x with | (y_0, y_1, y_2) => bn (y_2 + (y_1 * y_0)) (fun x1 => if 0 ≤ x1 then if x1 < 20 then some x1 else some 19 else some 0)
def fX2_burstsAt_25 (f0 : Nat → Int32) : ((Int32) × (Int32)) → Option Int32 := fun x => match x with | (y_0, y_1) => fX2_burstsAt_30 f0 (3, y_0, y_1)
def fX2_burstsAt (f0 : Nat → Int32) (a_1 : Int32) : Option Int32 := cl (fX2_ofR a_1 0) (fun r1 => rd 81 f0 r1 (fun r2 => rd 81 f0 4 (fun r3 => if r2 = 3 then fX2_burstsAt_25 f0 ((r3 - (5 : Int32)), 10) else if r2 = 5 then fX2_burstsAt_25 f0 ((r3 - (5 : Int32)), 10) else fX2_burstsAt_30 f0 (1, (r3 - (5 : Int32)), 10))))
set_option maxHeartbeats 4000000 in
set_option maxRecDepth 100000 in
theorem kX2_burstsAt_30 (C : Cx p s m args meth c cX2_burstsAt 4 RX2 D cA g A) (hr : meth.sig.returnType = (some .int)) {z : Int32} (f0 : Nat → Int32) (x : (Int32) × (Int32) × (Int32)) (h : fX2_burstsAt_30 f0 x = some z) : GX2_burstsAt_30 p l e s m args below meth c D cA A a0 f0 z x := by
  obtain ⟨y_0, y_1, y_2⟩ := x
  intro H locs ls hw hl
  have hw : Wd D A s.heap (wA cA 81 a0 f0) H locs := hw
  have hl : lv_has ls 4 [] := hl
  show W p l e rmX2_burstsAt s m args below meth c H locs 0 0 (MQ below (QI D cA A z (wA cA 81 a0 f0)) args s 0 0 A) (F0 m 30 ls [.int y_0, .int y_1, .int y_2])
  have hx := C.1.1
  have hb := C.1.2.1
  have h : (bn (y_2 + (y_1 * y_0)) (fun x1 => if 0 ≤ x1 then if x1 < 20 then some x1 else some 19 else some 0)) = some z := h
  refine lv_imul hx hb dX2_burstsAt_30 ?_
  refine lv_iadd hx hb dX2_burstsAt_31 ?_
  refine lv_topi (fun x1 ex1 => ?_)
  replace h := bn_some h ex1
  refine lv_istore_n (lv' := [(3, .int x1)]) hx hb dX2_burstsAt_32 rfl hl (by decide) rfl (fun ls hl => ?_)
  refine lv_iload_n hx hb dX2_burstsAt_33 rfl (lv_at hl 0 rfl) ?_
  refine lv_if_ge (tgt := 41) hx hb dX2_burstsAt_34 (by decide) (fun c2 => ?_) (fun c2 => ?_)
  · replace h := (if_pos c2).symm.trans h
    refine lv_iload_n hx hb dX2_burstsAt_41 rfl (lv_at hl 0 rfl) ?_
    refine lv_bipush (v := 20) hx hb dX2_burstsAt_42 (by decide) ?_
    refine lv_icmp_lt (tgt := 52) hx hb dX2_burstsAt_44 (by decide) (fun c3 => ?_) (fun c3 => ?_)
    · replace h := (if_pos c3).symm.trans h
      refine lv_iload_n hx hb dX2_burstsAt_52 rfl (lv_at hl 0 rfl) ?_
      obtain rfl := some_e h
      exact rtI C hr hw dX2_burstsAt_53
    · replace h := (if_neg c3).symm.trans h
      refine lv_bipush (v := 19) hx hb dX2_burstsAt_47 (by decide) ?_
      refine lv_goto (tgt := 53) hx hb dX2_burstsAt_49 (by decide) ?_
      obtain rfl := some_e h
      exact rtI C hr hw dX2_burstsAt_53
  · replace h := (if_neg c2).symm.trans h
    refine lv_iconst (v := 0) hx hb dX2_burstsAt_37 (by decide) ?_
    refine lv_goto (tgt := 53) hx hb dX2_burstsAt_38 (by decide) ?_
    obtain rfl := some_e h
    exact rtI C hr hw dX2_burstsAt_53
set_option maxHeartbeats 4000000 in
set_option maxRecDepth 100000 in
theorem kX2_burstsAt_25 (C : Cx p s m args meth c cX2_burstsAt 4 RX2 D cA g A) (hr : meth.sig.returnType = (some .int)) {z : Int32} (f0 : Nat → Int32) (x : (Int32) × (Int32)) (h : fX2_burstsAt_25 f0 x = some z) : GX2_burstsAt_25 p l e s m args below meth c D cA A a0 f0 z x := by
  obtain ⟨y_0, y_1⟩ := x
  intro H locs ls hw hl
  have hw : Wd D A s.heap (wA cA 81 a0 f0) H locs := hw
  have hl : lv_has ls 4 [] := hl
  show W p l e rmX2_burstsAt s m args below meth c H locs 0 0 (MQ below (QI D cA A z (wA cA 81 a0 f0)) args s 0 0 A) (F0 m 25 ls [.int y_0, .int y_1])
  have hx := C.1.1
  have hb := C.1.2.1
  have h : (fX2_burstsAt_30 f0 (3, y_0, y_1)) = some z := h
  refine lv_iconst (v := 3) hx hb dX2_burstsAt_25 (by decide) ?_
  refine lv_goto (tgt := 30) hx hb dX2_burstsAt_26 (by decide) ?_
  exact kX2_burstsAt_30 C hr f0 (3, y_0, y_1) h _ _ _ hw (lv_sub hl [] rfl)
set_option maxHeartbeats 4000000 in
set_option maxRecDepth 100000 in
theorem kX2_burstsAt (a0 : Nat) {f0 : Nat → Int32} {a_1 : Int32} {z : Int32} (h : fX2_burstsAt f0 a_1 = some z) : MI l D cA g yX2_burstsAt (Cond.code yX2_burstsAt cX2_burstsAt 4 (some .int) :: lw_g) rmX2_burstsAt [.ref a0, .int a_1] (wA cA 81 a0 f0) z (wA cA 81 a0 f0) := by
  intro sz
  refine Met.ofW (cc := cX2_burstsAt) (maxL := 4) (ret := (some .int)) (by decide) rfl ?_
  intro p e s m args below meth c s₁ B hml hv
  obtain ⟨rfl, C, hr, hw⟩ := ent B hml hv
  generalize va_A (wA cA 81 a0 f0) sz = A at C hw ⊢
  have hl := lv_entry ([.ref a0, .int a_1]) (n := 4) (Nat.le_of_ble_eq_true rfl)
  rw [lg_entry_eq]
  generalize (lg_sl ([.ref a0, .int a_1]) ++ List.replicate (4 - (lg_sl ([.ref a0, .int a_1])).length) Slot.unset).toArray = ls at hl ⊢
  have hl : lv_has ls 4 [(0, .ref a0), (1, .int a_1)] := hl
  have hx := C.1.1
  have hb := C.1.2.1
  have h : (cl (fX2_ofR a_1 0) (fun r1 => rd 81 f0 r1 (fun r2 => rd 81 f0 4 (fun r3 => if r2 = 3 then fX2_burstsAt_25 f0 ((r3 - (5 : Int32)), 10) else if r2 = 5 then fX2_burstsAt_25 f0 ((r3 - (5 : Int32)), 10) else fX2_burstsAt_30 f0 (1, (r3 - (5 : Int32)), 10))))) = some z := h
  refine lv_aload_n hx hb dX2_burstsAt_0 rfl (lv_at hl 0 rfl) ?_
  refine lv_iload_n hx hb dX2_burstsAt_1 rfl (lv_at hl 1 rfl) ?_
  refine lv_iconst (v := 0) hx hb dX2_burstsAt_2 (by decide) ?_
  obtain ⟨r1, hr1, h⟩ := cl_some h
  refine cSi (ws2 := (wA cA 81 a0 f0)) (As := [.int a_1, .int 0]) (rest := [.ref a0]) C hw jnE (kX2_ofR hr1) kl_RX2_44 kt_yX2_ofR kn_RX2 kc_yX2_ofR ⟨rfl, rfl⟩ hdX2_ofR ⟨Nat.le_of_ble_eq_true rfl, Nat.le_of_ble_eq_true rfl⟩ rfl hl.1 (Nat.le_of_ble_eq_true rfl) dX2_burstsAt_3 ⟨Nat.zero_le _, Nat.zero_le _⟩ (fun H locs hw => ?_)
  obtain ⟨r2, ir2, er2, h⟩ := rd_some h
  refine tLd C hw 0 rfl ir2 er2 dX2_burstsAt_6 ?_
  refine lv_istore_n (lv' := [(2, .int r2), (0, .ref a0), (1, .int a_1)]) hx hb dX2_burstsAt_7 rfl hl (by decide) rfl (fun ls hl => ?_)
  refine lv_bipush (v := 10) hx hb dX2_burstsAt_8 (by decide) ?_
  refine lv_aload_n hx hb dX2_burstsAt_10 rfl (lv_at hl 1 rfl) ?_
  refine lv_iconst (v := 4) hx hb dX2_burstsAt_11 (by decide) ?_
  obtain ⟨r3, ir3, er3, h⟩ := rd_some h
  refine tLd C hw 0 rfl ir3 er3 dX2_burstsAt_12 ?_
  refine lv_iconst (v := 5) hx hb dX2_burstsAt_13 (by decide) ?_
  refine lv_isub hx hb dX2_burstsAt_14 ?_
  refine lv_iload_n hx hb dX2_burstsAt_15 rfl (lv_at hl 0 rfl) ?_
  refine lv_iconst (v := 3) hx hb dX2_burstsAt_16 (by decide) ?_
  refine lv_icmp_eq (tgt := 25) hx hb dX2_burstsAt_17 (by decide) (fun c4 => ?_) (fun c4 => ?_)
  · replace h := (if_pos c4).symm.trans h
    exact kX2_burstsAt_25 C hr f0 ((r3 - (5 : Int32)), 10) h _ _ _ hw (lv_sub hl [] rfl)
  · replace h := (if_neg c4).symm.trans h
    refine lv_iload_n hx hb dX2_burstsAt_20 rfl (lv_at hl 0 rfl) ?_
    refine lv_iconst (v := 5) hx hb dX2_burstsAt_21 (by decide) ?_
    refine lv_icmp_ne (tgt := 29) hx hb dX2_burstsAt_22 (by decide) (fun c5 => ?_) (fun c5 => ?_)
    · replace h := (if_neg c5).symm.trans h
      refine lv_iconst (v := 1) hx hb dX2_burstsAt_29 (by decide) ?_
      exact kX2_burstsAt_30 C hr f0 (1, (r3 - (5 : Int32)), 10) h _ _ _ hw (lv_sub hl [] rfl)
    · replace h := (if_pos c5).symm.trans h
      exact kX2_burstsAt_25 C hr f0 ((r3 - (5 : Int32)), 10) h _ _ _ hw (lv_sub hl [] rfl)
abbrev rmX2_isRead : Room := { frames := 2, cells := 0, slots := 0, locals := 44 }
theorem hdX2_isRead : yX2_isRead.cls ≠ "java/lang/invoke/MethodHandle" ∧ yX2_isRead.cls ≠ "java/lang/invoke/VarHandle" ∧ (parseMethodDescriptor yX2_isRead.desc).map (fun d => d.parameters.length) = some 3 := by decide +kernel
def fX2_isRead (f0 : Nat → Int32) (a_1 : Int32) (a_2 : Int32) : Option Int32 := cl (fX2_ofP a_2 0) (fun r1 => rd 81 f0 r1 (fun r2 => cl (fX2_burstsAt f0 a_1) (fun r3 => cl (fX2_apart r2 r3) (fun r4 => cl (fX2_ofR a_1 0) (fun r5 => rd 81 f0 r5 (fun r6 => cl (fX2_ofR a_1 1) (fun r7 => rd 81 f0 r7 (fun r8 => cl (fX2_reachBy r6 r8) (fun r9 => if r9 < r4 then some 0 else some 1)))))))))
set_option maxHeartbeats 4000000 in
set_option maxRecDepth 100000 in
theorem kX2_isRead (a0 : Nat) {f0 : Nat → Int32} {a_1 : Int32} {a_2 : Int32} {z : Int32} (h : fX2_isRead f0 a_1 a_2 = some z) : MI l D cA g yX2_isRead (Cond.code yX2_isRead cX2_isRead 3 (some .boolean) :: lw_g) rmX2_isRead [.ref a0, .int a_1, .int a_2] (wA cA 81 a0 f0) z (wA cA 81 a0 f0) := by
  intro sz
  refine Met.ofW (cc := cX2_isRead) (maxL := 3) (ret := (some .boolean)) (by decide) rfl ?_
  intro p e s m args below meth c s₁ B hml hv
  obtain ⟨rfl, C, hr, hw⟩ := ent B hml hv
  generalize va_A (wA cA 81 a0 f0) sz = A at C hw ⊢
  have hl := lv_entry ([.ref a0, .int a_1, .int a_2]) (n := 3) (Nat.le_of_ble_eq_true rfl)
  rw [lg_entry_eq]
  generalize (lg_sl ([.ref a0, .int a_1, .int a_2]) ++ List.replicate (3 - (lg_sl ([.ref a0, .int a_1, .int a_2])).length) Slot.unset).toArray = ls at hl ⊢
  have hl : lv_has ls 3 [(0, .ref a0), (1, .int a_1), (2, .int a_2)] := hl
  have hx := C.1.1
  have hb := C.1.2.1
  have h : (cl (fX2_ofP a_2 0) (fun r1 => rd 81 f0 r1 (fun r2 => cl (fX2_burstsAt f0 a_1) (fun r3 => cl (fX2_apart r2 r3) (fun r4 => cl (fX2_ofR a_1 0) (fun r5 => rd 81 f0 r5 (fun r6 => cl (fX2_ofR a_1 1) (fun r7 => rd 81 f0 r7 (fun r8 => cl (fX2_reachBy r6 r8) (fun r9 => if r9 < r4 then some 0 else some 1)))))))))) = some z := h
  refine lv_aload_n hx hb dX2_isRead_0 rfl (lv_at hl 0 rfl) ?_
  refine lv_iload_n hx hb dX2_isRead_1 rfl (lv_at hl 2 rfl) ?_
  refine lv_iconst (v := 0) hx hb dX2_isRead_2 (by decide) ?_
  obtain ⟨r1, hr1, h⟩ := cl_some h
  refine cSi (ws2 := (wA cA 81 a0 f0)) (As := [.int a_2, .int 0]) (rest := [.ref a0]) C hw jnE (kX2_ofP hr1) kl_RX2_48 kt_yX2_ofP kn_RX2 kc_yX2_ofP ⟨rfl, rfl⟩ hdX2_ofP ⟨Nat.le_of_ble_eq_true rfl, Nat.le_of_ble_eq_true rfl⟩ rfl hl.1 (Nat.le_of_ble_eq_true rfl) dX2_isRead_3 ⟨Nat.zero_le _, Nat.zero_le _⟩ (fun H locs hw => ?_)
  obtain ⟨r2, ir2, er2, h⟩ := rd_some h
  refine tLd C hw 0 rfl ir2 er2 dX2_isRead_6 ?_
  refine lv_aload_n hx hb dX2_isRead_7 rfl (lv_at hl 0 rfl) ?_
  refine lv_iload_n hx hb dX2_isRead_8 rfl (lv_at hl 1 rfl) ?_
  obtain ⟨r3, hr3, h⟩ := cl_some h
  refine cSi (ws2 := (wA cA 81 a0 f0)) (As := [.ref a0, .int a_1]) (rest := [.int r2]) C hw jnW (kX2_burstsAt a0 hr3) kl_RX2_51 kt_yX2_burstsAt kn_RX2 kc_yX2_burstsAt ⟨rfl, rfl⟩ hdX2_burstsAt ⟨Nat.le_of_ble_eq_true rfl, Nat.le_of_ble_eq_true rfl⟩ rfl hl.1 (Nat.le_of_ble_eq_true rfl) dX2_isRead_9 ⟨Nat.zero_le _, Nat.zero_le _⟩ (fun H locs hw => ?_)
  obtain ⟨r4, hr4, h⟩ := cl_some h
  refine cSi (ws2 := (wA cA 81 a0 f0)) (As := [.int r2, .int r3]) (rest := []) C hw jnE (kX2_apart hr4) kl_RX2_55 kt_yX2_apart kn_RX2 kc_yX2_apart ⟨rfl, rfl⟩ hdX2_apart ⟨Nat.le_of_ble_eq_true rfl, Nat.le_of_ble_eq_true rfl⟩ rfl hl.1 (Nat.le_of_ble_eq_true rfl) dX2_isRead_12 ⟨Nat.zero_le _, Nat.zero_le _⟩ (fun H locs hw => ?_)
  refine lv_aload_n hx hb dX2_isRead_15 rfl (lv_at hl 0 rfl) ?_
  refine lv_iload_n hx hb dX2_isRead_16 rfl (lv_at hl 1 rfl) ?_
  refine lv_iconst (v := 0) hx hb dX2_isRead_17 (by decide) ?_
  obtain ⟨r5, hr5, h⟩ := cl_some h
  refine cSi (ws2 := (wA cA 81 a0 f0)) (As := [.int a_1, .int 0]) (rest := [.ref a0, .int r4]) C hw jnE (kX2_ofR hr5) kl_RX2_44 kt_yX2_ofR kn_RX2 kc_yX2_ofR ⟨rfl, rfl⟩ hdX2_ofR ⟨Nat.le_of_ble_eq_true rfl, Nat.le_of_ble_eq_true rfl⟩ rfl hl.1 (Nat.le_of_ble_eq_true rfl) dX2_isRead_18 ⟨Nat.zero_le _, Nat.zero_le _⟩ (fun H locs hw => ?_)
  obtain ⟨r6, ir6, er6, h⟩ := rd_some h
  refine tLd C hw 0 rfl ir6 er6 dX2_isRead_21 ?_
  refine lv_aload_n hx hb dX2_isRead_22 rfl (lv_at hl 0 rfl) ?_
  refine lv_iload_n hx hb dX2_isRead_23 rfl (lv_at hl 1 rfl) ?_
  refine lv_iconst (v := 1) hx hb dX2_isRead_24 (by decide) ?_
  obtain ⟨r7, hr7, h⟩ := cl_some h
  refine cSi (ws2 := (wA cA 81 a0 f0)) (As := [.int a_1, .int 1]) (rest := [.ref a0, .int r6, .int r4]) C hw jnE (kX2_ofR hr7) kl_RX2_44 kt_yX2_ofR kn_RX2 kc_yX2_ofR ⟨rfl, rfl⟩ hdX2_ofR ⟨Nat.le_of_ble_eq_true rfl, Nat.le_of_ble_eq_true rfl⟩ rfl hl.1 (Nat.le_of_ble_eq_true rfl) dX2_isRead_25 ⟨Nat.zero_le _, Nat.zero_le _⟩ (fun H locs hw => ?_)
  obtain ⟨r8, ir8, er8, h⟩ := rd_some h
  refine tLd C hw 0 rfl ir8 er8 dX2_isRead_28 ?_
  obtain ⟨r9, hr9, h⟩ := cl_some h
  refine cSi (ws2 := (wA cA 81 a0 f0)) (As := [.int r6, .int r8]) (rest := [.int r4]) C hw jnE (kX2_reachBy hr9) kl_RX2_58 kt_yX2_reachBy kn_RX2 kc_yX2_reachBy ⟨rfl, rfl⟩ hdX2_reachBy ⟨Nat.le_of_ble_eq_true rfl, Nat.le_of_ble_eq_true rfl⟩ rfl hl.1 (Nat.le_of_ble_eq_true rfl) dX2_isRead_29 ⟨Nat.zero_le _, Nat.zero_le _⟩ (fun H locs hw => ?_)
  refine lv_icmp_gt (tgt := 39) hx hb dX2_isRead_32 (by decide) (fun c10 => ?_) (fun c10 => ?_)
  · replace h := (if_pos c10).symm.trans h
    refine lv_iconst (v := 0) hx hb dX2_isRead_39 (by decide) ?_
    obtain rfl := some_e h
    exact rtZ C hr nz0 hw dX2_isRead_40
  · replace h := (if_neg c10).symm.trans h
    refine lv_iconst (v := 1) hx hb dX2_isRead_35 (by decide) ?_
    refine lv_goto (tgt := 40) hx hb dX2_isRead_36 (by decide) ?_
    obtain rfl := some_e h
    exact rtZ C hr nz1 hw dX2_isRead_40
abbrev rmX2_readers : Room := { frames := 3, cells := 0, slots := 0, locals := 66 }
theorem hdX2_readers : yX2_readers.cls ≠ "java/lang/invoke/MethodHandle" ∧ yX2_readers.cls ≠ "java/lang/invoke/VarHandle" ∧ (parseMethodDescriptor yX2_readers.desc).map (fun d => d.parameters.length) = some 2 := by decide +kernel
def GX2_readers_28 (p : Program) (l : Launch) (e : Env) (s : State) (m : MethodId) (args : Array Value) (below : List Frame) (meth : Method) (c : Code) (D : va_G) (cA : ClassId) (A : Nat → Prop) (a0 : Nat) (f0 : Nat → Int32) (z : Int32) (x : (Int32) × (Int32) × (Int32) × (Int32)) : Prop := ∀ (H : Heap) (locs : List Loc) (ls : Array Slot), Wd D A s.heap (wA cA 81 a0 f0) H locs → lv_has ls 4 [(0, .ref a0), (1, .int x.1), (3, .int x.2.1)] → W p l e rmX2_readers s m args below meth c H locs 0 0 (MQ below (QI D cA A z (wA cA 81 a0 f0)) args s 0 0 A) (F0 m 28 ls [.int x.2.2.1, .int x.2.2.2])
def GX2_readers_4 (p : Program) (l : Launch) (e : Env) (s : State) (m : MethodId) (args : Array Value) (below : List Frame) (meth : Method) (c : Code) (D : va_G) (cA : ClassId) (A : Nat → Prop) (a0 : Nat) (f0 : Nat → Int32) (z : Int32) (x : (Int32) × (Int32) × (Int32)) : Prop := ∀ (H : Heap) (locs : List Loc) (ls : Array Slot), Wd D A s.heap (wA cA 81 a0 f0) H locs → lv_has ls 4 [(0, .ref a0), (1, .int x.1), (2, .int x.2.1), (3, .int x.2.2)] → W p l e rmX2_readers s m args below meth c H locs 0 0 (MQ below (QI D cA A z (wA cA 81 a0 f0)) args s 0 0 A) (F0 m 4 ls [])
def fX2_readers_28 (f0 : Nat → Int32) (k4 : ((Int32) × (Int32) × (Int32)) → Option Int32) : ((Int32) × (Int32) × (Int32) × (Int32)) → Option Int32 := fun x => match x with | (x_1, x_3, y_0, y_1) => bn (y_1 ||| y_0) (fun x1 => bn (x_3 + 1) (fun x2 => k4 (x_1, x1, x2)))
def fX2_readers_4 (f0 : Nat → Int32) (k4 : ((Int32) × (Int32) × (Int32)) → Option Int32) : ((Int32) × (Int32) × (Int32)) → Option Int32 := fun x => match x with | (x_1, x_2, x_3) => rd 81 f0 1 (fun r1 => if r1 ≤ x_3 then some x_2 else cl (fX2_isRead f0 x_1 x_3) (fun r3 => if r3 = 0 then fX2_readers_28 f0 k4 (x_1, x_3, 0, x_2) else fX2_readers_28 f0 k4 (x_1, x_3, ((1 : Int32) <<< (x_3 &&& 31)), x_2)))
def fX2_readers (f0 : Nat → Int32) (a_1 : Int32) : Option Int32 := lp (fX2_readers_4 f0) 5000 (a_1, 0, 0)
set_option maxHeartbeats 4000000 in
set_option maxRecDepth 100000 in
theorem kX2_readers_28 (C : Cx p s m args meth c cX2_readers 4 RX2 D cA g A) (hr : meth.sig.returnType = (some .int)) {z : Int32} (f0 : Nat → Int32) (k4 : ((Int32) × (Int32) × (Int32)) → Option Int32) (hk4 : ∀ x, k4 x = some z → GX2_readers_4 p l e s m args below meth c D cA A a0 f0 z x) (x : (Int32) × (Int32) × (Int32) × (Int32)) (h : fX2_readers_28 f0 k4 x = some z) : GX2_readers_28 p l e s m args below meth c D cA A a0 f0 z x := by
  obtain ⟨x_1, x_3, y_0, y_1⟩ := x
  intro H locs ls hw hl
  have hw : Wd D A s.heap (wA cA 81 a0 f0) H locs := hw
  have hl : lv_has ls 4 [(0, .ref a0), (1, .int x_1), (3, .int x_3)] := hl
  show W p l e rmX2_readers s m args below meth c H locs 0 0 (MQ below (QI D cA A z (wA cA 81 a0 f0)) args s 0 0 A) (F0 m 28 ls [.int y_0, .int y_1])
  have hx := C.1.1
  have hb := C.1.2.1
  have h : (bn (y_1 ||| y_0) (fun x1 => bn (x_3 + 1) (fun x2 => k4 (x_1, x1, x2)))) = some z := h
  refine lv_ior hx hb dX2_readers_28 ?_
  refine lv_topi (fun x1 ex1 => ?_)
  replace h := bn_some h ex1
  refine lv_istore_n (lv' := [(2, .int x1), (0, .ref a0), (1, .int x_1), (3, .int x_3)]) hx hb dX2_readers_29 rfl hl (by decide) rfl (fun ls hl => ?_)
  obtain ⟨x2, ex2⟩ : ∃ y : Int32, y = x_3 + 1 := ⟨_, rfl⟩
  replace h := bn_some h ex2
  refine lv_iinc (v := x2) (lv' := [(3, .int x2), (2, .int x1), (0, .ref a0), (1, .int x_1)]) hx hb dX2_readers_30 hl (k := 3) rfl (by rw [ex2]; rfl) (by decide) rfl (fun ls hl => ?_)
  refine lv_goto (tgt := 4) hx hb dX2_readers_33 (by decide) ?_
  exact hk4 (x_1, x1, x2) h _ _ _ hw (lv_sub hl [2, 3, 1, 0] rfl)
set_option maxHeartbeats 4000000 in
set_option maxRecDepth 100000 in
theorem kX2_readers_4 (C : Cx p s m args meth c cX2_readers 4 RX2 D cA g A) (hr : meth.sig.returnType = (some .int)) {z : Int32} (f0 : Nat → Int32) (k4 : ((Int32) × (Int32) × (Int32)) → Option Int32) (hk4 : ∀ x, k4 x = some z → GX2_readers_4 p l e s m args below meth c D cA A a0 f0 z x) (x : (Int32) × (Int32) × (Int32)) (h : fX2_readers_4 f0 k4 x = some z) : GX2_readers_4 p l e s m args below meth c D cA A a0 f0 z x := by
  obtain ⟨x_1, x_2, x_3⟩ := x
  intro H locs ls hw hl
  have hw : Wd D A s.heap (wA cA 81 a0 f0) H locs := hw
  have hl : lv_has ls 4 [(0, .ref a0), (1, .int x_1), (2, .int x_2), (3, .int x_3)] := hl
  have hx := C.1.1
  have hb := C.1.2.1
  have h : (rd 81 f0 1 (fun r1 => if r1 ≤ x_3 then some x_2 else cl (fX2_isRead f0 x_1 x_3) (fun r3 => if r3 = 0 then fX2_readers_28 f0 k4 (x_1, x_3, 0, x_2) else fX2_readers_28 f0 k4 (x_1, x_3, ((1 : Int32) <<< (x_3 &&& 31)), x_2)))) = some z := h
  refine lv_iload_n hx hb dX2_readers_4 rfl (lv_at hl 3 rfl) ?_
  refine lv_aload_n hx hb dX2_readers_5 rfl (lv_at hl 0 rfl) ?_
  refine lv_iconst (v := 1) hx hb dX2_readers_6 (by decide) ?_
  obtain ⟨r1, ir1, er1, h⟩ := rd_some h
  refine tLd C hw 0 rfl ir1 er1 dX2_readers_7 ?_
  refine lv_icmp_ge (tgt := 36) hx hb dX2_readers_8 (by decide) (fun c2 => ?_) (fun c2 => ?_)
  · replace h := (if_pos c2).symm.trans h
    refine lv_iload_n hx hb dX2_readers_36 rfl (lv_at hl 2 rfl) ?_
    obtain rfl := some_e h
    exact rtI C hr hw dX2_readers_37
  · replace h := (if_neg c2).symm.trans h
    refine lv_iload_n hx hb dX2_readers_11 rfl (lv_at hl 2 rfl) ?_
    refine lv_aload_n hx hb dX2_readers_12 rfl (lv_at hl 0 rfl) ?_
    refine lv_iload_n hx hb dX2_readers_13 rfl (lv_at hl 1 rfl) ?_
    refine lv_iload_n hx hb dX2_readers_14 rfl (lv_at hl 3 rfl) ?_
    obtain ⟨r3, hr3, h⟩ := cl_some h
    refine cSi (ws2 := (wA cA 81 a0 f0)) (As := [.ref a0, .int x_1, .int x_3]) (rest := [.int x_2]) C hw jnW (kX2_isRead a0 hr3) kl_RX2_61 kt_yX2_isRead kn_RX2 kc_yX2_isRead ⟨rfl, rfl⟩ hdX2_isRead ⟨Nat.le_of_ble_eq_true rfl, Nat.le_of_ble_eq_true rfl⟩ rfl hl.1 (Nat.le_of_ble_eq_true rfl) dX2_readers_15 ⟨Nat.zero_le _, Nat.zero_le _⟩ (fun H locs hw => ?_)
    refine lv_if_eq (tgt := 27) hx hb dX2_readers_18 (by decide) (fun c4 => ?_) (fun c4 => ?_)
    · replace h := (if_pos c4).symm.trans h
      refine lv_iconst (v := 0) hx hb dX2_readers_27 (by decide) ?_
      exact kX2_readers_28 C hr f0 k4 hk4 (x_1, x_3, 0, x_2) h _ _ _ hw (lv_sub hl [0, 1, 3] rfl)
    · replace h := (if_neg c4).symm.trans h
      refine lv_iconst (v := 1) hx hb dX2_readers_21 (by decide) ?_
      refine lv_iload_n hx hb dX2_readers_22 rfl (lv_at hl 3 rfl) ?_
      refine lv_ishl hx hb dX2_readers_23 ?_
      refine lv_goto (tgt := 28) hx hb dX2_readers_24 (by decide) ?_
      exact kX2_readers_28 C hr f0 k4 hk4 (x_1, x_3, ((1 : Int32) <<< (x_3 &&& 31)), x_2) h _ _ _ hw (lv_sub hl [0, 1, 3] rfl)
theorem lX2_readers_4 (C : Cx p s m args meth c cX2_readers 4 RX2 D cA g A) (hr : meth.sig.returnType = (some .int)) {z : Int32} (f0 : Nat → Int32) (n : Nat) (x : (Int32) × (Int32) × (Int32)) (h : lp (fX2_readers_4 f0) n x = some z) : GX2_readers_4 p l e s m args below meth c D cA A a0 f0 z x := lp_ok (GX2_readers_4 p l e s m args below meth c D cA A a0 f0 z) (fun kq hkq x h => kX2_readers_4 C hr f0 kq hkq x h) n x h
set_option maxHeartbeats 4000000 in
set_option maxRecDepth 100000 in
theorem kX2_readers (a0 : Nat) {f0 : Nat → Int32} {a_1 : Int32} {z : Int32} (h : fX2_readers f0 a_1 = some z) : MI l D cA g yX2_readers (Cond.code yX2_readers cX2_readers 4 (some .int) :: lw_g) rmX2_readers [.ref a0, .int a_1] (wA cA 81 a0 f0) z (wA cA 81 a0 f0) := by
  intro sz
  refine Met.ofW (cc := cX2_readers) (maxL := 4) (ret := (some .int)) (by decide) rfl ?_
  intro p e s m args below meth c s₁ B hml hv
  obtain ⟨rfl, C, hr, hw⟩ := ent B hml hv
  generalize va_A (wA cA 81 a0 f0) sz = A at C hw ⊢
  have hl := lv_entry ([.ref a0, .int a_1]) (n := 4) (Nat.le_of_ble_eq_true rfl)
  rw [lg_entry_eq]
  generalize (lg_sl ([.ref a0, .int a_1]) ++ List.replicate (4 - (lg_sl ([.ref a0, .int a_1])).length) Slot.unset).toArray = ls at hl ⊢
  have hl : lv_has ls 4 [(0, .ref a0), (1, .int a_1)] := hl
  have hx := C.1.1
  have hb := C.1.2.1
  have h : (lp (fX2_readers_4 f0) 5000 (a_1, 0, 0)) = some z := h
  refine lv_iconst (v := 0) hx hb dX2_readers_0 (by decide) ?_
  refine lv_istore_n (lv' := [(2, .int 0), (0, .ref a0), (1, .int a_1)]) hx hb dX2_readers_1 rfl hl (by decide) rfl (fun ls hl => ?_)
  refine lv_iconst (v := 0) hx hb dX2_readers_2 (by decide) ?_
  refine lv_istore_n (lv' := [(3, .int 0), (2, .int 0), (0, .ref a0), (1, .int a_1)]) hx hb dX2_readers_3 rfl hl (by decide) rfl (fun ls hl => ?_)
  exact lX2_readers_4 C hr f0 5000 (a_1, 0, 0) h _ _ _ hw (lv_sub hl [2, 3, 1, 0] rfl)
abbrev rmX2_bursts : Room := { frames := 3, cells := 0, slots := 0, locals := 66 }
theorem hdX2_bursts : yX2_bursts.cls ≠ "java/lang/invoke/MethodHandle" ∧ yX2_bursts.cls ≠ "java/lang/invoke/VarHandle" ∧ (parseMethodDescriptor yX2_bursts.desc).map (fun d => d.parameters.length) = some 3 := by decide +kernel
def GX2_bursts_85 (p : Program) (l : Launch) (e : Env) (s : State) (m : MethodId) (args : Array Value) (below : List Frame) (meth : Method) (c : Code) (D : va_G) (cA : ClassId) (A : Nat → Prop) (a0 : Nat) (z : (Nat → Int32)) (x : (Nat → Int32) × (Int32) × (Int32) × (Int32)) : Prop := ∀ (H : Heap) (locs : List Loc) (ls : Array Slot), Wd D A s.heap (wA cA 81 a0 x.1) H locs → lv_has ls 6 [(0, .ref a0), (1, .int x.2.1), (2, .int x.2.2.1), (3, .int x.2.2.2)] → W p l e rmX2_bursts s m args below meth c H locs 0 0 (MQ below (QV D cA A (wA cA 81 a0 z)) args s 0 0 A) (F0 m 85 ls [])
def GX2_bursts_53 (p : Program) (l : Launch) (e : Env) (s : State) (m : MethodId) (args : Array Value) (below : List Frame) (meth : Method) (c : Code) (D : va_G) (cA : ClassId) (A : Nat → Prop) (a0 : Nat) (z : (Nat → Int32)) (x : (Nat → Int32) × (Int32) × (Int32) × (Int32) × (Int32)) : Prop := ∀ (H : Heap) (locs : List Loc) (ls : Array Slot), Wd D A s.heap (wA cA 81 a0 x.1) H locs → lv_has ls 6 [(0, .ref a0), (1, .int x.2.1), (2, .int x.2.2.1), (3, .int x.2.2.2.1)] → W p l e rmX2_bursts s m args below meth c H locs 0 0 (MQ below (QV D cA A (wA cA 81 a0 z)) args s 0 0 A) (F0 m 53 ls [.int x.2.2.2.2])
def GX2_bursts_2 (p : Program) (l : Launch) (e : Env) (s : State) (m : MethodId) (args : Array Value) (below : List Frame) (meth : Method) (c : Code) (D : va_G) (cA : ClassId) (A : Nat → Prop) (a0 : Nat) (z : (Nat → Int32)) (x : (Nat → Int32) × (Int32) × (Int32) × (Int32)) : Prop := ∀ (H : Heap) (locs : List Loc) (ls : Array Slot), Wd D A s.heap (wA cA 81 a0 x.1) H locs → lv_has ls 6 [(0, .ref a0), (1, .int x.2.1), (2, .int x.2.2.1), (3, .int x.2.2.2)] → W p l e rmX2_bursts s m args below meth c H locs 0 0 (MQ below (QV D cA A (wA cA 81 a0 z)) args s 0 0 A) (F0 m 2 ls [])
def fX2_bursts_85 (k2 : ((Nat → Int32) × (Int32) × (Int32) × (Int32)) → Option (Nat → Int32)) : ((Nat → Int32) × (Int32) × (Int32) × (Int32)) → Option (Nat → Int32) := fun x => match x with | (f0, x_1, x_2, x_3) => bn (x_3 + 1) (fun x1 => k2 (f0, x_1, x_2, x1))
def fX2_bursts_53 (k2 : ((Nat → Int32) × (Int32) × (Int32) × (Int32)) → Option (Nat → Int32)) : ((Nat → Int32) × (Int32) × (Int32) × (Int32) × (Int32)) → Option (Nat → Int32) := fun x => match x with | (f0, x_1, x_2, x_3, y_0) => cl (fX2_ofR x_1 2) (fun r1 => rd 81 f0 r1 (fun r2 => cl (fX2_ofP x_3 ((2 : Int32) + r2)) (fun r3 => rd 81 f0 r3 (fun r4 => if y_0 ≤ r4 then fX2_bursts_85 k2 (f0, x_1, x_2, x_3) else ck 81 r3 (bn (upd f0 (r3 : Int32).toNatClampNeg y_0) (fun w6 => fX2_bursts_85 k2 (w6, x_1, x_2, x_3)))))))
def fX2_bursts_2 (k2 : ((Nat → Int32) × (Int32) × (Int32) × (Int32)) → Option (Nat → Int32)) : ((Nat → Int32) × (Int32) × (Int32) × (Int32)) → Option (Nat → Int32) := fun x => match x with | (f0, x_1, x_2, x_3) => rd 81 f0 1 (fun r1 => if r1 ≤ x_3 then some f0 else cl (fX2_has x_2 x_3) (fun r3 => if r3 = 0 then fX2_bursts_85 k2 (f0, x_1, x_2, x_3) else cl (fX2_isRead f0 x_1 x_3) (fun r5 => if r5 = 0 then fX2_bursts_85 k2 (f0, x_1, x_2, x_3) else cl (fX2_ofP x_3 1) (fun r7 => rd 81 f0 r7 (fun r8 => if r8 = 9 then fX2_bursts_53 k2 (f0, x_1, x_2, x_3, 99) else cl (fX2_ofP x_3 1) (fun r10 => rd 81 f0 r10 (fun r11 => fX2_bursts_53 k2 (f0, x_1, x_2, x_3, r11))))))))
def fX2_bursts (f0 : Nat → Int32) (a_1 : Int32) (a_2 : Int32) : Option (Nat → Int32) := lp (fX2_bursts_2) 5000 (f0, a_1, a_2, 0)
set_option maxHeartbeats 4000000 in
set_option maxRecDepth 100000 in
theorem kX2_bursts_85 (C : Cx p s m args meth c cX2_bursts 6 RX2 D cA g A) (hr : meth.sig.returnType = none) {z : (Nat → Int32)} (k2 : ((Nat → Int32) × (Int32) × (Int32) × (Int32)) → Option (Nat → Int32)) (hk2 : ∀ x, k2 x = some z → GX2_bursts_2 p l e s m args below meth c D cA A a0 z x) (x : (Nat → Int32) × (Int32) × (Int32) × (Int32)) (h : fX2_bursts_85 k2 x = some z) : GX2_bursts_85 p l e s m args below meth c D cA A a0 z x := by
  obtain ⟨f0, x_1, x_2, x_3⟩ := x
  intro H locs ls hw hl
  have hw : Wd D A s.heap (wA cA 81 a0 f0) H locs := hw
  have hl : lv_has ls 6 [(0, .ref a0), (1, .int x_1), (2, .int x_2), (3, .int x_3)] := hl
  have hx := C.1.1
  have hb := C.1.2.1
  have h : (bn (x_3 + 1) (fun x1 => k2 (f0, x_1, x_2, x1))) = some z := h
  obtain ⟨x1, ex1⟩ : ∃ y : Int32, y = x_3 + 1 := ⟨_, rfl⟩
  replace h := bn_some h ex1
  refine lv_iinc (v := x1) (lv' := [(3, .int x1), (0, .ref a0), (1, .int x_1), (2, .int x_2)]) hx hb dX2_bursts_85 hl (k := 3) rfl (by rw [ex1]; rfl) (by decide) rfl (fun ls hl => ?_)
  refine lv_goto (tgt := 2) hx hb dX2_bursts_88 (by decide) ?_
  exact hk2 (f0, x_1, x_2, x1) h _ _ _ hw (lv_sub hl [1, 2, 3, 0] rfl)
set_option maxHeartbeats 4000000 in
set_option maxRecDepth 100000 in
theorem kX2_bursts_53 (C : Cx p s m args meth c cX2_bursts 6 RX2 D cA g A) (hr : meth.sig.returnType = none) {z : (Nat → Int32)} (k2 : ((Nat → Int32) × (Int32) × (Int32) × (Int32)) → Option (Nat → Int32)) (hk2 : ∀ x, k2 x = some z → GX2_bursts_2 p l e s m args below meth c D cA A a0 z x) (x : (Nat → Int32) × (Int32) × (Int32) × (Int32) × (Int32)) (h : fX2_bursts_53 k2 x = some z) : GX2_bursts_53 p l e s m args below meth c D cA A a0 z x := by
  obtain ⟨f0, x_1, x_2, x_3, y_0⟩ := x
  intro H locs ls hw hl
  have hw : Wd D A s.heap (wA cA 81 a0 f0) H locs := hw
  have hl : lv_has ls 6 [(0, .ref a0), (1, .int x_1), (2, .int x_2), (3, .int x_3)] := hl
  show W p l e rmX2_bursts s m args below meth c H locs 0 0 (MQ below (QV D cA A (wA cA 81 a0 z)) args s 0 0 A) (F0 m 53 ls [.int y_0])
  have hx := C.1.1
  have hb := C.1.2.1
  have h : (cl (fX2_ofR x_1 2) (fun r1 => rd 81 f0 r1 (fun r2 => cl (fX2_ofP x_3 ((2 : Int32) + r2)) (fun r3 => rd 81 f0 r3 (fun r4 => if y_0 ≤ r4 then fX2_bursts_85 k2 (f0, x_1, x_2, x_3) else ck 81 r3 (bn (upd f0 (r3 : Int32).toNatClampNeg y_0) (fun w6 => fX2_bursts_85 k2 (w6, x_1, x_2, x_3)))))))) = some z := h
  refine lv_istore (lv' := [(4, .int y_0), (0, .ref a0), (1, .int x_1), (2, .int x_2), (3, .int x_3)]) hx hb dX2_bursts_53 hl (by decide) rfl (fun ls hl => ?_)
  refine lv_iload_n hx hb dX2_bursts_55 rfl (lv_at hl 4 rfl) ?_
  refine lv_iconst (v := 2) hx hb dX2_bursts_56 (by decide) ?_
  refine lv_aload_n hx hb dX2_bursts_57 rfl (lv_at hl 1 rfl) ?_
  refine lv_iload_n hx hb dX2_bursts_58 rfl (lv_at hl 2 rfl) ?_
  refine lv_iconst (v := 2) hx hb dX2_bursts_59 (by decide) ?_
  obtain ⟨r1, hr1, h⟩ := cl_some h
  refine cSi (ws2 := (wA cA 81 a0 f0)) (As := [.int x_1, .int 2]) (rest := [.ref a0, .int 2, .int x_3]) C hw jnE (kX2_ofR hr1) kl_RX2_44 kt_yX2_ofR kn_RX2 kc_yX2_ofR ⟨rfl, rfl⟩ hdX2_ofR ⟨Nat.le_of_ble_eq_true rfl, Nat.le_of_ble_eq_true rfl⟩ rfl hl.1 (Nat.le_of_ble_eq_true rfl) dX2_bursts_60 ⟨Nat.zero_le _, Nat.zero_le _⟩ (fun H locs hw => ?_)
  obtain ⟨r2, ir2, er2, h⟩ := rd_some h
  refine tLd C hw 0 rfl ir2 er2 dX2_bursts_63 ?_
  refine lv_iadd hx hb dX2_bursts_64 ?_
  obtain ⟨r3, hr3, h⟩ := cl_some h
  refine cSi (ws2 := (wA cA 81 a0 f0)) (As := [.int x_3, .int ((2 : Int32) + r2)]) (rest := []) C hw jnE (kX2_ofP hr3) kl_RX2_48 kt_yX2_ofP kn_RX2 kc_yX2_ofP ⟨rfl, rfl⟩ hdX2_ofP ⟨Nat.le_of_ble_eq_true rfl, Nat.le_of_ble_eq_true rfl⟩ rfl hl.1 (Nat.le_of_ble_eq_true rfl) dX2_bursts_65 ⟨Nat.zero_le _, Nat.zero_le _⟩ (fun H locs hw => ?_)
  refine lv_istore (lv' := [(5, .int r3), (4, .int y_0), (0, .ref a0), (1, .int x_1), (2, .int x_2), (3, .int x_3)]) hx hb dX2_bursts_68 hl (by decide) rfl (fun ls hl => ?_)
  refine lv_iload hx hb dX2_bursts_70 (lv_at hl 1 rfl) ?_
  refine lv_aload_n hx hb dX2_bursts_72 rfl (lv_at hl 2 rfl) ?_
  refine lv_iload hx hb dX2_bursts_73 (lv_at hl 0 rfl) ?_
  obtain ⟨r4, ir4, er4, h⟩ := rd_some h
  refine tLd C hw 0 rfl ir4 er4 dX2_bursts_75 ?_
  refine lv_icmp_le (tgt := 85) hx hb dX2_bursts_76 (by decide) (fun c5 => ?_) (fun c5 => ?_)
  · replace h := (if_pos c5).symm.trans h
    exact kX2_bursts_85 C hr k2 hk2 (f0, x_1, x_2, x_3) h _ _ _ hw (lv_sub hl [2, 3, 4, 5] rfl)
  · replace h := (if_neg c5).symm.trans h
    refine lv_aload_n hx hb dX2_bursts_79 rfl (lv_at hl 2 rfl) ?_
    refine lv_iload hx hb dX2_bursts_80 (lv_at hl 0 rfl) ?_
    refine lv_iload hx hb dX2_bursts_82 (lv_at hl 1 rfl) ?_
    obtain ⟨iw6, h⟩ := ck_some h
    obtain ⟨w6, ew6⟩ : ∃ y : Nat → Int32, y = upd f0 (r3 : Int32).toNatClampNeg y_0 := ⟨_, rfl⟩
    replace h := bn_some h ew6
    refine tSt (ws2 := (wA cA 81 a0 w6)) C hw 0 rfl iw6 (by rw [ew6]; rfl) dX2_bursts_84 (fun H locs hw => ?_)
    exact kX2_bursts_85 C hr k2 hk2 (w6, x_1, x_2, x_3) h _ _ _ hw (lv_sub hl [2, 3, 4, 5] rfl)
set_option maxHeartbeats 4000000 in
set_option maxRecDepth 100000 in
theorem kX2_bursts_2 (C : Cx p s m args meth c cX2_bursts 6 RX2 D cA g A) (hr : meth.sig.returnType = none) {z : (Nat → Int32)} (k2 : ((Nat → Int32) × (Int32) × (Int32) × (Int32)) → Option (Nat → Int32)) (hk2 : ∀ x, k2 x = some z → GX2_bursts_2 p l e s m args below meth c D cA A a0 z x) (x : (Nat → Int32) × (Int32) × (Int32) × (Int32)) (h : fX2_bursts_2 k2 x = some z) : GX2_bursts_2 p l e s m args below meth c D cA A a0 z x := by
  obtain ⟨f0, x_1, x_2, x_3⟩ := x
  intro H locs ls hw hl
  have hw : Wd D A s.heap (wA cA 81 a0 f0) H locs := hw
  have hl : lv_has ls 6 [(0, .ref a0), (1, .int x_1), (2, .int x_2), (3, .int x_3)] := hl
  have hx := C.1.1
  have hb := C.1.2.1
  have h : (rd 81 f0 1 (fun r1 => if r1 ≤ x_3 then some f0 else cl (fX2_has x_2 x_3) (fun r3 => if r3 = 0 then fX2_bursts_85 k2 (f0, x_1, x_2, x_3) else cl (fX2_isRead f0 x_1 x_3) (fun r5 => if r5 = 0 then fX2_bursts_85 k2 (f0, x_1, x_2, x_3) else cl (fX2_ofP x_3 1) (fun r7 => rd 81 f0 r7 (fun r8 => if r8 = 9 then fX2_bursts_53 k2 (f0, x_1, x_2, x_3, 99) else cl (fX2_ofP x_3 1) (fun r10 => rd 81 f0 r10 (fun r11 => fX2_bursts_53 k2 (f0, x_1, x_2, x_3, r11))))))))) = some z := h
  refine lv_iload_n hx hb dX2_bursts_2 rfl (lv_at hl 3 rfl) ?_
  refine lv_aload_n hx hb dX2_bursts_3 rfl (lv_at hl 0 rfl) ?_
  refine lv_iconst (v := 1) hx hb dX2_bursts_4 (by decide) ?_
  obtain ⟨r1, ir1, er1, h⟩ := rd_some h
  refine tLd C hw 0 rfl ir1 er1 dX2_bursts_5 ?_
  refine lv_icmp_ge (tgt := 91) hx hb dX2_bursts_6 (by decide) (fun c2 => ?_) (fun c2 => ?_)
  · replace h := (if_pos c2).symm.trans h
    obtain rfl := some_e h
    exact rtV C hr hw dX2_bursts_91
  · replace h := (if_neg c2).symm.trans h
    refine lv_iload_n hx hb dX2_bursts_9 rfl (lv_at hl 2 rfl) ?_
    refine lv_iload_n hx hb dX2_bursts_10 rfl (lv_at hl 3 rfl) ?_
    obtain ⟨r3, hr3, h⟩ := cl_some h
    refine cSi (ws2 := (wA cA 81 a0 f0)) (As := [.int x_2, .int x_3]) (rest := []) C hw jnE (kX2_has hr3) kl_RX2_65 kt_yX2_has kn_RX2 kc_yX2_has ⟨rfl, rfl⟩ hdX2_has ⟨Nat.le_of_ble_eq_true rfl, Nat.le_of_ble_eq_true rfl⟩ rfl hl.1 (Nat.le_of_ble_eq_true rfl) dX2_bursts_11 ⟨Nat.zero_le _, Nat.zero_le _⟩ (fun H locs hw => ?_)
    refine lv_if_eq (tgt := 85) hx hb dX2_bursts_14 (by decide) (fun c4 => ?_) (fun c4 => ?_)
    · replace h := (if_pos c4).symm.trans h
      exact kX2_bursts_85 C hr k2 hk2 (f0, x_1, x_2, x_3) h _ _ _ hw (lv_sub hl [0, 1, 2, 3] rfl)
    · replace h := (if_neg c4).symm.trans h
      refine lv_aload_n hx hb dX2_bursts_17 rfl (lv_at hl 0 rfl) ?_
      refine lv_iload_n hx hb dX2_bursts_18 rfl (lv_at hl 1 rfl) ?_
      refine lv_iload_n hx hb dX2_bursts_19 rfl (lv_at hl 3 rfl) ?_
      obtain ⟨r5, hr5, h⟩ := cl_some h
      refine cSi (ws2 := (wA cA 81 a0 f0)) (As := [.ref a0, .int x_1, .int x_3]) (rest := []) C hw jnW (kX2_isRead a0 hr5) kl_RX2_61 kt_yX2_isRead kn_RX2 kc_yX2_isRead ⟨rfl, rfl⟩ hdX2_isRead ⟨Nat.le_of_ble_eq_true rfl, Nat.le_of_ble_eq_true rfl⟩ rfl hl.1 (Nat.le_of_ble_eq_true rfl) dX2_bursts_20 ⟨Nat.zero_le _, Nat.zero_le _⟩ (fun H locs hw => ?_)
      refine lv_if_ne (tgt := 29) hx hb dX2_bursts_23 (by decide) (fun c6 => ?_) (fun c6 => ?_)
      · replace h := (if_neg c6).symm.trans h
        refine lv_aload_n hx hb dX2_bursts_29 rfl (lv_at hl 0 rfl) ?_
        refine lv_iload_n hx hb dX2_bursts_30 rfl (lv_at hl 3 rfl) ?_
        refine lv_iconst (v := 1) hx hb dX2_bursts_31 (by decide) ?_
        obtain ⟨r7, hr7, h⟩ := cl_some h
        refine cSi (ws2 := (wA cA 81 a0 f0)) (As := [.int x_3, .int 1]) (rest := [.ref a0]) C hw jnE (kX2_ofP hr7) kl_RX2_48 kt_yX2_ofP kn_RX2 kc_yX2_ofP ⟨rfl, rfl⟩ hdX2_ofP ⟨Nat.le_of_ble_eq_true rfl, Nat.le_of_ble_eq_true rfl⟩ rfl hl.1 (Nat.le_of_ble_eq_true rfl) dX2_bursts_32 ⟨Nat.zero_le _, Nat.zero_le _⟩ (fun H locs hw => ?_)
        obtain ⟨r8, ir8, er8, h⟩ := rd_some h
        refine tLd C hw 0 rfl ir8 er8 dX2_bursts_35 ?_
        refine lv_bipush (v := 9) hx hb dX2_bursts_36 (by decide) ?_
        refine lv_icmp_ne (tgt := 46) hx hb dX2_bursts_38 (by decide) (fun c9 => ?_) (fun c9 => ?_)
        · replace h := (if_neg c9).symm.trans h
          refine lv_aload_n hx hb dX2_bursts_46 rfl (lv_at hl 0 rfl) ?_
          refine lv_iload_n hx hb dX2_bursts_47 rfl (lv_at hl 3 rfl) ?_
          refine lv_iconst (v := 1) hx hb dX2_bursts_48 (by decide) ?_
          obtain ⟨r10, hr10, h⟩ := cl_some h
          refine cSi (ws2 := (wA cA 81 a0 f0)) (As := [.int x_3, .int 1]) (rest := [.ref a0]) C hw jnE (kX2_ofP hr10) kl_RX2_48 kt_yX2_ofP kn_RX2 kc_yX2_ofP ⟨rfl, rfl⟩ hdX2_ofP ⟨Nat.le_of_ble_eq_true rfl, Nat.le_of_ble_eq_true rfl⟩ rfl hl.1 (Nat.le_of_ble_eq_true rfl) dX2_bursts_49 ⟨Nat.zero_le _, Nat.zero_le _⟩ (fun H locs hw => ?_)
          obtain ⟨r11, ir11, er11, h⟩ := rd_some h
          refine tLd C hw 0 rfl ir11 er11 dX2_bursts_52 ?_
          exact kX2_bursts_53 C hr k2 hk2 (f0, x_1, x_2, x_3, r11) h _ _ _ hw (lv_sub hl [0, 1, 2, 3] rfl)
        · replace h := (if_pos c9).symm.trans h
          refine lv_bipush (v := 99) hx hb dX2_bursts_41 (by decide) ?_
          refine lv_goto (tgt := 53) hx hb dX2_bursts_43 (by decide) ?_
          exact kX2_bursts_53 C hr k2 hk2 (f0, x_1, x_2, x_3, 99) h _ _ _ hw (lv_sub hl [0, 1, 2, 3] rfl)
      · replace h := (if_pos c6).symm.trans h
        refine lv_goto (tgt := 85) hx hb dX2_bursts_26 (by decide) ?_
        exact kX2_bursts_85 C hr k2 hk2 (f0, x_1, x_2, x_3) h _ _ _ hw (lv_sub hl [0, 1, 2, 3] rfl)
theorem lX2_bursts_2 (C : Cx p s m args meth c cX2_bursts 6 RX2 D cA g A) (hr : meth.sig.returnType = none) {z : (Nat → Int32)} (n : Nat) (x : (Nat → Int32) × (Int32) × (Int32) × (Int32)) (h : lp (fX2_bursts_2) n x = some z) : GX2_bursts_2 p l e s m args below meth c D cA A a0 z x := lp_ok (GX2_bursts_2 p l e s m args below meth c D cA A a0 z) (fun kq hkq x h => kX2_bursts_2 C hr kq hkq x h) n x h
set_option maxHeartbeats 4000000 in
set_option maxRecDepth 100000 in
theorem kX2_bursts (a0 : Nat) {f0 : Nat → Int32} {a_1 : Int32} {a_2 : Int32} {z : (Nat → Int32)} (h : fX2_bursts f0 a_1 a_2 = some z) : MV l D cA g yX2_bursts (Cond.code yX2_bursts cX2_bursts 6 none :: lw_g) rmX2_bursts [.ref a0, .int a_1, .int a_2] (wA cA 81 a0 f0) (wA cA 81 a0 z) := by
  intro sz
  refine Met.ofW (cc := cX2_bursts) (maxL := 6) (ret := none) (by decide) rfl ?_
  intro p e s m args below meth c s₁ B hml hv
  obtain ⟨rfl, C, hr, hw⟩ := ent B hml hv
  generalize va_A (wA cA 81 a0 f0) sz = A at C hw ⊢
  have hl := lv_entry ([.ref a0, .int a_1, .int a_2]) (n := 6) (Nat.le_of_ble_eq_true rfl)
  rw [lg_entry_eq]
  generalize (lg_sl ([.ref a0, .int a_1, .int a_2]) ++ List.replicate (6 - (lg_sl ([.ref a0, .int a_1, .int a_2])).length) Slot.unset).toArray = ls at hl ⊢
  have hl : lv_has ls 6 [(0, .ref a0), (1, .int a_1), (2, .int a_2)] := hl
  have hx := C.1.1
  have hb := C.1.2.1
  have h : (lp (fX2_bursts_2) 5000 (f0, a_1, a_2, 0)) = some z := h
  refine lv_iconst (v := 0) hx hb dX2_bursts_0 (by decide) ?_
  refine lv_istore_n (lv' := [(3, .int 0), (0, .ref a0), (1, .int a_1), (2, .int a_2)]) hx hb dX2_bursts_1 rfl hl (by decide) rfl (fun ls hl => ?_)
  exact lX2_bursts_2 C hr 5000 (f0, a_1, a_2, 0) h _ _ _ hw (lv_sub hl [1, 2, 3, 0] rfl)
abbrev rmX2_canGo : Room := { frames := 1, cells := 0, slots := 0, locals := 21 }
theorem hdX2_canGo : yX2_canGo.cls ≠ "java/lang/invoke/MethodHandle" ∧ yX2_canGo.cls ≠ "java/lang/invoke/VarHandle" ∧ (parseMethodDescriptor yX2_canGo.desc).map (fun d => d.parameters.length) = some 2 := by decide +kernel
def fX2_canGo (f0 : Nat → Int32) (a_1 : Int32) : Option Int32 := cl (fX2_ofR a_1 3) (fun r1 => rd 81 f0 r1 (fun r2 => if r2 = 0 then rd 81 f0 3 (fun r4 => cl (fX2_ofR a_1 0) (fun r5 => rd 81 f0 r5 (fun r6 => cl (fX2_costBy r6) (fun r7 => if r4 < r7 then some 0 else some 1)))) else some 0))
set_option maxHeartbeats 4000000 in
set_option maxRecDepth 100000 in
theorem kX2_canGo (a0 : Nat) {f0 : Nat → Int32} {a_1 : Int32} {z : Int32} (h : fX2_canGo f0 a_1 = some z) : MI l D cA g yX2_canGo (Cond.code yX2_canGo cX2_canGo 2 (some .boolean) :: lw_g) rmX2_canGo [.ref a0, .int a_1] (wA cA 81 a0 f0) z (wA cA 81 a0 f0) := by
  intro sz
  refine Met.ofW (cc := cX2_canGo) (maxL := 2) (ret := (some .boolean)) (by decide) rfl ?_
  intro p e s m args below meth c s₁ B hml hv
  obtain ⟨rfl, C, hr, hw⟩ := ent B hml hv
  generalize va_A (wA cA 81 a0 f0) sz = A at C hw ⊢
  have hl := lv_entry ([.ref a0, .int a_1]) (n := 2) (Nat.le_of_ble_eq_true rfl)
  rw [lg_entry_eq]
  generalize (lg_sl ([.ref a0, .int a_1]) ++ List.replicate (2 - (lg_sl ([.ref a0, .int a_1])).length) Slot.unset).toArray = ls at hl ⊢
  have hl : lv_has ls 2 [(0, .ref a0), (1, .int a_1)] := hl
  have hx := C.1.1
  have hb := C.1.2.1
  have h : (cl (fX2_ofR a_1 3) (fun r1 => rd 81 f0 r1 (fun r2 => if r2 = 0 then rd 81 f0 3 (fun r4 => cl (fX2_ofR a_1 0) (fun r5 => rd 81 f0 r5 (fun r6 => cl (fX2_costBy r6) (fun r7 => if r4 < r7 then some 0 else some 1)))) else some 0))) = some z := h
  refine lv_aload_n hx hb dX2_canGo_0 rfl (lv_at hl 0 rfl) ?_
  refine lv_iload_n hx hb dX2_canGo_1 rfl (lv_at hl 1 rfl) ?_
  refine lv_iconst (v := 3) hx hb dX2_canGo_2 (by decide) ?_
  obtain ⟨r1, hr1, h⟩ := cl_some h
  refine cSi (ws2 := (wA cA 81 a0 f0)) (As := [.int a_1, .int 3]) (rest := [.ref a0]) C hw jnE (kX2_ofR hr1) kl_RX2_44 kt_yX2_ofR kn_RX2 kc_yX2_ofR ⟨rfl, rfl⟩ hdX2_ofR ⟨Nat.le_of_ble_eq_true rfl, Nat.le_of_ble_eq_true rfl⟩ rfl hl.1 (Nat.le_of_ble_eq_true rfl) dX2_canGo_3 ⟨Nat.zero_le _, Nat.zero_le _⟩ (fun H locs hw => ?_)
  obtain ⟨r2, ir2, er2, h⟩ := rd_some h
  refine tLd C hw 0 rfl ir2 er2 dX2_canGo_6 ?_
  refine lv_if_ne (tgt := 30) hx hb dX2_canGo_7 (by decide) (fun c3 => ?_) (fun c3 => ?_)
  · replace h := (if_neg c3).symm.trans h
    refine lv_iconst (v := 0) hx hb dX2_canGo_30 (by decide) ?_
    obtain rfl := some_e h
    exact rtZ C hr nz0 hw dX2_canGo_31
  · replace h := (if_pos c3).symm.trans h
    refine lv_aload_n hx hb dX2_canGo_10 rfl (lv_at hl 0 rfl) ?_
    refine lv_iconst (v := 3) hx hb dX2_canGo_11 (by decide) ?_
    obtain ⟨r4, ir4, er4, h⟩ := rd_some h
    refine tLd C hw 0 rfl ir4 er4 dX2_canGo_12 ?_
    refine lv_aload_n hx hb dX2_canGo_13 rfl (lv_at hl 0 rfl) ?_
    refine lv_iload_n hx hb dX2_canGo_14 rfl (lv_at hl 1 rfl) ?_
    refine lv_iconst (v := 0) hx hb dX2_canGo_15 (by decide) ?_
    obtain ⟨r5, hr5, h⟩ := cl_some h
    refine cSi (ws2 := (wA cA 81 a0 f0)) (As := [.int a_1, .int 0]) (rest := [.ref a0, .int r4]) C hw jnE (kX2_ofR hr5) kl_RX2_44 kt_yX2_ofR kn_RX2 kc_yX2_ofR ⟨rfl, rfl⟩ hdX2_ofR ⟨Nat.le_of_ble_eq_true rfl, Nat.le_of_ble_eq_true rfl⟩ rfl hl.1 (Nat.le_of_ble_eq_true rfl) dX2_canGo_16 ⟨Nat.zero_le _, Nat.zero_le _⟩ (fun H locs hw => ?_)
    obtain ⟨r6, ir6, er6, h⟩ := rd_some h
    refine tLd C hw 0 rfl ir6 er6 dX2_canGo_19 ?_
    obtain ⟨r7, hr7, h⟩ := cl_some h
    refine cSi (ws2 := (wA cA 81 a0 f0)) (As := [.int r6]) (rest := [.int r4]) C hw jnE (kX2_costBy hr7) kl_RX2_69 kt_yX2_costBy kn_RX2 kc_yX2_costBy ⟨rfl, rfl⟩ hdX2_costBy ⟨Nat.le_of_ble_eq_true rfl, Nat.le_of_ble_eq_true rfl⟩ rfl hl.1 (Nat.le_of_ble_eq_true rfl) dX2_canGo_20 ⟨Nat.zero_le _, Nat.zero_le _⟩ (fun H locs hw => ?_)
    refine lv_icmp_lt (tgt := 30) hx hb dX2_canGo_23 (by decide) (fun c8 => ?_) (fun c8 => ?_)
    · replace h := (if_pos c8).symm.trans h
      refine lv_iconst (v := 0) hx hb dX2_canGo_30 (by decide) ?_
      obtain rfl := some_e h
      exact rtZ C hr nz0 hw dX2_canGo_31
    · replace h := (if_neg c8).symm.trans h
      refine lv_iconst (v := 1) hx hb dX2_canGo_26 (by decide) ?_
      refine lv_goto (tgt := 31) hx hb dX2_canGo_27 (by decide) ?_
      obtain rfl := some_e h
      exact rtZ C hr nz1 hw dX2_canGo_31
abbrev rmX2_sendsIn : Room := { frames := 4, cells := 0, slots := 0, locals := 91 }
theorem hdX2_sendsIn : yX2_sendsIn.cls ≠ "java/lang/invoke/MethodHandle" ∧ yX2_sendsIn.cls ≠ "java/lang/invoke/VarHandle" ∧ (parseMethodDescriptor yX2_sendsIn.desc).map (fun d => d.parameters.length) = some 3 := by decide +kernel
def fX2_sendsIn (f0 : Nat → Int32) (a_1 : Int32) (a_2 : Int32) : Option (Nat → Int32) := rd 81 f0 3 (fun r1 => cl (fX2_ofR a_1 0) (fun r2 => rd 81 f0 r2 (fun r3 => cl (fX2_costBy r3) (fun r4 => ck 81 3 (bn (upd f0 (3 : Int32).toNatClampNeg (r1 - r4)) (fun w5 => cl (fX2_ofR a_1 3) (fun r6 => ck 81 r6 (bn (upd w5 (r6 : Int32).toNatClampNeg 1) (fun w7 => cl (fX2_bursts w7 a_1 a_2) (fun w8 => some w8))))))))))
set_option maxHeartbeats 4000000 in
set_option maxRecDepth 100000 in
theorem kX2_sendsIn (a0 : Nat) {f0 : Nat → Int32} {a_1 : Int32} {a_2 : Int32} {z : (Nat → Int32)} (h : fX2_sendsIn f0 a_1 a_2 = some z) : MV l D cA g yX2_sendsIn (Cond.code yX2_sendsIn cX2_sendsIn 3 none :: lw_g) rmX2_sendsIn [.ref a0, .int a_1, .int a_2] (wA cA 81 a0 f0) (wA cA 81 a0 z) := by
  intro sz
  refine Met.ofW (cc := cX2_sendsIn) (maxL := 3) (ret := none) (by decide) rfl ?_
  intro p e s m args below meth c s₁ B hml hv
  obtain ⟨rfl, C, hr, hw⟩ := ent B hml hv
  generalize va_A (wA cA 81 a0 f0) sz = A at C hw ⊢
  have hl := lv_entry ([.ref a0, .int a_1, .int a_2]) (n := 3) (Nat.le_of_ble_eq_true rfl)
  rw [lg_entry_eq]
  generalize (lg_sl ([.ref a0, .int a_1, .int a_2]) ++ List.replicate (3 - (lg_sl ([.ref a0, .int a_1, .int a_2])).length) Slot.unset).toArray = ls at hl ⊢
  have hl : lv_has ls 3 [(0, .ref a0), (1, .int a_1), (2, .int a_2)] := hl
  have hx := C.1.1
  have hb := C.1.2.1
  have h : (rd 81 f0 3 (fun r1 => cl (fX2_ofR a_1 0) (fun r2 => rd 81 f0 r2 (fun r3 => cl (fX2_costBy r3) (fun r4 => ck 81 3 (bn (upd f0 (3 : Int32).toNatClampNeg (r1 - r4)) (fun w5 => cl (fX2_ofR a_1 3) (fun r6 => ck 81 r6 (bn (upd w5 (r6 : Int32).toNatClampNeg 1) (fun w7 => cl (fX2_bursts w7 a_1 a_2) (fun w8 => some w8))))))))))) = some z := h
  refine lv_aload_n hx hb dX2_sendsIn_0 rfl (lv_at hl 0 rfl) ?_
  refine lv_iconst (v := 3) hx hb dX2_sendsIn_1 (by decide) ?_
  refine lv_dup2_11 hx hb dX2_sendsIn_2 rfl rfl ?_
  obtain ⟨r1, ir1, er1, h⟩ := rd_some h
  refine tLd C hw 0 rfl ir1 er1 dX2_sendsIn_3 ?_
  refine lv_aload_n hx hb dX2_sendsIn_4 rfl (lv_at hl 0 rfl) ?_
  refine lv_iload_n hx hb dX2_sendsIn_5 rfl (lv_at hl 1 rfl) ?_
  refine lv_iconst (v := 0) hx hb dX2_sendsIn_6 (by decide) ?_
  obtain ⟨r2, hr2, h⟩ := cl_some h
  refine cSi (ws2 := (wA cA 81 a0 f0)) (As := [.int a_1, .int 0]) (rest := [.ref a0, .int r1, .int 3, .ref a0]) C hw jnE (kX2_ofR hr2) kl_RX2_44 kt_yX2_ofR kn_RX2 kc_yX2_ofR ⟨rfl, rfl⟩ hdX2_ofR ⟨Nat.le_of_ble_eq_true rfl, Nat.le_of_ble_eq_true rfl⟩ rfl hl.1 (Nat.le_of_ble_eq_true rfl) dX2_sendsIn_7 ⟨Nat.zero_le _, Nat.zero_le _⟩ (fun H locs hw => ?_)
  obtain ⟨r3, ir3, er3, h⟩ := rd_some h
  refine tLd C hw 0 rfl ir3 er3 dX2_sendsIn_10 ?_
  obtain ⟨r4, hr4, h⟩ := cl_some h
  refine cSi (ws2 := (wA cA 81 a0 f0)) (As := [.int r3]) (rest := [.int r1, .int 3, .ref a0]) C hw jnE (kX2_costBy hr4) kl_RX2_69 kt_yX2_costBy kn_RX2 kc_yX2_costBy ⟨rfl, rfl⟩ hdX2_costBy ⟨Nat.le_of_ble_eq_true rfl, Nat.le_of_ble_eq_true rfl⟩ rfl hl.1 (Nat.le_of_ble_eq_true rfl) dX2_sendsIn_11 ⟨Nat.zero_le _, Nat.zero_le _⟩ (fun H locs hw => ?_)
  refine lv_isub hx hb dX2_sendsIn_14 ?_
  obtain ⟨iw5, h⟩ := ck_some h
  obtain ⟨w5, ew5⟩ : ∃ y : Nat → Int32, y = upd f0 (3 : Int32).toNatClampNeg (r1 - r4) := ⟨_, rfl⟩
  replace h := bn_some h ew5
  refine tSt (ws2 := (wA cA 81 a0 w5)) C hw 0 rfl iw5 (by rw [ew5]; rfl) dX2_sendsIn_15 (fun H locs hw => ?_)
  refine lv_aload_n hx hb dX2_sendsIn_16 rfl (lv_at hl 0 rfl) ?_
  refine lv_iload_n hx hb dX2_sendsIn_17 rfl (lv_at hl 1 rfl) ?_
  refine lv_iconst (v := 3) hx hb dX2_sendsIn_18 (by decide) ?_
  obtain ⟨r6, hr6, h⟩ := cl_some h
  refine cSi (ws2 := (wA cA 81 a0 w5)) (As := [.int a_1, .int 3]) (rest := [.ref a0]) C hw jnE (kX2_ofR hr6) kl_RX2_44 kt_yX2_ofR kn_RX2 kc_yX2_ofR ⟨rfl, rfl⟩ hdX2_ofR ⟨Nat.le_of_ble_eq_true rfl, Nat.le_of_ble_eq_true rfl⟩ rfl hl.1 (Nat.le_of_ble_eq_true rfl) dX2_sendsIn_19 ⟨Nat.zero_le _, Nat.zero_le _⟩ (fun H locs hw => ?_)
  refine lv_iconst (v := 1) hx hb dX2_sendsIn_22 (by decide) ?_
  obtain ⟨iw7, h⟩ := ck_some h
  obtain ⟨w7, ew7⟩ : ∃ y : Nat → Int32, y = upd w5 (r6 : Int32).toNatClampNeg 1 := ⟨_, rfl⟩
  replace h := bn_some h ew7
  refine tSt (ws2 := (wA cA 81 a0 w7)) C hw 0 rfl iw7 (by rw [ew7]; rfl) dX2_sendsIn_23 (fun H locs hw => ?_)
  refine lv_aload_n hx hb dX2_sendsIn_24 rfl (lv_at hl 0 rfl) ?_
  refine lv_iload_n hx hb dX2_sendsIn_25 rfl (lv_at hl 1 rfl) ?_
  refine lv_iload_n hx hb dX2_sendsIn_26 rfl (lv_at hl 2 rfl) ?_
  obtain ⟨w8, hw8, h⟩ := cl_some h
  refine cSv (ws2 := (wA cA 81 a0 w8)) (As := [.ref a0, .int a_1, .int a_2]) (rest := []) C hw jnW (kX2_bursts a0 hw8) kl_RX2_72 kt_yX2_bursts kn_RX2 kc_yX2_bursts ⟨rfl, rfl⟩ hdX2_bursts ⟨Nat.le_of_ble_eq_true rfl, Nat.le_of_ble_eq_true rfl⟩ rfl hl.1 (Nat.le_of_ble_eq_true rfl) dX2_sendsIn_27 ⟨Nat.zero_le _, Nat.zero_le _⟩ (fun H locs hw => ?_)
  obtain rfl := some_e h
  exact rtV C hr hw dX2_sendsIn_30
abbrev rmX2_nextOf : Room := { frames := 2, cells := 0, slots := 0, locals := 42 }
theorem hdX2_nextOf : yX2_nextOf.cls ≠ "java/lang/invoke/MethodHandle" ∧ yX2_nextOf.cls ≠ "java/lang/invoke/VarHandle" ∧ (parseMethodDescriptor yX2_nextOf.desc).map (fun d => d.parameters.length) = some 1 := by decide +kernel
def GX2_nextOf_2 (p : Program) (l : Launch) (e : Env) (s : State) (m : MethodId) (args : Array Value) (below : List Frame) (meth : Method) (c : Code) (D : va_G) (cA : ClassId) (A : Nat → Prop) (a0 : Nat) (f0 : Nat → Int32) (z : Int32) (x : (Int32)) : Prop := ∀ (H : Heap) (locs : List Loc) (ls : Array Slot), Wd D A s.heap (wA cA 81 a0 f0) H locs → lv_has ls 2 [(0, .ref a0), (1, .int x)] → W p l e rmX2_nextOf s m args below meth c H locs 0 0 (MQ below (QI D cA A z (wA cA 81 a0 f0)) args s 0 0 A) (F0 m 2 ls [])
def fX2_nextOf_2 (f0 : Nat → Int32) (k2 : ((Int32)) → Option Int32) : ((Int32)) → Option Int32 := fun x_1 => rd 81 f0 0 (fun r1 => if r1 ≤ x_1 then some (-9) else cl (fX2_canGo f0 x_1) (fun r3 => if r3 = 0 then bn (x_1 + 1) (fun x5 => k2 x5) else some x_1))
def fX2_nextOf (f0 : Nat → Int32) : Option Int32 := lp (fX2_nextOf_2 f0) 5000 0
set_option maxHeartbeats 4000000 in
set_option maxRecDepth 100000 in
theorem kX2_nextOf_2 (C : Cx p s m args meth c cX2_nextOf 2 RX2 D cA g A) (hr : meth.sig.returnType = (some .int)) {z : Int32} (f0 : Nat → Int32) (k2 : ((Int32)) → Option Int32) (hk2 : ∀ x, k2 x = some z → GX2_nextOf_2 p l e s m args below meth c D cA A a0 f0 z x) (x : (Int32)) (h : fX2_nextOf_2 f0 k2 x = some z) : GX2_nextOf_2 p l e s m args below meth c D cA A a0 f0 z x := by
  obtain ⟨x_1, rfl⟩ : ∃ y, y = x := ⟨_, rfl⟩
  intro H locs ls hw hl
  have hw : Wd D A s.heap (wA cA 81 a0 f0) H locs := hw
  have hl : lv_has ls 2 [(0, .ref a0), (1, .int x_1)] := hl
  have hx := C.1.1
  have hb := C.1.2.1
  have h : (rd 81 f0 0 (fun r1 => if r1 ≤ x_1 then some (-9) else cl (fX2_canGo f0 x_1) (fun r3 => if r3 = 0 then bn (x_1 + 1) (fun x5 => k2 x5) else some x_1))) = some z := h
  refine lv_iload_n hx hb dX2_nextOf_2 rfl (lv_at hl 1 rfl) ?_
  refine lv_aload_n hx hb dX2_nextOf_3 rfl (lv_at hl 0 rfl) ?_
  refine lv_iconst (v := 0) hx hb dX2_nextOf_4 (by decide) ?_
  obtain ⟨r1, ir1, er1, h⟩ := rd_some h
  refine tLd C hw 0 rfl ir1 er1 dX2_nextOf_5 ?_
  refine lv_icmp_ge (tgt := 25) hx hb dX2_nextOf_6 (by decide) (fun c2 => ?_) (fun c2 => ?_)
  · replace h := (if_pos c2).symm.trans h
    refine lv_bipush (v := (-9)) hx hb dX2_nextOf_25 (by decide) ?_
    obtain rfl := some_e h
    exact rtI C hr hw dX2_nextOf_27
  · replace h := (if_neg c2).symm.trans h
    refine lv_aload_n hx hb dX2_nextOf_9 rfl (lv_at hl 0 rfl) ?_
    refine lv_iload_n hx hb dX2_nextOf_10 rfl (lv_at hl 1 rfl) ?_
    obtain ⟨r3, hr3, h⟩ := cl_some h
    refine cSi (ws2 := (wA cA 81 a0 f0)) (As := [.ref a0, .int x_1]) (rest := []) C hw jnW (kX2_canGo a0 hr3) kl_RX2_76 kt_yX2_canGo kn_RX2 kc_yX2_canGo ⟨rfl, rfl⟩ hdX2_canGo ⟨Nat.le_of_ble_eq_true rfl, Nat.le_of_ble_eq_true rfl⟩ rfl hl.1 (Nat.le_of_ble_eq_true rfl) dX2_nextOf_11 ⟨Nat.zero_le _, Nat.zero_le _⟩ (fun H locs hw => ?_)
    refine lv_if_eq (tgt := 19) hx hb dX2_nextOf_14 (by decide) (fun c4 => ?_) (fun c4 => ?_)
    · replace h := (if_pos c4).symm.trans h
      obtain ⟨x5, ex5⟩ : ∃ y : Int32, y = x_1 + 1 := ⟨_, rfl⟩
      replace h := bn_some h ex5
      refine lv_iinc (v := x5) (lv' := [(1, .int x5), (0, .ref a0)]) hx hb dX2_nextOf_19 hl (k := 1) rfl (by rw [ex5]; rfl) (by decide) rfl (fun ls hl => ?_)
      refine lv_goto (tgt := 2) hx hb dX2_nextOf_22 (by decide) ?_
      exact hk2 x5 h _ _ _ hw (lv_sub hl [1, 0] rfl)
    · replace h := (if_neg c4).symm.trans h
      refine lv_iload_n hx hb dX2_nextOf_17 rfl (lv_at hl 1 rfl) ?_
      obtain rfl := some_e h
      exact rtI C hr hw dX2_nextOf_18
theorem lX2_nextOf_2 (C : Cx p s m args meth c cX2_nextOf 2 RX2 D cA g A) (hr : meth.sig.returnType = (some .int)) {z : Int32} (f0 : Nat → Int32) (n : Nat) (x : (Int32)) (h : lp (fX2_nextOf_2 f0) n x = some z) : GX2_nextOf_2 p l e s m args below meth c D cA A a0 f0 z x := lp_ok (GX2_nextOf_2 p l e s m args below meth c D cA A a0 f0 z) (fun kq hkq x h => kX2_nextOf_2 C hr f0 kq hkq x h) n x h
set_option maxHeartbeats 4000000 in
set_option maxRecDepth 100000 in
theorem kX2_nextOf (a0 : Nat) {f0 : Nat → Int32} {z : Int32} (h : fX2_nextOf f0 = some z) : MI l D cA g yX2_nextOf (Cond.code yX2_nextOf cX2_nextOf 2 (some .int) :: lw_g) rmX2_nextOf [.ref a0] (wA cA 81 a0 f0) z (wA cA 81 a0 f0) := by
  intro sz
  refine Met.ofW (cc := cX2_nextOf) (maxL := 2) (ret := (some .int)) (by decide) rfl ?_
  intro p e s m args below meth c s₁ B hml hv
  obtain ⟨rfl, C, hr, hw⟩ := ent B hml hv
  generalize va_A (wA cA 81 a0 f0) sz = A at C hw ⊢
  have hl := lv_entry ([.ref a0]) (n := 2) (Nat.le_of_ble_eq_true rfl)
  rw [lg_entry_eq]
  generalize (lg_sl ([.ref a0]) ++ List.replicate (2 - (lg_sl ([.ref a0])).length) Slot.unset).toArray = ls at hl ⊢
  have hl : lv_has ls 2 [(0, .ref a0)] := hl
  have hx := C.1.1
  have hb := C.1.2.1
  have h : (lp (fX2_nextOf_2 f0) 5000 0) = some z := h
  refine lv_iconst (v := 0) hx hb dX2_nextOf_0 (by decide) ?_
  refine lv_istore_n (lv' := [(1, .int 0), (0, .ref a0)]) hx hb dX2_nextOf_1 rfl hl (by decide) rfl (fun ls hl => ?_)
  exact lX2_nextOf_2 C hr f0 5000 0 h _ _ _ hw (lv_sub hl [1, 0] rfl)
abbrev rmX2_night : Room := { frames := 5, cells := 0, slots := 0, locals := 113 }
theorem hdX2_night : yX2_night.cls ≠ "java/lang/invoke/MethodHandle" ∧ yX2_night.cls ≠ "java/lang/invoke/VarHandle" ∧ (parseMethodDescriptor yX2_night.desc).map (fun d => d.parameters.length) = some 2 := by decide +kernel
def GX2_night_57 (p : Program) (l : Launch) (e : Env) (s : State) (m : MethodId) (args : Array Value) (below : List Frame) (meth : Method) (c : Code) (D : va_G) (cA : ClassId) (A : Nat → Prop) (a0 : Nat) (z : (Nat → Int32)) (x : (Nat → Int32) × (Int32) × (Int32) × (Int32)) : Prop := ∀ (H : Heap) (locs : List Loc) (ls : Array Slot), Wd D A s.heap (wA cA 81 a0 x.1) H locs → lv_has ls 5 [(0, .ref a0), (1, .int x.2.1), (2, .int x.2.2.1), (3, .int x.2.2.2)] → W p l e rmX2_night s m args below meth c H locs 0 0 (MQ below (QV D cA A (wA cA 81 a0 z)) args s 0 0 A) (F0 m 57 ls [])
def GX2_night_18 (p : Program) (l : Launch) (e : Env) (s : State) (m : MethodId) (args : Array Value) (below : List Frame) (meth : Method) (c : Code) (D : va_G) (cA : ClassId) (A : Nat → Prop) (a0 : Nat) (z : (Nat → Int32)) (x : (Nat → Int32) × (Int32) × (Int32) × (Int32)) : Prop := ∀ (H : Heap) (locs : List Loc) (ls : Array Slot), Wd D A s.heap (wA cA 81 a0 x.1) H locs → lv_has ls 5 [(0, .ref a0), (1, .int x.2.1), (2, .int x.2.2.1), (3, .int x.2.2.2)] → W p l e rmX2_night s m args below meth c H locs 0 0 (MQ below (QV D cA A (wA cA 81 a0 z)) args s 0 0 A) (F0 m 18 ls [])
def GX2_night_9 (p : Program) (l : Launch) (e : Env) (s : State) (m : MethodId) (args : Array Value) (below : List Frame) (meth : Method) (c : Code) (D : va_G) (cA : ClassId) (A : Nat → Prop) (a0 : Nat) (z : (Nat → Int32)) (x : (Nat → Int32) × (Int32) × (Int32)) : Prop := ∀ (H : Heap) (locs : List Loc) (ls : Array Slot), Wd D A s.heap (wA cA 81 a0 x.1) H locs → lv_has ls 5 [(0, .ref a0), (1, .int x.2.1), (2, .int x.2.2)] → W p l e rmX2_night s m args below meth c H locs 0 0 (MQ below (QV D cA A (wA cA 81 a0 z)) args s 0 0 A) (F0 m 9 ls [])
def fX2_night_57 (k9 : ((Nat → Int32) × (Int32) × (Int32)) → Option (Nat → Int32)) (k18 : ((Nat → Int32) × (Int32) × (Int32) × (Int32)) → Option (Nat → Int32)) : ((Nat → Int32) × (Int32) × (Int32) × (Int32)) → Option (Nat → Int32) := fun x => match x with | (f0, x_1, x_2, x_3) => bn (x_3 + 1) (fun x1 => k18 (f0, x_1, x_2, x1))
def fX2_night_18 (k9 : ((Nat → Int32) × (Int32) × (Int32)) → Option (Nat → Int32)) (k18 : ((Nat → Int32) × (Int32) × (Int32) × (Int32)) → Option (Nat → Int32)) : ((Nat → Int32) × (Int32) × (Int32) × (Int32)) → Option (Nat → Int32) := fun x => match x with | (f0, x_1, x_2, x_3) => if 6 ≤ x_3 then bn (x_2 + 1) (fun x2 => k9 (f0, x_1, x2)) else cl (fX2_ofP x_2 ((2 : Int32) + x_3)) (fun r3 => rd 81 f0 r3 (fun r4 => if r4 ≤ 0 then fX2_night_57 k9 k18 (f0, x_1, x_2, x_3) else rd 81 f0 r3 (fun r6 => if 99 ≤ r6 then fX2_night_57 k9 k18 (f0, x_1, x_2, x_3) else rd 81 f0 r3 (fun r8 => ck 81 r3 (bn (upd f0 (r3 : Int32).toNatClampNeg (r8 - (1 : Int32))) (fun w9 => fX2_night_57 k9 k18 (w9, x_1, x_2, x_3)))))))
def fX2_night_9 (k9 : ((Nat → Int32) × (Int32) × (Int32)) → Option (Nat → Int32)) : ((Nat → Int32) × (Int32) × (Int32)) → Option (Nat → Int32) := fun x => match x with | (f0, x_1, x_2) => rd 81 f0 1 (fun r1 => if r1 ≤ x_2 then cl (fX2_nextOf f0) (fun r3 => if r3 < 0 then some f0 else cl (fX2_sendsIn f0 r3 x_1) (fun w5 => some w5)) else lp (fX2_night_18 k9) 5000 (f0, x_1, x_2, 0))
def fX2_night (f0 : Nat → Int32) (a_1 : Int32) : Option (Nat → Int32) := rd 81 f0 2 (fun r1 => ck 81 2 (bn (upd f0 (2 : Int32).toNatClampNeg (r1 + (1 : Int32))) (fun w2 => lp (fX2_night_9) 5000 (w2, a_1, 0))))
set_option maxHeartbeats 4000000 in
set_option maxRecDepth 100000 in
theorem kX2_night_57 (C : Cx p s m args meth c cX2_night 5 RX2 D cA g A) (hr : meth.sig.returnType = none) {z : (Nat → Int32)} (k9 : ((Nat → Int32) × (Int32) × (Int32)) → Option (Nat → Int32)) (hk9 : ∀ x, k9 x = some z → GX2_night_9 p l e s m args below meth c D cA A a0 z x) (k18 : ((Nat → Int32) × (Int32) × (Int32) × (Int32)) → Option (Nat → Int32)) (hk18 : ∀ x, k18 x = some z → GX2_night_18 p l e s m args below meth c D cA A a0 z x) (x : (Nat → Int32) × (Int32) × (Int32) × (Int32)) (h : fX2_night_57 k9 k18 x = some z) : GX2_night_57 p l e s m args below meth c D cA A a0 z x := by
  obtain ⟨f0, x_1, x_2, x_3⟩ := x
  intro H locs ls hw hl
  have hw : Wd D A s.heap (wA cA 81 a0 f0) H locs := hw
  have hl : lv_has ls 5 [(0, .ref a0), (1, .int x_1), (2, .int x_2), (3, .int x_3)] := hl
  have hx := C.1.1
  have hb := C.1.2.1
  have h : (bn (x_3 + 1) (fun x1 => k18 (f0, x_1, x_2, x1))) = some z := h
  obtain ⟨x1, ex1⟩ : ∃ y : Int32, y = x_3 + 1 := ⟨_, rfl⟩
  replace h := bn_some h ex1
  refine lv_iinc (v := x1) (lv' := [(3, .int x1), (0, .ref a0), (1, .int x_1), (2, .int x_2)]) hx hb dX2_night_57 hl (k := 3) rfl (by rw [ex1]; rfl) (by decide) rfl (fun ls hl => ?_)
  refine lv_goto (tgt := 18) hx hb dX2_night_60 (by decide) ?_
  exact hk18 (f0, x_1, x_2, x1) h _ _ _ hw (lv_sub hl [1, 2, 3, 0] rfl)
set_option maxHeartbeats 4000000 in
set_option maxRecDepth 100000 in
theorem kX2_night_18 (C : Cx p s m args meth c cX2_night 5 RX2 D cA g A) (hr : meth.sig.returnType = none) {z : (Nat → Int32)} (k9 : ((Nat → Int32) × (Int32) × (Int32)) → Option (Nat → Int32)) (hk9 : ∀ x, k9 x = some z → GX2_night_9 p l e s m args below meth c D cA A a0 z x) (k18 : ((Nat → Int32) × (Int32) × (Int32) × (Int32)) → Option (Nat → Int32)) (hk18 : ∀ x, k18 x = some z → GX2_night_18 p l e s m args below meth c D cA A a0 z x) (x : (Nat → Int32) × (Int32) × (Int32) × (Int32)) (h : fX2_night_18 k9 k18 x = some z) : GX2_night_18 p l e s m args below meth c D cA A a0 z x := by
  obtain ⟨f0, x_1, x_2, x_3⟩ := x
  intro H locs ls hw hl
  have hw : Wd D A s.heap (wA cA 81 a0 f0) H locs := hw
  have hl : lv_has ls 5 [(0, .ref a0), (1, .int x_1), (2, .int x_2), (3, .int x_3)] := hl
  have hx := C.1.1
  have hb := C.1.2.1
  have h : (if 6 ≤ x_3 then bn (x_2 + 1) (fun x2 => k9 (f0, x_1, x2)) else cl (fX2_ofP x_2 ((2 : Int32) + x_3)) (fun r3 => rd 81 f0 r3 (fun r4 => if r4 ≤ 0 then fX2_night_57 k9 k18 (f0, x_1, x_2, x_3) else rd 81 f0 r3 (fun r6 => if 99 ≤ r6 then fX2_night_57 k9 k18 (f0, x_1, x_2, x_3) else rd 81 f0 r3 (fun r8 => ck 81 r3 (bn (upd f0 (r3 : Int32).toNatClampNeg (r8 - (1 : Int32))) (fun w9 => fX2_night_57 k9 k18 (w9, x_1, x_2, x_3)))))))) = some z := h
  refine lv_iload_n hx hb dX2_night_18 rfl (lv_at hl 3 rfl) ?_
  refine lv_bipush (v := 6) hx hb dX2_night_19 (by decide) ?_
  refine lv_icmp_ge (tgt := 63) hx hb dX2_night_21 (by decide) (fun c1 => ?_) (fun c1 => ?_)
  · replace h := (if_pos c1).symm.trans h
    obtain ⟨x2, ex2⟩ : ∃ y : Int32, y = x_2 + 1 := ⟨_, rfl⟩
    replace h := bn_some h ex2
    refine lv_iinc (v := x2) (lv' := [(2, .int x2), (0, .ref a0), (1, .int x_1), (3, .int x_3)]) hx hb dX2_night_63 hl (k := 2) rfl (by rw [ex2]; rfl) (by decide) rfl (fun ls hl => ?_)
    refine lv_goto (tgt := 9) hx hb dX2_night_66 (by decide) ?_
    exact hk9 (f0, x_1, x2) h _ _ _ hw (lv_sub hl [1, 2, 0] rfl)
  · replace h := (if_neg c1).symm.trans h
    refine lv_iload_n hx hb dX2_night_24 rfl (lv_at hl 2 rfl) ?_
    refine lv_iconst (v := 2) hx hb dX2_night_25 (by decide) ?_
    refine lv_iload_n hx hb dX2_night_26 rfl (lv_at hl 3 rfl) ?_
    refine lv_iadd hx hb dX2_night_27 ?_
    obtain ⟨r3, hr3, h⟩ := cl_some h
    refine cSi (ws2 := (wA cA 81 a0 f0)) (As := [.int x_2, .int ((2 : Int32) + x_3)]) (rest := []) C hw jnE (kX2_ofP hr3) kl_RX2_48 kt_yX2_ofP kn_RX2 kc_yX2_ofP ⟨rfl, rfl⟩ hdX2_ofP ⟨Nat.le_of_ble_eq_true rfl, Nat.le_of_ble_eq_true rfl⟩ rfl hl.1 (Nat.le_of_ble_eq_true rfl) dX2_night_28 ⟨Nat.zero_le _, Nat.zero_le _⟩ (fun H locs hw => ?_)
    refine lv_istore (lv' := [(4, .int r3), (0, .ref a0), (1, .int x_1), (2, .int x_2), (3, .int x_3)]) hx hb dX2_night_31 hl (by decide) rfl (fun ls hl => ?_)
    refine lv_aload_n hx hb dX2_night_33 rfl (lv_at hl 1 rfl) ?_
    refine lv_iload hx hb dX2_night_34 (lv_at hl 0 rfl) ?_
    obtain ⟨r4, ir4, er4, h⟩ := rd_some h
    refine tLd C hw 0 rfl ir4 er4 dX2_night_36 ?_
    refine lv_if_le (tgt := 57) hx hb dX2_night_37 (by decide) (fun c5 => ?_) (fun c5 => ?_)
    · replace h := (if_pos c5).symm.trans h
      exact kX2_night_57 C hr k9 hk9 k18 hk18 (f0, x_1, x_2, x_3) h _ _ _ hw (lv_sub hl [1, 2, 3, 4] rfl)
    · replace h := (if_neg c5).symm.trans h
      refine lv_aload_n hx hb dX2_night_40 rfl (lv_at hl 1 rfl) ?_
      refine lv_iload hx hb dX2_night_41 (lv_at hl 0 rfl) ?_
      obtain ⟨r6, ir6, er6, h⟩ := rd_some h
      refine tLd C hw 0 rfl ir6 er6 dX2_night_43 ?_
      refine lv_bipush (v := 99) hx hb dX2_night_44 (by decide) ?_
      refine lv_icmp_ge (tgt := 57) hx hb dX2_night_46 (by decide) (fun c7 => ?_) (fun c7 => ?_)
      · replace h := (if_pos c7).symm.trans h
        exact kX2_night_57 C hr k9 hk9 k18 hk18 (f0, x_1, x_2, x_3) h _ _ _ hw (lv_sub hl [1, 2, 3, 4] rfl)
      · replace h := (if_neg c7).symm.trans h
        refine lv_aload_n hx hb dX2_night_49 rfl (lv_at hl 1 rfl) ?_
        refine lv_iload hx hb dX2_night_50 (lv_at hl 0 rfl) ?_
        refine lv_dup2_11 hx hb dX2_night_52 rfl rfl ?_
        obtain ⟨r8, ir8, er8, h⟩ := rd_some h
        refine tLd C hw 0 rfl ir8 er8 dX2_night_53 ?_
        refine lv_iconst (v := 1) hx hb dX2_night_54 (by decide) ?_
        refine lv_isub hx hb dX2_night_55 ?_
        obtain ⟨iw9, h⟩ := ck_some h
        obtain ⟨w9, ew9⟩ : ∃ y : Nat → Int32, y = upd f0 (r3 : Int32).toNatClampNeg (r8 - (1 : Int32)) := ⟨_, rfl⟩
        replace h := bn_some h ew9
        refine tSt (ws2 := (wA cA 81 a0 w9)) C hw 0 rfl iw9 (by rw [ew9]; rfl) dX2_night_56 (fun H locs hw => ?_)
        exact kX2_night_57 C hr k9 hk9 k18 hk18 (w9, x_1, x_2, x_3) h _ _ _ hw (lv_sub hl [1, 2, 3, 4] rfl)
theorem lX2_night_18 (C : Cx p s m args meth c cX2_night 5 RX2 D cA g A) (hr : meth.sig.returnType = none) {z : (Nat → Int32)} (k9 : ((Nat → Int32) × (Int32) × (Int32)) → Option (Nat → Int32)) (hk9 : ∀ x, k9 x = some z → GX2_night_9 p l e s m args below meth c D cA A a0 z x) (n : Nat) (x : (Nat → Int32) × (Int32) × (Int32) × (Int32)) (h : lp (fX2_night_18 k9) n x = some z) : GX2_night_18 p l e s m args below meth c D cA A a0 z x := lp_ok (GX2_night_18 p l e s m args below meth c D cA A a0 z) (fun kq hkq x h => kX2_night_18 C hr k9 hk9 kq hkq x h) n x h
set_option maxHeartbeats 4000000 in
set_option maxRecDepth 100000 in
theorem kX2_night_9 (C : Cx p s m args meth c cX2_night 5 RX2 D cA g A) (hr : meth.sig.returnType = none) {z : (Nat → Int32)} (k9 : ((Nat → Int32) × (Int32) × (Int32)) → Option (Nat → Int32)) (hk9 : ∀ x, k9 x = some z → GX2_night_9 p l e s m args below meth c D cA A a0 z x) (x : (Nat → Int32) × (Int32) × (Int32)) (h : fX2_night_9 k9 x = some z) : GX2_night_9 p l e s m args below meth c D cA A a0 z x := by
  obtain ⟨f0, x_1, x_2⟩ := x
  intro H locs ls hw hl
  have hw : Wd D A s.heap (wA cA 81 a0 f0) H locs := hw
  have hl : lv_has ls 5 [(0, .ref a0), (1, .int x_1), (2, .int x_2)] := hl
  have hx := C.1.1
  have hb := C.1.2.1
  have h : (rd 81 f0 1 (fun r1 => if r1 ≤ x_2 then cl (fX2_nextOf f0) (fun r3 => if r3 < 0 then some f0 else cl (fX2_sendsIn f0 r3 x_1) (fun w5 => some w5)) else lp (fX2_night_18 k9) 5000 (f0, x_1, x_2, 0))) = some z := h
  refine lv_iload_n hx hb dX2_night_9 rfl (lv_at hl 2 rfl) ?_
  refine lv_aload_n hx hb dX2_night_10 rfl (lv_at hl 0 rfl) ?_
  refine lv_iconst (v := 1) hx hb dX2_night_11 (by decide) ?_
  obtain ⟨r1, ir1, er1, h⟩ := rd_some h
  refine tLd C hw 0 rfl ir1 er1 dX2_night_12 ?_
  refine lv_icmp_ge (tgt := 69) hx hb dX2_night_13 (by decide) (fun c2 => ?_) (fun c2 => ?_)
  · replace h := (if_pos c2).symm.trans h
    refine lv_aload_n hx hb dX2_night_69 rfl (lv_at hl 0 rfl) ?_
    obtain ⟨r3, hr3, h⟩ := cl_some h
    refine cSi (ws2 := (wA cA 81 a0 f0)) (As := [.ref a0]) (rest := []) C hw jnW (kX2_nextOf a0 hr3) kl_RX2_80 kt_yX2_nextOf kn_RX2 kc_yX2_nextOf ⟨rfl, rfl⟩ hdX2_nextOf ⟨Nat.le_of_ble_eq_true rfl, Nat.le_of_ble_eq_true rfl⟩ rfl hl.1 (Nat.le_of_ble_eq_true rfl) dX2_night_70 ⟨Nat.zero_le _, Nat.zero_le _⟩ (fun H locs hw => ?_)
    refine lv_istore_n (lv' := [(2, .int r3), (0, .ref a0), (1, .int x_1)]) hx hb dX2_night_73 rfl hl (by decide) rfl (fun ls hl => ?_)
    refine lv_iload_n hx hb dX2_night_74 rfl (lv_at hl 0 rfl) ?_
    refine lv_if_lt (tgt := 84) hx hb dX2_night_75 (by decide) (fun c4 => ?_) (fun c4 => ?_)
    · replace h := (if_pos c4).symm.trans h
      obtain rfl := some_e h
      exact rtV C hr hw dX2_night_84
    · replace h := (if_neg c4).symm.trans h
      refine lv_aload_n hx hb dX2_night_78 rfl (lv_at hl 1 rfl) ?_
      refine lv_iload_n hx hb dX2_night_79 rfl (lv_at hl 0 rfl) ?_
      refine lv_iload_n hx hb dX2_night_80 rfl (lv_at hl 2 rfl) ?_
      obtain ⟨w5, hw5, h⟩ := cl_some h
      refine cSv (ws2 := (wA cA 81 a0 w5)) (As := [.ref a0, .int r3, .int x_1]) (rest := []) C hw jnW (kX2_sendsIn a0 hw5) kl_RX2_84 kt_yX2_sendsIn kn_RX2 kc_yX2_sendsIn ⟨rfl, rfl⟩ hdX2_sendsIn ⟨Nat.le_of_ble_eq_true rfl, Nat.le_of_ble_eq_true rfl⟩ rfl hl.1 (Nat.le_of_ble_eq_true rfl) dX2_night_81 ⟨Nat.zero_le _, Nat.zero_le _⟩ (fun H locs hw => ?_)
      obtain rfl := some_e h
      exact rtV C hr hw dX2_night_84
  · replace h := (if_neg c2).symm.trans h
    refine lv_iconst (v := 0) hx hb dX2_night_16 (by decide) ?_
    refine lv_istore_n (lv' := [(3, .int 0), (0, .ref a0), (1, .int x_1), (2, .int x_2)]) hx hb dX2_night_17 rfl hl (by decide) rfl (fun ls hl => ?_)
    exact lX2_night_18 C hr k9 hk9 5000 (f0, x_1, x_2, 0) h _ _ _ hw (lv_sub hl [1, 2, 3, 0] rfl)
theorem lX2_night_9 (C : Cx p s m args meth c cX2_night 5 RX2 D cA g A) (hr : meth.sig.returnType = none) {z : (Nat → Int32)} (n : Nat) (x : (Nat → Int32) × (Int32) × (Int32)) (h : lp (fX2_night_9) n x = some z) : GX2_night_9 p l e s m args below meth c D cA A a0 z x := lp_ok (GX2_night_9 p l e s m args below meth c D cA A a0 z) (fun kq hkq x h => kX2_night_9 C hr kq hkq x h) n x h
set_option maxHeartbeats 4000000 in
set_option maxRecDepth 100000 in
theorem kX2_night (a0 : Nat) {f0 : Nat → Int32} {a_1 : Int32} {z : (Nat → Int32)} (h : fX2_night f0 a_1 = some z) : MV l D cA g yX2_night (Cond.code yX2_night cX2_night 5 none :: lw_g) rmX2_night [.ref a0, .int a_1] (wA cA 81 a0 f0) (wA cA 81 a0 z) := by
  intro sz
  refine Met.ofW (cc := cX2_night) (maxL := 5) (ret := none) (by decide) rfl ?_
  intro p e s m args below meth c s₁ B hml hv
  obtain ⟨rfl, C, hr, hw⟩ := ent B hml hv
  generalize va_A (wA cA 81 a0 f0) sz = A at C hw ⊢
  have hl := lv_entry ([.ref a0, .int a_1]) (n := 5) (Nat.le_of_ble_eq_true rfl)
  rw [lg_entry_eq]
  generalize (lg_sl ([.ref a0, .int a_1]) ++ List.replicate (5 - (lg_sl ([.ref a0, .int a_1])).length) Slot.unset).toArray = ls at hl ⊢
  have hl : lv_has ls 5 [(0, .ref a0), (1, .int a_1)] := hl
  have hx := C.1.1
  have hb := C.1.2.1
  have h : (rd 81 f0 2 (fun r1 => ck 81 2 (bn (upd f0 (2 : Int32).toNatClampNeg (r1 + (1 : Int32))) (fun w2 => lp (fX2_night_9) 5000 (w2, a_1, 0))))) = some z := h
  refine lv_aload_n hx hb dX2_night_0 rfl (lv_at hl 0 rfl) ?_
  refine lv_iconst (v := 2) hx hb dX2_night_1 (by decide) ?_
  refine lv_dup2_11 hx hb dX2_night_2 rfl rfl ?_
  obtain ⟨r1, ir1, er1, h⟩ := rd_some h
  refine tLd C hw 0 rfl ir1 er1 dX2_night_3 ?_
  refine lv_iconst (v := 1) hx hb dX2_night_4 (by decide) ?_
  refine lv_iadd hx hb dX2_night_5 ?_
  obtain ⟨iw2, h⟩ := ck_some h
  obtain ⟨w2, ew2⟩ : ∃ y : Nat → Int32, y = upd f0 (2 : Int32).toNatClampNeg (r1 + (1 : Int32)) := ⟨_, rfl⟩
  replace h := bn_some h ew2
  refine tSt (ws2 := (wA cA 81 a0 w2)) C hw 0 rfl iw2 (by rw [ew2]; rfl) dX2_night_6 (fun H locs hw => ?_)
  refine lv_iconst (v := 0) hx hb dX2_night_7 (by decide) ?_
  refine lv_istore_n (lv' := [(2, .int 0), (0, .ref a0), (1, .int a_1)]) hx hb dX2_night_8 rfl hl (by decide) rfl (fun ls hl => ?_)
  exact lX2_night_9 C hr 5000 (w2, a_1, 0) h _ _ _ hw (lv_sub hl [1, 2, 0] rfl)
abbrev rmX2_nightsOn : Room := { frames := 6, cells := 0, slots := 0, locals := 137 }
theorem hdX2_nightsOn : yX2_nightsOn.cls ≠ "java/lang/invoke/MethodHandle" ∧ yX2_nightsOn.cls ≠ "java/lang/invoke/VarHandle" ∧ (parseMethodDescriptor yX2_nightsOn.desc).map (fun d => d.parameters.length) = some 3 := by decide +kernel
def GX2_nightsOn_2 (p : Program) (l : Launch) (e : Env) (s : State) (m : MethodId) (args : Array Value) (below : List Frame) (meth : Method) (c : Code) (D : va_G) (cA : ClassId) (A : Nat → Prop) (a0 : Nat) (z : (Nat → Int32)) (x : (Nat → Int32) × (Int32) × (Int32) × (Int32)) : Prop := ∀ (H : Heap) (locs : List Loc) (ls : Array Slot), Wd D A s.heap (wA cA 81 a0 x.1) H locs → lv_has ls 4 [(0, .ref a0), (1, .int x.2.1), (2, .int x.2.2.1), (3, .int x.2.2.2)] → W p l e rmX2_nightsOn s m args below meth c H locs 0 0 (MQ below (QV D cA A (wA cA 81 a0 z)) args s 0 0 A) (F0 m 2 ls [])
def fX2_nightsOn_2 (k2 : ((Nat → Int32) × (Int32) × (Int32) × (Int32)) → Option (Nat → Int32)) : ((Nat → Int32) × (Int32) × (Int32) × (Int32)) → Option (Nat → Int32) := fun x => match x with | (f0, x_1, x_2, x_3) => if x_1 ≤ x_3 then some f0 else cl (fX2_night f0 x_2) (fun w2 => bn (x_3 + 1) (fun x3 => k2 (w2, x_1, x_2, x3)))
def fX2_nightsOn (f0 : Nat → Int32) (a_1 : Int32) (a_2 : Int32) : Option (Nat → Int32) := lp (fX2_nightsOn_2) 5000 (f0, a_1, a_2, 0)
set_option maxHeartbeats 4000000 in
set_option maxRecDepth 100000 in
theorem kX2_nightsOn_2 (C : Cx p s m args meth c cX2_nightsOn 4 RX2 D cA g A) (hr : meth.sig.returnType = none) {z : (Nat → Int32)} (k2 : ((Nat → Int32) × (Int32) × (Int32) × (Int32)) → Option (Nat → Int32)) (hk2 : ∀ x, k2 x = some z → GX2_nightsOn_2 p l e s m args below meth c D cA A a0 z x) (x : (Nat → Int32) × (Int32) × (Int32) × (Int32)) (h : fX2_nightsOn_2 k2 x = some z) : GX2_nightsOn_2 p l e s m args below meth c D cA A a0 z x := by
  obtain ⟨f0, x_1, x_2, x_3⟩ := x
  intro H locs ls hw hl
  have hw : Wd D A s.heap (wA cA 81 a0 f0) H locs := hw
  have hl : lv_has ls 4 [(0, .ref a0), (1, .int x_1), (2, .int x_2), (3, .int x_3)] := hl
  have hx := C.1.1
  have hb := C.1.2.1
  have h : (if x_1 ≤ x_3 then some f0 else cl (fX2_night f0 x_2) (fun w2 => bn (x_3 + 1) (fun x3 => k2 (w2, x_1, x_2, x3)))) = some z := h
  refine lv_iload_n hx hb dX2_nightsOn_2 rfl (lv_at hl 3 rfl) ?_
  refine lv_iload_n hx hb dX2_nightsOn_3 rfl (lv_at hl 1 rfl) ?_
  refine lv_icmp_ge (tgt := 18) hx hb dX2_nightsOn_4 (by decide) (fun c1 => ?_) (fun c1 => ?_)
  · replace h := (if_pos c1).symm.trans h
    obtain rfl := some_e h
    exact rtV C hr hw dX2_nightsOn_18
  · replace h := (if_neg c1).symm.trans h
    refine lv_aload_n hx hb dX2_nightsOn_7 rfl (lv_at hl 0 rfl) ?_
    refine lv_iload_n hx hb dX2_nightsOn_8 rfl (lv_at hl 2 rfl) ?_
    obtain ⟨w2, hw2, h⟩ := cl_some h
    refine cSv (ws2 := (wA cA 81 a0 w2)) (As := [.ref a0, .int x_2]) (rest := []) C hw jnW (kX2_night a0 hw2) kl_RX2_87 kt_yX2_night kn_RX2 kc_yX2_night ⟨rfl, rfl⟩ hdX2_night ⟨Nat.le_of_ble_eq_true rfl, Nat.le_of_ble_eq_true rfl⟩ rfl hl.1 (Nat.le_of_ble_eq_true rfl) dX2_nightsOn_9 ⟨Nat.zero_le _, Nat.zero_le _⟩ (fun H locs hw => ?_)
    obtain ⟨x3, ex3⟩ : ∃ y : Int32, y = x_3 + 1 := ⟨_, rfl⟩
    replace h := bn_some h ex3
    refine lv_iinc (v := x3) (lv' := [(3, .int x3), (0, .ref a0), (1, .int x_1), (2, .int x_2)]) hx hb dX2_nightsOn_12 hl (k := 3) rfl (by rw [ex3]; rfl) (by decide) rfl (fun ls hl => ?_)
    refine lv_goto (tgt := 2) hx hb dX2_nightsOn_15 (by decide) ?_
    exact hk2 (w2, x_1, x_2, x3) h _ _ _ hw (lv_sub hl [1, 2, 3, 0] rfl)
theorem lX2_nightsOn_2 (C : Cx p s m args meth c cX2_nightsOn 4 RX2 D cA g A) (hr : meth.sig.returnType = none) {z : (Nat → Int32)} (n : Nat) (x : (Nat → Int32) × (Int32) × (Int32) × (Int32)) (h : lp (fX2_nightsOn_2) n x = some z) : GX2_nightsOn_2 p l e s m args below meth c D cA A a0 z x := lp_ok (GX2_nightsOn_2 p l e s m args below meth c D cA A a0 z) (fun kq hkq x h => kX2_nightsOn_2 C hr kq hkq x h) n x h
set_option maxHeartbeats 4000000 in
set_option maxRecDepth 100000 in
theorem kX2_nightsOn (a0 : Nat) {f0 : Nat → Int32} {a_1 : Int32} {a_2 : Int32} {z : (Nat → Int32)} (h : fX2_nightsOn f0 a_1 a_2 = some z) : MV l D cA g yX2_nightsOn (Cond.code yX2_nightsOn cX2_nightsOn 4 none :: lw_g) rmX2_nightsOn [.ref a0, .int a_1, .int a_2] (wA cA 81 a0 f0) (wA cA 81 a0 z) := by
  intro sz
  refine Met.ofW (cc := cX2_nightsOn) (maxL := 4) (ret := none) (by decide) rfl ?_
  intro p e s m args below meth c s₁ B hml hv
  obtain ⟨rfl, C, hr, hw⟩ := ent B hml hv
  generalize va_A (wA cA 81 a0 f0) sz = A at C hw ⊢
  have hl := lv_entry ([.ref a0, .int a_1, .int a_2]) (n := 4) (Nat.le_of_ble_eq_true rfl)
  rw [lg_entry_eq]
  generalize (lg_sl ([.ref a0, .int a_1, .int a_2]) ++ List.replicate (4 - (lg_sl ([.ref a0, .int a_1, .int a_2])).length) Slot.unset).toArray = ls at hl ⊢
  have hl : lv_has ls 4 [(0, .ref a0), (1, .int a_1), (2, .int a_2)] := hl
  have hx := C.1.1
  have hb := C.1.2.1
  have h : (lp (fX2_nightsOn_2) 5000 (f0, a_1, a_2, 0)) = some z := h
  refine lv_iconst (v := 0) hx hb dX2_nightsOn_0 (by decide) ?_
  refine lv_istore_n (lv' := [(3, .int 0), (0, .ref a0), (1, .int a_1), (2, .int a_2)]) hx hb dX2_nightsOn_1 rfl hl (by decide) rfl (fun ls hl => ?_)
  exact lX2_nightsOn_2 C hr 5000 (f0, a_1, a_2, 0) h _ _ _ hw (lv_sub hl [1, 2, 3, 0] rfl)
abbrev rmX2_wordsOf : Room := { frames := 1, cells := 0, slots := 0, locals := 21 }
theorem hdX2_wordsOf : yX2_wordsOf.cls ≠ "java/lang/invoke/MethodHandle" ∧ yX2_wordsOf.cls ≠ "java/lang/invoke/VarHandle" ∧ (parseMethodDescriptor yX2_wordsOf.desc).map (fun d => d.parameters.length) = some 2 := by decide +kernel
def GX2_wordsOf_30 (p : Program) (l : Launch) (e : Env) (s : State) (m : MethodId) (args : Array Value) (below : List Frame) (meth : Method) (c : Code) (D : va_G) (cA : ClassId) (A : Nat → Prop) (a0 : Nat) (f0 : Nat → Int32) (z : Int32) (x : (Int32) × (Int32) × (Int32) × (Int32)) : Prop := ∀ (H : Heap) (locs : List Loc) (ls : Array Slot), Wd D A s.heap (wA cA 81 a0 f0) H locs → lv_has ls 4 [(0, .ref a0), (1, .int x.1), (3, .int x.2.1)] → W p l e rmX2_wordsOf s m args below meth c H locs 0 0 (MQ below (QI D cA A z (wA cA 81 a0 f0)) args s 0 0 A) (F0 m 30 ls [.int x.2.2.1, .int x.2.2.2])
def GX2_wordsOf_4 (p : Program) (l : Launch) (e : Env) (s : State) (m : MethodId) (args : Array Value) (below : List Frame) (meth : Method) (c : Code) (D : va_G) (cA : ClassId) (A : Nat → Prop) (a0 : Nat) (f0 : Nat → Int32) (z : Int32) (x : (Int32) × (Int32) × (Int32)) : Prop := ∀ (H : Heap) (locs : List Loc) (ls : Array Slot), Wd D A s.heap (wA cA 81 a0 f0) H locs → lv_has ls 4 [(0, .ref a0), (1, .int x.1), (2, .int x.2.1), (3, .int x.2.2)] → W p l e rmX2_wordsOf s m args below meth c H locs 0 0 (MQ below (QI D cA A z (wA cA 81 a0 f0)) args s 0 0 A) (F0 m 4 ls [])
def fX2_wordsOf_30 (f0 : Nat → Int32) (k4 : ((Int32) × (Int32) × (Int32)) → Option Int32) : ((Int32) × (Int32) × (Int32) × (Int32)) → Option Int32 := fun x => match x with | (x_1, x_3, y_0, y_1) => bn (y_1 ||| y_0) (fun x1 => bn (x_3 + 1) (fun x2 => k4 (x_1, x1, x2)))
def fX2_wordsOf_4 (f0 : Nat → Int32) (k4 : ((Int32) × (Int32) × (Int32)) → Option Int32) : ((Int32) × (Int32) × (Int32)) → Option Int32 := fun x => match x with | (x_1, x_2, x_3) => if 6 ≤ x_3 then some x_2 else cl (fX2_ofP x_1 ((2 : Int32) + x_3)) (fun r2 => rd 81 f0 r2 (fun r3 => if r3 ≤ 0 then fX2_wordsOf_30 f0 k4 (x_1, x_3, 0, x_2) else fX2_wordsOf_30 f0 k4 (x_1, x_3, ((1 : Int32) <<< (x_3 &&& 31)), x_2)))
def fX2_wordsOf (f0 : Nat → Int32) (a_1 : Int32) : Option Int32 := lp (fX2_wordsOf_4 f0) 5000 (a_1, 0, 0)
set_option maxHeartbeats 4000000 in
set_option maxRecDepth 100000 in
theorem kX2_wordsOf_30 (C : Cx p s m args meth c cX2_wordsOf 4 RX2 D cA g A) (hr : meth.sig.returnType = (some .int)) {z : Int32} (f0 : Nat → Int32) (k4 : ((Int32) × (Int32) × (Int32)) → Option Int32) (hk4 : ∀ x, k4 x = some z → GX2_wordsOf_4 p l e s m args below meth c D cA A a0 f0 z x) (x : (Int32) × (Int32) × (Int32) × (Int32)) (h : fX2_wordsOf_30 f0 k4 x = some z) : GX2_wordsOf_30 p l e s m args below meth c D cA A a0 f0 z x := by
  obtain ⟨x_1, x_3, y_0, y_1⟩ := x
  intro H locs ls hw hl
  have hw : Wd D A s.heap (wA cA 81 a0 f0) H locs := hw
  have hl : lv_has ls 4 [(0, .ref a0), (1, .int x_1), (3, .int x_3)] := hl
  show W p l e rmX2_wordsOf s m args below meth c H locs 0 0 (MQ below (QI D cA A z (wA cA 81 a0 f0)) args s 0 0 A) (F0 m 30 ls [.int y_0, .int y_1])
  have hx := C.1.1
  have hb := C.1.2.1
  have h : (bn (y_1 ||| y_0) (fun x1 => bn (x_3 + 1) (fun x2 => k4 (x_1, x1, x2)))) = some z := h
  refine lv_ior hx hb dX2_wordsOf_30 ?_
  refine lv_topi (fun x1 ex1 => ?_)
  replace h := bn_some h ex1
  refine lv_istore_n (lv' := [(2, .int x1), (0, .ref a0), (1, .int x_1), (3, .int x_3)]) hx hb dX2_wordsOf_31 rfl hl (by decide) rfl (fun ls hl => ?_)
  obtain ⟨x2, ex2⟩ : ∃ y : Int32, y = x_3 + 1 := ⟨_, rfl⟩
  replace h := bn_some h ex2
  refine lv_iinc (v := x2) (lv' := [(3, .int x2), (2, .int x1), (0, .ref a0), (1, .int x_1)]) hx hb dX2_wordsOf_32 hl (k := 3) rfl (by rw [ex2]; rfl) (by decide) rfl (fun ls hl => ?_)
  refine lv_goto (tgt := 4) hx hb dX2_wordsOf_35 (by decide) ?_
  exact hk4 (x_1, x1, x2) h _ _ _ hw (lv_sub hl [2, 3, 1, 0] rfl)
set_option maxHeartbeats 4000000 in
set_option maxRecDepth 100000 in
theorem kX2_wordsOf_4 (C : Cx p s m args meth c cX2_wordsOf 4 RX2 D cA g A) (hr : meth.sig.returnType = (some .int)) {z : Int32} (f0 : Nat → Int32) (k4 : ((Int32) × (Int32) × (Int32)) → Option Int32) (hk4 : ∀ x, k4 x = some z → GX2_wordsOf_4 p l e s m args below meth c D cA A a0 f0 z x) (x : (Int32) × (Int32) × (Int32)) (h : fX2_wordsOf_4 f0 k4 x = some z) : GX2_wordsOf_4 p l e s m args below meth c D cA A a0 f0 z x := by
  obtain ⟨x_1, x_2, x_3⟩ := x
  intro H locs ls hw hl
  have hw : Wd D A s.heap (wA cA 81 a0 f0) H locs := hw
  have hl : lv_has ls 4 [(0, .ref a0), (1, .int x_1), (2, .int x_2), (3, .int x_3)] := hl
  have hx := C.1.1
  have hb := C.1.2.1
  have h : (if 6 ≤ x_3 then some x_2 else cl (fX2_ofP x_1 ((2 : Int32) + x_3)) (fun r2 => rd 81 f0 r2 (fun r3 => if r3 ≤ 0 then fX2_wordsOf_30 f0 k4 (x_1, x_3, 0, x_2) else fX2_wordsOf_30 f0 k4 (x_1, x_3, ((1 : Int32) <<< (x_3 &&& 31)), x_2)))) = some z := h
  refine lv_iload_n hx hb dX2_wordsOf_4 rfl (lv_at hl 3 rfl) ?_
  refine lv_bipush (v := 6) hx hb dX2_wordsOf_5 (by decide) ?_
  refine lv_icmp_ge (tgt := 38) hx hb dX2_wordsOf_7 (by decide) (fun c1 => ?_) (fun c1 => ?_)
  · replace h := (if_pos c1).symm.trans h
    refine lv_iload_n hx hb dX2_wordsOf_38 rfl (lv_at hl 2 rfl) ?_
    obtain rfl := some_e h
    exact rtI C hr hw dX2_wordsOf_39
  · replace h := (if_neg c1).symm.trans h
    refine lv_iload_n hx hb dX2_wordsOf_10 rfl (lv_at hl 2 rfl) ?_
    refine lv_aload_n hx hb dX2_wordsOf_11 rfl (lv_at hl 0 rfl) ?_
    refine lv_iload_n hx hb dX2_wordsOf_12 rfl (lv_at hl 1 rfl) ?_
    refine lv_iconst (v := 2) hx hb dX2_wordsOf_13 (by decide) ?_
    refine lv_iload_n hx hb dX2_wordsOf_14 rfl (lv_at hl 3 rfl) ?_
    refine lv_iadd hx hb dX2_wordsOf_15 ?_
    obtain ⟨r2, hr2, h⟩ := cl_some h
    refine cSi (ws2 := (wA cA 81 a0 f0)) (As := [.int x_1, .int ((2 : Int32) + x_3)]) (rest := [.ref a0, .int x_2]) C hw jnE (kX2_ofP hr2) kl_RX2_48 kt_yX2_ofP kn_RX2 kc_yX2_ofP ⟨rfl, rfl⟩ hdX2_ofP ⟨Nat.le_of_ble_eq_true rfl, Nat.le_of_ble_eq_true rfl⟩ rfl hl.1 (Nat.le_of_ble_eq_true rfl) dX2_wordsOf_16 ⟨Nat.zero_le _, Nat.zero_le _⟩ (fun H locs hw => ?_)
    obtain ⟨r3, ir3, er3, h⟩ := rd_some h
    refine tLd C hw 0 rfl ir3 er3 dX2_wordsOf_19 ?_
    refine lv_if_le (tgt := 29) hx hb dX2_wordsOf_20 (by decide) (fun c4 => ?_) (fun c4 => ?_)
    · replace h := (if_pos c4).symm.trans h
      refine lv_iconst (v := 0) hx hb dX2_wordsOf_29 (by decide) ?_
      exact kX2_wordsOf_30 C hr f0 k4 hk4 (x_1, x_3, 0, x_2) h _ _ _ hw (lv_sub hl [0, 1, 3] rfl)
    · replace h := (if_neg c4).symm.trans h
      refine lv_iconst (v := 1) hx hb dX2_wordsOf_23 (by decide) ?_
      refine lv_iload_n hx hb dX2_wordsOf_24 rfl (lv_at hl 3 rfl) ?_
      refine lv_ishl hx hb dX2_wordsOf_25 ?_
      refine lv_goto (tgt := 30) hx hb dX2_wordsOf_26 (by decide) ?_
      exact kX2_wordsOf_30 C hr f0 k4 hk4 (x_1, x_3, ((1 : Int32) <<< (x_3 &&& 31)), x_2) h _ _ _ hw (lv_sub hl [0, 1, 3] rfl)
theorem lX2_wordsOf_4 (C : Cx p s m args meth c cX2_wordsOf 4 RX2 D cA g A) (hr : meth.sig.returnType = (some .int)) {z : Int32} (f0 : Nat → Int32) (n : Nat) (x : (Int32) × (Int32) × (Int32)) (h : lp (fX2_wordsOf_4 f0) n x = some z) : GX2_wordsOf_4 p l e s m args below meth c D cA A a0 f0 z x := lp_ok (GX2_wordsOf_4 p l e s m args below meth c D cA A a0 f0 z) (fun kq hkq x h => kX2_wordsOf_4 C hr f0 kq hkq x h) n x h
set_option maxHeartbeats 4000000 in
set_option maxRecDepth 100000 in
theorem kX2_wordsOf (a0 : Nat) {f0 : Nat → Int32} {a_1 : Int32} {z : Int32} (h : fX2_wordsOf f0 a_1 = some z) : MI l D cA g yX2_wordsOf (Cond.code yX2_wordsOf cX2_wordsOf 4 (some .int) :: lw_g) rmX2_wordsOf [.ref a0, .int a_1] (wA cA 81 a0 f0) z (wA cA 81 a0 f0) := by
  intro sz
  refine Met.ofW (cc := cX2_wordsOf) (maxL := 4) (ret := (some .int)) (by decide) rfl ?_
  intro p e s m args below meth c s₁ B hml hv
  obtain ⟨rfl, C, hr, hw⟩ := ent B hml hv
  generalize va_A (wA cA 81 a0 f0) sz = A at C hw ⊢
  have hl := lv_entry ([.ref a0, .int a_1]) (n := 4) (Nat.le_of_ble_eq_true rfl)
  rw [lg_entry_eq]
  generalize (lg_sl ([.ref a0, .int a_1]) ++ List.replicate (4 - (lg_sl ([.ref a0, .int a_1])).length) Slot.unset).toArray = ls at hl ⊢
  have hl : lv_has ls 4 [(0, .ref a0), (1, .int a_1)] := hl
  have hx := C.1.1
  have hb := C.1.2.1
  have h : (lp (fX2_wordsOf_4 f0) 5000 (a_1, 0, 0)) = some z := h
  refine lv_iconst (v := 0) hx hb dX2_wordsOf_0 (by decide) ?_
  refine lv_istore_n (lv' := [(2, .int 0), (0, .ref a0), (1, .int a_1)]) hx hb dX2_wordsOf_1 rfl hl (by decide) rfl (fun ls hl => ?_)
  refine lv_iconst (v := 0) hx hb dX2_wordsOf_2 (by decide) ?_
  refine lv_istore_n (lv' := [(3, .int 0), (2, .int 0), (0, .ref a0), (1, .int a_1)]) hx hb dX2_wordsOf_3 rfl hl (by decide) rfl (fun ls hl => ?_)
  exact lX2_wordsOf_4 C hr f0 5000 (a_1, 0, 0) h _ _ _ hw (lv_sub hl [2, 3, 1, 0] rfl)
abbrev rmX2_allWords : Room := { frames := 2, cells := 0, slots := 0, locals := 44 }
theorem hdX2_allWords : yX2_allWords.cls ≠ "java/lang/invoke/MethodHandle" ∧ yX2_allWords.cls ≠ "java/lang/invoke/VarHandle" ∧ (parseMethodDescriptor yX2_allWords.desc).map (fun d => d.parameters.length) = some 1 := by decide +kernel
def GX2_allWords_4 (p : Program) (l : Launch) (e : Env) (s : State) (m : MethodId) (args : Array Value) (below : List Frame) (meth : Method) (c : Code) (D : va_G) (cA : ClassId) (A : Nat → Prop) (a0 : Nat) (f0 : Nat → Int32) (z : Int32) (x : (Int32) × (Int32)) : Prop := ∀ (H : Heap) (locs : List Loc) (ls : Array Slot), Wd D A s.heap (wA cA 81 a0 f0) H locs → lv_has ls 3 [(0, .ref a0), (1, .int x.1), (2, .int x.2)] → W p l e rmX2_allWords s m args below meth c H locs 0 0 (MQ below (QI D cA A z (wA cA 81 a0 f0)) args s 0 0 A) (F0 m 4 ls [])
def fX2_allWords_4 (f0 : Nat → Int32) (k4 : ((Int32) × (Int32)) → Option Int32) : ((Int32) × (Int32)) → Option Int32 := fun x => match x with | (x_1, x_2) => rd 81 f0 1 (fun r1 => if r1 ≤ x_2 then some x_1 else cl (fX2_wordsOf f0 x_2) (fun r3 => cl (fX2_bits r3) (fun r4 => bn (x_1 + r4) (fun x5 => bn (x_2 + 1) (fun x6 => k4 (x5, x6))))))
def fX2_allWords (f0 : Nat → Int32) : Option Int32 := lp (fX2_allWords_4 f0) 5000 (0, 0)
set_option maxHeartbeats 4000000 in
set_option maxRecDepth 100000 in
theorem kX2_allWords_4 (C : Cx p s m args meth c cX2_allWords 3 RX2 D cA g A) (hr : meth.sig.returnType = (some .int)) {z : Int32} (f0 : Nat → Int32) (k4 : ((Int32) × (Int32)) → Option Int32) (hk4 : ∀ x, k4 x = some z → GX2_allWords_4 p l e s m args below meth c D cA A a0 f0 z x) (x : (Int32) × (Int32)) (h : fX2_allWords_4 f0 k4 x = some z) : GX2_allWords_4 p l e s m args below meth c D cA A a0 f0 z x := by
  obtain ⟨x_1, x_2⟩ := x
  intro H locs ls hw hl
  have hw : Wd D A s.heap (wA cA 81 a0 f0) H locs := hw
  have hl : lv_has ls 3 [(0, .ref a0), (1, .int x_1), (2, .int x_2)] := hl
  have hx := C.1.1
  have hb := C.1.2.1
  have h : (rd 81 f0 1 (fun r1 => if r1 ≤ x_2 then some x_1 else cl (fX2_wordsOf f0 x_2) (fun r3 => cl (fX2_bits r3) (fun r4 => bn (x_1 + r4) (fun x5 => bn (x_2 + 1) (fun x6 => k4 (x5, x6))))))) = some z := h
  refine lv_iload_n hx hb dX2_allWords_4 rfl (lv_at hl 2 rfl) ?_
  refine lv_aload_n hx hb dX2_allWords_5 rfl (lv_at hl 0 rfl) ?_
  refine lv_iconst (v := 1) hx hb dX2_allWords_6 (by decide) ?_
  obtain ⟨r1, ir1, er1, h⟩ := rd_some h
  refine tLd C hw 0 rfl ir1 er1 dX2_allWords_7 ?_
  refine lv_icmp_ge (tgt := 28) hx hb dX2_allWords_8 (by decide) (fun c2 => ?_) (fun c2 => ?_)
  · replace h := (if_pos c2).symm.trans h
    refine lv_iload_n hx hb dX2_allWords_28 rfl (lv_at hl 1 rfl) ?_
    obtain rfl := some_e h
    exact rtI C hr hw dX2_allWords_29
  · replace h := (if_neg c2).symm.trans h
    refine lv_iload_n hx hb dX2_allWords_11 rfl (lv_at hl 1 rfl) ?_
    refine lv_aload_n hx hb dX2_allWords_12 rfl (lv_at hl 0 rfl) ?_
    refine lv_iload_n hx hb dX2_allWords_13 rfl (lv_at hl 2 rfl) ?_
    obtain ⟨r3, hr3, h⟩ := cl_some h
    refine cSi (ws2 := (wA cA 81 a0 f0)) (As := [.ref a0, .int x_2]) (rest := [.int x_1]) C hw jnW (kX2_wordsOf a0 hr3) kl_RX2_91 kt_yX2_wordsOf kn_RX2 kc_yX2_wordsOf ⟨rfl, rfl⟩ hdX2_wordsOf ⟨Nat.le_of_ble_eq_true rfl, Nat.le_of_ble_eq_true rfl⟩ rfl hl.1 (Nat.le_of_ble_eq_true rfl) dX2_allWords_14 ⟨Nat.zero_le _, Nat.zero_le _⟩ (fun H locs hw => ?_)
    obtain ⟨r4, hr4, h⟩ := cl_some h
    refine cSi (ws2 := (wA cA 81 a0 f0)) (As := [.int r3]) (rest := [.int x_1]) C hw jnE (kX2_bits hr4) kl_RX2_94 kt_yX2_bits kn_RX2 kc_yX2_bits ⟨rfl, rfl⟩ hdX2_bits ⟨Nat.le_of_ble_eq_true rfl, Nat.le_of_ble_eq_true rfl⟩ rfl hl.1 (Nat.le_of_ble_eq_true rfl) dX2_allWords_17 ⟨Nat.zero_le _, Nat.zero_le _⟩ (fun H locs hw => ?_)
    refine lv_iadd hx hb dX2_allWords_20 ?_
    refine lv_topi (fun x5 ex5 => ?_)
    replace h := bn_some h ex5
    refine lv_istore_n (lv' := [(1, .int x5), (0, .ref a0), (2, .int x_2)]) hx hb dX2_allWords_21 rfl hl (by decide) rfl (fun ls hl => ?_)
    obtain ⟨x6, ex6⟩ : ∃ y : Int32, y = x_2 + 1 := ⟨_, rfl⟩
    replace h := bn_some h ex6
    refine lv_iinc (v := x6) (lv' := [(2, .int x6), (1, .int x5), (0, .ref a0)]) hx hb dX2_allWords_22 hl (k := 2) rfl (by rw [ex6]; rfl) (by decide) rfl (fun ls hl => ?_)
    refine lv_goto (tgt := 4) hx hb dX2_allWords_25 (by decide) ?_
    exact hk4 (x5, x6) h _ _ _ hw (lv_sub hl [2, 1, 0] rfl)
theorem lX2_allWords_4 (C : Cx p s m args meth c cX2_allWords 3 RX2 D cA g A) (hr : meth.sig.returnType = (some .int)) {z : Int32} (f0 : Nat → Int32) (n : Nat) (x : (Int32) × (Int32)) (h : lp (fX2_allWords_4 f0) n x = some z) : GX2_allWords_4 p l e s m args below meth c D cA A a0 f0 z x := lp_ok (GX2_allWords_4 p l e s m args below meth c D cA A a0 f0 z) (fun kq hkq x h => kX2_allWords_4 C hr f0 kq hkq x h) n x h
set_option maxHeartbeats 4000000 in
set_option maxRecDepth 100000 in
theorem kX2_allWords (a0 : Nat) {f0 : Nat → Int32} {z : Int32} (h : fX2_allWords f0 = some z) : MI l D cA g yX2_allWords (Cond.code yX2_allWords cX2_allWords 3 (some .int) :: lw_g) rmX2_allWords [.ref a0] (wA cA 81 a0 f0) z (wA cA 81 a0 f0) := by
  intro sz
  refine Met.ofW (cc := cX2_allWords) (maxL := 3) (ret := (some .int)) (by decide) rfl ?_
  intro p e s m args below meth c s₁ B hml hv
  obtain ⟨rfl, C, hr, hw⟩ := ent B hml hv
  generalize va_A (wA cA 81 a0 f0) sz = A at C hw ⊢
  have hl := lv_entry ([.ref a0]) (n := 3) (Nat.le_of_ble_eq_true rfl)
  rw [lg_entry_eq]
  generalize (lg_sl ([.ref a0]) ++ List.replicate (3 - (lg_sl ([.ref a0])).length) Slot.unset).toArray = ls at hl ⊢
  have hl : lv_has ls 3 [(0, .ref a0)] := hl
  have hx := C.1.1
  have hb := C.1.2.1
  have h : (lp (fX2_allWords_4 f0) 5000 (0, 0)) = some z := h
  refine lv_iconst (v := 0) hx hb dX2_allWords_0 (by decide) ?_
  refine lv_istore_n (lv' := [(1, .int 0), (0, .ref a0)]) hx hb dX2_allWords_1 rfl hl (by decide) rfl (fun ls hl => ?_)
  refine lv_iconst (v := 0) hx hb dX2_allWords_2 (by decide) ?_
  refine lv_istore_n (lv' := [(2, .int 0), (1, .int 0), (0, .ref a0)]) hx hb dX2_allWords_3 rfl hl (by decide) rfl (fun ls hl => ?_)
  exact lX2_allWords_4 C hr f0 5000 (0, 0) h _ _ _ hw (lv_sub hl [2, 1, 0] rfl)
abbrev rmX2_wholeOnes : Room := { frames := 2, cells := 0, slots := 0, locals := 44 }
theorem hdX2_wholeOnes : yX2_wholeOnes.cls ≠ "java/lang/invoke/MethodHandle" ∧ yX2_wholeOnes.cls ≠ "java/lang/invoke/VarHandle" ∧ (parseMethodDescriptor yX2_wholeOnes.desc).map (fun d => d.parameters.length) = some 1 := by decide +kernel
def GX2_wholeOnes_27 (p : Program) (l : Launch) (e : Env) (s : State) (m : MethodId) (args : Array Value) (below : List Frame) (meth : Method) (c : Code) (D : va_G) (cA : ClassId) (A : Nat → Prop) (a0 : Nat) (f0 : Nat → Int32) (z : Int32) (x : (Int32) × (Int32) × (Int32)) : Prop := ∀ (H : Heap) (locs : List Loc) (ls : Array Slot), Wd D A s.heap (wA cA 81 a0 f0) H locs → lv_has ls 3 [(0, .ref a0), (2, .int x.1)] → W p l e rmX2_wholeOnes s m args below meth c H locs 0 0 (MQ below (QI D cA A z (wA cA 81 a0 f0)) args s 0 0 A) (F0 m 27 ls [.int x.2.1, .int x.2.2])
def GX2_wholeOnes_4 (p : Program) (l : Launch) (e : Env) (s : State) (m : MethodId) (args : Array Value) (below : List Frame) (meth : Method) (c : Code) (D : va_G) (cA : ClassId) (A : Nat → Prop) (a0 : Nat) (f0 : Nat → Int32) (z : Int32) (x : (Int32) × (Int32)) : Prop := ∀ (H : Heap) (locs : List Loc) (ls : Array Slot), Wd D A s.heap (wA cA 81 a0 f0) H locs → lv_has ls 3 [(0, .ref a0), (1, .int x.1), (2, .int x.2)] → W p l e rmX2_wholeOnes s m args below meth c H locs 0 0 (MQ below (QI D cA A z (wA cA 81 a0 f0)) args s 0 0 A) (F0 m 4 ls [])
def fX2_wholeOnes_27 (f0 : Nat → Int32) (k4 : ((Int32) × (Int32)) → Option Int32) : ((Int32) × (Int32) × (Int32)) → Option Int32 := fun x => match x with | (x_2, y_0, y_1) => bn (y_1 + y_0) (fun x1 => bn (x_2 + 1) (fun x2 => k4 (x1, x2)))
def fX2_wholeOnes_4 (f0 : Nat → Int32) (k4 : ((Int32) × (Int32)) → Option Int32) : ((Int32) × (Int32)) → Option Int32 := fun x => match x with | (x_1, x_2) => rd 81 f0 1 (fun r1 => if r1 ≤ x_2 then some x_1 else cl (fX2_wordsOf f0 x_2) (fun r3 => if r3 = 63 then fX2_wholeOnes_27 f0 k4 (x_2, 1, x_1) else fX2_wholeOnes_27 f0 k4 (x_2, 0, x_1)))
def fX2_wholeOnes (f0 : Nat → Int32) : Option Int32 := lp (fX2_wholeOnes_4 f0) 5000 (0, 0)
set_option maxHeartbeats 4000000 in
set_option maxRecDepth 100000 in
theorem kX2_wholeOnes_27 (C : Cx p s m args meth c cX2_wholeOnes 3 RX2 D cA g A) (hr : meth.sig.returnType = (some .int)) {z : Int32} (f0 : Nat → Int32) (k4 : ((Int32) × (Int32)) → Option Int32) (hk4 : ∀ x, k4 x = some z → GX2_wholeOnes_4 p l e s m args below meth c D cA A a0 f0 z x) (x : (Int32) × (Int32) × (Int32)) (h : fX2_wholeOnes_27 f0 k4 x = some z) : GX2_wholeOnes_27 p l e s m args below meth c D cA A a0 f0 z x := by
  obtain ⟨x_2, y_0, y_1⟩ := x
  intro H locs ls hw hl
  have hw : Wd D A s.heap (wA cA 81 a0 f0) H locs := hw
  have hl : lv_has ls 3 [(0, .ref a0), (2, .int x_2)] := hl
  show W p l e rmX2_wholeOnes s m args below meth c H locs 0 0 (MQ below (QI D cA A z (wA cA 81 a0 f0)) args s 0 0 A) (F0 m 27 ls [.int y_0, .int y_1])
  have hx := C.1.1
  have hb := C.1.2.1
  have h : (bn (y_1 + y_0) (fun x1 => bn (x_2 + 1) (fun x2 => k4 (x1, x2)))) = some z := h
  refine lv_iadd hx hb dX2_wholeOnes_27 ?_
  refine lv_topi (fun x1 ex1 => ?_)
  replace h := bn_some h ex1
  refine lv_istore_n (lv' := [(1, .int x1), (0, .ref a0), (2, .int x_2)]) hx hb dX2_wholeOnes_28 rfl hl (by decide) rfl (fun ls hl => ?_)
  obtain ⟨x2, ex2⟩ : ∃ y : Int32, y = x_2 + 1 := ⟨_, rfl⟩
  replace h := bn_some h ex2
  refine lv_iinc (v := x2) (lv' := [(2, .int x2), (1, .int x1), (0, .ref a0)]) hx hb dX2_wholeOnes_29 hl (k := 2) rfl (by rw [ex2]; rfl) (by decide) rfl (fun ls hl => ?_)
  refine lv_goto (tgt := 4) hx hb dX2_wholeOnes_32 (by decide) ?_
  exact hk4 (x1, x2) h _ _ _ hw (lv_sub hl [2, 1, 0] rfl)
set_option maxHeartbeats 4000000 in
set_option maxRecDepth 100000 in
theorem kX2_wholeOnes_4 (C : Cx p s m args meth c cX2_wholeOnes 3 RX2 D cA g A) (hr : meth.sig.returnType = (some .int)) {z : Int32} (f0 : Nat → Int32) (k4 : ((Int32) × (Int32)) → Option Int32) (hk4 : ∀ x, k4 x = some z → GX2_wholeOnes_4 p l e s m args below meth c D cA A a0 f0 z x) (x : (Int32) × (Int32)) (h : fX2_wholeOnes_4 f0 k4 x = some z) : GX2_wholeOnes_4 p l e s m args below meth c D cA A a0 f0 z x := by
  obtain ⟨x_1, x_2⟩ := x
  intro H locs ls hw hl
  have hw : Wd D A s.heap (wA cA 81 a0 f0) H locs := hw
  have hl : lv_has ls 3 [(0, .ref a0), (1, .int x_1), (2, .int x_2)] := hl
  have hx := C.1.1
  have hb := C.1.2.1
  have h : (rd 81 f0 1 (fun r1 => if r1 ≤ x_2 then some x_1 else cl (fX2_wordsOf f0 x_2) (fun r3 => if r3 = 63 then fX2_wholeOnes_27 f0 k4 (x_2, 1, x_1) else fX2_wholeOnes_27 f0 k4 (x_2, 0, x_1)))) = some z := h
  refine lv_iload_n hx hb dX2_wholeOnes_4 rfl (lv_at hl 2 rfl) ?_
  refine lv_aload_n hx hb dX2_wholeOnes_5 rfl (lv_at hl 0 rfl) ?_
  refine lv_iconst (v := 1) hx hb dX2_wholeOnes_6 (by decide) ?_
  obtain ⟨r1, ir1, er1, h⟩ := rd_some h
  refine tLd C hw 0 rfl ir1 er1 dX2_wholeOnes_7 ?_
  refine lv_icmp_ge (tgt := 35) hx hb dX2_wholeOnes_8 (by decide) (fun c2 => ?_) (fun c2 => ?_)
  · replace h := (if_pos c2).symm.trans h
    refine lv_iload_n hx hb dX2_wholeOnes_35 rfl (lv_at hl 1 rfl) ?_
    obtain rfl := some_e h
    exact rtI C hr hw dX2_wholeOnes_36
  · replace h := (if_neg c2).symm.trans h
    refine lv_iload_n hx hb dX2_wholeOnes_11 rfl (lv_at hl 1 rfl) ?_
    refine lv_aload_n hx hb dX2_wholeOnes_12 rfl (lv_at hl 0 rfl) ?_
    refine lv_iload_n hx hb dX2_wholeOnes_13 rfl (lv_at hl 2 rfl) ?_
    obtain ⟨r3, hr3, h⟩ := cl_some h
    refine cSi (ws2 := (wA cA 81 a0 f0)) (As := [.ref a0, .int x_2]) (rest := [.int x_1]) C hw jnW (kX2_wordsOf a0 hr3) kl_RX2_91 kt_yX2_wordsOf kn_RX2 kc_yX2_wordsOf ⟨rfl, rfl⟩ hdX2_wordsOf ⟨Nat.le_of_ble_eq_true rfl, Nat.le_of_ble_eq_true rfl⟩ rfl hl.1 (Nat.le_of_ble_eq_true rfl) dX2_wholeOnes_14 ⟨Nat.zero_le _, Nat.zero_le _⟩ (fun H locs hw => ?_)
    refine lv_bipush (v := 63) hx hb dX2_wholeOnes_17 (by decide) ?_
    refine lv_icmp_ne (tgt := 26) hx hb dX2_wholeOnes_19 (by decide) (fun c4 => ?_) (fun c4 => ?_)
    · replace h := (if_neg c4).symm.trans h
      refine lv_iconst (v := 0) hx hb dX2_wholeOnes_26 (by decide) ?_
      exact kX2_wholeOnes_27 C hr f0 k4 hk4 (x_2, 0, x_1) h _ _ _ hw (lv_sub hl [0, 2] rfl)
    · replace h := (if_pos c4).symm.trans h
      refine lv_iconst (v := 1) hx hb dX2_wholeOnes_22 (by decide) ?_
      refine lv_goto (tgt := 27) hx hb dX2_wholeOnes_23 (by decide) ?_
      exact kX2_wholeOnes_27 C hr f0 k4 hk4 (x_2, 1, x_1) h _ _ _ hw (lv_sub hl [0, 2] rfl)
theorem lX2_wholeOnes_4 (C : Cx p s m args meth c cX2_wholeOnes 3 RX2 D cA g A) (hr : meth.sig.returnType = (some .int)) {z : Int32} (f0 : Nat → Int32) (n : Nat) (x : (Int32) × (Int32)) (h : lp (fX2_wholeOnes_4 f0) n x = some z) : GX2_wholeOnes_4 p l e s m args below meth c D cA A a0 f0 z x := lp_ok (GX2_wholeOnes_4 p l e s m args below meth c D cA A a0 f0 z) (fun kq hkq x h => kX2_wholeOnes_4 C hr f0 kq hkq x h) n x h
set_option maxHeartbeats 4000000 in
set_option maxRecDepth 100000 in
theorem kX2_wholeOnes (a0 : Nat) {f0 : Nat → Int32} {z : Int32} (h : fX2_wholeOnes f0 = some z) : MI l D cA g yX2_wholeOnes (Cond.code yX2_wholeOnes cX2_wholeOnes 3 (some .int) :: lw_g) rmX2_wholeOnes [.ref a0] (wA cA 81 a0 f0) z (wA cA 81 a0 f0) := by
  intro sz
  refine Met.ofW (cc := cX2_wholeOnes) (maxL := 3) (ret := (some .int)) (by decide) rfl ?_
  intro p e s m args below meth c s₁ B hml hv
  obtain ⟨rfl, C, hr, hw⟩ := ent B hml hv
  generalize va_A (wA cA 81 a0 f0) sz = A at C hw ⊢
  have hl := lv_entry ([.ref a0]) (n := 3) (Nat.le_of_ble_eq_true rfl)
  rw [lg_entry_eq]
  generalize (lg_sl ([.ref a0]) ++ List.replicate (3 - (lg_sl ([.ref a0])).length) Slot.unset).toArray = ls at hl ⊢
  have hl : lv_has ls 3 [(0, .ref a0)] := hl
  have hx := C.1.1
  have hb := C.1.2.1
  have h : (lp (fX2_wholeOnes_4 f0) 5000 (0, 0)) = some z := h
  refine lv_iconst (v := 0) hx hb dX2_wholeOnes_0 (by decide) ?_
  refine lv_istore_n (lv' := [(1, .int 0), (0, .ref a0)]) hx hb dX2_wholeOnes_1 rfl hl (by decide) rfl (fun ls hl => ?_)
  refine lv_iconst (v := 0) hx hb dX2_wholeOnes_2 (by decide) ?_
  refine lv_istore_n (lv' := [(2, .int 0), (1, .int 0), (0, .ref a0)]) hx hb dX2_wholeOnes_3 rfl hl (by decide) rfl (fun ls hl => ?_)
  exact lX2_wholeOnes_4 C hr f0 5000 (0, 0) h _ _ _ hw (lv_sub hl [2, 1, 0] rfl)
abbrev rmX2_sentIn : Room := { frames := 1, cells := 0, slots := 0, locals := 21 }
theorem hdX2_sentIn : yX2_sentIn.cls ≠ "java/lang/invoke/MethodHandle" ∧ yX2_sentIn.cls ≠ "java/lang/invoke/VarHandle" ∧ (parseMethodDescriptor yX2_sentIn.desc).map (fun d => d.parameters.length) = some 1 := by decide +kernel
def GX2_sentIn_4 (p : Program) (l : Launch) (e : Env) (s : State) (m : MethodId) (args : Array Value) (below : List Frame) (meth : Method) (c : Code) (D : va_G) (cA : ClassId) (A : Nat → Prop) (a0 : Nat) (f0 : Nat → Int32) (z : Int32) (x : (Int32) × (Int32)) : Prop := ∀ (H : Heap) (locs : List Loc) (ls : Array Slot), Wd D A s.heap (wA cA 81 a0 f0) H locs → lv_has ls 3 [(0, .ref a0), (1, .int x.1), (2, .int x.2)] → W p l e rmX2_sentIn s m args below meth c H locs 0 0 (MQ below (QI D cA A z (wA cA 81 a0 f0)) args s 0 0 A) (F0 m 4 ls [])
def fX2_sentIn_4 (f0 : Nat → Int32) (k4 : ((Int32) × (Int32)) → Option Int32) : ((Int32) × (Int32)) → Option Int32 := fun x => match x with | (x_1, x_2) => rd 81 f0 0 (fun r1 => if r1 ≤ x_2 then some x_1 else cl (fX2_ofR x_2 3) (fun r3 => rd 81 f0 r3 (fun r4 => bn (x_1 ||| (r4 <<< (x_2 &&& 31))) (fun x5 => bn (x_2 + 1) (fun x6 => k4 (x5, x6))))))
def fX2_sentIn (f0 : Nat → Int32) : Option Int32 := lp (fX2_sentIn_4 f0) 5000 (0, 0)
set_option maxHeartbeats 4000000 in
set_option maxRecDepth 100000 in
theorem kX2_sentIn_4 (C : Cx p s m args meth c cX2_sentIn 3 RX2 D cA g A) (hr : meth.sig.returnType = (some .int)) {z : Int32} (f0 : Nat → Int32) (k4 : ((Int32) × (Int32)) → Option Int32) (hk4 : ∀ x, k4 x = some z → GX2_sentIn_4 p l e s m args below meth c D cA A a0 f0 z x) (x : (Int32) × (Int32)) (h : fX2_sentIn_4 f0 k4 x = some z) : GX2_sentIn_4 p l e s m args below meth c D cA A a0 f0 z x := by
  obtain ⟨x_1, x_2⟩ := x
  intro H locs ls hw hl
  have hw : Wd D A s.heap (wA cA 81 a0 f0) H locs := hw
  have hl : lv_has ls 3 [(0, .ref a0), (1, .int x_1), (2, .int x_2)] := hl
  have hx := C.1.1
  have hb := C.1.2.1
  have h : (rd 81 f0 0 (fun r1 => if r1 ≤ x_2 then some x_1 else cl (fX2_ofR x_2 3) (fun r3 => rd 81 f0 r3 (fun r4 => bn (x_1 ||| (r4 <<< (x_2 &&& 31))) (fun x5 => bn (x_2 + 1) (fun x6 => k4 (x5, x6))))))) = some z := h
  refine lv_iload_n hx hb dX2_sentIn_4 rfl (lv_at hl 2 rfl) ?_
  refine lv_aload_n hx hb dX2_sentIn_5 rfl (lv_at hl 0 rfl) ?_
  refine lv_iconst (v := 0) hx hb dX2_sentIn_6 (by decide) ?_
  obtain ⟨r1, ir1, er1, h⟩ := rd_some h
  refine tLd C hw 0 rfl ir1 er1 dX2_sentIn_7 ?_
  refine lv_icmp_ge (tgt := 29) hx hb dX2_sentIn_8 (by decide) (fun c2 => ?_) (fun c2 => ?_)
  · replace h := (if_pos c2).symm.trans h
    refine lv_iload_n hx hb dX2_sentIn_29 rfl (lv_at hl 1 rfl) ?_
    obtain rfl := some_e h
    exact rtI C hr hw dX2_sentIn_30
  · replace h := (if_neg c2).symm.trans h
    refine lv_iload_n hx hb dX2_sentIn_11 rfl (lv_at hl 1 rfl) ?_
    refine lv_aload_n hx hb dX2_sentIn_12 rfl (lv_at hl 0 rfl) ?_
    refine lv_iload_n hx hb dX2_sentIn_13 rfl (lv_at hl 2 rfl) ?_
    refine lv_iconst (v := 3) hx hb dX2_sentIn_14 (by decide) ?_
    obtain ⟨r3, hr3, h⟩ := cl_some h
    refine cSi (ws2 := (wA cA 81 a0 f0)) (As := [.int x_2, .int 3]) (rest := [.ref a0, .int x_1]) C hw jnE (kX2_ofR hr3) kl_RX2_44 kt_yX2_ofR kn_RX2 kc_yX2_ofR ⟨rfl, rfl⟩ hdX2_ofR ⟨Nat.le_of_ble_eq_true rfl, Nat.le_of_ble_eq_true rfl⟩ rfl hl.1 (Nat.le_of_ble_eq_true rfl) dX2_sentIn_15 ⟨Nat.zero_le _, Nat.zero_le _⟩ (fun H locs hw => ?_)
    obtain ⟨r4, ir4, er4, h⟩ := rd_some h
    refine tLd C hw 0 rfl ir4 er4 dX2_sentIn_18 ?_
    refine lv_iload_n hx hb dX2_sentIn_19 rfl (lv_at hl 2 rfl) ?_
    refine lv_ishl hx hb dX2_sentIn_20 ?_
    refine lv_ior hx hb dX2_sentIn_21 ?_
    refine lv_topi (fun x5 ex5 => ?_)
    replace h := bn_some h ex5
    refine lv_istore_n (lv' := [(1, .int x5), (0, .ref a0), (2, .int x_2)]) hx hb dX2_sentIn_22 rfl hl (by decide) rfl (fun ls hl => ?_)
    obtain ⟨x6, ex6⟩ : ∃ y : Int32, y = x_2 + 1 := ⟨_, rfl⟩
    replace h := bn_some h ex6
    refine lv_iinc (v := x6) (lv' := [(2, .int x6), (1, .int x5), (0, .ref a0)]) hx hb dX2_sentIn_23 hl (k := 2) rfl (by rw [ex6]; rfl) (by decide) rfl (fun ls hl => ?_)
    refine lv_goto (tgt := 4) hx hb dX2_sentIn_26 (by decide) ?_
    exact hk4 (x5, x6) h _ _ _ hw (lv_sub hl [2, 1, 0] rfl)
theorem lX2_sentIn_4 (C : Cx p s m args meth c cX2_sentIn 3 RX2 D cA g A) (hr : meth.sig.returnType = (some .int)) {z : Int32} (f0 : Nat → Int32) (n : Nat) (x : (Int32) × (Int32)) (h : lp (fX2_sentIn_4 f0) n x = some z) : GX2_sentIn_4 p l e s m args below meth c D cA A a0 f0 z x := lp_ok (GX2_sentIn_4 p l e s m args below meth c D cA A a0 f0 z) (fun kq hkq x h => kX2_sentIn_4 C hr f0 kq hkq x h) n x h
set_option maxHeartbeats 4000000 in
set_option maxRecDepth 100000 in
theorem kX2_sentIn (a0 : Nat) {f0 : Nat → Int32} {z : Int32} (h : fX2_sentIn f0 = some z) : MI l D cA g yX2_sentIn (Cond.code yX2_sentIn cX2_sentIn 3 (some .int) :: lw_g) rmX2_sentIn [.ref a0] (wA cA 81 a0 f0) z (wA cA 81 a0 f0) := by
  intro sz
  refine Met.ofW (cc := cX2_sentIn) (maxL := 3) (ret := (some .int)) (by decide) rfl ?_
  intro p e s m args below meth c s₁ B hml hv
  obtain ⟨rfl, C, hr, hw⟩ := ent B hml hv
  generalize va_A (wA cA 81 a0 f0) sz = A at C hw ⊢
  have hl := lv_entry ([.ref a0]) (n := 3) (Nat.le_of_ble_eq_true rfl)
  rw [lg_entry_eq]
  generalize (lg_sl ([.ref a0]) ++ List.replicate (3 - (lg_sl ([.ref a0])).length) Slot.unset).toArray = ls at hl ⊢
  have hl : lv_has ls 3 [(0, .ref a0)] := hl
  have hx := C.1.1
  have hb := C.1.2.1
  have h : (lp (fX2_sentIn_4 f0) 5000 (0, 0)) = some z := h
  refine lv_iconst (v := 0) hx hb dX2_sentIn_0 (by decide) ?_
  refine lv_istore_n (lv' := [(1, .int 0), (0, .ref a0)]) hx hb dX2_sentIn_1 rfl hl (by decide) rfl (fun ls hl => ?_)
  refine lv_iconst (v := 0) hx hb dX2_sentIn_2 (by decide) ?_
  refine lv_istore_n (lv' := [(2, .int 0), (1, .int 0), (0, .ref a0)]) hx hb dX2_sentIn_3 rfl hl (by decide) rfl (fun ls hl => ?_)
  exact lX2_sentIn_4 C hr f0 5000 (0, 0) h _ _ _ hw (lv_sub hl [2, 1, 0] rfl)
abbrev rmX2_letter : Room := { frames := 1, cells := 0, slots := 0, locals := 21 }
theorem hdX2_letter : yX2_letter.cls = RX2 ∧ yX2_letter.cls ≠ "java/lang/invoke/MethodHandle" ∧ yX2_letter.cls ≠ "java/lang/invoke/VarHandle" ∧ (parseMethodDescriptor yX2_letter.desc).map (fun d => d.parameters.length) = some 1 := by decide +kernel
def GX2_letter_27 (p : Program) (l : Launch) (e : Env) (s : State) (m : MethodId) (args : Array Value) (below : List Frame) (meth : Method) (c : Code) (D : va_G) (cA : ClassId) (A : Nat → Prop) (ad : Nat → Nat) (z : (Int32 × VS)) (x : (VS)) : Prop := ∀ (H : Heap) (locs : List Loc) (ls : Array Slot), Wd D A s.heap (wM cA ad x) H locs → lv_has ls 2 [(0, .ref (ad 0))] → W p l e rmX2_letter s m args below meth c H locs 0 0 (MQ below (QI D cA A z.1 (wM cA ad z.2)) args s 0 0 A) (F0 m 27 ls [])
def fX2_letter_27 : ((VS)) → Option (Int32 × VS) := fun Y => cl (fX2_no Y (-6)) (fun q1 => some (q1.1, q1.2))
def fX2_letter (Y : VS) (a_1 : Int32) : Option (Int32 × VS) := if 0 ≤ a_1 then if 255 < a_1 then fX2_letter_27 Y else if (Y 8 0) = 96 then fX2_letter_27 Y else ck 96 (Y 8 0) (bn (up Y 5 (upd (Y 5) ((Y 8 0) : Int32).toNatClampNeg a_1)) (fun w4 => bn (up w4 8 (fun _ => ((w4 8 0) + (1 : Int32)))) (fun w5 => some ((w5 8 0), w5)))) else cl (fX2_no Y (-4)) (fun q6 => some (q6.1, q6.2))
set_option maxHeartbeats 4000000 in
set_option maxRecDepth 100000 in
theorem kX2_letter_27 (C : Cx p s m args meth c cX2_letter 2 RX2 D cA g A) (hr : meth.sig.returnType = (some .int)) {z : (Int32 × VS)} (x : (VS)) (h : fX2_letter_27 x = some z) : GX2_letter_27 p l e s m args below meth c D cA A ad z x := by
  obtain ⟨Y, rfl⟩ : ∃ y, y = x := ⟨_, rfl⟩
  intro H locs ls hw hl
  have hw : Wd D A s.heap (wM cA ad Y) H locs := hw
  have hl : lv_has ls 2 [(0, .ref (ad 0))] := hl
  have hx := C.1.1
  have hb := C.1.2.1
  have h : (cl (fX2_no Y (-6)) (fun q1 => some (q1.1, q1.2))) = some z := h
  refine lv_aload_n hx hb dX2_letter_27 rfl (lv_at hl 0 rfl) ?_
  refine lv_bipush (v := (-6)) hx hb dX2_letter_28 (by decide) ?_
  obtain ⟨q1, hq1, h⟩ := cl_some h
  refine cVi (ws2 := (wM cA ad q1.2)) (As := [.int (-6)]) (rest := []) C hw jnW (kX2_no ad hq1) kl_RX2_36 ki_yX2_no ks_yX2_no kn_RX2 kc_yX2_no ⟨rfl, rfl⟩ hdX2_no ⟨Nat.le_of_ble_eq_true rfl, Nat.le_of_ble_eq_true rfl⟩ (ci := 2) (q0 := 0) rfl rfl rfl rfl hl.1 (Nat.le_of_ble_eq_true rfl) dX2_letter_30 ⟨Nat.zero_le _, Nat.zero_le _⟩ (fun H locs hw => ?_)
  obtain rfl := some_e h
  exact rtI C hr hw dX2_letter_33
set_option maxHeartbeats 4000000 in
set_option maxRecDepth 100000 in
theorem kX2_letter (ad : Nat → Nat) {Y : VS} {a_1 : Int32} {z : (Int32 × VS)} (h : fX2_letter Y a_1 = some z) : MI l D cA g yX2_letter (Cond.code yX2_letter cX2_letter 2 (some .int) :: lw_g) rmX2_letter [.ref (ad 0), .int a_1] (wM cA ad Y) z.1 (wM cA ad z.2) := by
  intro sz
  refine Met.ofW (cc := cX2_letter) (maxL := 2) (ret := (some .int)) (by decide) rfl ?_
  intro p e s m args below meth c s₁ B hml hv
  obtain ⟨rfl, C, hr, hw⟩ := ent B hml hv
  generalize va_A (wM cA ad Y) sz = A at C hw ⊢
  have hl := lv_entry ([.ref (ad 0), .int a_1]) (n := 2) (Nat.le_of_ble_eq_true rfl)
  rw [lg_entry_eq]
  generalize (lg_sl ([.ref (ad 0), .int a_1]) ++ List.replicate (2 - (lg_sl ([.ref (ad 0), .int a_1])).length) Slot.unset).toArray = ls at hl ⊢
  have hl : lv_has ls 2 [(0, .ref (ad 0)), (1, .int a_1)] := hl
  have hx := C.1.1
  have hb := C.1.2.1
  have h : (if 0 ≤ a_1 then if 255 < a_1 then fX2_letter_27 Y else if (Y 8 0) = 96 then fX2_letter_27 Y else ck 96 (Y 8 0) (bn (up Y 5 (upd (Y 5) ((Y 8 0) : Int32).toNatClampNeg a_1)) (fun w4 => bn (up w4 8 (fun _ => ((w4 8 0) + (1 : Int32)))) (fun w5 => some ((w5 8 0), w5)))) else cl (fX2_no Y (-4)) (fun q6 => some (q6.1, q6.2))) = some z := h
  refine lv_iload_n hx hb dX2_letter_0 rfl (lv_at hl 1 rfl) ?_
  refine lv_if_ge (tgt := 11) hx hb dX2_letter_1 (by decide) (fun c1 => ?_) (fun c1 => ?_)
  · replace h := (if_pos c1).symm.trans h
    refine lv_iload_n hx hb dX2_letter_11 rfl (lv_at hl 1 rfl) ?_
    refine lv_sipush (v := 255) hx hb dX2_letter_12 (by decide) ?_
    refine lv_icmp_gt (tgt := 27) hx hb dX2_letter_15 (by decide) (fun c2 => ?_) (fun c2 => ?_)
    · replace h := (if_pos c2).symm.trans h
      exact kX2_letter_27 C hr Y h _ _ _ hw (lv_sub hl [0] rfl)
    · replace h := (if_neg c2).symm.trans h
      refine lv_aload_n hx hb dX2_letter_18 rfl (lv_at hl 0 rfl) ?_
      refine tGet (T := TX2) (N := 13) (ci := 2) C hw inX2 8 0 rfl (by decide) kf_RX2_97 rfl rfl rfl dX2_letter_19 ?_
      refine lv_bipush (v := 96) hx hb dX2_letter_22 (by decide) ?_
      refine lv_icmp_ne (tgt := 34) hx hb dX2_letter_24 (by decide) (fun c3 => ?_) (fun c3 => ?_)
      · replace h := (if_neg c3).symm.trans h
        refine lv_aload_n hx hb dX2_letter_34 rfl (lv_at hl 0 rfl) ?_
        refine tGet (T := TX2) (N := 13) (ci := 2) C hw inX2 5 0 rfl (by decide) kf_RX2_22 rfl rfl rfl dX2_letter_35 ?_
        refine lv_aload_n hx hb dX2_letter_38 rfl (lv_at hl 0 rfl) ?_
        refine tGet (T := TX2) (N := 13) (ci := 2) C hw inX2 8 0 rfl (by decide) kf_RX2_97 rfl rfl rfl dX2_letter_39 ?_
        refine lv_iload_n hx hb dX2_letter_42 rfl (lv_at hl 1 rfl) ?_
        obtain ⟨iw4, h⟩ := ck_some h
        obtain ⟨w4, ew4⟩ : ∃ y : VS, y = up Y 5 (upd (Y 5) ((Y 8 0) : Int32).toNatClampNeg a_1) := ⟨_, rfl⟩
        replace h := bn_some h ew4
        refine tSt (ws2 := (wM cA ad w4)) C hw 5 rfl iw4 (by rw [ew4]; rfl) dX2_letter_43 (fun H locs hw => ?_)
        refine lv_aload_n hx hb dX2_letter_44 rfl (lv_at hl 0 rfl) ?_
        refine lv_dup hx hb dX2_letter_45 rfl ?_
        refine tGet (T := TX2) (N := 13) (ci := 2) C hw inX2 8 0 rfl (by decide) kf_RX2_97 rfl rfl rfl dX2_letter_46 ?_
        refine lv_iconst (v := 1) hx hb dX2_letter_49 (by decide) ?_
        refine lv_iadd hx hb dX2_letter_50 ?_
        obtain ⟨w5, ew5⟩ : ∃ y : VS, y = up w4 8 (fun _ => ((w4 8 0) + (1 : Int32))) := ⟨_, rfl⟩
        replace h := bn_some h ew5
        refine tPut (T := TX2) (N := 13) (ci := 2) (ws2 := (wM cA ad w5)) C hw inX2 tyX2 tyX2_ok nmX2 8 0 rfl (by decide) kf_RX2_97 rfl rfl rfl rfl rfl (Nat.le_of_ble_eq_true rfl) (by rw [ew5]; rfl) dX2_letter_51 (fun H locs hw => ?_)
        refine lv_aload_n hx hb dX2_letter_54 rfl (lv_at hl 0 rfl) ?_
        refine tGet (T := TX2) (N := 13) (ci := 2) C hw inX2 8 0 rfl (by decide) kf_RX2_97 rfl rfl rfl dX2_letter_55 ?_
        obtain rfl := some_e h
        exact rtI C hr hw dX2_letter_58
      · replace h := (if_pos c3).symm.trans h
        exact kX2_letter_27 C hr Y h _ _ _ hw (lv_sub hl [0] rfl)
  · replace h := (if_neg c1).symm.trans h
    refine lv_aload_n hx hb dX2_letter_4 rfl (lv_at hl 0 rfl) ?_
    refine lv_bipush (v := (-4)) hx hb dX2_letter_5 (by decide) ?_
    obtain ⟨q6, hq6, h⟩ := cl_some h
    refine cVi (ws2 := (wM cA ad q6.2)) (As := [.int (-4)]) (rest := []) C hw jnW (kX2_no ad hq6) kl_RX2_36 ki_yX2_no ks_yX2_no kn_RX2 kc_yX2_no ⟨rfl, rfl⟩ hdX2_no ⟨Nat.le_of_ble_eq_true rfl, Nat.le_of_ble_eq_true rfl⟩ (ci := 2) (q0 := 0) rfl rfl rfl rfl hl.1 (Nat.le_of_ble_eq_true rfl) dX2_letter_7 ⟨Nat.zero_le _, Nat.zero_le _⟩ (fun H locs hw => ?_)
    obtain rfl := some_e h
    exact rtI C hr hw dX2_letter_10
abbrev rmX2_here : Room := { frames := 0, cells := 0, slots := 0, locals := 0 }
theorem hdX2_here : yX2_here.cls = RX2 ∧ yX2_here.cls ≠ "java/lang/invoke/MethodHandle" ∧ yX2_here.cls ≠ "java/lang/invoke/VarHandle" ∧ (parseMethodDescriptor yX2_here.desc).map (fun d => d.parameters.length) = some 0 := by decide +kernel
def fX2_here (Y : VS) : Option Int32 := if (Y 8 0) ≤ (Y 10 0) then some (-1) else rd 96 (Y 5) (Y 10 0) (fun r2 => some r2)
set_option maxHeartbeats 4000000 in
set_option maxRecDepth 100000 in
theorem kX2_here (ad : Nat → Nat) {Y : VS} {z : Int32} (h : fX2_here Y = some z) : MI l D cA g yX2_here (Cond.code yX2_here cX2_here 1 (some .int) :: lw_g) rmX2_here [.ref (ad 0)] (wM cA ad Y) z (wM cA ad Y) := by
  intro sz
  refine Met.ofW (cc := cX2_here) (maxL := 1) (ret := (some .int)) (by decide) rfl ?_
  intro p e s m args below meth c s₁ B hml hv
  obtain ⟨rfl, C, hr, hw⟩ := ent B hml hv
  generalize va_A (wM cA ad Y) sz = A at C hw ⊢
  have hl := lv_entry ([.ref (ad 0)]) (n := 1) (Nat.le_of_ble_eq_true rfl)
  rw [lg_entry_eq]
  generalize (lg_sl ([.ref (ad 0)]) ++ List.replicate (1 - (lg_sl ([.ref (ad 0)])).length) Slot.unset).toArray = ls at hl ⊢
  have hl : lv_has ls 1 [(0, .ref (ad 0))] := hl
  have hx := C.1.1
  have hb := C.1.2.1
  have h : (if (Y 8 0) ≤ (Y 10 0) then some (-1) else rd 96 (Y 5) (Y 10 0) (fun r2 => some r2)) = some z := h
  refine lv_aload_n hx hb dX2_here_0 rfl (lv_at hl 0 rfl) ?_
  refine tGet (T := TX2) (N := 13) (ci := 2) C hw inX2 10 0 rfl (by decide) kf_RX2_101 rfl rfl rfl dX2_here_1 ?_
  refine lv_aload_n hx hb dX2_here_4 rfl (lv_at hl 0 rfl) ?_
  refine tGet (T := TX2) (N := 13) (ci := 2) C hw inX2 8 0 rfl (by decide) kf_RX2_97 rfl rfl rfl dX2_here_5 ?_
  refine lv_icmp_ge (tgt := 23) hx hb dX2_here_8 (by decide) (fun c1 => ?_) (fun c1 => ?_)
  · replace h := (if_pos c1).symm.trans h
    refine lv_iconst (v := (-1)) hx hb dX2_here_23 (by decide) ?_
    obtain rfl := some_e h
    exact rtI C hr hw dX2_here_24
  · replace h := (if_neg c1).symm.trans h
    refine lv_aload_n hx hb dX2_here_11 rfl (lv_at hl 0 rfl) ?_
    refine tGet (T := TX2) (N := 13) (ci := 2) C hw inX2 5 0 rfl (by decide) kf_RX2_22 rfl rfl rfl dX2_here_12 ?_
    refine lv_aload_n hx hb dX2_here_15 rfl (lv_at hl 0 rfl) ?_
    refine tGet (T := TX2) (N := 13) (ci := 2) C hw inX2 10 0 rfl (by decide) kf_RX2_101 rfl rfl rfl dX2_here_16 ?_
    obtain ⟨r2, ir2, er2, h⟩ := rd_some h
    refine tLd C hw 5 rfl ir2 er2 dX2_here_19 ?_
    refine lv_goto (tgt := 24) hx hb dX2_here_20 (by decide) ?_
    obtain rfl := some_e h
    exact rtI C hr hw dX2_here_24
abbrev rmX2_readsNumber : Room := { frames := 1, cells := 0, slots := 0, locals := 22 }
theorem hdX2_readsNumber : yX2_readsNumber.cls = RX2 ∧ yX2_readsNumber.cls ≠ "java/lang/invoke/MethodHandle" ∧ yX2_readsNumber.cls ≠ "java/lang/invoke/VarHandle" ∧ (parseMethodDescriptor yX2_readsNumber.desc).map (fun d => d.parameters.length) = some 2 := by decide +kernel
def GX2_readsNumber_9 (p : Program) (l : Launch) (e : Env) (s : State) (m : MethodId) (args : Array Value) (below : List Frame) (meth : Method) (c : Code) (D : va_G) (cA : ClassId) (A : Nat → Prop) (ad : Nat → Nat) (z : (Int32 × VS)) (x : (VS) × (Int32) × (Int32) × (Int32)) : Prop := ∀ (H : Heap) (locs : List Loc) (ls : Array Slot), Wd D A s.heap (wM cA ad x.1) H locs → lv_has ls 4 [(0, .ref (ad 0)), (1, .int x.2.1), (2, .int x.2.2.1), (3, .int x.2.2.2)] → W p l e rmX2_readsNumber s m args below meth c H locs 0 0 (MQ below (QI D cA A z.1 (wM cA ad z.2)) args s 0 0 A) (F0 m 9 ls [])
def fX2_readsNumber_9 (k9 : ((VS) × (Int32) × (Int32) × (Int32)) → Option (Int32 × VS)) : ((VS) × (Int32) × (Int32) × (Int32)) → Option (Int32 × VS) := fun x => match x with | (Y, x_1, x_2, x_3) => if x_2 ≤ x_3 then some (1, Y) else cl (fX2_here Y) (fun r2 => cl (fX2_isIn r2 48 57) (fun r3 => if r3 = 0 then some (0, Y) else rd 3 (Y 11) x_1 (fun r5 => cl (fX2_here Y) (fun r6 => ck 3 x_1 (bn (up Y 11 (upd (Y 11) (x_1 : Int32).toNatClampNeg ((((10 : Int32) * r5) + r6) - (48 : Int32)))) (fun w7 => bn (up w7 10 (fun _ => ((w7 10 0) + (1 : Int32)))) (fun w8 => bn (x_3 + 1) (fun x9 => k9 (w8, x_1, x_2, x9)))))))))
def fX2_readsNumber (Y : VS) (a_1 : Int32) (a_2 : Int32) : Option (Int32 × VS) := ck 3 a_1 (bn (up Y 11 (upd (Y 11) (a_1 : Int32).toNatClampNeg 0)) (fun w1 => lp (fX2_readsNumber_9) 5000 (w1, a_1, a_2, 0)))
set_option maxHeartbeats 4000000 in
set_option maxRecDepth 100000 in
theorem kX2_readsNumber_9 (C : Cx p s m args meth c cX2_readsNumber 4 RX2 D cA g A) (hr : meth.sig.returnType = (some .boolean)) {z : (Int32 × VS)} (k9 : ((VS) × (Int32) × (Int32) × (Int32)) → Option (Int32 × VS)) (hk9 : ∀ x, k9 x = some z → GX2_readsNumber_9 p l e s m args below meth c D cA A ad z x) (x : (VS) × (Int32) × (Int32) × (Int32)) (h : fX2_readsNumber_9 k9 x = some z) : GX2_readsNumber_9 p l e s m args below meth c D cA A ad z x := by
  obtain ⟨Y, x_1, x_2, x_3⟩ := x
  intro H locs ls hw hl
  have hw : Wd D A s.heap (wM cA ad Y) H locs := hw
  have hl : lv_has ls 4 [(0, .ref (ad 0)), (1, .int x_1), (2, .int x_2), (3, .int x_3)] := hl
  have hx := C.1.1
  have hb := C.1.2.1
  have h : (if x_2 ≤ x_3 then some (1, Y) else cl (fX2_here Y) (fun r2 => cl (fX2_isIn r2 48 57) (fun r3 => if r3 = 0 then some (0, Y) else rd 3 (Y 11) x_1 (fun r5 => cl (fX2_here Y) (fun r6 => ck 3 x_1 (bn (up Y 11 (upd (Y 11) (x_1 : Int32).toNatClampNeg ((((10 : Int32) * r5) + r6) - (48 : Int32)))) (fun w7 => bn (up w7 10 (fun _ => ((w7 10 0) + (1 : Int32)))) (fun w8 => bn (x_3 + 1) (fun x9 => k9 (w8, x_1, x_2, x9)))))))))) = some z := h
  refine lv_iload_n hx hb dX2_readsNumber_9 rfl (lv_at hl 3 rfl) ?_
  refine lv_iload_n hx hb dX2_readsNumber_10 rfl (lv_at hl 2 rfl) ?_
  refine lv_icmp_ge (tgt := 69) hx hb dX2_readsNumber_11 (by decide) (fun c1 => ?_) (fun c1 => ?_)
  · replace h := (if_pos c1).symm.trans h
    refine lv_iconst (v := 1) hx hb dX2_readsNumber_69 (by decide) ?_
    obtain rfl := some_e h
    exact rtZ C hr nz1 hw dX2_readsNumber_70
  · replace h := (if_neg c1).symm.trans h
    refine lv_aload_n hx hb dX2_readsNumber_14 rfl (lv_at hl 0 rfl) ?_
    obtain ⟨r2, hr2, h⟩ := cl_some h
    refine cVi (ws2 := (wM cA ad Y)) (As := []) (rest := []) C hw jnW (kX2_here ad hr2) kl_RX2_104 ki_yX2_here ks_yX2_here kn_RX2 kc_yX2_here ⟨rfl, rfl⟩ hdX2_here ⟨Nat.le_of_ble_eq_true rfl, Nat.le_of_ble_eq_true rfl⟩ (ci := 2) (q0 := 0) rfl rfl rfl rfl hl.1 (Nat.le_of_ble_eq_true rfl) dX2_readsNumber_15 ⟨Nat.zero_le _, Nat.zero_le _⟩ (fun H locs hw => ?_)
    refine lv_bipush (v := 48) hx hb dX2_readsNumber_18 (by decide) ?_
    refine lv_bipush (v := 57) hx hb dX2_readsNumber_20 (by decide) ?_
    obtain ⟨r3, hr3, h⟩ := cl_some h
    refine cSi (ws2 := (wM cA ad Y)) (As := [.int r2, .int 48, .int 57]) (rest := []) C hw jnE (kX2_isIn hr3) kl_RX2_40 kt_yX2_isIn kn_RX2 kc_yX2_isIn ⟨rfl, rfl⟩ hdX2_isIn ⟨Nat.le_of_ble_eq_true rfl, Nat.le_of_ble_eq_true rfl⟩ rfl hl.1 (Nat.le_of_ble_eq_true rfl) dX2_readsNumber_22 ⟨Nat.zero_le _, Nat.zero_le _⟩ (fun H locs hw => ?_)
    refine lv_if_ne (tgt := 30) hx hb dX2_readsNumber_25 (by decide) (fun c4 => ?_) (fun c4 => ?_)
    · replace h := (if_neg c4).symm.trans h
      refine lv_aload_n hx hb dX2_readsNumber_30 rfl (lv_at hl 0 rfl) ?_
      refine tGet (T := TX2) (N := 13) (ci := 2) C hw inX2 11 0 rfl (by decide) kf_RX2_31 rfl rfl rfl dX2_readsNumber_31 ?_
      refine lv_iload_n hx hb dX2_readsNumber_34 rfl (lv_at hl 1 rfl) ?_
      refine lv_bipush (v := 10) hx hb dX2_readsNumber_35 (by decide) ?_
      refine lv_aload_n hx hb dX2_readsNumber_37 rfl (lv_at hl 0 rfl) ?_
      refine tGet (T := TX2) (N := 13) (ci := 2) C hw inX2 11 0 rfl (by decide) kf_RX2_31 rfl rfl rfl dX2_readsNumber_38 ?_
      refine lv_iload_n hx hb dX2_readsNumber_41 rfl (lv_at hl 1 rfl) ?_
      obtain ⟨r5, ir5, er5, h⟩ := rd_some h
      refine tLd C hw 8 rfl ir5 er5 dX2_readsNumber_42 ?_
      refine lv_imul hx hb dX2_readsNumber_43 ?_
      refine lv_aload_n hx hb dX2_readsNumber_44 rfl (lv_at hl 0 rfl) ?_
      obtain ⟨r6, hr6, h⟩ := cl_some h
      refine cVi (ws2 := (wM cA ad Y)) (As := []) (rest := [.int ((10 : Int32) * r5), .int x_1, .ref (ad 8)]) C hw jnW (kX2_here ad hr6) kl_RX2_104 ki_yX2_here ks_yX2_here kn_RX2 kc_yX2_here ⟨rfl, rfl⟩ hdX2_here ⟨Nat.le_of_ble_eq_true rfl, Nat.le_of_ble_eq_true rfl⟩ (ci := 2) (q0 := 0) rfl rfl rfl rfl hl.1 (Nat.le_of_ble_eq_true rfl) dX2_readsNumber_45 ⟨Nat.zero_le _, Nat.zero_le _⟩ (fun H locs hw => ?_)
      refine lv_iadd hx hb dX2_readsNumber_48 ?_
      refine lv_bipush (v := 48) hx hb dX2_readsNumber_49 (by decide) ?_
      refine lv_isub hx hb dX2_readsNumber_51 ?_
      obtain ⟨iw7, h⟩ := ck_some h
      obtain ⟨w7, ew7⟩ : ∃ y : VS, y = up Y 11 (upd (Y 11) (x_1 : Int32).toNatClampNeg ((((10 : Int32) * r5) + r6) - (48 : Int32))) := ⟨_, rfl⟩
      replace h := bn_some h ew7
      refine tSt (ws2 := (wM cA ad w7)) C hw 8 rfl iw7 (by rw [ew7]; rfl) dX2_readsNumber_52 (fun H locs hw => ?_)
      refine lv_aload_n hx hb dX2_readsNumber_53 rfl (lv_at hl 0 rfl) ?_
      refine lv_dup hx hb dX2_readsNumber_54 rfl ?_
      refine tGet (T := TX2) (N := 13) (ci := 2) C hw inX2 10 0 rfl (by decide) kf_RX2_101 rfl rfl rfl dX2_readsNumber_55 ?_
      refine lv_iconst (v := 1) hx hb dX2_readsNumber_58 (by decide) ?_
      refine lv_iadd hx hb dX2_readsNumber_59 ?_
      obtain ⟨w8, ew8⟩ : ∃ y : VS, y = up w7 10 (fun _ => ((w7 10 0) + (1 : Int32))) := ⟨_, rfl⟩
      replace h := bn_some h ew8
      refine tPut (T := TX2) (N := 13) (ci := 2) (ws2 := (wM cA ad w8)) C hw inX2 tyX2 tyX2_ok nmX2 10 0 rfl (by decide) kf_RX2_101 rfl rfl rfl rfl rfl (Nat.le_of_ble_eq_true rfl) (by rw [ew8]; rfl) dX2_readsNumber_60 (fun H locs hw => ?_)
      obtain ⟨x9, ex9⟩ : ∃ y : Int32, y = x_3 + 1 := ⟨_, rfl⟩
      replace h := bn_some h ex9
      refine lv_iinc (v := x9) (lv' := [(3, .int x9), (0, .ref (ad 0)), (1, .int x_1), (2, .int x_2)]) hx hb dX2_readsNumber_63 hl (k := 3) rfl (by rw [ex9]; rfl) (by decide) rfl (fun ls hl => ?_)
      refine lv_goto (tgt := 9) hx hb dX2_readsNumber_66 (by decide) ?_
      exact hk9 (w8, x_1, x_2, x9) h _ _ _ hw (lv_sub hl [1, 2, 3, 0] rfl)
    · replace h := (if_pos c4).symm.trans h
      refine lv_iconst (v := 0) hx hb dX2_readsNumber_28 (by decide) ?_
      obtain rfl := some_e h
      exact rtZ C hr nz0 hw dX2_readsNumber_29
theorem lX2_readsNumber_9 (C : Cx p s m args meth c cX2_readsNumber 4 RX2 D cA g A) (hr : meth.sig.returnType = (some .boolean)) {z : (Int32 × VS)} (n : Nat) (x : (VS) × (Int32) × (Int32) × (Int32)) (h : lp (fX2_readsNumber_9) n x = some z) : GX2_readsNumber_9 p l e s m args below meth c D cA A ad z x := lp_ok (GX2_readsNumber_9 p l e s m args below meth c D cA A ad z) (fun kq hkq x h => kX2_readsNumber_9 C hr kq hkq x h) n x h
set_option maxHeartbeats 4000000 in
set_option maxRecDepth 100000 in
theorem kX2_readsNumber (ad : Nat → Nat) {Y : VS} {a_1 : Int32} {a_2 : Int32} {z : (Int32 × VS)} (h : fX2_readsNumber Y a_1 a_2 = some z) : MI l D cA g yX2_readsNumber (Cond.code yX2_readsNumber cX2_readsNumber 4 (some .boolean) :: lw_g) rmX2_readsNumber [.ref (ad 0), .int a_1, .int a_2] (wM cA ad Y) z.1 (wM cA ad z.2) := by
  intro sz
  refine Met.ofW (cc := cX2_readsNumber) (maxL := 4) (ret := (some .boolean)) (by decide) rfl ?_
  intro p e s m args below meth c s₁ B hml hv
  obtain ⟨rfl, C, hr, hw⟩ := ent B hml hv
  generalize va_A (wM cA ad Y) sz = A at C hw ⊢
  have hl := lv_entry ([.ref (ad 0), .int a_1, .int a_2]) (n := 4) (Nat.le_of_ble_eq_true rfl)
  rw [lg_entry_eq]
  generalize (lg_sl ([.ref (ad 0), .int a_1, .int a_2]) ++ List.replicate (4 - (lg_sl ([.ref (ad 0), .int a_1, .int a_2])).length) Slot.unset).toArray = ls at hl ⊢
  have hl : lv_has ls 4 [(0, .ref (ad 0)), (1, .int a_1), (2, .int a_2)] := hl
  have hx := C.1.1
  have hb := C.1.2.1
  have h : (ck 3 a_1 (bn (up Y 11 (upd (Y 11) (a_1 : Int32).toNatClampNeg 0)) (fun w1 => lp (fX2_readsNumber_9) 5000 (w1, a_1, a_2, 0)))) = some z := h
  refine lv_aload_n hx hb dX2_readsNumber_0 rfl (lv_at hl 0 rfl) ?_
  refine tGet (T := TX2) (N := 13) (ci := 2) C hw inX2 11 0 rfl (by decide) kf_RX2_31 rfl rfl rfl dX2_readsNumber_1 ?_
  refine lv_iload_n hx hb dX2_readsNumber_4 rfl (lv_at hl 1 rfl) ?_
  refine lv_iconst (v := 0) hx hb dX2_readsNumber_5 (by decide) ?_
  obtain ⟨iw1, h⟩ := ck_some h
  obtain ⟨w1, ew1⟩ : ∃ y : VS, y = up Y 11 (upd (Y 11) (a_1 : Int32).toNatClampNeg 0) := ⟨_, rfl⟩
  replace h := bn_some h ew1
  refine tSt (ws2 := (wM cA ad w1)) C hw 8 rfl iw1 (by rw [ew1]; rfl) dX2_readsNumber_6 (fun H locs hw => ?_)
  refine lv_iconst (v := 0) hx hb dX2_readsNumber_7 (by decide) ?_
  refine lv_istore_n (lv' := [(3, .int 0), (0, .ref (ad 0)), (1, .int a_1), (2, .int a_2)]) hx hb dX2_readsNumber_8 rfl hl (by decide) rfl (fun ls hl => ?_)
  exact lX2_readsNumber_9 C hr 5000 (w1, a_1, a_2, 0) h _ _ _ hw (lv_sub hl [1, 2, 3, 0] rfl)
abbrev rmX2_kindBy : Room := { frames := 0, cells := 0, slots := 0, locals := 0 }
theorem hdX2_kindBy : yX2_kindBy.cls ≠ "java/lang/invoke/MethodHandle" ∧ yX2_kindBy.cls ≠ "java/lang/invoke/VarHandle" ∧ (parseMethodDescriptor yX2_kindBy.desc).map (fun d => d.parameters.length) = some 1 := by decide +kernel
def GX2_kindBy_92 (p : Program) (l : Launch) (e : Env) (s : State) (m : MethodId) (args : Array Value) (below : List Frame) (meth : Method) (c : Code) (D : va_G) (cA : ClassId) (A : Nat → Prop)  (z : Int32) (x : Unit) : Prop := ∀ (H : Heap) (locs : List Loc) (ls : Array Slot), Wd D A s.heap ([] : va_W) H locs → lv_has ls 1 [] → W p l e rmX2_kindBy s m args below meth c H locs 0 0 (MQ below (QI D cA A z ([] : va_W)) args s 0 0 A) (F0 m 92 ls [])
def fX2_kindBy_92 : (Unit) → Option Int32 := fun _ => some (-9)
def fX2_kindBy (a_0 : Int32) : Option Int32 := if a_0 = 100 then some 3 else if a_0 = 101 then fX2_kindBy_92 () else if a_0 = 102 then fX2_kindBy_92 () else if a_0 = 103 then some 2 else if a_0 = 104 then fX2_kindBy_92 () else if a_0 = 105 then fX2_kindBy_92 () else if a_0 = 106 then fX2_kindBy_92 () else if a_0 = 107 then fX2_kindBy_92 () else if a_0 = 108 then some 5 else if a_0 = 109 then fX2_kindBy_92 () else if a_0 = 110 then fX2_kindBy_92 () else if a_0 = 111 then fX2_kindBy_92 () else if a_0 = 112 then fX2_kindBy_92 () else if a_0 = 113 then some 4 else if a_0 = 114 then some 0 else if a_0 = 115 then some 1 else fX2_kindBy_92 ()
set_option maxHeartbeats 4000000 in
set_option maxRecDepth 100000 in
theorem kX2_kindBy_92 (C : Cx p s m args meth c cX2_kindBy 1 RX2 D cA g A) (hr : meth.sig.returnType = (some .int)) {z : Int32} (x : Unit) (h : fX2_kindBy_92 x = some z) : GX2_kindBy_92 p l e s m args below meth c D cA A  z x := by
  intro H locs ls hw hl
  have hw : Wd D A s.heap ([] : va_W) H locs := hw
  have hl : lv_has ls 1 [] := hl
  have hx := C.1.1
  have hb := C.1.2.1
  have h : (some (-9)) = some z := h
  refine lv_bipush (v := (-9)) hx hb dX2_kindBy_92 (by decide) ?_
  obtain rfl := some_e h
  exact rtI C hr hw dX2_kindBy_94
set_option maxHeartbeats 4000000 in
set_option maxRecDepth 100000 in
theorem kX2_kindBy  {a_0 : Int32} {z : Int32} (h : fX2_kindBy a_0 = some z) : MI l D cA g yX2_kindBy (Cond.code yX2_kindBy cX2_kindBy 1 (some .int) :: lw_g) rmX2_kindBy [.int a_0] ([] : va_W) z ([] : va_W) := by
  intro sz
  refine Met.ofW (cc := cX2_kindBy) (maxL := 1) (ret := (some .int)) (by decide) rfl ?_
  intro p e s m args below meth c s₁ B hml hv
  obtain ⟨rfl, C, hr, hw⟩ := ent B hml hv
  generalize va_A ([] : va_W) sz = A at C hw ⊢
  have hl := lv_entry ([.int a_0]) (n := 1) (Nat.le_of_ble_eq_true rfl)
  rw [lg_entry_eq]
  generalize (lg_sl ([.int a_0]) ++ List.replicate (1 - (lg_sl ([.int a_0])).length) Slot.unset).toArray = ls at hl ⊢
  have hl : lv_has ls 1 [(0, .int a_0)] := hl
  have hx := C.1.1
  have hb := C.1.2.1
  have h : (if a_0 = 100 then some 3 else if a_0 = 101 then fX2_kindBy_92 () else if a_0 = 102 then fX2_kindBy_92 () else if a_0 = 103 then some 2 else if a_0 = 104 then fX2_kindBy_92 () else if a_0 = 105 then fX2_kindBy_92 () else if a_0 = 106 then fX2_kindBy_92 () else if a_0 = 107 then fX2_kindBy_92 () else if a_0 = 108 then some 5 else if a_0 = 109 then fX2_kindBy_92 () else if a_0 = 110 then fX2_kindBy_92 () else if a_0 = 111 then fX2_kindBy_92 () else if a_0 = 112 then fX2_kindBy_92 () else if a_0 = 113 then some 4 else if a_0 = 114 then some 0 else if a_0 = 115 then some 1 else fX2_kindBy_92 ()) = some z := h
  refine lv_iload_n hx hb dX2_kindBy_0 rfl (lv_at hl 0 rfl) ?_
  by_cases c1 : a_0 = 100
  · replace h := (if_pos c1).symm.trans h
    refine lv_tableIn (tgt := 86) hx hb dX2_kindBy_1 (by rw [c1]; decide) (by rw [c1]; decide) (by rw [c1]; rfl) (by decide) ?_
    refine lv_iconst (v := 3) hx hb dX2_kindBy_86 (by decide) ?_
    obtain rfl := some_e h
    exact rtI C hr hw dX2_kindBy_87
  replace h := (if_neg c1).symm.trans h
  by_cases c2 : a_0 = 101
  · replace h := (if_pos c2).symm.trans h
    refine lv_tableIn (tgt := 92) hx hb dX2_kindBy_1 (by rw [c2]; decide) (by rw [c2]; decide) (by rw [c2]; rfl) (by decide) ?_
    exact kX2_kindBy_92 C hr () h _ _ _ hw (lv_sub hl [] rfl)
  replace h := (if_neg c2).symm.trans h
  by_cases c3 : a_0 = 102
  · replace h := (if_pos c3).symm.trans h
    refine lv_tableIn (tgt := 92) hx hb dX2_kindBy_1 (by rw [c3]; decide) (by rw [c3]; decide) (by rw [c3]; rfl) (by decide) ?_
    exact kX2_kindBy_92 C hr () h _ _ _ hw (lv_sub hl [] rfl)
  replace h := (if_neg c3).symm.trans h
  by_cases c4 : a_0 = 103
  · replace h := (if_pos c4).symm.trans h
    refine lv_tableIn (tgt := 84) hx hb dX2_kindBy_1 (by rw [c4]; decide) (by rw [c4]; decide) (by rw [c4]; rfl) (by decide) ?_
    refine lv_iconst (v := 2) hx hb dX2_kindBy_84 (by decide) ?_
    obtain rfl := some_e h
    exact rtI C hr hw dX2_kindBy_85
  replace h := (if_neg c4).symm.trans h
  by_cases c5 : a_0 = 104
  · replace h := (if_pos c5).symm.trans h
    refine lv_tableIn (tgt := 92) hx hb dX2_kindBy_1 (by rw [c5]; decide) (by rw [c5]; decide) (by rw [c5]; rfl) (by decide) ?_
    exact kX2_kindBy_92 C hr () h _ _ _ hw (lv_sub hl [] rfl)
  replace h := (if_neg c5).symm.trans h
  by_cases c6 : a_0 = 105
  · replace h := (if_pos c6).symm.trans h
    refine lv_tableIn (tgt := 92) hx hb dX2_kindBy_1 (by rw [c6]; decide) (by rw [c6]; decide) (by rw [c6]; rfl) (by decide) ?_
    exact kX2_kindBy_92 C hr () h _ _ _ hw (lv_sub hl [] rfl)
  replace h := (if_neg c6).symm.trans h
  by_cases c7 : a_0 = 106
  · replace h := (if_pos c7).symm.trans h
    refine lv_tableIn (tgt := 92) hx hb dX2_kindBy_1 (by rw [c7]; decide) (by rw [c7]; decide) (by rw [c7]; rfl) (by decide) ?_
    exact kX2_kindBy_92 C hr () h _ _ _ hw (lv_sub hl [] rfl)
  replace h := (if_neg c7).symm.trans h
  by_cases c8 : a_0 = 107
  · replace h := (if_pos c8).symm.trans h
    refine lv_tableIn (tgt := 92) hx hb dX2_kindBy_1 (by rw [c8]; decide) (by rw [c8]; decide) (by rw [c8]; rfl) (by decide) ?_
    exact kX2_kindBy_92 C hr () h _ _ _ hw (lv_sub hl [] rfl)
  replace h := (if_neg c8).symm.trans h
  by_cases c9 : a_0 = 108
  · replace h := (if_pos c9).symm.trans h
    refine lv_tableIn (tgt := 90) hx hb dX2_kindBy_1 (by rw [c9]; decide) (by rw [c9]; decide) (by rw [c9]; rfl) (by decide) ?_
    refine lv_iconst (v := 5) hx hb dX2_kindBy_90 (by decide) ?_
    obtain rfl := some_e h
    exact rtI C hr hw dX2_kindBy_91
  replace h := (if_neg c9).symm.trans h
  by_cases c10 : a_0 = 109
  · replace h := (if_pos c10).symm.trans h
    refine lv_tableIn (tgt := 92) hx hb dX2_kindBy_1 (by rw [c10]; decide) (by rw [c10]; decide) (by rw [c10]; rfl) (by decide) ?_
    exact kX2_kindBy_92 C hr () h _ _ _ hw (lv_sub hl [] rfl)
  replace h := (if_neg c10).symm.trans h
  by_cases c11 : a_0 = 110
  · replace h := (if_pos c11).symm.trans h
    refine lv_tableIn (tgt := 92) hx hb dX2_kindBy_1 (by rw [c11]; decide) (by rw [c11]; decide) (by rw [c11]; rfl) (by decide) ?_
    exact kX2_kindBy_92 C hr () h _ _ _ hw (lv_sub hl [] rfl)
  replace h := (if_neg c11).symm.trans h
  by_cases c12 : a_0 = 111
  · replace h := (if_pos c12).symm.trans h
    refine lv_tableIn (tgt := 92) hx hb dX2_kindBy_1 (by rw [c12]; decide) (by rw [c12]; decide) (by rw [c12]; rfl) (by decide) ?_
    exact kX2_kindBy_92 C hr () h _ _ _ hw (lv_sub hl [] rfl)
  replace h := (if_neg c12).symm.trans h
  by_cases c13 : a_0 = 112
  · replace h := (if_pos c13).symm.trans h
    refine lv_tableIn (tgt := 92) hx hb dX2_kindBy_1 (by rw [c13]; decide) (by rw [c13]; decide) (by rw [c13]; rfl) (by decide) ?_
    exact kX2_kindBy_92 C hr () h _ _ _ hw (lv_sub hl [] rfl)
  replace h := (if_neg c13).symm.trans h
  by_cases c14 : a_0 = 113
  · replace h := (if_pos c14).symm.trans h
    refine lv_tableIn (tgt := 88) hx hb dX2_kindBy_1 (by rw [c14]; decide) (by rw [c14]; decide) (by rw [c14]; rfl) (by decide) ?_
    refine lv_iconst (v := 4) hx hb dX2_kindBy_88 (by decide) ?_
    obtain rfl := some_e h
    exact rtI C hr hw dX2_kindBy_89
  replace h := (if_neg c14).symm.trans h
  by_cases c15 : a_0 = 114
  · replace h := (if_pos c15).symm.trans h
    refine lv_tableIn (tgt := 80) hx hb dX2_kindBy_1 (by rw [c15]; decide) (by rw [c15]; decide) (by rw [c15]; rfl) (by decide) ?_
    refine lv_iconst (v := 0) hx hb dX2_kindBy_80 (by decide) ?_
    obtain rfl := some_e h
    exact rtI C hr hw dX2_kindBy_81
  replace h := (if_neg c15).symm.trans h
  by_cases c16 : a_0 = 115
  · replace h := (if_pos c16).symm.trans h
    refine lv_tableIn (tgt := 82) hx hb dX2_kindBy_1 (by rw [c16]; decide) (by rw [c16]; decide) (by rw [c16]; rfl) (by decide) ?_
    refine lv_iconst (v := 1) hx hb dX2_kindBy_82 (by decide) ?_
    obtain rfl := some_e h
    exact rtI C hr hw dX2_kindBy_83
  replace h := (if_neg c16).symm.trans h
  have hout : (a_0 : Int32).toInt < 100 ∨ 115 < (a_0 : Int32).toInt := sw_out (fun k h1 h2 => by
    have hk : k = 100 ∨ k = 101 ∨ k = 102 ∨ k = 103 ∨ k = 104 ∨ k = 105 ∨ k = 106 ∨ k = 107 ∨ k = 108 ∨ k = 109 ∨ k = 110 ∨ k = 111 ∨ k = 112 ∨ k = 113 ∨ k = 114 ∨ k = 115 := by omega
    rcases hk with rfl | rfl | rfl | rfl | rfl | rfl | rfl | rfl | rfl | rfl | rfl | rfl | rfl | rfl | rfl | rfl
    · exact sw_ne c1 (by decide)
    · exact sw_ne c2 (by decide)
    · exact sw_ne c3 (by decide)
    · exact sw_ne c4 (by decide)
    · exact sw_ne c5 (by decide)
    · exact sw_ne c6 (by decide)
    · exact sw_ne c7 (by decide)
    · exact sw_ne c8 (by decide)
    · exact sw_ne c9 (by decide)
    · exact sw_ne c10 (by decide)
    · exact sw_ne c11 (by decide)
    · exact sw_ne c12 (by decide)
    · exact sw_ne c13 (by decide)
    · exact sw_ne c14 (by decide)
    · exact sw_ne c15 (by decide)
    · exact sw_ne c16 (by decide))
  refine lv_tableOut (tgt := 92) hx hb dX2_kindBy_1 hout (by decide) ?_
  exact kX2_kindBy_92 C hr () h _ _ _ hw (lv_sub hl [] rfl)
abbrev rmX2_readsKind : Room := { frames := 1, cells := 0, slots := 0, locals := 20 }
theorem hdX2_readsKind : yX2_readsKind.cls = RX2 ∧ yX2_readsKind.cls ≠ "java/lang/invoke/MethodHandle" ∧ yX2_readsKind.cls ≠ "java/lang/invoke/VarHandle" ∧ (parseMethodDescriptor yX2_readsKind.desc).map (fun d => d.parameters.length) = some 0 := by decide +kernel
def GX2_readsKind_32 (p : Program) (l : Launch) (e : Env) (s : State) (m : MethodId) (args : Array Value) (below : List Frame) (meth : Method) (c : Code) (D : va_G) (cA : ClassId) (A : Nat → Prop) (ad : Nat → Nat) (z : (Int32 × VS)) (x : (VS) × (Int32) × (Int32)) : Prop := ∀ (H : Heap) (locs : List Loc) (ls : Array Slot), Wd D A s.heap (wM cA ad x.1) H locs → lv_has ls 1 [(0, .ref (ad 0))] → W p l e rmX2_readsKind s m args below meth c H locs 0 0 (MQ below (QI D cA A z.1 (wM cA ad z.2)) args s 0 0 A) (F0 m 32 ls [.int x.2.1, .int x.2.2, .ref (ad 0)])
def fX2_readsKind_32 : ((VS) × (Int32) × (Int32)) → Option (Int32 × VS) := fun x => match x with | (Y, y_0, y_1) => bn (up Y 10 (fun _ => (y_1 + y_0))) (fun w1 => rd 3 (w1 11) 0 (fun r2 => if r2 < 0 then some (0, w1) else some (1, w1)))
def fX2_readsKind (Y : VS) : Option (Int32 × VS) := cl (fX2_here Y) (fun r1 => cl (fX2_kindBy r1) (fun r2 => ck 3 0 (bn (up Y 11 (upd (Y 11) (0 : Int32).toNatClampNeg r2)) (fun w3 => rd 3 (w3 11) 0 (fun r4 => if 0 ≤ r4 then fX2_readsKind_32 (w3, 1, (w3 10 0)) else fX2_readsKind_32 (w3, 0, (w3 10 0)))))))
set_option maxHeartbeats 4000000 in
set_option maxRecDepth 100000 in
theorem kX2_readsKind_32 (C : Cx p s m args meth c cX2_readsKind 1 RX2 D cA g A) (hr : meth.sig.returnType = (some .boolean)) {z : (Int32 × VS)} (x : (VS) × (Int32) × (Int32)) (h : fX2_readsKind_32 x = some z) : GX2_readsKind_32 p l e s m args below meth c D cA A ad z x := by
  obtain ⟨Y, y_0, y_1⟩ := x
  intro H locs ls hw hl
  have hw : Wd D A s.heap (wM cA ad Y) H locs := hw
  have hl : lv_has ls 1 [(0, .ref (ad 0))] := hl
  show W p l e rmX2_readsKind s m args below meth c H locs 0 0 (MQ below (QI D cA A z.1 (wM cA ad z.2)) args s 0 0 A) (F0 m 32 ls [.int y_0, .int y_1, .ref (ad 0)])
  have hx := C.1.1
  have hb := C.1.2.1
  have h : (bn (up Y 10 (fun _ => (y_1 + y_0))) (fun w1 => rd 3 (w1 11) 0 (fun r2 => if r2 < 0 then some (0, w1) else some (1, w1)))) = some z := h
  refine lv_iadd hx hb dX2_readsKind_32 ?_
  obtain ⟨w1, ew1⟩ : ∃ y : VS, y = up Y 10 (fun _ => (y_1 + y_0)) := ⟨_, rfl⟩
  replace h := bn_some h ew1
  refine tPut (T := TX2) (N := 13) (ci := 2) (ws2 := (wM cA ad w1)) C hw inX2 tyX2 tyX2_ok nmX2 10 0 rfl (by decide) kf_RX2_101 rfl rfl rfl rfl rfl (Nat.le_of_ble_eq_true rfl) (by rw [ew1]; rfl) dX2_readsKind_33 (fun H locs hw => ?_)
  refine lv_aload_n hx hb dX2_readsKind_36 rfl (lv_at hl 0 rfl) ?_
  refine tGet (T := TX2) (N := 13) (ci := 2) C hw inX2 11 0 rfl (by decide) kf_RX2_31 rfl rfl rfl dX2_readsKind_37 ?_
  refine lv_iconst (v := 0) hx hb dX2_readsKind_40 (by decide) ?_
  obtain ⟨r2, ir2, er2, h⟩ := rd_some h
  refine tLd C hw 8 rfl ir2 er2 dX2_readsKind_41 ?_
  refine lv_if_lt (tgt := 49) hx hb dX2_readsKind_42 (by decide) (fun c3 => ?_) (fun c3 => ?_)
  · replace h := (if_pos c3).symm.trans h
    refine lv_iconst (v := 0) hx hb dX2_readsKind_49 (by decide) ?_
    obtain rfl := some_e h
    exact rtZ C hr nz0 hw dX2_readsKind_50
  · replace h := (if_neg c3).symm.trans h
    refine lv_iconst (v := 1) hx hb dX2_readsKind_45 (by decide) ?_
    refine lv_goto (tgt := 50) hx hb dX2_readsKind_46 (by decide) ?_
    obtain rfl := some_e h
    exact rtZ C hr nz1 hw dX2_readsKind_50
set_option maxHeartbeats 4000000 in
set_option maxRecDepth 100000 in
theorem kX2_readsKind (ad : Nat → Nat) {Y : VS} {z : (Int32 × VS)} (h : fX2_readsKind Y = some z) : MI l D cA g yX2_readsKind (Cond.code yX2_readsKind cX2_readsKind 1 (some .boolean) :: lw_g) rmX2_readsKind [.ref (ad 0)] (wM cA ad Y) z.1 (wM cA ad z.2) := by
  intro sz
  refine Met.ofW (cc := cX2_readsKind) (maxL := 1) (ret := (some .boolean)) (by decide) rfl ?_
  intro p e s m args below meth c s₁ B hml hv
  obtain ⟨rfl, C, hr, hw⟩ := ent B hml hv
  generalize va_A (wM cA ad Y) sz = A at C hw ⊢
  have hl := lv_entry ([.ref (ad 0)]) (n := 1) (Nat.le_of_ble_eq_true rfl)
  rw [lg_entry_eq]
  generalize (lg_sl ([.ref (ad 0)]) ++ List.replicate (1 - (lg_sl ([.ref (ad 0)])).length) Slot.unset).toArray = ls at hl ⊢
  have hl : lv_has ls 1 [(0, .ref (ad 0))] := hl
  have hx := C.1.1
  have hb := C.1.2.1
  have h : (cl (fX2_here Y) (fun r1 => cl (fX2_kindBy r1) (fun r2 => ck 3 0 (bn (up Y 11 (upd (Y 11) (0 : Int32).toNatClampNeg r2)) (fun w3 => rd 3 (w3 11) 0 (fun r4 => if 0 ≤ r4 then fX2_readsKind_32 (w3, 1, (w3 10 0)) else fX2_readsKind_32 (w3, 0, (w3 10 0)))))))) = some z := h
  refine lv_aload_n hx hb dX2_readsKind_0 rfl (lv_at hl 0 rfl) ?_
  refine tGet (T := TX2) (N := 13) (ci := 2) C hw inX2 11 0 rfl (by decide) kf_RX2_31 rfl rfl rfl dX2_readsKind_1 ?_
  refine lv_iconst (v := 0) hx hb dX2_readsKind_4 (by decide) ?_
  refine lv_aload_n hx hb dX2_readsKind_5 rfl (lv_at hl 0 rfl) ?_
  obtain ⟨r1, hr1, h⟩ := cl_some h
  refine cVi (ws2 := (wM cA ad Y)) (As := []) (rest := [.int 0, .ref (ad 8)]) C hw jnW (kX2_here ad hr1) kl_RX2_104 ki_yX2_here ks_yX2_here kn_RX2 kc_yX2_here ⟨rfl, rfl⟩ hdX2_here ⟨Nat.le_of_ble_eq_true rfl, Nat.le_of_ble_eq_true rfl⟩ (ci := 2) (q0 := 0) rfl rfl rfl rfl hl.1 (Nat.le_of_ble_eq_true rfl) dX2_readsKind_6 ⟨Nat.zero_le _, Nat.zero_le _⟩ (fun H locs hw => ?_)
  obtain ⟨r2, hr2, h⟩ := cl_some h
  refine cSi (ws2 := (wM cA ad Y)) (As := [.int r1]) (rest := [.int 0, .ref (ad 8)]) C hw jnE (kX2_kindBy hr2) kl_RX2_108 kt_yX2_kindBy kn_RX2 kc_yX2_kindBy ⟨rfl, rfl⟩ hdX2_kindBy ⟨Nat.le_of_ble_eq_true rfl, Nat.le_of_ble_eq_true rfl⟩ rfl hl.1 (Nat.le_of_ble_eq_true rfl) dX2_readsKind_9 ⟨Nat.zero_le _, Nat.zero_le _⟩ (fun H locs hw => ?_)
  obtain ⟨iw3, h⟩ := ck_some h
  obtain ⟨w3, ew3⟩ : ∃ y : VS, y = up Y 11 (upd (Y 11) (0 : Int32).toNatClampNeg r2) := ⟨_, rfl⟩
  replace h := bn_some h ew3
  refine tSt (ws2 := (wM cA ad w3)) C hw 8 rfl iw3 (by rw [ew3]; rfl) dX2_readsKind_12 (fun H locs hw => ?_)
  refine lv_aload_n hx hb dX2_readsKind_13 rfl (lv_at hl 0 rfl) ?_
  refine lv_dup hx hb dX2_readsKind_14 rfl ?_
  refine tGet (T := TX2) (N := 13) (ci := 2) C hw inX2 10 0 rfl (by decide) kf_RX2_101 rfl rfl rfl dX2_readsKind_15 ?_
  refine lv_aload_n hx hb dX2_readsKind_18 rfl (lv_at hl 0 rfl) ?_
  refine tGet (T := TX2) (N := 13) (ci := 2) C hw inX2 11 0 rfl (by decide) kf_RX2_31 rfl rfl rfl dX2_readsKind_19 ?_
  refine lv_iconst (v := 0) hx hb dX2_readsKind_22 (by decide) ?_
  obtain ⟨r4, ir4, er4, h⟩ := rd_some h
  refine tLd C hw 8 rfl ir4 er4 dX2_readsKind_23 ?_
  refine lv_if_ge (tgt := 31) hx hb dX2_readsKind_24 (by decide) (fun c5 => ?_) (fun c5 => ?_)
  · replace h := (if_pos c5).symm.trans h
    refine lv_iconst (v := 1) hx hb dX2_readsKind_31 (by decide) ?_
    exact kX2_readsKind_32 C hr (w3, 1, (w3 10 0)) h _ _ _ hw (lv_sub hl [0] rfl)
  · replace h := (if_neg c5).symm.trans h
    refine lv_iconst (v := 0) hx hb dX2_readsKind_27 (by decide) ?_
    refine lv_goto (tgt := 32) hx hb dX2_readsKind_28 (by decide) ?_
    exact kX2_readsKind_32 C hr (w3, 0, (w3 10 0)) h _ _ _ hw (lv_sub hl [0] rfl)
abbrev rmX2_readsStatement : Room := { frames := 2, cells := 0, slots := 0, locals := 45 }
theorem hdX2_readsStatement : yX2_readsStatement.cls = RX2 ∧ yX2_readsStatement.cls ≠ "java/lang/invoke/MethodHandle" ∧ yX2_readsStatement.cls ≠ "java/lang/invoke/VarHandle" ∧ (parseMethodDescriptor yX2_readsStatement.desc).map (fun d => d.parameters.length) = some 0 := by decide +kernel
def GX2_readsStatement_223 (p : Program) (l : Launch) (e : Env) (s : State) (m : MethodId) (args : Array Value) (below : List Frame) (meth : Method) (c : Code) (D : va_G) (cA : ClassId) (A : Nat → Prop) (ad : Nat → Nat) (z : (Int32 × VS)) (x : (VS) × (Int32)) : Prop := ∀ (H : Heap) (locs : List Loc) (ls : Array Slot), Wd D A s.heap (wM cA ad x.1) H locs → lv_has ls 3 [(0, .ref (ad 0)), (2, .int x.2)] → W p l e rmX2_readsStatement s m args below meth c H locs 0 0 (MQ below (QI D cA A z.1 (wM cA ad z.2)) args s 0 0 A) (F0 m 223 ls [])
def GX2_readsStatement_181 (p : Program) (l : Launch) (e : Env) (s : State) (m : MethodId) (args : Array Value) (below : List Frame) (meth : Method) (c : Code) (D : va_G) (cA : ClassId) (A : Nat → Prop) (ad : Nat → Nat) (z : (Int32 × VS)) (x : (VS)) : Prop := ∀ (H : Heap) (locs : List Loc) (ls : Array Slot), Wd D A s.heap (wM cA ad x) H locs → lv_has ls 3 [(0, .ref (ad 0))] → W p l e rmX2_readsStatement s m args below meth c H locs 0 0 (MQ below (QI D cA A z.1 (wM cA ad z.2)) args s 0 0 A) (F0 m 181 ls [])
def GX2_readsStatement_211 (p : Program) (l : Launch) (e : Env) (s : State) (m : MethodId) (args : Array Value) (below : List Frame) (meth : Method) (c : Code) (D : va_G) (cA : ClassId) (A : Nat → Prop) (ad : Nat → Nat) (z : (Int32 × VS)) (x : (VS)) : Prop := ∀ (H : Heap) (locs : List Loc) (ls : Array Slot), Wd D A s.heap (wM cA ad x) H locs → lv_has ls 3 [(0, .ref (ad 0))] → W p l e rmX2_readsStatement s m args below meth c H locs 0 0 (MQ below (QI D cA A z.1 (wM cA ad z.2)) args s 0 0 A) (F0 m 211 ls [])
def GX2_readsStatement_177 (p : Program) (l : Launch) (e : Env) (s : State) (m : MethodId) (args : Array Value) (below : List Frame) (meth : Method) (c : Code) (D : va_G) (cA : ClassId) (A : Nat → Prop) (ad : Nat → Nat) (z : (Int32 × VS)) (x : (VS) × (Int32)) : Prop := ∀ (H : Heap) (locs : List Loc) (ls : Array Slot), Wd D A s.heap (wM cA ad x.1) H locs → lv_has ls 3 [(0, .ref (ad 0))] → W p l e rmX2_readsStatement s m args below meth c H locs 0 0 (MQ below (QI D cA A z.1 (wM cA ad z.2)) args s 0 0 A) (F0 m 177 ls [.int x.2])
def GX2_readsStatement_176 (p : Program) (l : Launch) (e : Env) (s : State) (m : MethodId) (args : Array Value) (below : List Frame) (meth : Method) (c : Code) (D : va_G) (cA : ClassId) (A : Nat → Prop) (ad : Nat → Nat) (z : (Int32 × VS)) (x : (VS)) : Prop := ∀ (H : Heap) (locs : List Loc) (ls : Array Slot), Wd D A s.heap (wM cA ad x) H locs → lv_has ls 3 [(0, .ref (ad 0))] → W p l e rmX2_readsStatement s m args below meth c H locs 0 0 (MQ below (QI D cA A z.1 (wM cA ad z.2)) args s 0 0 A) (F0 m 176 ls [])
def GX2_readsStatement_150 (p : Program) (l : Launch) (e : Env) (s : State) (m : MethodId) (args : Array Value) (below : List Frame) (meth : Method) (c : Code) (D : va_G) (cA : ClassId) (A : Nat → Prop) (ad : Nat → Nat) (z : (Int32 × VS)) (x : (VS) × (Int32)) : Prop := ∀ (H : Heap) (locs : List Loc) (ls : Array Slot), Wd D A s.heap (wM cA ad x.1) H locs → lv_has ls 3 [(0, .ref (ad 0))] → W p l e rmX2_readsStatement s m args below meth c H locs 0 0 (MQ below (QI D cA A z.1 (wM cA ad z.2)) args s 0 0 A) (F0 m 150 ls [.int x.2])
def GX2_readsStatement_149 (p : Program) (l : Launch) (e : Env) (s : State) (m : MethodId) (args : Array Value) (below : List Frame) (meth : Method) (c : Code) (D : va_G) (cA : ClassId) (A : Nat → Prop) (ad : Nat → Nat) (z : (Int32 × VS)) (x : (VS)) : Prop := ∀ (H : Heap) (locs : List Loc) (ls : Array Slot), Wd D A s.heap (wM cA ad x) H locs → lv_has ls 3 [(0, .ref (ad 0))] → W p l e rmX2_readsStatement s m args below meth c H locs 0 0 (MQ below (QI D cA A z.1 (wM cA ad z.2)) args s 0 0 A) (F0 m 149 ls [])
def fX2_readsStatement_223 : ((VS) × (Int32)) → Option (Int32 × VS) := fun x => match x with | (Y, x_2) => if x_2 = 0 then some (0, Y) else cl (fX2_here Y) (fun r2 => if r2 = 59 then bn (up Y 10 (fun _ => ((Y 10 0) + (1 : Int32)))) (fun w4 => some (1, w4)) else some (0, Y))
def fX2_readsStatement_181 : ((VS)) → Option (Int32 × VS) := fun Y => cl (fX2_readsNumber Y 0 1) (fun q1 => bn q1.1 (fun x2 => fX2_readsStatement_223 (q1.2, x2)))
def fX2_readsStatement_211 : ((VS)) → Option (Int32 × VS) := fun Y => bn (up Y 10 (fun _ => ((Y 10 0) - (1 : Int32)))) (fun w1 => some (0, w1))
def fX2_readsStatement_177 : ((VS) × (Int32)) → Option (Int32 × VS) := fun x => match x with | (Y, y_0) => fX2_readsStatement_223 (Y, y_0)
def fX2_readsStatement_176 : ((VS)) → Option (Int32 × VS) := fun Y => fX2_readsStatement_177 (Y, 0)
def fX2_readsStatement_150 : ((VS) × (Int32)) → Option (Int32 × VS) := fun x => match x with | (Y, y_0) => fX2_readsStatement_223 (Y, y_0)
def fX2_readsStatement_149 : ((VS)) → Option (Int32 × VS) := fun Y => fX2_readsStatement_150 (Y, 0)
def fX2_readsStatement (Y : VS) : Option (Int32 × VS) := cl (fX2_here Y) (fun r1 => bn (up Y 10 (fun _ => ((Y 10 0) + (1 : Int32)))) (fun w2 => if r1 = 98 then fX2_readsStatement_181 w2 else if r1 = 99 then fX2_readsStatement_211 w2 else if r1 = 100 then fX2_readsStatement_211 w2 else if r1 = 101 then fX2_readsStatement_211 w2 else if r1 = 102 then fX2_readsStatement_211 w2 else if r1 = 103 then cl (fX2_readsNumber w2 0 3) (fun q9 => bn q9.1 (fun x10 => fX2_readsStatement_223 (q9.2, x10))) else if r1 = 104 then fX2_readsStatement_211 w2 else if r1 = 105 then fX2_readsStatement_211 w2 else if r1 = 106 then fX2_readsStatement_211 w2 else if r1 = 107 then fX2_readsStatement_211 w2 else if r1 = 108 then fX2_readsStatement_211 w2 else if r1 = 109 then fX2_readsStatement_211 w2 else if r1 = 110 then cl (fX2_readsNumber w2 0 2) (fun q18 => bn q18.1 (fun x19 => fX2_readsStatement_223 (q18.2, x19))) else if r1 = 111 then fX2_readsStatement_211 w2 else if r1 = 112 then cl (fX2_readsNumber w2 0 2) (fun q22 => if q22.1 = 0 then fX2_readsStatement_176 q22.2 else cl (fX2_readsNumber q22.2 1 1) (fun q24 => if q24.1 = 0 then fX2_readsStatement_176 q24.2 else fX2_readsStatement_177 (q24.2, 1))) else if r1 = 113 then fX2_readsStatement_211 w2 else if r1 = 114 then cl (fX2_readsKind w2) (fun q28 => if q28.1 = 0 then fX2_readsStatement_149 q28.2 else cl (fX2_readsNumber q28.2 1 1) (fun q30 => if q30.1 = 0 then fX2_readsStatement_149 q30.2 else cl (fX2_readsNumber q30.2 2 1) (fun q32 => if q32.1 = 0 then fX2_readsStatement_149 q32.2 else fX2_readsStatement_150 (q32.2, 1)))) else if r1 = 115 then fX2_readsStatement_181 w2 else if r1 = 116 then fX2_readsStatement_211 w2 else if r1 = 117 then fX2_readsStatement_211 w2 else if r1 = 118 then fX2_readsStatement_211 w2 else if r1 = 119 then fX2_readsStatement_181 w2 else fX2_readsStatement_211 w2))
set_option maxHeartbeats 4000000 in
set_option maxRecDepth 100000 in
theorem kX2_readsStatement_223 (C : Cx p s m args meth c cX2_readsStatement 3 RX2 D cA g A) (hr : meth.sig.returnType = (some .boolean)) {z : (Int32 × VS)} (x : (VS) × (Int32)) (h : fX2_readsStatement_223 x = some z) : GX2_readsStatement_223 p l e s m args below meth c D cA A ad z x := by
  obtain ⟨Y, x_2⟩ := x
  intro H locs ls hw hl
  have hw : Wd D A s.heap (wM cA ad Y) H locs := hw
  have hl : lv_has ls 3 [(0, .ref (ad 0)), (2, .int x_2)] := hl
  have hx := C.1.1
  have hb := C.1.2.1
  have h : (if x_2 = 0 then some (0, Y) else cl (fX2_here Y) (fun r2 => if r2 = 59 then bn (up Y 10 (fun _ => ((Y 10 0) + (1 : Int32)))) (fun w4 => some (1, w4)) else some (0, Y))) = some z := h
  refine lv_iload_n hx hb dX2_readsStatement_223 rfl (lv_at hl 1 rfl) ?_
  refine lv_if_eq (tgt := 236) hx hb dX2_readsStatement_224 (by decide) (fun c1 => ?_) (fun c1 => ?_)
  · replace h := (if_pos c1).symm.trans h
    refine lv_iconst (v := 0) hx hb dX2_readsStatement_236 (by decide) ?_
    obtain rfl := some_e h
    exact rtZ C hr nz0 hw dX2_readsStatement_237
  · replace h := (if_neg c1).symm.trans h
    refine lv_aload_n hx hb dX2_readsStatement_227 rfl (lv_at hl 0 rfl) ?_
    obtain ⟨r2, hr2, h⟩ := cl_some h
    refine cVi (ws2 := (wM cA ad Y)) (As := []) (rest := []) C hw jnW (kX2_here ad hr2) kl_RX2_104 ki_yX2_here ks_yX2_here kn_RX2 kc_yX2_here ⟨rfl, rfl⟩ hdX2_here ⟨Nat.le_of_ble_eq_true rfl, Nat.le_of_ble_eq_true rfl⟩ (ci := 2) (q0 := 0) rfl rfl rfl rfl hl.1 (Nat.le_of_ble_eq_true rfl) dX2_readsStatement_228 ⟨Nat.zero_le _, Nat.zero_le _⟩ (fun H locs hw => ?_)
    refine lv_bipush (v := 59) hx hb dX2_readsStatement_231 (by decide) ?_
    refine lv_icmp_eq (tgt := 238) hx hb dX2_readsStatement_233 (by decide) (fun c3 => ?_) (fun c3 => ?_)
    · replace h := (if_pos c3).symm.trans h
      refine lv_aload_n hx hb dX2_readsStatement_238 rfl (lv_at hl 0 rfl) ?_
      refine lv_dup hx hb dX2_readsStatement_239 rfl ?_
      refine tGet (T := TX2) (N := 13) (ci := 2) C hw inX2 10 0 rfl (by decide) kf_RX2_101 rfl rfl rfl dX2_readsStatement_240 ?_
      refine lv_iconst (v := 1) hx hb dX2_readsStatement_243 (by decide) ?_
      refine lv_iadd hx hb dX2_readsStatement_244 ?_
      obtain ⟨w4, ew4⟩ : ∃ y : VS, y = up Y 10 (fun _ => ((Y 10 0) + (1 : Int32))) := ⟨_, rfl⟩
      replace h := bn_some h ew4
      refine tPut (T := TX2) (N := 13) (ci := 2) (ws2 := (wM cA ad w4)) C hw inX2 tyX2 tyX2_ok nmX2 10 0 rfl (by decide) kf_RX2_101 rfl rfl rfl rfl rfl (Nat.le_of_ble_eq_true rfl) (by rw [ew4]; rfl) dX2_readsStatement_245 (fun H locs hw => ?_)
      refine lv_iconst (v := 1) hx hb dX2_readsStatement_248 (by decide) ?_
      obtain rfl := some_e h
      exact rtZ C hr nz1 hw dX2_readsStatement_249
    · replace h := (if_neg c3).symm.trans h
      refine lv_iconst (v := 0) hx hb dX2_readsStatement_236 (by decide) ?_
      obtain rfl := some_e h
      exact rtZ C hr nz0 hw dX2_readsStatement_237
set_option maxHeartbeats 4000000 in
set_option maxRecDepth 100000 in
theorem kX2_readsStatement_181 (C : Cx p s m args meth c cX2_readsStatement 3 RX2 D cA g A) (hr : meth.sig.returnType = (some .boolean)) {z : (Int32 × VS)} (x : (VS)) (h : fX2_readsStatement_181 x = some z) : GX2_readsStatement_181 p l e s m args below meth c D cA A ad z x := by
  obtain ⟨Y, rfl⟩ : ∃ y, y = x := ⟨_, rfl⟩
  intro H locs ls hw hl
  have hw : Wd D A s.heap (wM cA ad Y) H locs := hw
  have hl : lv_has ls 3 [(0, .ref (ad 0))] := hl
  have hx := C.1.1
  have hb := C.1.2.1
  have h : (cl (fX2_readsNumber Y 0 1) (fun q1 => bn q1.1 (fun x2 => fX2_readsStatement_223 (q1.2, x2)))) = some z := h
  refine lv_aload_n hx hb dX2_readsStatement_181 rfl (lv_at hl 0 rfl) ?_
  refine lv_iconst (v := 0) hx hb dX2_readsStatement_182 (by decide) ?_
  refine lv_iconst (v := 1) hx hb dX2_readsStatement_183 (by decide) ?_
  obtain ⟨q1, hq1, h⟩ := cl_some h
  refine cVi (ws2 := (wM cA ad q1.2)) (As := [.int 0, .int 1]) (rest := []) C hw jnW (kX2_readsNumber ad hq1) kl_RX2_115 ki_yX2_readsNumber ks_yX2_readsNumber kn_RX2 kc_yX2_readsNumber ⟨rfl, rfl⟩ hdX2_readsNumber ⟨Nat.le_of_ble_eq_true rfl, Nat.le_of_ble_eq_true rfl⟩ (ci := 2) (q0 := 0) rfl rfl rfl rfl hl.1 (Nat.le_of_ble_eq_true rfl) dX2_readsStatement_184 ⟨Nat.zero_le _, Nat.zero_le _⟩ (fun H locs hw => ?_)
  refine lv_topi (fun x2 ex2 => ?_)
  replace h := bn_some h ex2
  refine lv_istore_n (lv' := [(2, .int x2), (0, .ref (ad 0))]) hx hb dX2_readsStatement_187 rfl hl (by decide) rfl (fun ls hl => ?_)
  refine lv_goto (tgt := 223) hx hb dX2_readsStatement_188 (by decide) ?_
  exact kX2_readsStatement_223 C hr (q1.2, x2) h _ _ _ hw (lv_sub hl [1, 0] rfl)
set_option maxHeartbeats 4000000 in
set_option maxRecDepth 100000 in
theorem kX2_readsStatement_211 (C : Cx p s m args meth c cX2_readsStatement 3 RX2 D cA g A) (hr : meth.sig.returnType = (some .boolean)) {z : (Int32 × VS)} (x : (VS)) (h : fX2_readsStatement_211 x = some z) : GX2_readsStatement_211 p l e s m args below meth c D cA A ad z x := by
  obtain ⟨Y, rfl⟩ : ∃ y, y = x := ⟨_, rfl⟩
  intro H locs ls hw hl
  have hw : Wd D A s.heap (wM cA ad Y) H locs := hw
  have hl : lv_has ls 3 [(0, .ref (ad 0))] := hl
  have hx := C.1.1
  have hb := C.1.2.1
  have h : (bn (up Y 10 (fun _ => ((Y 10 0) - (1 : Int32)))) (fun w1 => some (0, w1))) = some z := h
  refine lv_aload_n hx hb dX2_readsStatement_211 rfl (lv_at hl 0 rfl) ?_
  refine lv_dup hx hb dX2_readsStatement_212 rfl ?_
  refine tGet (T := TX2) (N := 13) (ci := 2) C hw inX2 10 0 rfl (by decide) kf_RX2_101 rfl rfl rfl dX2_readsStatement_213 ?_
  refine lv_iconst (v := 1) hx hb dX2_readsStatement_216 (by decide) ?_
  refine lv_isub hx hb dX2_readsStatement_217 ?_
  obtain ⟨w1, ew1⟩ : ∃ y : VS, y = up Y 10 (fun _ => ((Y 10 0) - (1 : Int32))) := ⟨_, rfl⟩
  replace h := bn_some h ew1
  refine tPut (T := TX2) (N := 13) (ci := 2) (ws2 := (wM cA ad w1)) C hw inX2 tyX2 tyX2_ok nmX2 10 0 rfl (by decide) kf_RX2_101 rfl rfl rfl rfl rfl (Nat.le_of_ble_eq_true rfl) (by rw [ew1]; rfl) dX2_readsStatement_218 (fun H locs hw => ?_)
  refine lv_iconst (v := 0) hx hb dX2_readsStatement_221 (by decide) ?_
  obtain rfl := some_e h
  exact rtZ C hr nz0 hw dX2_readsStatement_222
set_option maxHeartbeats 4000000 in
set_option maxRecDepth 100000 in
theorem kX2_readsStatement_177 (C : Cx p s m args meth c cX2_readsStatement 3 RX2 D cA g A) (hr : meth.sig.returnType = (some .boolean)) {z : (Int32 × VS)} (x : (VS) × (Int32)) (h : fX2_readsStatement_177 x = some z) : GX2_readsStatement_177 p l e s m args below meth c D cA A ad z x := by
  obtain ⟨Y, y_0⟩ := x
  intro H locs ls hw hl
  have hw : Wd D A s.heap (wM cA ad Y) H locs := hw
  have hl : lv_has ls 3 [(0, .ref (ad 0))] := hl
  show W p l e rmX2_readsStatement s m args below meth c H locs 0 0 (MQ below (QI D cA A z.1 (wM cA ad z.2)) args s 0 0 A) (F0 m 177 ls [.int y_0])
  have hx := C.1.1
  have hb := C.1.2.1
  have h : (fX2_readsStatement_223 (Y, y_0)) = some z := h
  refine lv_istore_n (lv' := [(2, .int y_0), (0, .ref (ad 0))]) hx hb dX2_readsStatement_177 rfl hl (by decide) rfl (fun ls hl => ?_)
  refine lv_goto (tgt := 223) hx hb dX2_readsStatement_178 (by decide) ?_
  exact kX2_readsStatement_223 C hr (Y, y_0) h _ _ _ hw (lv_sub hl [1, 0] rfl)
set_option maxHeartbeats 4000000 in
set_option maxRecDepth 100000 in
theorem kX2_readsStatement_176 (C : Cx p s m args meth c cX2_readsStatement 3 RX2 D cA g A) (hr : meth.sig.returnType = (some .boolean)) {z : (Int32 × VS)} (x : (VS)) (h : fX2_readsStatement_176 x = some z) : GX2_readsStatement_176 p l e s m args below meth c D cA A ad z x := by
  obtain ⟨Y, rfl⟩ : ∃ y, y = x := ⟨_, rfl⟩
  intro H locs ls hw hl
  have hw : Wd D A s.heap (wM cA ad Y) H locs := hw
  have hl : lv_has ls 3 [(0, .ref (ad 0))] := hl
  have hx := C.1.1
  have hb := C.1.2.1
  have h : (fX2_readsStatement_177 (Y, 0)) = some z := h
  refine lv_iconst (v := 0) hx hb dX2_readsStatement_176 (by decide) ?_
  exact kX2_readsStatement_177 C hr (Y, 0) h _ _ _ hw (lv_sub hl [0] rfl)
set_option maxHeartbeats 4000000 in
set_option maxRecDepth 100000 in
theorem kX2_readsStatement_150 (C : Cx p s m args meth c cX2_readsStatement 3 RX2 D cA g A) (hr : meth.sig.returnType = (some .boolean)) {z : (Int32 × VS)} (x : (VS) × (Int32)) (h : fX2_readsStatement_150 x = some z) : GX2_readsStatement_150 p l e s m args below meth c D cA A ad z x := by
  obtain ⟨Y, y_0⟩ := x
  intro H locs ls hw hl
  have hw : Wd D A s.heap (wM cA ad Y) H locs := hw
  have hl : lv_has ls 3 [(0, .ref (ad 0))] := hl
  show W p l e rmX2_readsStatement s m args below meth c H locs 0 0 (MQ below (QI D cA A z.1 (wM cA ad z.2)) args s 0 0 A) (F0 m 150 ls [.int y_0])
  have hx := C.1.1
  have hb := C.1.2.1
  have h : (fX2_readsStatement_223 (Y, y_0)) = some z := h
  refine lv_istore_n (lv' := [(2, .int y_0), (0, .ref (ad 0))]) hx hb dX2_readsStatement_150 rfl hl (by decide) rfl (fun ls hl => ?_)
  refine lv_goto (tgt := 223) hx hb dX2_readsStatement_151 (by decide) ?_
  exact kX2_readsStatement_223 C hr (Y, y_0) h _ _ _ hw (lv_sub hl [1, 0] rfl)
set_option maxHeartbeats 4000000 in
set_option maxRecDepth 100000 in
theorem kX2_readsStatement_149 (C : Cx p s m args meth c cX2_readsStatement 3 RX2 D cA g A) (hr : meth.sig.returnType = (some .boolean)) {z : (Int32 × VS)} (x : (VS)) (h : fX2_readsStatement_149 x = some z) : GX2_readsStatement_149 p l e s m args below meth c D cA A ad z x := by
  obtain ⟨Y, rfl⟩ : ∃ y, y = x := ⟨_, rfl⟩
  intro H locs ls hw hl
  have hw : Wd D A s.heap (wM cA ad Y) H locs := hw
  have hl : lv_has ls 3 [(0, .ref (ad 0))] := hl
  have hx := C.1.1
  have hb := C.1.2.1
  have h : (fX2_readsStatement_150 (Y, 0)) = some z := h
  refine lv_iconst (v := 0) hx hb dX2_readsStatement_149 (by decide) ?_
  exact kX2_readsStatement_150 C hr (Y, 0) h _ _ _ hw (lv_sub hl [0] rfl)
set_option maxHeartbeats 4000000 in
set_option maxRecDepth 100000 in
theorem kX2_readsStatement (ad : Nat → Nat) {Y : VS} {z : (Int32 × VS)} (h : fX2_readsStatement Y = some z) : MI l D cA g yX2_readsStatement (Cond.code yX2_readsStatement cX2_readsStatement 3 (some .boolean) :: lw_g) rmX2_readsStatement [.ref (ad 0)] (wM cA ad Y) z.1 (wM cA ad z.2) := by
  intro sz
  refine Met.ofW (cc := cX2_readsStatement) (maxL := 3) (ret := (some .boolean)) (by decide) rfl ?_
  intro p e s m args below meth c s₁ B hml hv
  obtain ⟨rfl, C, hr, hw⟩ := ent B hml hv
  generalize va_A (wM cA ad Y) sz = A at C hw ⊢
  have hl := lv_entry ([.ref (ad 0)]) (n := 3) (Nat.le_of_ble_eq_true rfl)
  rw [lg_entry_eq]
  generalize (lg_sl ([.ref (ad 0)]) ++ List.replicate (3 - (lg_sl ([.ref (ad 0)])).length) Slot.unset).toArray = ls at hl ⊢
  have hl : lv_has ls 3 [(0, .ref (ad 0))] := hl
  have hx := C.1.1
  have hb := C.1.2.1
  have h : (cl (fX2_here Y) (fun r1 => bn (up Y 10 (fun _ => ((Y 10 0) + (1 : Int32)))) (fun w2 => if r1 = 98 then fX2_readsStatement_181 w2 else if r1 = 99 then fX2_readsStatement_211 w2 else if r1 = 100 then fX2_readsStatement_211 w2 else if r1 = 101 then fX2_readsStatement_211 w2 else if r1 = 102 then fX2_readsStatement_211 w2 else if r1 = 103 then cl (fX2_readsNumber w2 0 3) (fun q9 => bn q9.1 (fun x10 => fX2_readsStatement_223 (q9.2, x10))) else if r1 = 104 then fX2_readsStatement_211 w2 else if r1 = 105 then fX2_readsStatement_211 w2 else if r1 = 106 then fX2_readsStatement_211 w2 else if r1 = 107 then fX2_readsStatement_211 w2 else if r1 = 108 then fX2_readsStatement_211 w2 else if r1 = 109 then fX2_readsStatement_211 w2 else if r1 = 110 then cl (fX2_readsNumber w2 0 2) (fun q18 => bn q18.1 (fun x19 => fX2_readsStatement_223 (q18.2, x19))) else if r1 = 111 then fX2_readsStatement_211 w2 else if r1 = 112 then cl (fX2_readsNumber w2 0 2) (fun q22 => if q22.1 = 0 then fX2_readsStatement_176 q22.2 else cl (fX2_readsNumber q22.2 1 1) (fun q24 => if q24.1 = 0 then fX2_readsStatement_176 q24.2 else fX2_readsStatement_177 (q24.2, 1))) else if r1 = 113 then fX2_readsStatement_211 w2 else if r1 = 114 then cl (fX2_readsKind w2) (fun q28 => if q28.1 = 0 then fX2_readsStatement_149 q28.2 else cl (fX2_readsNumber q28.2 1 1) (fun q30 => if q30.1 = 0 then fX2_readsStatement_149 q30.2 else cl (fX2_readsNumber q30.2 2 1) (fun q32 => if q32.1 = 0 then fX2_readsStatement_149 q32.2 else fX2_readsStatement_150 (q32.2, 1)))) else if r1 = 115 then fX2_readsStatement_181 w2 else if r1 = 116 then fX2_readsStatement_211 w2 else if r1 = 117 then fX2_readsStatement_211 w2 else if r1 = 118 then fX2_readsStatement_211 w2 else if r1 = 119 then fX2_readsStatement_181 w2 else fX2_readsStatement_211 w2))) = some z := h
  refine lv_aload_n hx hb dX2_readsStatement_0 rfl (lv_at hl 0 rfl) ?_
  obtain ⟨r1, hr1, h⟩ := cl_some h
  refine cVi (ws2 := (wM cA ad Y)) (As := []) (rest := []) C hw jnW (kX2_here ad hr1) kl_RX2_104 ki_yX2_here ks_yX2_here kn_RX2 kc_yX2_here ⟨rfl, rfl⟩ hdX2_here ⟨Nat.le_of_ble_eq_true rfl, Nat.le_of_ble_eq_true rfl⟩ (ci := 2) (q0 := 0) rfl rfl rfl rfl hl.1 (Nat.le_of_ble_eq_true rfl) dX2_readsStatement_1 ⟨Nat.zero_le _, Nat.zero_le _⟩ (fun H locs hw => ?_)
  refine lv_istore_n (lv' := [(1, .int r1), (0, .ref (ad 0))]) hx hb dX2_readsStatement_4 rfl hl (by decide) rfl (fun ls hl => ?_)
  refine lv_aload_n hx hb dX2_readsStatement_5 rfl (lv_at hl 1 rfl) ?_
  refine lv_dup hx hb dX2_readsStatement_6 rfl ?_
  refine tGet (T := TX2) (N := 13) (ci := 2) C hw inX2 10 0 rfl (by decide) kf_RX2_101 rfl rfl rfl dX2_readsStatement_7 ?_
  refine lv_iconst (v := 1) hx hb dX2_readsStatement_10 (by decide) ?_
  refine lv_iadd hx hb dX2_readsStatement_11 ?_
  obtain ⟨w2, ew2⟩ : ∃ y : VS, y = up Y 10 (fun _ => ((Y 10 0) + (1 : Int32))) := ⟨_, rfl⟩
  replace h := bn_some h ew2
  refine tPut (T := TX2) (N := 13) (ci := 2) (ws2 := (wM cA ad w2)) C hw inX2 tyX2 tyX2_ok nmX2 10 0 rfl (by decide) kf_RX2_101 rfl rfl rfl rfl rfl (Nat.le_of_ble_eq_true rfl) (by rw [ew2]; rfl) dX2_readsStatement_12 (fun H locs hw => ?_)
  refine lv_iload_n hx hb dX2_readsStatement_15 rfl (lv_at hl 0 rfl) ?_
  by_cases c3 : r1 = 98
  · replace h := (if_pos c3).symm.trans h
    refine lv_tableIn (tgt := 181) hx hb dX2_readsStatement_16 (by rw [c3]; decide) (by rw [c3]; decide) (by rw [c3]; rfl) (by decide) ?_
    exact kX2_readsStatement_181 C hr w2 h _ _ _ hw (lv_sub hl [1] rfl)
  replace h := (if_neg c3).symm.trans h
  by_cases c4 : r1 = 99
  · replace h := (if_pos c4).symm.trans h
    refine lv_tableIn (tgt := 211) hx hb dX2_readsStatement_16 (by rw [c4]; decide) (by rw [c4]; decide) (by rw [c4]; rfl) (by decide) ?_
    exact kX2_readsStatement_211 C hr w2 h _ _ _ hw (lv_sub hl [1] rfl)
  replace h := (if_neg c4).symm.trans h
  by_cases c5 : r1 = 100
  · replace h := (if_pos c5).symm.trans h
    refine lv_tableIn (tgt := 211) hx hb dX2_readsStatement_16 (by rw [c5]; decide) (by rw [c5]; decide) (by rw [c5]; rfl) (by decide) ?_
    exact kX2_readsStatement_211 C hr w2 h _ _ _ hw (lv_sub hl [1] rfl)
  replace h := (if_neg c5).symm.trans h
  by_cases c6 : r1 = 101
  · replace h := (if_pos c6).symm.trans h
    refine lv_tableIn (tgt := 211) hx hb dX2_readsStatement_16 (by rw [c6]; decide) (by rw [c6]; decide) (by rw [c6]; rfl) (by decide) ?_
    exact kX2_readsStatement_211 C hr w2 h _ _ _ hw (lv_sub hl [1] rfl)
  replace h := (if_neg c6).symm.trans h
  by_cases c7 : r1 = 102
  · replace h := (if_pos c7).symm.trans h
    refine lv_tableIn (tgt := 211) hx hb dX2_readsStatement_16 (by rw [c7]; decide) (by rw [c7]; decide) (by rw [c7]; rfl) (by decide) ?_
    exact kX2_readsStatement_211 C hr w2 h _ _ _ hw (lv_sub hl [1] rfl)
  replace h := (if_neg c7).symm.trans h
  by_cases c8 : r1 = 103
  · replace h := (if_pos c8).symm.trans h
    refine lv_tableIn (tgt := 191) hx hb dX2_readsStatement_16 (by rw [c8]; decide) (by rw [c8]; decide) (by rw [c8]; rfl) (by decide) ?_
    refine lv_aload_n hx hb dX2_readsStatement_191 rfl (lv_at hl 1 rfl) ?_
    refine lv_iconst (v := 0) hx hb dX2_readsStatement_192 (by decide) ?_
    refine lv_iconst (v := 3) hx hb dX2_readsStatement_193 (by decide) ?_
    obtain ⟨q9, hq9, h⟩ := cl_some h
    refine cVi (ws2 := (wM cA ad q9.2)) (As := [.int 0, .int 3]) (rest := []) C hw jnW (kX2_readsNumber ad hq9) kl_RX2_115 ki_yX2_readsNumber ks_yX2_readsNumber kn_RX2 kc_yX2_readsNumber ⟨rfl, rfl⟩ hdX2_readsNumber ⟨Nat.le_of_ble_eq_true rfl, Nat.le_of_ble_eq_true rfl⟩ (ci := 2) (q0 := 0) rfl rfl rfl rfl hl.1 (Nat.le_of_ble_eq_true rfl) dX2_readsStatement_194 ⟨Nat.zero_le _, Nat.zero_le _⟩ (fun H locs hw => ?_)
    refine lv_topi (fun x10 ex10 => ?_)
    replace h := bn_some h ex10
    refine lv_istore_n (lv' := [(2, .int x10), (1, .int r1), (0, .ref (ad 0))]) hx hb dX2_readsStatement_197 rfl hl (by decide) rfl (fun ls hl => ?_)
    refine lv_goto (tgt := 223) hx hb dX2_readsStatement_198 (by decide) ?_
    exact kX2_readsStatement_223 C hr (q9.2, x10) h _ _ _ hw (lv_sub hl [2, 0] rfl)
  replace h := (if_neg c8).symm.trans h
  by_cases c11 : r1 = 104
  · replace h := (if_pos c11).symm.trans h
    refine lv_tableIn (tgt := 211) hx hb dX2_readsStatement_16 (by rw [c11]; decide) (by rw [c11]; decide) (by rw [c11]; rfl) (by decide) ?_
    exact kX2_readsStatement_211 C hr w2 h _ _ _ hw (lv_sub hl [1] rfl)
  replace h := (if_neg c11).symm.trans h
  by_cases c12 : r1 = 105
  · replace h := (if_pos c12).symm.trans h
    refine lv_tableIn (tgt := 211) hx hb dX2_readsStatement_16 (by rw [c12]; decide) (by rw [c12]; decide) (by rw [c12]; rfl) (by decide) ?_
    exact kX2_readsStatement_211 C hr w2 h _ _ _ hw (lv_sub hl [1] rfl)
  replace h := (if_neg c12).symm.trans h
  by_cases c13 : r1 = 106
  · replace h := (if_pos c13).symm.trans h
    refine lv_tableIn (tgt := 211) hx hb dX2_readsStatement_16 (by rw [c13]; decide) (by rw [c13]; decide) (by rw [c13]; rfl) (by decide) ?_
    exact kX2_readsStatement_211 C hr w2 h _ _ _ hw (lv_sub hl [1] rfl)
  replace h := (if_neg c13).symm.trans h
  by_cases c14 : r1 = 107
  · replace h := (if_pos c14).symm.trans h
    refine lv_tableIn (tgt := 211) hx hb dX2_readsStatement_16 (by rw [c14]; decide) (by rw [c14]; decide) (by rw [c14]; rfl) (by decide) ?_
    exact kX2_readsStatement_211 C hr w2 h _ _ _ hw (lv_sub hl [1] rfl)
  replace h := (if_neg c14).symm.trans h
  by_cases c15 : r1 = 108
  · replace h := (if_pos c15).symm.trans h
    refine lv_tableIn (tgt := 211) hx hb dX2_readsStatement_16 (by rw [c15]; decide) (by rw [c15]; decide) (by rw [c15]; rfl) (by decide) ?_
    exact kX2_readsStatement_211 C hr w2 h _ _ _ hw (lv_sub hl [1] rfl)
  replace h := (if_neg c15).symm.trans h
  by_cases c16 : r1 = 109
  · replace h := (if_pos c16).symm.trans h
    refine lv_tableIn (tgt := 211) hx hb dX2_readsStatement_16 (by rw [c16]; decide) (by rw [c16]; decide) (by rw [c16]; rfl) (by decide) ?_
    exact kX2_readsStatement_211 C hr w2 h _ _ _ hw (lv_sub hl [1] rfl)
  replace h := (if_neg c16).symm.trans h
  by_cases c17 : r1 = 110
  · replace h := (if_pos c17).symm.trans h
    refine lv_tableIn (tgt := 201) hx hb dX2_readsStatement_16 (by rw [c17]; decide) (by rw [c17]; decide) (by rw [c17]; rfl) (by decide) ?_
    refine lv_aload_n hx hb dX2_readsStatement_201 rfl (lv_at hl 1 rfl) ?_
    refine lv_iconst (v := 0) hx hb dX2_readsStatement_202 (by decide) ?_
    refine lv_iconst (v := 2) hx hb dX2_readsStatement_203 (by decide) ?_
    obtain ⟨q18, hq18, h⟩ := cl_some h
    refine cVi (ws2 := (wM cA ad q18.2)) (As := [.int 0, .int 2]) (rest := []) C hw jnW (kX2_readsNumber ad hq18) kl_RX2_115 ki_yX2_readsNumber ks_yX2_readsNumber kn_RX2 kc_yX2_readsNumber ⟨rfl, rfl⟩ hdX2_readsNumber ⟨Nat.le_of_ble_eq_true rfl, Nat.le_of_ble_eq_true rfl⟩ (ci := 2) (q0 := 0) rfl rfl rfl rfl hl.1 (Nat.le_of_ble_eq_true rfl) dX2_readsStatement_204 ⟨Nat.zero_le _, Nat.zero_le _⟩ (fun H locs hw => ?_)
    refine lv_topi (fun x19 ex19 => ?_)
    replace h := bn_some h ex19
    refine lv_istore_n (lv' := [(2, .int x19), (1, .int r1), (0, .ref (ad 0))]) hx hb dX2_readsStatement_207 rfl hl (by decide) rfl (fun ls hl => ?_)
    refine lv_goto (tgt := 223) hx hb dX2_readsStatement_208 (by decide) ?_
    exact kX2_readsStatement_223 C hr (q18.2, x19) h _ _ _ hw (lv_sub hl [2, 0] rfl)
  replace h := (if_neg c17).symm.trans h
  by_cases c20 : r1 = 111
  · replace h := (if_pos c20).symm.trans h
    refine lv_tableIn (tgt := 211) hx hb dX2_readsStatement_16 (by rw [c20]; decide) (by rw [c20]; decide) (by rw [c20]; rfl) (by decide) ?_
    exact kX2_readsStatement_211 C hr w2 h _ _ _ hw (lv_sub hl [1] rfl)
  replace h := (if_neg c20).symm.trans h
  by_cases c21 : r1 = 112
  · replace h := (if_pos c21).symm.trans h
    refine lv_tableIn (tgt := 154) hx hb dX2_readsStatement_16 (by rw [c21]; decide) (by rw [c21]; decide) (by rw [c21]; rfl) (by decide) ?_
    refine lv_aload_n hx hb dX2_readsStatement_154 rfl (lv_at hl 1 rfl) ?_
    refine lv_iconst (v := 0) hx hb dX2_readsStatement_155 (by decide) ?_
    refine lv_iconst (v := 2) hx hb dX2_readsStatement_156 (by decide) ?_
    obtain ⟨q22, hq22, h⟩ := cl_some h
    refine cVi (ws2 := (wM cA ad q22.2)) (As := [.int 0, .int 2]) (rest := []) C hw jnW (kX2_readsNumber ad hq22) kl_RX2_115 ki_yX2_readsNumber ks_yX2_readsNumber kn_RX2 kc_yX2_readsNumber ⟨rfl, rfl⟩ hdX2_readsNumber ⟨Nat.le_of_ble_eq_true rfl, Nat.le_of_ble_eq_true rfl⟩ (ci := 2) (q0 := 0) rfl rfl rfl rfl hl.1 (Nat.le_of_ble_eq_true rfl) dX2_readsStatement_157 ⟨Nat.zero_le _, Nat.zero_le _⟩ (fun H locs hw => ?_)
    refine lv_if_eq (tgt := 176) hx hb dX2_readsStatement_160 (by decide) (fun c23 => ?_) (fun c23 => ?_)
    · replace h := (if_pos c23).symm.trans h
      exact kX2_readsStatement_176 C hr q22.2 h _ _ _ hw (lv_sub hl [1] rfl)
    · replace h := (if_neg c23).symm.trans h
      refine lv_aload_n hx hb dX2_readsStatement_163 rfl (lv_at hl 1 rfl) ?_
      refine lv_iconst (v := 1) hx hb dX2_readsStatement_164 (by decide) ?_
      refine lv_iconst (v := 1) hx hb dX2_readsStatement_165 (by decide) ?_
      obtain ⟨q24, hq24, h⟩ := cl_some h
      refine cVi (ws2 := (wM cA ad q24.2)) (As := [.int 1, .int 1]) (rest := []) C hw jnW (kX2_readsNumber ad hq24) kl_RX2_115 ki_yX2_readsNumber ks_yX2_readsNumber kn_RX2 kc_yX2_readsNumber ⟨rfl, rfl⟩ hdX2_readsNumber ⟨Nat.le_of_ble_eq_true rfl, Nat.le_of_ble_eq_true rfl⟩ (ci := 2) (q0 := 0) rfl rfl rfl rfl hl.1 (Nat.le_of_ble_eq_true rfl) dX2_readsStatement_166 ⟨Nat.zero_le _, Nat.zero_le _⟩ (fun H locs hw => ?_)
      refine lv_if_eq (tgt := 176) hx hb dX2_readsStatement_169 (by decide) (fun c25 => ?_) (fun c25 => ?_)
      · replace h := (if_pos c25).symm.trans h
        exact kX2_readsStatement_176 C hr q24.2 h _ _ _ hw (lv_sub hl [1] rfl)
      · replace h := (if_neg c25).symm.trans h
        refine lv_iconst (v := 1) hx hb dX2_readsStatement_172 (by decide) ?_
        refine lv_goto (tgt := 177) hx hb dX2_readsStatement_173 (by decide) ?_
        exact kX2_readsStatement_177 C hr (q24.2, 1) h _ _ _ hw (lv_sub hl [1] rfl)
  replace h := (if_neg c21).symm.trans h
  by_cases c26 : r1 = 113
  · replace h := (if_pos c26).symm.trans h
    refine lv_tableIn (tgt := 211) hx hb dX2_readsStatement_16 (by rw [c26]; decide) (by rw [c26]; decide) (by rw [c26]; rfl) (by decide) ?_
    exact kX2_readsStatement_211 C hr w2 h _ _ _ hw (lv_sub hl [1] rfl)
  replace h := (if_neg c26).symm.trans h
  by_cases c27 : r1 = 114
  · replace h := (if_pos c27).symm.trans h
    refine lv_tableIn (tgt := 120) hx hb dX2_readsStatement_16 (by rw [c27]; decide) (by rw [c27]; decide) (by rw [c27]; rfl) (by decide) ?_
    refine lv_aload_n hx hb dX2_readsStatement_120 rfl (lv_at hl 1 rfl) ?_
    obtain ⟨q28, hq28, h⟩ := cl_some h
    refine cVi (ws2 := (wM cA ad q28.2)) (As := []) (rest := []) C hw jnW (kX2_readsKind ad hq28) kl_RX2_111 ki_yX2_readsKind ks_yX2_readsKind kn_RX2 kc_yX2_readsKind ⟨rfl, rfl⟩ hdX2_readsKind ⟨Nat.le_of_ble_eq_true rfl, Nat.le_of_ble_eq_true rfl⟩ (ci := 2) (q0 := 0) rfl rfl rfl rfl hl.1 (Nat.le_of_ble_eq_true rfl) dX2_readsStatement_121 ⟨Nat.zero_le _, Nat.zero_le _⟩ (fun H locs hw => ?_)
    refine lv_if_eq (tgt := 149) hx hb dX2_readsStatement_124 (by decide) (fun c29 => ?_) (fun c29 => ?_)
    · replace h := (if_pos c29).symm.trans h
      exact kX2_readsStatement_149 C hr q28.2 h _ _ _ hw (lv_sub hl [1] rfl)
    · replace h := (if_neg c29).symm.trans h
      refine lv_aload_n hx hb dX2_readsStatement_127 rfl (lv_at hl 1 rfl) ?_
      refine lv_iconst (v := 1) hx hb dX2_readsStatement_128 (by decide) ?_
      refine lv_iconst (v := 1) hx hb dX2_readsStatement_129 (by decide) ?_
      obtain ⟨q30, hq30, h⟩ := cl_some h
      refine cVi (ws2 := (wM cA ad q30.2)) (As := [.int 1, .int 1]) (rest := []) C hw jnW (kX2_readsNumber ad hq30) kl_RX2_115 ki_yX2_readsNumber ks_yX2_readsNumber kn_RX2 kc_yX2_readsNumber ⟨rfl, rfl⟩ hdX2_readsNumber ⟨Nat.le_of_ble_eq_true rfl, Nat.le_of_ble_eq_true rfl⟩ (ci := 2) (q0 := 0) rfl rfl rfl rfl hl.1 (Nat.le_of_ble_eq_true rfl) dX2_readsStatement_130 ⟨Nat.zero_le _, Nat.zero_le _⟩ (fun H locs hw => ?_)
      refine lv_if_eq (tgt := 149) hx hb dX2_readsStatement_133 (by decide) (fun c31 => ?_) (fun c31 => ?_)
      · replace h := (if_pos c31).symm.trans h
        exact kX2_readsStatement_149 C hr q30.2 h _ _ _ hw (lv_sub hl [1] rfl)
      · replace h := (if_neg c31).symm.trans h
        refine lv_aload_n hx hb dX2_readsStatement_136 rfl (lv_at hl 1 rfl) ?_
        refine lv_iconst (v := 2) hx hb dX2_readsStatement_137 (by decide) ?_
        refine lv_iconst (v := 1) hx hb dX2_readsStatement_138 (by decide) ?_
        obtain ⟨q32, hq32, h⟩ := cl_some h
        refine cVi (ws2 := (wM cA ad q32.2)) (As := [.int 2, .int 1]) (rest := []) C hw jnW (kX2_readsNumber ad hq32) kl_RX2_115 ki_yX2_readsNumber ks_yX2_readsNumber kn_RX2 kc_yX2_readsNumber ⟨rfl, rfl⟩ hdX2_readsNumber ⟨Nat.le_of_ble_eq_true rfl, Nat.le_of_ble_eq_true rfl⟩ (ci := 2) (q0 := 0) rfl rfl rfl rfl hl.1 (Nat.le_of_ble_eq_true rfl) dX2_readsStatement_139 ⟨Nat.zero_le _, Nat.zero_le _⟩ (fun H locs hw => ?_)
        refine lv_if_eq (tgt := 149) hx hb dX2_readsStatement_142 (by decide) (fun c33 => ?_) (fun c33 => ?_)
        · replace h := (if_pos c33).symm.trans h
          exact kX2_readsStatement_149 C hr q32.2 h _ _ _ hw (lv_sub hl [1] rfl)
        · replace h := (if_neg c33).symm.trans h
          refine lv_iconst (v := 1) hx hb dX2_readsStatement_145 (by decide) ?_
          refine lv_goto (tgt := 150) hx hb dX2_readsStatement_146 (by decide) ?_
          exact kX2_readsStatement_150 C hr (q32.2, 1) h _ _ _ hw (lv_sub hl [1] rfl)
  replace h := (if_neg c27).symm.trans h
  by_cases c34 : r1 = 115
  · replace h := (if_pos c34).symm.trans h
    refine lv_tableIn (tgt := 181) hx hb dX2_readsStatement_16 (by rw [c34]; decide) (by rw [c34]; decide) (by rw [c34]; rfl) (by decide) ?_
    exact kX2_readsStatement_181 C hr w2 h _ _ _ hw (lv_sub hl [1] rfl)
  replace h := (if_neg c34).symm.trans h
  by_cases c35 : r1 = 116
  · replace h := (if_pos c35).symm.trans h
    refine lv_tableIn (tgt := 211) hx hb dX2_readsStatement_16 (by rw [c35]; decide) (by rw [c35]; decide) (by rw [c35]; rfl) (by decide) ?_
    exact kX2_readsStatement_211 C hr w2 h _ _ _ hw (lv_sub hl [1] rfl)
  replace h := (if_neg c35).symm.trans h
  by_cases c36 : r1 = 117
  · replace h := (if_pos c36).symm.trans h
    refine lv_tableIn (tgt := 211) hx hb dX2_readsStatement_16 (by rw [c36]; decide) (by rw [c36]; decide) (by rw [c36]; rfl) (by decide) ?_
    exact kX2_readsStatement_211 C hr w2 h _ _ _ hw (lv_sub hl [1] rfl)
  replace h := (if_neg c36).symm.trans h
  by_cases c37 : r1 = 118
  · replace h := (if_pos c37).symm.trans h
    refine lv_tableIn (tgt := 211) hx hb dX2_readsStatement_16 (by rw [c37]; decide) (by rw [c37]; decide) (by rw [c37]; rfl) (by decide) ?_
    exact kX2_readsStatement_211 C hr w2 h _ _ _ hw (lv_sub hl [1] rfl)
  replace h := (if_neg c37).symm.trans h
  by_cases c38 : r1 = 119
  · replace h := (if_pos c38).symm.trans h
    refine lv_tableIn (tgt := 181) hx hb dX2_readsStatement_16 (by rw [c38]; decide) (by rw [c38]; decide) (by rw [c38]; rfl) (by decide) ?_
    exact kX2_readsStatement_181 C hr w2 h _ _ _ hw (lv_sub hl [1] rfl)
  replace h := (if_neg c38).symm.trans h
  have hout : (r1 : Int32).toInt < 98 ∨ 119 < (r1 : Int32).toInt := sw_out (fun k h1 h2 => by
    have hk : k = 98 ∨ k = 99 ∨ k = 100 ∨ k = 101 ∨ k = 102 ∨ k = 103 ∨ k = 104 ∨ k = 105 ∨ k = 106 ∨ k = 107 ∨ k = 108 ∨ k = 109 ∨ k = 110 ∨ k = 111 ∨ k = 112 ∨ k = 113 ∨ k = 114 ∨ k = 115 ∨ k = 116 ∨ k = 117 ∨ k = 118 ∨ k = 119 := by omega
    rcases hk with rfl | rfl | rfl | rfl | rfl | rfl | rfl | rfl | rfl | rfl | rfl | rfl | rfl | rfl | rfl | rfl | rfl | rfl | rfl | rfl | rfl | rfl
    · exact sw_ne c3 (by decide)
    · exact sw_ne c4 (by decide)
    · exact sw_ne c5 (by decide)
    · exact sw_ne c6 (by decide)
    · exact sw_ne c7 (by decide)
    · exact sw_ne c8 (by decide)
    · exact sw_ne c11 (by decide)
    · exact sw_ne c12 (by decide)
    · exact sw_ne c13 (by decide)
    · exact sw_ne c14 (by decide)
    · exact sw_ne c15 (by decide)
    · exact sw_ne c16 (by decide)
    · exact sw_ne c17 (by decide)
    · exact sw_ne c20 (by decide)
    · exact sw_ne c21 (by decide)
    · exact sw_ne c26 (by decide)
    · exact sw_ne c27 (by decide)
    · exact sw_ne c34 (by decide)
    · exact sw_ne c35 (by decide)
    · exact sw_ne c36 (by decide)
    · exact sw_ne c37 (by decide)
    · exact sw_ne c38 (by decide))
  refine lv_tableOut (tgt := 211) hx hb dX2_readsStatement_16 hout (by decide) ?_
  exact kX2_readsStatement_211 C hr w2 h _ _ _ hw (lv_sub hl [1] rfl)
abbrev rmX2_addsRocket : Room := { frames := 1, cells := 0, slots := 0, locals := 21 }
theorem hdX2_addsRocket : yX2_addsRocket.cls = RX2 ∧ yX2_addsRocket.cls ≠ "java/lang/invoke/MethodHandle" ∧ yX2_addsRocket.cls ≠ "java/lang/invoke/VarHandle" ∧ (parseMethodDescriptor yX2_addsRocket.desc).map (fun d => d.parameters.length) = some 0 := by decide +kernel
def GX2_addsRocket_26 (p : Program) (l : Launch) (e : Env) (s : State) (m : MethodId) (args : Array Value) (below : List Frame) (meth : Method) (c : Code) (D : va_G) (cA : ClassId) (A : Nat → Prop) (ad : Nat → Nat) (z : (Int32 × VS)) (x : (VS) × (Int32)) : Prop := ∀ (H : Heap) (locs : List Loc) (ls : Array Slot), Wd D A s.heap (wM cA ad x.1) H locs → lv_has ls 2 [(0, .ref (ad 0)), (1, .int x.2)] → W p l e rmX2_addsRocket s m args below meth c H locs 0 0 (MQ below (QI D cA A z.1 (wM cA ad z.2)) args s 0 0 A) (F0 m 26 ls [])
def fX2_addsRocket_26 (k26 : ((VS) × (Int32)) → Option (Int32 × VS)) : ((VS) × (Int32)) → Option (Int32 × VS) := fun x => match x with | (Y, x_1) => if 3 ≤ x_1 then rd 81 (Y 0) 0 (fun r2 => cl (fX2_ofR r2 3) (fun r3 => ck 81 r3 (bn (up Y 0 (upd (Y 0) (r3 : Int32).toNatClampNeg 0)) (fun w4 => rd 81 (w4 0) 0 (fun r5 => ck 81 0 (bn (up w4 0 (upd (w4 0) (0 : Int32).toNatClampNeg (r5 + (1 : Int32)))) (fun w6 => some (1, w6)))))))) else rd 81 (Y 0) 0 (fun r7 => cl (fX2_ofR r7 x_1) (fun r8 => rd 3 (Y 11) x_1 (fun r9 => ck 81 r8 (bn (up Y 0 (upd (Y 0) (r8 : Int32).toNatClampNeg r9)) (fun w10 => bn (x_1 + 1) (fun x11 => k26 (w10, x11)))))))
def fX2_addsRocket (Y : VS) : Option (Int32 × VS) := rd 3 (Y 11) 2 (fun r1 => if 6 ≤ r1 then some (0, Y) else rd 81 (Y 0) 0 (fun r3 => if r3 = 9 then some (0, Y) else lp (fX2_addsRocket_26) 5000 (Y, 0)))
set_option maxHeartbeats 4000000 in
set_option maxRecDepth 100000 in
theorem kX2_addsRocket_26 (C : Cx p s m args meth c cX2_addsRocket 2 RX2 D cA g A) (hr : meth.sig.returnType = (some .boolean)) {z : (Int32 × VS)} (k26 : ((VS) × (Int32)) → Option (Int32 × VS)) (hk26 : ∀ x, k26 x = some z → GX2_addsRocket_26 p l e s m args below meth c D cA A ad z x) (x : (VS) × (Int32)) (h : fX2_addsRocket_26 k26 x = some z) : GX2_addsRocket_26 p l e s m args below meth c D cA A ad z x := by
  obtain ⟨Y, x_1⟩ := x
  intro H locs ls hw hl
  have hw : Wd D A s.heap (wM cA ad Y) H locs := hw
  have hl : lv_has ls 2 [(0, .ref (ad 0)), (1, .int x_1)] := hl
  have hx := C.1.1
  have hb := C.1.2.1
  have h : (if 3 ≤ x_1 then rd 81 (Y 0) 0 (fun r2 => cl (fX2_ofR r2 3) (fun r3 => ck 81 r3 (bn (up Y 0 (upd (Y 0) (r3 : Int32).toNatClampNeg 0)) (fun w4 => rd 81 (w4 0) 0 (fun r5 => ck 81 0 (bn (up w4 0 (upd (w4 0) (0 : Int32).toNatClampNeg (r5 + (1 : Int32)))) (fun w6 => some (1, w6)))))))) else rd 81 (Y 0) 0 (fun r7 => cl (fX2_ofR r7 x_1) (fun r8 => rd 3 (Y 11) x_1 (fun r9 => ck 81 r8 (bn (up Y 0 (upd (Y 0) (r8 : Int32).toNatClampNeg r9)) (fun w10 => bn (x_1 + 1) (fun x11 => k26 (w10, x11)))))))) = some z := h
  refine lv_iload_n hx hb dX2_addsRocket_26 rfl (lv_at hl 1 rfl) ?_
  refine lv_iconst (v := 3) hx hb dX2_addsRocket_27 (by decide) ?_
  refine lv_icmp_ge (tgt := 58) hx hb dX2_addsRocket_28 (by decide) (fun c1 => ?_) (fun c1 => ?_)
  · replace h := (if_pos c1).symm.trans h
    refine lv_aload_n hx hb dX2_addsRocket_58 rfl (lv_at hl 0 rfl) ?_
    refine tGet (T := TX2) (N := 13) (ci := 2) C hw inX2 0 0 rfl (by decide) kf_RX2_9 rfl rfl rfl dX2_addsRocket_59 ?_
    refine lv_aload_n hx hb dX2_addsRocket_62 rfl (lv_at hl 0 rfl) ?_
    refine tGet (T := TX2) (N := 13) (ci := 2) C hw inX2 0 0 rfl (by decide) kf_RX2_9 rfl rfl rfl dX2_addsRocket_63 ?_
    refine lv_iconst (v := 0) hx hb dX2_addsRocket_66 (by decide) ?_
    obtain ⟨r2, ir2, er2, h⟩ := rd_some h
    refine tLd C hw 1 rfl ir2 er2 dX2_addsRocket_67 ?_
    refine lv_iconst (v := 3) hx hb dX2_addsRocket_68 (by decide) ?_
    obtain ⟨r3, hr3, h⟩ := cl_some h
    refine cSi (ws2 := (wM cA ad Y)) (As := [.int r2, .int 3]) (rest := [.ref (ad 1)]) C hw jnE (kX2_ofR hr3) kl_RX2_44 kt_yX2_ofR kn_RX2 kc_yX2_ofR ⟨rfl, rfl⟩ hdX2_ofR ⟨Nat.le_of_ble_eq_true rfl, Nat.le_of_ble_eq_true rfl⟩ rfl hl.1 (Nat.le_of_ble_eq_true rfl) dX2_addsRocket_69 ⟨Nat.zero_le _, Nat.zero_le _⟩ (fun H locs hw => ?_)
    refine lv_iconst (v := 0) hx hb dX2_addsRocket_72 (by decide) ?_
    obtain ⟨iw4, h⟩ := ck_some h
    obtain ⟨w4, ew4⟩ : ∃ y : VS, y = up Y 0 (upd (Y 0) (r3 : Int32).toNatClampNeg 0) := ⟨_, rfl⟩
    replace h := bn_some h ew4
    refine tSt (ws2 := (wM cA ad w4)) C hw 1 rfl iw4 (by rw [ew4]; rfl) dX2_addsRocket_73 (fun H locs hw => ?_)
    refine lv_aload_n hx hb dX2_addsRocket_74 rfl (lv_at hl 0 rfl) ?_
    refine tGet (T := TX2) (N := 13) (ci := 2) C hw inX2 0 0 rfl (by decide) kf_RX2_9 rfl rfl rfl dX2_addsRocket_75 ?_
    refine lv_iconst (v := 0) hx hb dX2_addsRocket_78 (by decide) ?_
    refine lv_dup2_11 hx hb dX2_addsRocket_79 rfl rfl ?_
    obtain ⟨r5, ir5, er5, h⟩ := rd_some h
    refine tLd C hw 1 rfl ir5 er5 dX2_addsRocket_80 ?_
    refine lv_iconst (v := 1) hx hb dX2_addsRocket_81 (by decide) ?_
    refine lv_iadd hx hb dX2_addsRocket_82 ?_
    obtain ⟨iw6, h⟩ := ck_some h
    obtain ⟨w6, ew6⟩ : ∃ y : VS, y = up w4 0 (upd (w4 0) (0 : Int32).toNatClampNeg (r5 + (1 : Int32))) := ⟨_, rfl⟩
    replace h := bn_some h ew6
    refine tSt (ws2 := (wM cA ad w6)) C hw 1 rfl iw6 (by rw [ew6]; rfl) dX2_addsRocket_83 (fun H locs hw => ?_)
    refine lv_iconst (v := 1) hx hb dX2_addsRocket_84 (by decide) ?_
    obtain rfl := some_e h
    exact rtZ C hr nz1 hw dX2_addsRocket_85
  · replace h := (if_neg c1).symm.trans h
    refine lv_aload_n hx hb dX2_addsRocket_31 rfl (lv_at hl 0 rfl) ?_
    refine tGet (T := TX2) (N := 13) (ci := 2) C hw inX2 0 0 rfl (by decide) kf_RX2_9 rfl rfl rfl dX2_addsRocket_32 ?_
    refine lv_aload_n hx hb dX2_addsRocket_35 rfl (lv_at hl 0 rfl) ?_
    refine tGet (T := TX2) (N := 13) (ci := 2) C hw inX2 0 0 rfl (by decide) kf_RX2_9 rfl rfl rfl dX2_addsRocket_36 ?_
    refine lv_iconst (v := 0) hx hb dX2_addsRocket_39 (by decide) ?_
    obtain ⟨r7, ir7, er7, h⟩ := rd_some h
    refine tLd C hw 1 rfl ir7 er7 dX2_addsRocket_40 ?_
    refine lv_iload_n hx hb dX2_addsRocket_41 rfl (lv_at hl 1 rfl) ?_
    obtain ⟨r8, hr8, h⟩ := cl_some h
    refine cSi (ws2 := (wM cA ad Y)) (As := [.int r7, .int x_1]) (rest := [.ref (ad 1)]) C hw jnE (kX2_ofR hr8) kl_RX2_44 kt_yX2_ofR kn_RX2 kc_yX2_ofR ⟨rfl, rfl⟩ hdX2_ofR ⟨Nat.le_of_ble_eq_true rfl, Nat.le_of_ble_eq_true rfl⟩ rfl hl.1 (Nat.le_of_ble_eq_true rfl) dX2_addsRocket_42 ⟨Nat.zero_le _, Nat.zero_le _⟩ (fun H locs hw => ?_)
    refine lv_aload_n hx hb dX2_addsRocket_45 rfl (lv_at hl 0 rfl) ?_
    refine tGet (T := TX2) (N := 13) (ci := 2) C hw inX2 11 0 rfl (by decide) kf_RX2_31 rfl rfl rfl dX2_addsRocket_46 ?_
    refine lv_iload_n hx hb dX2_addsRocket_49 rfl (lv_at hl 1 rfl) ?_
    obtain ⟨r9, ir9, er9, h⟩ := rd_some h
    refine tLd C hw 8 rfl ir9 er9 dX2_addsRocket_50 ?_
    obtain ⟨iw10, h⟩ := ck_some h
    obtain ⟨w10, ew10⟩ : ∃ y : VS, y = up Y 0 (upd (Y 0) (r8 : Int32).toNatClampNeg r9) := ⟨_, rfl⟩
    replace h := bn_some h ew10
    refine tSt (ws2 := (wM cA ad w10)) C hw 1 rfl iw10 (by rw [ew10]; rfl) dX2_addsRocket_51 (fun H locs hw => ?_)
    obtain ⟨x11, ex11⟩ : ∃ y : Int32, y = x_1 + 1 := ⟨_, rfl⟩
    replace h := bn_some h ex11
    refine lv_iinc (v := x11) (lv' := [(1, .int x11), (0, .ref (ad 0))]) hx hb dX2_addsRocket_52 hl (k := 1) rfl (by rw [ex11]; rfl) (by decide) rfl (fun ls hl => ?_)
    refine lv_goto (tgt := 26) hx hb dX2_addsRocket_55 (by decide) ?_
    exact hk26 (w10, x11) h _ _ _ hw (lv_sub hl [1, 0] rfl)
theorem lX2_addsRocket_26 (C : Cx p s m args meth c cX2_addsRocket 2 RX2 D cA g A) (hr : meth.sig.returnType = (some .boolean)) {z : (Int32 × VS)} (n : Nat) (x : (VS) × (Int32)) (h : lp (fX2_addsRocket_26) n x = some z) : GX2_addsRocket_26 p l e s m args below meth c D cA A ad z x := lp_ok (GX2_addsRocket_26 p l e s m args below meth c D cA A ad z) (fun kq hkq x h => kX2_addsRocket_26 C hr kq hkq x h) n x h
set_option maxHeartbeats 4000000 in
set_option maxRecDepth 100000 in
theorem kX2_addsRocket (ad : Nat → Nat) {Y : VS} {z : (Int32 × VS)} (h : fX2_addsRocket Y = some z) : MI l D cA g yX2_addsRocket (Cond.code yX2_addsRocket cX2_addsRocket 2 (some .boolean) :: lw_g) rmX2_addsRocket [.ref (ad 0)] (wM cA ad Y) z.1 (wM cA ad z.2) := by
  intro sz
  refine Met.ofW (cc := cX2_addsRocket) (maxL := 2) (ret := (some .boolean)) (by decide) rfl ?_
  intro p e s m args below meth c s₁ B hml hv
  obtain ⟨rfl, C, hr, hw⟩ := ent B hml hv
  generalize va_A (wM cA ad Y) sz = A at C hw ⊢
  have hl := lv_entry ([.ref (ad 0)]) (n := 2) (Nat.le_of_ble_eq_true rfl)
  rw [lg_entry_eq]
  generalize (lg_sl ([.ref (ad 0)]) ++ List.replicate (2 - (lg_sl ([.ref (ad 0)])).length) Slot.unset).toArray = ls at hl ⊢
  have hl : lv_has ls 2 [(0, .ref (ad 0))] := hl
  have hx := C.1.1
  have hb := C.1.2.1
  have h : (rd 3 (Y 11) 2 (fun r1 => if 6 ≤ r1 then some (0, Y) else rd 81 (Y 0) 0 (fun r3 => if r3 = 9 then some (0, Y) else lp (fX2_addsRocket_26) 5000 (Y, 0)))) = some z := h
  refine lv_aload_n hx hb dX2_addsRocket_0 rfl (lv_at hl 0 rfl) ?_
  refine tGet (T := TX2) (N := 13) (ci := 2) C hw inX2 11 0 rfl (by decide) kf_RX2_31 rfl rfl rfl dX2_addsRocket_1 ?_
  refine lv_iconst (v := 2) hx hb dX2_addsRocket_4 (by decide) ?_
  obtain ⟨r1, ir1, er1, h⟩ := rd_some h
  refine tLd C hw 8 rfl ir1 er1 dX2_addsRocket_5 ?_
  refine lv_bipush (v := 6) hx hb dX2_addsRocket_6 (by decide) ?_
  refine lv_icmp_ge (tgt := 22) hx hb dX2_addsRocket_8 (by decide) (fun c2 => ?_) (fun c2 => ?_)
  · replace h := (if_pos c2).symm.trans h
    refine lv_iconst (v := 0) hx hb dX2_addsRocket_22 (by decide) ?_
    obtain rfl := some_e h
    exact rtZ C hr nz0 hw dX2_addsRocket_23
  · replace h := (if_neg c2).symm.trans h
    refine lv_aload_n hx hb dX2_addsRocket_11 rfl (lv_at hl 0 rfl) ?_
    refine tGet (T := TX2) (N := 13) (ci := 2) C hw inX2 0 0 rfl (by decide) kf_RX2_9 rfl rfl rfl dX2_addsRocket_12 ?_
    refine lv_iconst (v := 0) hx hb dX2_addsRocket_15 (by decide) ?_
    obtain ⟨r3, ir3, er3, h⟩ := rd_some h
    refine tLd C hw 1 rfl ir3 er3 dX2_addsRocket_16 ?_
    refine lv_bipush (v := 9) hx hb dX2_addsRocket_17 (by decide) ?_
    refine lv_icmp_ne (tgt := 24) hx hb dX2_addsRocket_19 (by decide) (fun c4 => ?_) (fun c4 => ?_)
    · replace h := (if_neg c4).symm.trans h
      refine lv_iconst (v := 0) hx hb dX2_addsRocket_24 (by decide) ?_
      refine lv_istore_n (lv' := [(1, .int 0), (0, .ref (ad 0))]) hx hb dX2_addsRocket_25 rfl hl (by decide) rfl (fun ls hl => ?_)
      exact lX2_addsRocket_26 C hr 5000 (Y, 0) h _ _ _ hw (lv_sub hl [1, 0] rfl)
    · replace h := (if_pos c4).symm.trans h
      refine lv_iconst (v := 0) hx hb dX2_addsRocket_22 (by decide) ?_
      obtain rfl := some_e h
      exact rtZ C hr nz0 hw dX2_addsRocket_23
abbrev rmX2_addsReader : Room := { frames := 1, cells := 0, slots := 0, locals := 21 }
theorem hdX2_addsReader : yX2_addsReader.cls = RX2 ∧ yX2_addsReader.cls ≠ "java/lang/invoke/MethodHandle" ∧ yX2_addsReader.cls ≠ "java/lang/invoke/VarHandle" ∧ (parseMethodDescriptor yX2_addsReader.desc).map (fun d => d.parameters.length) = some 0 := by decide +kernel
def GX2_addsReader_67 (p : Program) (l : Launch) (e : Env) (s : State) (m : MethodId) (args : Array Value) (below : List Frame) (meth : Method) (c : Code) (D : va_G) (cA : ClassId) (A : Nat → Prop) (ad : Nat → Nat) (z : (Int32 × VS)) (x : (VS) × (Int32)) : Prop := ∀ (H : Heap) (locs : List Loc) (ls : Array Slot), Wd D A s.heap (wM cA ad x.1) H locs → lv_has ls 2 [(0, .ref (ad 0)), (1, .int x.2)] → W p l e rmX2_addsReader s m args below meth c H locs 0 0 (MQ below (QI D cA A z.1 (wM cA ad z.2)) args s 0 0 A) (F0 m 67 ls [])
def fX2_addsReader_67 (k67 : ((VS) × (Int32)) → Option (Int32 × VS)) : ((VS) × (Int32)) → Option (Int32 × VS) := fun x => match x with | (Y, x_1) => if 6 ≤ x_1 then rd 81 (Y 0) 1 (fun r2 => ck 81 1 (bn (up Y 0 (upd (Y 0) (1 : Int32).toNatClampNeg (r2 + (1 : Int32)))) (fun w3 => some (1, w3)))) else rd 81 (Y 0) 1 (fun r4 => cl (fX2_ofP r4 ((2 : Int32) + x_1)) (fun r5 => ck 81 r5 (bn (up Y 0 (upd (Y 0) (r5 : Int32).toNatClampNeg 0)) (fun w6 => bn (x_1 + 1) (fun x7 => k67 (w6, x7))))))
def fX2_addsReader (Y : VS) : Option (Int32 × VS) := rd 3 (Y 11) 0 (fun r1 => if 20 ≤ r1 then some (0, Y) else rd 81 (Y 0) 1 (fun r3 => if r3 = 5 then some (0, Y) else rd 81 (Y 0) 1 (fun r5 => cl (fX2_ofP r5 0) (fun r6 => rd 3 (Y 11) 0 (fun r7 => ck 81 r6 (bn (up Y 0 (upd (Y 0) (r6 : Int32).toNatClampNeg r7)) (fun w8 => rd 81 (w8 0) 1 (fun r9 => cl (fX2_ofP r9 1) (fun r10 => rd 3 (w8 11) 1 (fun r11 => ck 81 r10 (bn (up w8 0 (upd (w8 0) (r10 : Int32).toNatClampNeg r11)) (fun w12 => lp (fX2_addsReader_67) 5000 (w12, 0)))))))))))))
set_option maxHeartbeats 4000000 in
set_option maxRecDepth 100000 in
theorem kX2_addsReader_67 (C : Cx p s m args meth c cX2_addsReader 2 RX2 D cA g A) (hr : meth.sig.returnType = (some .boolean)) {z : (Int32 × VS)} (k67 : ((VS) × (Int32)) → Option (Int32 × VS)) (hk67 : ∀ x, k67 x = some z → GX2_addsReader_67 p l e s m args below meth c D cA A ad z x) (x : (VS) × (Int32)) (h : fX2_addsReader_67 k67 x = some z) : GX2_addsReader_67 p l e s m args below meth c D cA A ad z x := by
  obtain ⟨Y, x_1⟩ := x
  intro H locs ls hw hl
  have hw : Wd D A s.heap (wM cA ad Y) H locs := hw
  have hl : lv_has ls 2 [(0, .ref (ad 0)), (1, .int x_1)] := hl
  have hx := C.1.1
  have hb := C.1.2.1
  have h : (if 6 ≤ x_1 then rd 81 (Y 0) 1 (fun r2 => ck 81 1 (bn (up Y 0 (upd (Y 0) (1 : Int32).toNatClampNeg (r2 + (1 : Int32)))) (fun w3 => some (1, w3)))) else rd 81 (Y 0) 1 (fun r4 => cl (fX2_ofP r4 ((2 : Int32) + x_1)) (fun r5 => ck 81 r5 (bn (up Y 0 (upd (Y 0) (r5 : Int32).toNatClampNeg 0)) (fun w6 => bn (x_1 + 1) (fun x7 => k67 (w6, x7))))))) = some z := h
  refine lv_iload_n hx hb dX2_addsReader_67 rfl (lv_at hl 1 rfl) ?_
  refine lv_bipush (v := 6) hx hb dX2_addsReader_68 (by decide) ?_
  refine lv_icmp_ge (tgt := 97) hx hb dX2_addsReader_70 (by decide) (fun c1 => ?_) (fun c1 => ?_)
  · replace h := (if_pos c1).symm.trans h
    refine lv_aload_n hx hb dX2_addsReader_97 rfl (lv_at hl 0 rfl) ?_
    refine tGet (T := TX2) (N := 13) (ci := 2) C hw inX2 0 0 rfl (by decide) kf_RX2_9 rfl rfl rfl dX2_addsReader_98 ?_
    refine lv_iconst (v := 1) hx hb dX2_addsReader_101 (by decide) ?_
    refine lv_dup2_11 hx hb dX2_addsReader_102 rfl rfl ?_
    obtain ⟨r2, ir2, er2, h⟩ := rd_some h
    refine tLd C hw 1 rfl ir2 er2 dX2_addsReader_103 ?_
    refine lv_iconst (v := 1) hx hb dX2_addsReader_104 (by decide) ?_
    refine lv_iadd hx hb dX2_addsReader_105 ?_
    obtain ⟨iw3, h⟩ := ck_some h
    obtain ⟨w3, ew3⟩ : ∃ y : VS, y = up Y 0 (upd (Y 0) (1 : Int32).toNatClampNeg (r2 + (1 : Int32))) := ⟨_, rfl⟩
    replace h := bn_some h ew3
    refine tSt (ws2 := (wM cA ad w3)) C hw 1 rfl iw3 (by rw [ew3]; rfl) dX2_addsReader_106 (fun H locs hw => ?_)
    refine lv_iconst (v := 1) hx hb dX2_addsReader_107 (by decide) ?_
    obtain rfl := some_e h
    exact rtZ C hr nz1 hw dX2_addsReader_108
  · replace h := (if_neg c1).symm.trans h
    refine lv_aload_n hx hb dX2_addsReader_73 rfl (lv_at hl 0 rfl) ?_
    refine tGet (T := TX2) (N := 13) (ci := 2) C hw inX2 0 0 rfl (by decide) kf_RX2_9 rfl rfl rfl dX2_addsReader_74 ?_
    refine lv_aload_n hx hb dX2_addsReader_77 rfl (lv_at hl 0 rfl) ?_
    refine tGet (T := TX2) (N := 13) (ci := 2) C hw inX2 0 0 rfl (by decide) kf_RX2_9 rfl rfl rfl dX2_addsReader_78 ?_
    refine lv_iconst (v := 1) hx hb dX2_addsReader_81 (by decide) ?_
    obtain ⟨r4, ir4, er4, h⟩ := rd_some h
    refine tLd C hw 1 rfl ir4 er4 dX2_addsReader_82 ?_
    refine lv_iconst (v := 2) hx hb dX2_addsReader_83 (by decide) ?_
    refine lv_iload_n hx hb dX2_addsReader_84 rfl (lv_at hl 1 rfl) ?_
    refine lv_iadd hx hb dX2_addsReader_85 ?_
    obtain ⟨r5, hr5, h⟩ := cl_some h
    refine cSi (ws2 := (wM cA ad Y)) (As := [.int r4, .int ((2 : Int32) + x_1)]) (rest := [.ref (ad 1)]) C hw jnE (kX2_ofP hr5) kl_RX2_48 kt_yX2_ofP kn_RX2 kc_yX2_ofP ⟨rfl, rfl⟩ hdX2_ofP ⟨Nat.le_of_ble_eq_true rfl, Nat.le_of_ble_eq_true rfl⟩ rfl hl.1 (Nat.le_of_ble_eq_true rfl) dX2_addsReader_86 ⟨Nat.zero_le _, Nat.zero_le _⟩ (fun H locs hw => ?_)
    refine lv_iconst (v := 0) hx hb dX2_addsReader_89 (by decide) ?_
    obtain ⟨iw6, h⟩ := ck_some h
    obtain ⟨w6, ew6⟩ : ∃ y : VS, y = up Y 0 (upd (Y 0) (r5 : Int32).toNatClampNeg 0) := ⟨_, rfl⟩
    replace h := bn_some h ew6
    refine tSt (ws2 := (wM cA ad w6)) C hw 1 rfl iw6 (by rw [ew6]; rfl) dX2_addsReader_90 (fun H locs hw => ?_)
    obtain ⟨x7, ex7⟩ : ∃ y : Int32, y = x_1 + 1 := ⟨_, rfl⟩
    replace h := bn_some h ex7
    refine lv_iinc (v := x7) (lv' := [(1, .int x7), (0, .ref (ad 0))]) hx hb dX2_addsReader_91 hl (k := 1) rfl (by rw [ex7]; rfl) (by decide) rfl (fun ls hl => ?_)
    refine lv_goto (tgt := 67) hx hb dX2_addsReader_94 (by decide) ?_
    exact hk67 (w6, x7) h _ _ _ hw (lv_sub hl [1, 0] rfl)
theorem lX2_addsReader_67 (C : Cx p s m args meth c cX2_addsReader 2 RX2 D cA g A) (hr : meth.sig.returnType = (some .boolean)) {z : (Int32 × VS)} (n : Nat) (x : (VS) × (Int32)) (h : lp (fX2_addsReader_67) n x = some z) : GX2_addsReader_67 p l e s m args below meth c D cA A ad z x := lp_ok (GX2_addsReader_67 p l e s m args below meth c D cA A ad z) (fun kq hkq x h => kX2_addsReader_67 C hr kq hkq x h) n x h
set_option maxHeartbeats 4000000 in
set_option maxRecDepth 100000 in
theorem kX2_addsReader (ad : Nat → Nat) {Y : VS} {z : (Int32 × VS)} (h : fX2_addsReader Y = some z) : MI l D cA g yX2_addsReader (Cond.code yX2_addsReader cX2_addsReader 2 (some .boolean) :: lw_g) rmX2_addsReader [.ref (ad 0)] (wM cA ad Y) z.1 (wM cA ad z.2) := by
  intro sz
  refine Met.ofW (cc := cX2_addsReader) (maxL := 2) (ret := (some .boolean)) (by decide) rfl ?_
  intro p e s m args below meth c s₁ B hml hv
  obtain ⟨rfl, C, hr, hw⟩ := ent B hml hv
  generalize va_A (wM cA ad Y) sz = A at C hw ⊢
  have hl := lv_entry ([.ref (ad 0)]) (n := 2) (Nat.le_of_ble_eq_true rfl)
  rw [lg_entry_eq]
  generalize (lg_sl ([.ref (ad 0)]) ++ List.replicate (2 - (lg_sl ([.ref (ad 0)])).length) Slot.unset).toArray = ls at hl ⊢
  have hl : lv_has ls 2 [(0, .ref (ad 0))] := hl
  have hx := C.1.1
  have hb := C.1.2.1
  have h : (rd 3 (Y 11) 0 (fun r1 => if 20 ≤ r1 then some (0, Y) else rd 81 (Y 0) 1 (fun r3 => if r3 = 5 then some (0, Y) else rd 81 (Y 0) 1 (fun r5 => cl (fX2_ofP r5 0) (fun r6 => rd 3 (Y 11) 0 (fun r7 => ck 81 r6 (bn (up Y 0 (upd (Y 0) (r6 : Int32).toNatClampNeg r7)) (fun w8 => rd 81 (w8 0) 1 (fun r9 => cl (fX2_ofP r9 1) (fun r10 => rd 3 (w8 11) 1 (fun r11 => ck 81 r10 (bn (up w8 0 (upd (w8 0) (r10 : Int32).toNatClampNeg r11)) (fun w12 => lp (fX2_addsReader_67) 5000 (w12, 0)))))))))))))) = some z := h
  refine lv_aload_n hx hb dX2_addsReader_0 rfl (lv_at hl 0 rfl) ?_
  refine tGet (T := TX2) (N := 13) (ci := 2) C hw inX2 11 0 rfl (by decide) kf_RX2_31 rfl rfl rfl dX2_addsReader_1 ?_
  refine lv_iconst (v := 0) hx hb dX2_addsReader_4 (by decide) ?_
  obtain ⟨r1, ir1, er1, h⟩ := rd_some h
  refine tLd C hw 8 rfl ir1 er1 dX2_addsReader_5 ?_
  refine lv_bipush (v := 20) hx hb dX2_addsReader_6 (by decide) ?_
  refine lv_icmp_ge (tgt := 21) hx hb dX2_addsReader_8 (by decide) (fun c2 => ?_) (fun c2 => ?_)
  · replace h := (if_pos c2).symm.trans h
    refine lv_iconst (v := 0) hx hb dX2_addsReader_21 (by decide) ?_
    obtain rfl := some_e h
    exact rtZ C hr nz0 hw dX2_addsReader_22
  · replace h := (if_neg c2).symm.trans h
    refine lv_aload_n hx hb dX2_addsReader_11 rfl (lv_at hl 0 rfl) ?_
    refine tGet (T := TX2) (N := 13) (ci := 2) C hw inX2 0 0 rfl (by decide) kf_RX2_9 rfl rfl rfl dX2_addsReader_12 ?_
    refine lv_iconst (v := 1) hx hb dX2_addsReader_15 (by decide) ?_
    obtain ⟨r3, ir3, er3, h⟩ := rd_some h
    refine tLd C hw 1 rfl ir3 er3 dX2_addsReader_16 ?_
    refine lv_iconst (v := 5) hx hb dX2_addsReader_17 (by decide) ?_
    refine lv_icmp_ne (tgt := 23) hx hb dX2_addsReader_18 (by decide) (fun c4 => ?_) (fun c4 => ?_)
    · replace h := (if_neg c4).symm.trans h
      refine lv_aload_n hx hb dX2_addsReader_23 rfl (lv_at hl 0 rfl) ?_
      refine tGet (T := TX2) (N := 13) (ci := 2) C hw inX2 0 0 rfl (by decide) kf_RX2_9 rfl rfl rfl dX2_addsReader_24 ?_
      refine lv_aload_n hx hb dX2_addsReader_27 rfl (lv_at hl 0 rfl) ?_
      refine tGet (T := TX2) (N := 13) (ci := 2) C hw inX2 0 0 rfl (by decide) kf_RX2_9 rfl rfl rfl dX2_addsReader_28 ?_
      refine lv_iconst (v := 1) hx hb dX2_addsReader_31 (by decide) ?_
      obtain ⟨r5, ir5, er5, h⟩ := rd_some h
      refine tLd C hw 1 rfl ir5 er5 dX2_addsReader_32 ?_
      refine lv_iconst (v := 0) hx hb dX2_addsReader_33 (by decide) ?_
      obtain ⟨r6, hr6, h⟩ := cl_some h
      refine cSi (ws2 := (wM cA ad Y)) (As := [.int r5, .int 0]) (rest := [.ref (ad 1)]) C hw jnE (kX2_ofP hr6) kl_RX2_48 kt_yX2_ofP kn_RX2 kc_yX2_ofP ⟨rfl, rfl⟩ hdX2_ofP ⟨Nat.le_of_ble_eq_true rfl, Nat.le_of_ble_eq_true rfl⟩ rfl hl.1 (Nat.le_of_ble_eq_true rfl) dX2_addsReader_34 ⟨Nat.zero_le _, Nat.zero_le _⟩ (fun H locs hw => ?_)
      refine lv_aload_n hx hb dX2_addsReader_37 rfl (lv_at hl 0 rfl) ?_
      refine tGet (T := TX2) (N := 13) (ci := 2) C hw inX2 11 0 rfl (by decide) kf_RX2_31 rfl rfl rfl dX2_addsReader_38 ?_
      refine lv_iconst (v := 0) hx hb dX2_addsReader_41 (by decide) ?_
      obtain ⟨r7, ir7, er7, h⟩ := rd_some h
      refine tLd C hw 8 rfl ir7 er7 dX2_addsReader_42 ?_
      obtain ⟨iw8, h⟩ := ck_some h
      obtain ⟨w8, ew8⟩ : ∃ y : VS, y = up Y 0 (upd (Y 0) (r6 : Int32).toNatClampNeg r7) := ⟨_, rfl⟩
      replace h := bn_some h ew8
      refine tSt (ws2 := (wM cA ad w8)) C hw 1 rfl iw8 (by rw [ew8]; rfl) dX2_addsReader_43 (fun H locs hw => ?_)
      refine lv_aload_n hx hb dX2_addsReader_44 rfl (lv_at hl 0 rfl) ?_
      refine tGet (T := TX2) (N := 13) (ci := 2) C hw inX2 0 0 rfl (by decide) kf_RX2_9 rfl rfl rfl dX2_addsReader_45 ?_
      refine lv_aload_n hx hb dX2_addsReader_48 rfl (lv_at hl 0 rfl) ?_
      refine tGet (T := TX2) (N := 13) (ci := 2) C hw inX2 0 0 rfl (by decide) kf_RX2_9 rfl rfl rfl dX2_addsReader_49 ?_
      refine lv_iconst (v := 1) hx hb dX2_addsReader_52 (by decide) ?_
      obtain ⟨r9, ir9, er9, h⟩ := rd_some h
      refine tLd C hw 1 rfl ir9 er9 dX2_addsReader_53 ?_
      refine lv_iconst (v := 1) hx hb dX2_addsReader_54 (by decide) ?_
      obtain ⟨r10, hr10, h⟩ := cl_some h
      refine cSi (ws2 := (wM cA ad w8)) (As := [.int r9, .int 1]) (rest := [.ref (ad 1)]) C hw jnE (kX2_ofP hr10) kl_RX2_48 kt_yX2_ofP kn_RX2 kc_yX2_ofP ⟨rfl, rfl⟩ hdX2_ofP ⟨Nat.le_of_ble_eq_true rfl, Nat.le_of_ble_eq_true rfl⟩ rfl hl.1 (Nat.le_of_ble_eq_true rfl) dX2_addsReader_55 ⟨Nat.zero_le _, Nat.zero_le _⟩ (fun H locs hw => ?_)
      refine lv_aload_n hx hb dX2_addsReader_58 rfl (lv_at hl 0 rfl) ?_
      refine tGet (T := TX2) (N := 13) (ci := 2) C hw inX2 11 0 rfl (by decide) kf_RX2_31 rfl rfl rfl dX2_addsReader_59 ?_
      refine lv_iconst (v := 1) hx hb dX2_addsReader_62 (by decide) ?_
      obtain ⟨r11, ir11, er11, h⟩ := rd_some h
      refine tLd C hw 8 rfl ir11 er11 dX2_addsReader_63 ?_
      obtain ⟨iw12, h⟩ := ck_some h
      obtain ⟨w12, ew12⟩ : ∃ y : VS, y = up w8 0 (upd (w8 0) (r10 : Int32).toNatClampNeg r11) := ⟨_, rfl⟩
      replace h := bn_some h ew12
      refine tSt (ws2 := (wM cA ad w12)) C hw 1 rfl iw12 (by rw [ew12]; rfl) dX2_addsReader_64 (fun H locs hw => ?_)
      refine lv_iconst (v := 0) hx hb dX2_addsReader_65 (by decide) ?_
      refine lv_istore_n (lv' := [(1, .int 0), (0, .ref (ad 0))]) hx hb dX2_addsReader_66 rfl hl (by decide) rfl (fun ls hl => ?_)
      exact lX2_addsReader_67 C hr 5000 (w12, 0) h _ _ _ hw (lv_sub hl [1, 0] rfl)
    · replace h := (if_pos c4).symm.trans h
      refine lv_iconst (v := 0) hx hb dX2_addsReader_21 (by decide) ?_
      obtain rfl := some_e h
      exact rtZ C hr nz0 hw dX2_addsReader_22
abbrev rmX2_isDone : Room := { frames := 7, cells := 0, slots := 0, locals := 160 }
theorem hdX2_isDone : yX2_isDone.cls = RX2 ∧ yX2_isDone.cls ≠ "java/lang/invoke/MethodHandle" ∧ yX2_isDone.cls ≠ "java/lang/invoke/VarHandle" ∧ (parseMethodDescriptor yX2_isDone.desc).map (fun d => d.parameters.length) = some 1 := by decide +kernel
def fX2_isDone (Y : VS) (a_1 : Int32) : Option (Int32 × VS) := rd 3 (Y 11) 0 (fun r1 => if a_1 = 98 then cl (fX2_isRocket Y r1) (fun r3 => if r3 = 0 then some (0, Y) else cl (fX2_ofR r1 3) (fun r5 => rd 81 (Y 0) r5 (fun r6 => if r6 = 0 then some (0, Y) else cl (fX2_ofR r1 3) (fun r8 => ck 81 r8 (bn (up Y 0 (upd (Y 0) (r8 : Int32).toNatClampNeg 0)) (fun w9 => some (1, w9))))))) else if a_1 = 103 then ck 81 3 (bn (up Y 0 (upd (Y 0) (3 : Int32).toNatClampNeg r1)) (fun w11 => some (1, w11))) else if a_1 = 112 then cl (fX2_addsReader Y) (fun q13 => bz q13.1 (some (q13.1, q13.2))) else if a_1 = 114 then cl (fX2_addsRocket Y) (fun q15 => bz q15.1 (some (q15.1, q15.2))) else if a_1 = 115 then cl (fX2_isRocket Y r1) (fun r17 => if r17 = 0 then some (0, Y) else cl (fX2_canGo (Y 0) r1) (fun r19 => if r19 = 0 then some (0, Y) else cl (fX2_sendsIn (Y 0) r1 (-1)) (fun w21 => bn (up Y 0 w21) (fun w22 => some (1, w22))))) else if a_1 = 119 then ck 81 4 (bn (up Y 0 (upd (Y 0) (4 : Int32).toNatClampNeg r1)) (fun w24 => some (1, w24))) else cl (fX2_isIn r1 1 60) (fun r25 => if r25 = 0 then some (0, Y) else rd 81 (Y 0) 2 (fun r27 => if (r27 + r1) ≤ 999 then cl (fX2_nightsOn (Y 0) r1 (-1)) (fun w29 => bn (up Y 0 w29) (fun w30 => some (1, w30))) else some (0, Y))))
set_option maxHeartbeats 4000000 in
set_option maxRecDepth 100000 in
theorem kX2_isDone (ad : Nat → Nat) {Y : VS} {a_1 : Int32} {z : (Int32 × VS)} (h : fX2_isDone Y a_1 = some z) : MI l D cA g yX2_isDone (Cond.code yX2_isDone cX2_isDone 3 (some .boolean) :: lw_g) rmX2_isDone [.ref (ad 0), .int a_1] (wM cA ad Y) z.1 (wM cA ad z.2) := by
  intro sz
  refine Met.ofW (cc := cX2_isDone) (maxL := 3) (ret := (some .boolean)) (by decide) rfl ?_
  intro p e s m args below meth c s₁ B hml hv
  obtain ⟨rfl, C, hr, hw⟩ := ent B hml hv
  generalize va_A (wM cA ad Y) sz = A at C hw ⊢
  have hl := lv_entry ([.ref (ad 0), .int a_1]) (n := 3) (Nat.le_of_ble_eq_true rfl)
  rw [lg_entry_eq]
  generalize (lg_sl ([.ref (ad 0), .int a_1]) ++ List.replicate (3 - (lg_sl ([.ref (ad 0), .int a_1])).length) Slot.unset).toArray = ls at hl ⊢
  have hl : lv_has ls 3 [(0, .ref (ad 0)), (1, .int a_1)] := hl
  have hx := C.1.1
  have hb := C.1.2.1
  have h : (rd 3 (Y 11) 0 (fun r1 => if a_1 = 98 then cl (fX2_isRocket Y r1) (fun r3 => if r3 = 0 then some (0, Y) else cl (fX2_ofR r1 3) (fun r5 => rd 81 (Y 0) r5 (fun r6 => if r6 = 0 then some (0, Y) else cl (fX2_ofR r1 3) (fun r8 => ck 81 r8 (bn (up Y 0 (upd (Y 0) (r8 : Int32).toNatClampNeg 0)) (fun w9 => some (1, w9))))))) else if a_1 = 103 then ck 81 3 (bn (up Y 0 (upd (Y 0) (3 : Int32).toNatClampNeg r1)) (fun w11 => some (1, w11))) else if a_1 = 112 then cl (fX2_addsReader Y) (fun q13 => bz q13.1 (some (q13.1, q13.2))) else if a_1 = 114 then cl (fX2_addsRocket Y) (fun q15 => bz q15.1 (some (q15.1, q15.2))) else if a_1 = 115 then cl (fX2_isRocket Y r1) (fun r17 => if r17 = 0 then some (0, Y) else cl (fX2_canGo (Y 0) r1) (fun r19 => if r19 = 0 then some (0, Y) else cl (fX2_sendsIn (Y 0) r1 (-1)) (fun w21 => bn (up Y 0 w21) (fun w22 => some (1, w22))))) else if a_1 = 119 then ck 81 4 (bn (up Y 0 (upd (Y 0) (4 : Int32).toNatClampNeg r1)) (fun w24 => some (1, w24))) else cl (fX2_isIn r1 1 60) (fun r25 => if r25 = 0 then some (0, Y) else rd 81 (Y 0) 2 (fun r27 => if (r27 + r1) ≤ 999 then cl (fX2_nightsOn (Y 0) r1 (-1)) (fun w29 => bn (up Y 0 w29) (fun w30 => some (1, w30))) else some (0, Y))))) = some z := h
  refine lv_aload_n hx hb dX2_isDone_0 rfl (lv_at hl 0 rfl) ?_
  refine tGet (T := TX2) (N := 13) (ci := 2) C hw inX2 11 0 rfl (by decide) kf_RX2_31 rfl rfl rfl dX2_isDone_1 ?_
  refine lv_iconst (v := 0) hx hb dX2_isDone_4 (by decide) ?_
  obtain ⟨r1, ir1, er1, h⟩ := rd_some h
  refine tLd C hw 8 rfl ir1 er1 dX2_isDone_5 ?_
  refine lv_istore_n (lv' := [(2, .int r1), (0, .ref (ad 0)), (1, .int a_1)]) hx hb dX2_isDone_6 rfl hl (by decide) rfl (fun ls hl => ?_)
  refine lv_iload_n hx hb dX2_isDone_7 rfl (lv_at hl 2 rfl) ?_
  by_cases c2 : a_1 = 98
  · replace h := (if_pos c2).symm.trans h
    refine lv_lookup (tgt := 128) hx hb dX2_isDone_8 (by decide) (by rw [c2]; try rfl) (by decide) ?_
    refine lv_aload_n hx hb dX2_isDone_128 rfl (lv_at hl 1 rfl) ?_
    refine lv_iload_n hx hb dX2_isDone_129 rfl (lv_at hl 0 rfl) ?_
    obtain ⟨r3, hr3, h⟩ := cl_some h
    refine cVi (ws2 := (wM cA ad Y)) (As := [.int r1]) (rest := []) C hw jnW (kX2_isRocket ad hr3) kl_RX2_124 ki_yX2_isRocket ks_yX2_isRocket kn_RX2 kc_yX2_isRocket ⟨rfl, rfl⟩ hdX2_isRocket ⟨Nat.le_of_ble_eq_true rfl, Nat.le_of_ble_eq_true rfl⟩ (ci := 2) (q0 := 0) rfl rfl rfl rfl hl.1 (Nat.le_of_ble_eq_true rfl) dX2_isDone_130 ⟨Nat.zero_le _, Nat.zero_le _⟩ (fun H locs hw => ?_)
    refine lv_if_eq (tgt := 149) hx hb dX2_isDone_133 (by decide) (fun c4 => ?_) (fun c4 => ?_)
    · replace h := (if_pos c4).symm.trans h
      refine lv_iconst (v := 0) hx hb dX2_isDone_149 (by decide) ?_
      obtain rfl := some_e h
      exact rtZ C hr nz0 hw dX2_isDone_150
    · replace h := (if_neg c4).symm.trans h
      refine lv_aload_n hx hb dX2_isDone_136 rfl (lv_at hl 1 rfl) ?_
      refine tGet (T := TX2) (N := 13) (ci := 2) C hw inX2 0 0 rfl (by decide) kf_RX2_9 rfl rfl rfl dX2_isDone_137 ?_
      refine lv_iload_n hx hb dX2_isDone_140 rfl (lv_at hl 0 rfl) ?_
      refine lv_iconst (v := 3) hx hb dX2_isDone_141 (by decide) ?_
      obtain ⟨r5, hr5, h⟩ := cl_some h
      refine cSi (ws2 := (wM cA ad Y)) (As := [.int r1, .int 3]) (rest := [.ref (ad 1)]) C hw jnE (kX2_ofR hr5) kl_RX2_44 kt_yX2_ofR kn_RX2 kc_yX2_ofR ⟨rfl, rfl⟩ hdX2_ofR ⟨Nat.le_of_ble_eq_true rfl, Nat.le_of_ble_eq_true rfl⟩ rfl hl.1 (Nat.le_of_ble_eq_true rfl) dX2_isDone_142 ⟨Nat.zero_le _, Nat.zero_le _⟩ (fun H locs hw => ?_)
      obtain ⟨r6, ir6, er6, h⟩ := rd_some h
      refine tLd C hw 1 rfl ir6 er6 dX2_isDone_145 ?_
      refine lv_if_ne (tgt := 151) hx hb dX2_isDone_146 (by decide) (fun c7 => ?_) (fun c7 => ?_)
      · replace h := (if_neg c7).symm.trans h
        refine lv_aload_n hx hb dX2_isDone_151 rfl (lv_at hl 1 rfl) ?_
        refine tGet (T := TX2) (N := 13) (ci := 2) C hw inX2 0 0 rfl (by decide) kf_RX2_9 rfl rfl rfl dX2_isDone_152 ?_
        refine lv_iload_n hx hb dX2_isDone_155 rfl (lv_at hl 0 rfl) ?_
        refine lv_iconst (v := 3) hx hb dX2_isDone_156 (by decide) ?_
        obtain ⟨r8, hr8, h⟩ := cl_some h
        refine cSi (ws2 := (wM cA ad Y)) (As := [.int r1, .int 3]) (rest := [.ref (ad 1)]) C hw jnE (kX2_ofR hr8) kl_RX2_44 kt_yX2_ofR kn_RX2 kc_yX2_ofR ⟨rfl, rfl⟩ hdX2_ofR ⟨Nat.le_of_ble_eq_true rfl, Nat.le_of_ble_eq_true rfl⟩ rfl hl.1 (Nat.le_of_ble_eq_true rfl) dX2_isDone_157 ⟨Nat.zero_le _, Nat.zero_le _⟩ (fun H locs hw => ?_)
        refine lv_iconst (v := 0) hx hb dX2_isDone_160 (by decide) ?_
        obtain ⟨iw9, h⟩ := ck_some h
        obtain ⟨w9, ew9⟩ : ∃ y : VS, y = up Y 0 (upd (Y 0) (r8 : Int32).toNatClampNeg 0) := ⟨_, rfl⟩
        replace h := bn_some h ew9
        refine tSt (ws2 := (wM cA ad w9)) C hw 1 rfl iw9 (by rw [ew9]; rfl) dX2_isDone_161 (fun H locs hw => ?_)
        refine lv_iconst (v := 1) hx hb dX2_isDone_162 (by decide) ?_
        obtain rfl := some_e h
        exact rtZ C hr nz1 hw dX2_isDone_163
      · replace h := (if_pos c7).symm.trans h
        refine lv_iconst (v := 0) hx hb dX2_isDone_149 (by decide) ?_
        obtain rfl := some_e h
        exact rtZ C hr nz0 hw dX2_isDone_150
  replace h := (if_neg c2).symm.trans h
  by_cases c10 : a_1 = 103
  · replace h := (if_pos c10).symm.trans h
    refine lv_lookup (tgt := 119) hx hb dX2_isDone_8 (by decide) (by rw [c10]; try rfl) (by decide) ?_
    refine lv_aload_n hx hb dX2_isDone_119 rfl (lv_at hl 1 rfl) ?_
    refine tGet (T := TX2) (N := 13) (ci := 2) C hw inX2 0 0 rfl (by decide) kf_RX2_9 rfl rfl rfl dX2_isDone_120 ?_
    refine lv_iconst (v := 3) hx hb dX2_isDone_123 (by decide) ?_
    refine lv_iload_n hx hb dX2_isDone_124 rfl (lv_at hl 0 rfl) ?_
    obtain ⟨iw11, h⟩ := ck_some h
    obtain ⟨w11, ew11⟩ : ∃ y : VS, y = up Y 0 (upd (Y 0) (3 : Int32).toNatClampNeg r1) := ⟨_, rfl⟩
    replace h := bn_some h ew11
    refine tSt (ws2 := (wM cA ad w11)) C hw 1 rfl iw11 (by rw [ew11]; rfl) dX2_isDone_125 (fun H locs hw => ?_)
    refine lv_iconst (v := 1) hx hb dX2_isDone_126 (by decide) ?_
    obtain rfl := some_e h
    exact rtZ C hr nz1 hw dX2_isDone_127
  replace h := (if_neg c10).symm.trans h
  by_cases c12 : a_1 = 112
  · replace h := (if_pos c12).symm.trans h
    refine lv_lookup (tgt := 73) hx hb dX2_isDone_8 (by decide) (by rw [c12]; try rfl) (by decide) ?_
    refine lv_aload_n hx hb dX2_isDone_73 rfl (lv_at hl 1 rfl) ?_
    obtain ⟨q13, hq13, h⟩ := cl_some h
    refine cVi (ws2 := (wM cA ad q13.2)) (As := []) (rest := []) C hw jnW (kX2_addsReader ad hq13) kl_RX2_121 ki_yX2_addsReader ks_yX2_addsReader kn_RX2 kc_yX2_addsReader ⟨rfl, rfl⟩ hdX2_addsReader ⟨Nat.le_of_ble_eq_true rfl, Nat.le_of_ble_eq_true rfl⟩ (ci := 2) (q0 := 0) rfl rfl rfl rfl hl.1 (Nat.le_of_ble_eq_true rfl) dX2_isDone_74 ⟨Nat.zero_le _, Nat.zero_le _⟩ (fun H locs hw => ?_)
    obtain ⟨hz, h⟩ := bz_some h
    obtain rfl := some_e h
    exact rtZ C hr hz hw dX2_isDone_77
  replace h := (if_neg c12).symm.trans h
  by_cases c14 : a_1 = 114
  · replace h := (if_pos c14).symm.trans h
    refine lv_lookup (tgt := 68) hx hb dX2_isDone_8 (by decide) (by rw [c14]; try rfl) (by decide) ?_
    refine lv_aload_n hx hb dX2_isDone_68 rfl (lv_at hl 1 rfl) ?_
    obtain ⟨q15, hq15, h⟩ := cl_some h
    refine cVi (ws2 := (wM cA ad q15.2)) (As := []) (rest := []) C hw jnW (kX2_addsRocket ad hq15) kl_RX2_118 ki_yX2_addsRocket ks_yX2_addsRocket kn_RX2 kc_yX2_addsRocket ⟨rfl, rfl⟩ hdX2_addsRocket ⟨Nat.le_of_ble_eq_true rfl, Nat.le_of_ble_eq_true rfl⟩ (ci := 2) (q0 := 0) rfl rfl rfl rfl hl.1 (Nat.le_of_ble_eq_true rfl) dX2_isDone_69 ⟨Nat.zero_le _, Nat.zero_le _⟩ (fun H locs hw => ?_)
    obtain ⟨hz, h⟩ := bz_some h
    obtain rfl := some_e h
    exact rtZ C hr hz hw dX2_isDone_72
  replace h := (if_neg c14).symm.trans h
  by_cases c16 : a_1 = 115
  · replace h := (if_pos c16).symm.trans h
    refine lv_lookup (tgt := 78) hx hb dX2_isDone_8 (by decide) (by rw [c16]; try rfl) (by decide) ?_
    refine lv_aload_n hx hb dX2_isDone_78 rfl (lv_at hl 1 rfl) ?_
    refine lv_iload_n hx hb dX2_isDone_79 rfl (lv_at hl 0 rfl) ?_
    obtain ⟨r17, hr17, h⟩ := cl_some h
    refine cVi (ws2 := (wM cA ad Y)) (As := [.int r1]) (rest := []) C hw jnW (kX2_isRocket ad hr17) kl_RX2_124 ki_yX2_isRocket ks_yX2_isRocket kn_RX2 kc_yX2_isRocket ⟨rfl, rfl⟩ hdX2_isRocket ⟨Nat.le_of_ble_eq_true rfl, Nat.le_of_ble_eq_true rfl⟩ (ci := 2) (q0 := 0) rfl rfl rfl rfl hl.1 (Nat.le_of_ble_eq_true rfl) dX2_isDone_80 ⟨Nat.zero_le _, Nat.zero_le _⟩ (fun H locs hw => ?_)
    refine lv_if_eq (tgt := 97) hx hb dX2_isDone_83 (by decide) (fun c18 => ?_) (fun c18 => ?_)
    · replace h := (if_pos c18).symm.trans h
      refine lv_iconst (v := 0) hx hb dX2_isDone_97 (by decide) ?_
      obtain rfl := some_e h
      exact rtZ C hr nz0 hw dX2_isDone_98
    · replace h := (if_neg c18).symm.trans h
      refine lv_aload_n hx hb dX2_isDone_86 rfl (lv_at hl 1 rfl) ?_
      refine tGet (T := TX2) (N := 13) (ci := 2) C hw inX2 0 0 rfl (by decide) kf_RX2_9 rfl rfl rfl dX2_isDone_87 ?_
      refine lv_iload_n hx hb dX2_isDone_90 rfl (lv_at hl 0 rfl) ?_
      obtain ⟨r19, hr19, h⟩ := cl_some h
      refine cSi (ws2 := (wM cA ad Y)) (As := [.ref (ad 1), .int r1]) (rest := []) C hw jM0r (kX2_canGo (ad 1) hr19) kl_RX2_76 kt_yX2_canGo kn_RX2 kc_yX2_canGo ⟨rfl, rfl⟩ hdX2_canGo ⟨Nat.le_of_ble_eq_true rfl, Nat.le_of_ble_eq_true rfl⟩ rfl hl.1 (Nat.le_of_ble_eq_true rfl) dX2_isDone_91 ⟨Nat.zero_le _, Nat.zero_le _⟩ (fun H locs hw => ?_)
      refine lv_if_ne (tgt := 99) hx hb dX2_isDone_94 (by decide) (fun c20 => ?_) (fun c20 => ?_)
      · replace h := (if_neg c20).symm.trans h
        refine lv_aload_n hx hb dX2_isDone_99 rfl (lv_at hl 1 rfl) ?_
        refine tGet (T := TX2) (N := 13) (ci := 2) C hw inX2 0 0 rfl (by decide) kf_RX2_9 rfl rfl rfl dX2_isDone_100 ?_
        refine lv_iload_n hx hb dX2_isDone_103 rfl (lv_at hl 0 rfl) ?_
        refine lv_iconst (v := (-1)) hx hb dX2_isDone_104 (by decide) ?_
        obtain ⟨w21, hw21, h⟩ := cl_some h
        obtain ⟨w22, ew22⟩ : ∃ y : VS, y = up Y 0 w21 := ⟨_, rfl⟩
        replace h := bn_some h ew22
        refine cSv (ws2 := (wM cA ad w22)) (As := [.ref (ad 1), .int r1, .int (-1)]) (rest := []) C hw (by rw [ew22]; exact jM0) (kX2_sendsIn (ad 1) hw21) kl_RX2_84 kt_yX2_sendsIn kn_RX2 kc_yX2_sendsIn ⟨rfl, rfl⟩ hdX2_sendsIn ⟨Nat.le_of_ble_eq_true rfl, Nat.le_of_ble_eq_true rfl⟩ rfl hl.1 (Nat.le_of_ble_eq_true rfl) dX2_isDone_105 ⟨Nat.zero_le _, Nat.zero_le _⟩ (fun H locs hw => ?_)
        refine lv_iconst (v := 1) hx hb dX2_isDone_108 (by decide) ?_
        obtain rfl := some_e h
        exact rtZ C hr nz1 hw dX2_isDone_109
      · replace h := (if_pos c20).symm.trans h
        refine lv_iconst (v := 0) hx hb dX2_isDone_97 (by decide) ?_
        obtain rfl := some_e h
        exact rtZ C hr nz0 hw dX2_isDone_98
  replace h := (if_neg c16).symm.trans h
  by_cases c23 : a_1 = 119
  · replace h := (if_pos c23).symm.trans h
    refine lv_lookup (tgt := 110) hx hb dX2_isDone_8 (by decide) (by rw [c23]; try rfl) (by decide) ?_
    refine lv_aload_n hx hb dX2_isDone_110 rfl (lv_at hl 1 rfl) ?_
    refine tGet (T := TX2) (N := 13) (ci := 2) C hw inX2 0 0 rfl (by decide) kf_RX2_9 rfl rfl rfl dX2_isDone_111 ?_
    refine lv_iconst (v := 4) hx hb dX2_isDone_114 (by decide) ?_
    refine lv_iload_n hx hb dX2_isDone_115 rfl (lv_at hl 0 rfl) ?_
    obtain ⟨iw24, h⟩ := ck_some h
    obtain ⟨w24, ew24⟩ : ∃ y : VS, y = up Y 0 (upd (Y 0) (4 : Int32).toNatClampNeg r1) := ⟨_, rfl⟩
    replace h := bn_some h ew24
    refine tSt (ws2 := (wM cA ad w24)) C hw 1 rfl iw24 (by rw [ew24]; rfl) dX2_isDone_116 (fun H locs hw => ?_)
    refine lv_iconst (v := 1) hx hb dX2_isDone_117 (by decide) ?_
    obtain rfl := some_e h
    exact rtZ C hr nz1 hw dX2_isDone_118
  replace h := (if_neg c23).symm.trans h
  refine lv_lookup (tgt := 164) hx hb dX2_isDone_8 (by decide) (lk_out [(98, 120), (103, 111), (112, 65), (114, 60), (115, 70), (119, 102)] (fun k hk => by
    simp only [List.map_cons, List.map_nil, List.mem_cons, List.not_mem_nil, or_false] at hk
    rcases hk with rfl | rfl | rfl | rfl | rfl | rfl
    · exact sw_ne c2 (by decide)
    · exact sw_ne c10 (by decide)
    · exact sw_ne c12 (by decide)
    · exact sw_ne c14 (by decide)
    · exact sw_ne c16 (by decide)
    · exact sw_ne c23 (by decide))) (by decide) ?_
  refine lv_iload_n hx hb dX2_isDone_164 rfl (lv_at hl 0 rfl) ?_
  refine lv_iconst (v := 1) hx hb dX2_isDone_165 (by decide) ?_
  refine lv_bipush (v := 60) hx hb dX2_isDone_166 (by decide) ?_
  obtain ⟨r25, hr25, h⟩ := cl_some h
  refine cSi (ws2 := (wM cA ad Y)) (As := [.int r1, .int 1, .int 60]) (rest := []) C hw jnE (kX2_isIn hr25) kl_RX2_40 kt_yX2_isIn kn_RX2 kc_yX2_isIn ⟨rfl, rfl⟩ hdX2_isIn ⟨Nat.le_of_ble_eq_true rfl, Nat.le_of_ble_eq_true rfl⟩ rfl hl.1 (Nat.le_of_ble_eq_true rfl) dX2_isDone_168 ⟨Nat.zero_le _, Nat.zero_le _⟩ (fun H locs hw => ?_)
  refine lv_if_eq (tgt := 188) hx hb dX2_isDone_171 (by decide) (fun c26 => ?_) (fun c26 => ?_)
  · replace h := (if_pos c26).symm.trans h
    refine lv_iconst (v := 0) hx hb dX2_isDone_188 (by decide) ?_
    obtain rfl := some_e h
    exact rtZ C hr nz0 hw dX2_isDone_189
  · replace h := (if_neg c26).symm.trans h
    refine lv_aload_n hx hb dX2_isDone_174 rfl (lv_at hl 1 rfl) ?_
    refine tGet (T := TX2) (N := 13) (ci := 2) C hw inX2 0 0 rfl (by decide) kf_RX2_9 rfl rfl rfl dX2_isDone_175 ?_
    refine lv_iconst (v := 2) hx hb dX2_isDone_178 (by decide) ?_
    obtain ⟨r27, ir27, er27, h⟩ := rd_some h
    refine tLd C hw 1 rfl ir27 er27 dX2_isDone_179 ?_
    refine lv_iload_n hx hb dX2_isDone_180 rfl (lv_at hl 0 rfl) ?_
    refine lv_iadd hx hb dX2_isDone_181 ?_
    refine lv_sipush (v := 999) hx hb dX2_isDone_182 (by decide) ?_
    refine lv_icmp_le (tgt := 190) hx hb dX2_isDone_185 (by decide) (fun c28 => ?_) (fun c28 => ?_)
    · replace h := (if_pos c28).symm.trans h
      refine lv_aload_n hx hb dX2_isDone_190 rfl (lv_at hl 1 rfl) ?_
      refine tGet (T := TX2) (N := 13) (ci := 2) C hw inX2 0 0 rfl (by decide) kf_RX2_9 rfl rfl rfl dX2_isDone_191 ?_
      refine lv_iload_n hx hb dX2_isDone_194 rfl (lv_at hl 0 rfl) ?_
      refine lv_iconst (v := (-1)) hx hb dX2_isDone_195 (by decide) ?_
      obtain ⟨w29, hw29, h⟩ := cl_some h
      obtain ⟨w30, ew30⟩ : ∃ y : VS, y = up Y 0 w29 := ⟨_, rfl⟩
      replace h := bn_some h ew30
      refine cSv (ws2 := (wM cA ad w30)) (As := [.ref (ad 1), .int r1, .int (-1)]) (rest := []) C hw (by rw [ew30]; exact jM0) (kX2_nightsOn (ad 1) hw29) kl_RX2_128 kt_yX2_nightsOn kn_RX2 kc_yX2_nightsOn ⟨rfl, rfl⟩ hdX2_nightsOn ⟨Nat.le_of_ble_eq_true rfl, Nat.le_of_ble_eq_true rfl⟩ rfl hl.1 (Nat.le_of_ble_eq_true rfl) dX2_isDone_196 ⟨Nat.zero_le _, Nat.zero_le _⟩ (fun H locs hw => ?_)
      refine lv_iconst (v := 1) hx hb dX2_isDone_199 (by decide) ?_
      obtain rfl := some_e h
      exact rtZ C hr nz1 hw dX2_isDone_200
    · replace h := (if_neg c28).symm.trans h
      refine lv_iconst (v := 0) hx hb dX2_isDone_188 (by decide) ?_
      obtain rfl := some_e h
      exact rtZ C hr nz0 hw dX2_isDone_189
end
