section
variable {p : Program} {l : Launch} {e : Env} {s : State} {m : MethodId} {args : Array Value} {below : List Frame} {meth : Method} {c : Code} {D : va_G} {cA : ClassId} {g : Nat → Nat} {A : Nat → Prop} {ad ad2 : Nat → Nat} {a0 a1 : Nat}
abbrev rmJ0_isLatin1_aae02 : Room := { frames := 0, cells := 0, slots := 0, locals := 0 }
theorem hdJ0_isLatin1_aae02 : yJ0_isLatin1_aae02.cls = RJ0 ∧ yJ0_isLatin1_aae02.cls ≠ "java/lang/invoke/MethodHandle" ∧ yJ0_isLatin1_aae02.cls ≠ "java/lang/invoke/VarHandle" ∧ (parseMethodDescriptor yJ0_isLatin1_aae02.desc).map (fun d => d.parameters.length) = some 0 := by decide +kernel
def fJ0_isLatin1_aae02 : Option Int32 := if (1 : Int32) = 0 then some 0 else if (0 : Int32) = 0 then some 1 else some 0
set_option maxHeartbeats 4000000 in
set_option maxRecDepth 100000 in
theorem kJ0_isLatin1_aae02  {z : Int32} (h : fJ0_isLatin1_aae02 = some z) : MI l D cA g yJ0_isLatin1_aae02 (Cond.code yJ0_isLatin1_aae02 cJ0_isLatin1_aae02 1 (some .boolean) :: lw_g) rmJ0_isLatin1_aae02 [.ref (g 1)] ([] : va_W) z ([] : va_W) := by
  intro sz
  refine Met.ofW (cc := cJ0_isLatin1_aae02) (maxL := 1) (ret := (some .boolean)) (by decide) rfl ?_
  intro p e s m args below meth c s₁ B hml hv
  obtain ⟨rfl, C, hr, hw⟩ := ent B hml hv
  generalize va_A ([] : va_W) sz = A at C hw ⊢
  have hl := lv_entry ([.ref (g 1)]) (n := 1) (Nat.le_of_ble_eq_true rfl)
  rw [lg_entry_eq]
  generalize (lg_sl ([.ref (g 1)]) ++ List.replicate (1 - (lg_sl ([.ref (g 1)])).length) Slot.unset).toArray = ls at hl ⊢
  have hl : lv_has ls 1 [(0, .ref (g 1))] := hl
  have hx := C.1.1
  have hb := C.1.2.1
  have h : (if (1 : Int32) = 0 then some 0 else if (0 : Int32) = 0 then some 1 else some 0) = some z := h
  refine va_gets hx hb C.2.2.2.2.2.2.1 hw.2.2 C.1.2.2.2.1 (C.1.2.2.2.2 _ kf_RJ0_38) (fun _ h9 => h9) dJ0_isLatin1_aae02_0 ?_
  refine lv_if_eq (tgt := 17) hx hb dJ0_isLatin1_aae02_3 (by decide) (fun c1 => ?_) (fun c1 => ?_)
  · replace h := (if_pos c1).symm.trans h
    refine lv_iconst (v := 0) hx hb dJ0_isLatin1_aae02_17 (by decide) ?_
    obtain rfl := some_e h
    exact rtZ C hr nz0 hw dJ0_isLatin1_aae02_18
  · replace h := (if_neg c1).symm.trans h
    refine lv_aload_n hx hb dJ0_isLatin1_aae02_6 rfl (lv_at hl 0 rfl) ?_
    refine vk_getf hx hb C.2.2.2.2.str.1 hw.2.2 C.1.2.2.2.1 (C.1.2.2.2.2 _ kf_RJ0_15) (fun _ h9 => h9) dJ0_isLatin1_aae02_7 ?_
    refine lv_if_ne (tgt := 17) hx hb dJ0_isLatin1_aae02_10 (by decide) (fun c2 => ?_) (fun c2 => ?_)
    · replace h := (if_neg c2).symm.trans h
      refine lv_iconst (v := 0) hx hb dJ0_isLatin1_aae02_17 (by decide) ?_
      obtain rfl := some_e h
      exact rtZ C hr nz0 hw dJ0_isLatin1_aae02_18
    · replace h := (if_pos c2).symm.trans h
      refine lv_iconst (v := 1) hx hb dJ0_isLatin1_aae02_13 (by decide) ?_
      refine lv_goto (tgt := 18) hx hb dJ0_isLatin1_aae02_14 (by decide) ?_
      obtain rfl := some_e h
      exact rtZ C hr nz1 hw dJ0_isLatin1_aae02_18
abbrev rmJ0_coder_7d493 : Room := { frames := 0, cells := 0, slots := 0, locals := 0 }
theorem hdJ0_coder_7d493 : yJ0_coder_7d493.cls = RJ0 ∧ yJ0_coder_7d493.cls ≠ "java/lang/invoke/MethodHandle" ∧ yJ0_coder_7d493.cls ≠ "java/lang/invoke/VarHandle" ∧ (parseMethodDescriptor yJ0_coder_7d493.desc).map (fun d => d.parameters.length) = some 0 := by decide +kernel
def fJ0_coder_7d493 : Option Int32 := if (1 : Int32) = 0 then some 1 else some 0
set_option maxHeartbeats 4000000 in
set_option maxRecDepth 100000 in
theorem kJ0_coder_7d493  {z : Int32} (h : fJ0_coder_7d493 = some z) : MI l D cA g yJ0_coder_7d493 (Cond.code yJ0_coder_7d493 cJ0_coder_7d493 1 (some .byte) :: lw_g) rmJ0_coder_7d493 [.ref (g 1)] ([] : va_W) z ([] : va_W) := by
  intro sz
  refine Met.ofW (cc := cJ0_coder_7d493) (maxL := 1) (ret := (some .byte)) (by decide) rfl ?_
  intro p e s m args below meth c s₁ B hml hv
  obtain ⟨rfl, C, hr, hw⟩ := ent B hml hv
  generalize va_A ([] : va_W) sz = A at C hw ⊢
  have hl := lv_entry ([.ref (g 1)]) (n := 1) (Nat.le_of_ble_eq_true rfl)
  rw [lg_entry_eq]
  generalize (lg_sl ([.ref (g 1)]) ++ List.replicate (1 - (lg_sl ([.ref (g 1)])).length) Slot.unset).toArray = ls at hl ⊢
  have hl : lv_has ls 1 [(0, .ref (g 1))] := hl
  have hx := C.1.1
  have hb := C.1.2.1
  have h : (if (1 : Int32) = 0 then some 1 else some 0) = some z := h
  refine va_gets hx hb C.2.2.2.2.2.2.1 hw.2.2 C.1.2.2.2.1 (C.1.2.2.2.2 _ kf_RJ0_38) (fun _ h9 => h9) dJ0_coder_7d493_0 ?_
  refine lv_if_eq (tgt := 13) hx hb dJ0_coder_7d493_3 (by decide) (fun c1 => ?_) (fun c1 => ?_)
  · replace h := (if_pos c1).symm.trans h
    refine lv_iconst (v := 1) hx hb dJ0_coder_7d493_13 (by decide) ?_
    obtain rfl := some_e h
    exact rtZ C hr nb1 hw dJ0_coder_7d493_14
  · replace h := (if_neg c1).symm.trans h
    refine lv_aload_n hx hb dJ0_coder_7d493_6 rfl (lv_at hl 0 rfl) ?_
    refine vk_getf hx hb C.2.2.2.2.str.1 hw.2.2 C.1.2.2.2.1 (C.1.2.2.2.2 _ kf_RJ0_15) (fun _ h9 => h9) dJ0_coder_7d493_7 ?_
    refine lv_goto (tgt := 14) hx hb dJ0_coder_7d493_10 (by decide) ?_
    obtain rfl := some_e h
    exact rtZ C hr nb0 hw dJ0_coder_7d493_14
abbrev rmJ0_length_8abf5 : Room := { frames := 1, cells := 0, slots := 0, locals := 20 }
theorem hdJ0_length_8abf5 : yJ0_length_8abf5.cls = RJ0 ∧ yJ0_length_8abf5.cls ≠ "java/lang/invoke/MethodHandle" ∧ yJ0_length_8abf5.cls ≠ "java/lang/invoke/VarHandle" ∧ (parseMethodDescriptor yJ0_length_8abf5.desc).map (fun d => d.parameters.length) = some 0 := by decide +kernel
def fJ0_length_8abf5 : Option Int32 := cl (fJ0_coder_7d493) (fun r1 => some ((6 : Int32) >>> (r1 &&& 31)))
set_option maxHeartbeats 4000000 in
set_option maxRecDepth 100000 in
theorem kJ0_length_8abf5  {z : Int32} (h : fJ0_length_8abf5 = some z) : MI l D cA g yJ0_length_8abf5 (Cond.code yJ0_length_8abf5 cJ0_length_8abf5 1 (some .int) :: lw_g) rmJ0_length_8abf5 [.ref (g 1)] ([] : va_W) z ([] : va_W) := by
  intro sz
  refine Met.ofW (cc := cJ0_length_8abf5) (maxL := 1) (ret := (some .int)) (by decide) rfl ?_
  intro p e s m args below meth c s₁ B hml hv
  obtain ⟨rfl, C, hr, hw⟩ := ent B hml hv
  generalize va_A ([] : va_W) sz = A at C hw ⊢
  have hl := lv_entry ([.ref (g 1)]) (n := 1) (Nat.le_of_ble_eq_true rfl)
  rw [lg_entry_eq]
  generalize (lg_sl ([.ref (g 1)]) ++ List.replicate (1 - (lg_sl ([.ref (g 1)])).length) Slot.unset).toArray = ls at hl ⊢
  have hl : lv_has ls 1 [(0, .ref (g 1))] := hl
  have hx := C.1.1
  have hb := C.1.2.1
  have h : (cl (fJ0_coder_7d493) (fun r1 => some ((6 : Int32) >>> (r1 &&& 31)))) = some z := h
  refine lv_aload_n hx hb dJ0_length_8abf5_0 rfl (lv_at hl 0 rfl) ?_
  refine vk_getf hx hb C.2.2.2.2.str.2.1 hw.2.2 C.1.2.2.2.1 (C.1.2.2.2.2 _ kf_RJ0_9) (fun _ h9 => h9) dJ0_length_8abf5_1 ?_
  refine va_tlen (v := 6) hx hb C.2.2.2.2.str.2.2 hw.2.2 (by decide) dJ0_length_8abf5_4 ?_
  refine lv_aload_n hx hb dJ0_length_8abf5_5 rfl (lv_at hl 0 rfl) ?_
  obtain ⟨r1, hr1, h⟩ := cl_some h
  refine cTi (As := []) (rest := [.int 6]) C hw (kJ0_coder_7d493 hr1) kl_RJ0_335 ki_yJ0_coder_7d493 ks_yJ0_coder_7d493 kn_RJ0 kc_yJ0_coder_7d493 ⟨rfl, rfl⟩ hdJ0_coder_7d493 ⟨Nat.le_of_ble_eq_true rfl, Nat.le_of_ble_eq_true rfl⟩ rfl hl.1 (Nat.le_of_ble_eq_true rfl) dJ0_length_8abf5_6 ⟨Nat.zero_le _, Nat.zero_le _⟩ (fun H locs hw => ?_)
  refine lv_ishr hx hb dJ0_length_8abf5_9 ?_
  obtain rfl := some_e h
  exact rtI C hr hw dJ0_length_8abf5_10
abbrev rmJ1_canEncode_9a6ad : Room := { frames := 0, cells := 0, slots := 0, locals := 0 }
theorem hdJ1_canEncode_9a6ad : yJ1_canEncode_9a6ad.cls ≠ "java/lang/invoke/MethodHandle" ∧ yJ1_canEncode_9a6ad.cls ≠ "java/lang/invoke/VarHandle" ∧ (parseMethodDescriptor yJ1_canEncode_9a6ad.desc).map (fun d => d.parameters.length) = some 1 := by decide +kernel
def fJ1_canEncode_9a6ad (a_0 : Int32) : Option Int32 := if a_0 < 0 then some 0 else if 255 < a_0 then some 0 else some 1
set_option maxHeartbeats 4000000 in
set_option maxRecDepth 100000 in
theorem kJ1_canEncode_9a6ad  {a_0 : Int32} {z : Int32} (h : fJ1_canEncode_9a6ad a_0 = some z) : MI l D cA g yJ1_canEncode_9a6ad (Cond.code yJ1_canEncode_9a6ad cJ1_canEncode_9a6ad 1 (some .boolean) :: lw_g) rmJ1_canEncode_9a6ad [.int a_0] ([] : va_W) z ([] : va_W) := by
  intro sz
  refine Met.ofW (cc := cJ1_canEncode_9a6ad) (maxL := 1) (ret := (some .boolean)) (by decide) rfl ?_
  intro p e s m args below meth c s₁ B hml hv
  obtain ⟨rfl, C, hr, hw⟩ := ent B hml hv
  generalize va_A ([] : va_W) sz = A at C hw ⊢
  have hl := lv_entry ([.int a_0]) (n := 1) (Nat.le_of_ble_eq_true rfl)
  rw [lg_entry_eq]
  generalize (lg_sl ([.int a_0]) ++ List.replicate (1 - (lg_sl ([.int a_0])).length) Slot.unset).toArray = ls at hl ⊢
  have hl : lv_has ls 1 [(0, .int a_0)] := hl
  have hx := C.1.1
  have hb := C.1.2.1
  have h : (if a_0 < 0 then some 0 else if 255 < a_0 then some 0 else some 1) = some z := h
  refine lv_iload_n hx hb dJ1_canEncode_9a6ad_0 rfl (lv_at hl 0 rfl) ?_
  refine lv_if_lt (tgt := 15) hx hb dJ1_canEncode_9a6ad_1 (by decide) (fun c1 => ?_) (fun c1 => ?_)
  · replace h := (if_pos c1).symm.trans h
    refine lv_iconst (v := 0) hx hb dJ1_canEncode_9a6ad_15 (by decide) ?_
    obtain rfl := some_e h
    exact rtZ C hr nz0 hw dJ1_canEncode_9a6ad_16
  · replace h := (if_neg c1).symm.trans h
    refine lv_iload_n hx hb dJ1_canEncode_9a6ad_4 rfl (lv_at hl 0 rfl) ?_
    refine lv_sipush (v := 255) hx hb dJ1_canEncode_9a6ad_5 (by decide) ?_
    refine lv_icmp_gt (tgt := 15) hx hb dJ1_canEncode_9a6ad_8 (by decide) (fun c2 => ?_) (fun c2 => ?_)
    · replace h := (if_pos c2).symm.trans h
      refine lv_iconst (v := 0) hx hb dJ1_canEncode_9a6ad_15 (by decide) ?_
      obtain rfl := some_e h
      exact rtZ C hr nz0 hw dJ1_canEncode_9a6ad_16
    · replace h := (if_neg c2).symm.trans h
      refine lv_iconst (v := 1) hx hb dJ1_canEncode_9a6ad_11 (by decide) ?_
      refine lv_goto (tgt := 16) hx hb dJ1_canEncode_9a6ad_12 (by decide) ?_
      obtain rfl := some_e h
      exact rtZ C hr nz1 hw dJ1_canEncode_9a6ad_16
abbrev rmJ1_indexOfChar_4cfef : Room := { frames := 0, cells := 0, slots := 0, locals := 0 }
theorem hdJ1_indexOfChar_4cfef : yJ1_indexOfChar_4cfef.cls ≠ "java/lang/invoke/MethodHandle" ∧ yJ1_indexOfChar_4cfef.cls ≠ "java/lang/invoke/VarHandle" ∧ (parseMethodDescriptor yJ1_indexOfChar_4cfef.desc).map (fun d => d.parameters.length) = some 4 := by decide +kernel
def GJ1_indexOfChar_4cfef_7 (p : Program) (l : Launch) (e : Env) (s : State) (m : MethodId) (args : Array Value) (below : List Frame) (meth : Method) (c : Code) (D : va_G) (cA : ClassId) (A : Nat → Prop) (g : Nat → Nat) (z : Int32) (x : (Int32) × (Int32) × (Int32)) : Prop := ∀ (H : Heap) (locs : List Loc) (ls : Array Slot), Wd D A s.heap ([] : va_W) H locs → lv_has ls 6 [(0, .ref (g 2)), (3, .int x.1), (4, .int x.2.1), (5, .int x.2.2)] → W p l e rmJ1_indexOfChar_4cfef s m args below meth c H locs 0 0 (MQ below (QI D cA A z ([] : va_W)) args s 0 0 A) (F0 m 7 ls [])
def fJ1_indexOfChar_4cfef_7 (k7 : ((Int32) × (Int32) × (Int32)) → Option Int32) : ((Int32) × (Int32) × (Int32)) → Option Int32 := fun x => match x with | (x_3, x_4, x_5) => if x_3 ≤ x_5 then some (-1) else rd 6 kbf x_5 (fun r2 => if r2 = x_4 then some x_5 else bn (x_5 + 1) (fun x4 => k7 (x_3, x_4, x4)))
def fJ1_indexOfChar_4cfef (a_1 : Int32) (a_2 : Int32) (a_3 : Int32) : Option Int32 := bn ((a_1 : Int32).toInt8.toInt32) (fun x1 => lp (fJ1_indexOfChar_4cfef_7) 5000 (a_3, x1, a_2))
set_option maxHeartbeats 4000000 in
set_option maxRecDepth 100000 in
theorem kJ1_indexOfChar_4cfef_7 (C : Cx p s m args meth c cJ1_indexOfChar_4cfef 6 RJ1 D cA g A) (hr : meth.sig.returnType = (some .int)) {z : Int32} (k7 : ((Int32) × (Int32) × (Int32)) → Option Int32) (hk7 : ∀ x, k7 x = some z → GJ1_indexOfChar_4cfef_7 p l e s m args below meth c D cA A g z x) (x : (Int32) × (Int32) × (Int32)) (h : fJ1_indexOfChar_4cfef_7 k7 x = some z) : GJ1_indexOfChar_4cfef_7 p l e s m args below meth c D cA A g z x := by
  obtain ⟨x_3, x_4, x_5⟩ := x
  intro H locs ls hw hl
  have hw : Wd D A s.heap ([] : va_W) H locs := hw
  have hl : lv_has ls 6 [(0, .ref (g 2)), (3, .int x_3), (4, .int x_4), (5, .int x_5)] := hl
  have hx := C.1.1
  have hb := C.1.2.1
  have h : (if x_3 ≤ x_5 then some (-1) else rd 6 kbf x_5 (fun r2 => if r2 = x_4 then some x_5 else bn (x_5 + 1) (fun x4 => k7 (x_3, x_4, x4)))) = some z := h
  refine lv_iload hx hb dJ1_indexOfChar_4cfef_7 (lv_at hl 3 rfl) ?_
  refine lv_iload_n hx hb dJ1_indexOfChar_4cfef_9 rfl (lv_at hl 1 rfl) ?_
  refine lv_icmp_ge (tgt := 31) hx hb dJ1_indexOfChar_4cfef_10 (by decide) (fun c1 => ?_) (fun c1 => ?_)
  · replace h := (if_pos c1).symm.trans h
    refine lv_iconst (v := (-1)) hx hb dJ1_indexOfChar_4cfef_31 (by decide) ?_
    obtain rfl := some_e h
    exact rtI C hr hw dJ1_indexOfChar_4cfef_32
  · replace h := (if_neg c1).symm.trans h
    refine lv_aload_n hx hb dJ1_indexOfChar_4cfef_13 rfl (lv_at hl 0 rfl) ?_
    refine lv_iload hx hb dJ1_indexOfChar_4cfef_14 (lv_at hl 3 rfl) ?_
    obtain ⟨r2, ir2, er2, h⟩ := rd_some h
    refine va_tb hx hb C.2.2.2.2.str.2.2 hw.2.2 ir2 (v := .int r2) (by rw [er2]) dJ1_indexOfChar_4cfef_16 ?_
    refine lv_iload hx hb dJ1_indexOfChar_4cfef_17 (lv_at hl 2 rfl) ?_
    refine lv_icmp_ne (tgt := 25) hx hb dJ1_indexOfChar_4cfef_19 (by decide) (fun c3 => ?_) (fun c3 => ?_)
    · replace h := (if_neg c3).symm.trans h
      obtain ⟨x4, ex4⟩ : ∃ y : Int32, y = x_5 + 1 := ⟨_, rfl⟩
      replace h := bn_some h ex4
      refine lv_iinc (v := x4) (lv' := [(5, .int x4), (0, .ref (g 2)), (3, .int x_3), (4, .int x_4)]) hx hb dJ1_indexOfChar_4cfef_25 hl (k := 3) rfl (by rw [ex4]; rfl) (by decide) rfl (fun ls hl => ?_)
      refine lv_goto (tgt := 7) hx hb dJ1_indexOfChar_4cfef_28 (by decide) ?_
      exact hk7 (x_3, x_4, x4) h _ _ _ hw (lv_sub hl [1, 2, 3, 0] rfl)
    · replace h := (if_pos c3).symm.trans h
      refine lv_iload hx hb dJ1_indexOfChar_4cfef_22 (lv_at hl 3 rfl) ?_
      obtain rfl := some_e h
      exact rtI C hr hw dJ1_indexOfChar_4cfef_24
theorem lJ1_indexOfChar_4cfef_7 (C : Cx p s m args meth c cJ1_indexOfChar_4cfef 6 RJ1 D cA g A) (hr : meth.sig.returnType = (some .int)) {z : Int32} (n : Nat) (x : (Int32) × (Int32) × (Int32)) (h : lp (fJ1_indexOfChar_4cfef_7) n x = some z) : GJ1_indexOfChar_4cfef_7 p l e s m args below meth c D cA A g z x := lp_ok (GJ1_indexOfChar_4cfef_7 p l e s m args below meth c D cA A g z) (fun kq hkq x h => kJ1_indexOfChar_4cfef_7 C hr kq hkq x h) n x h
set_option maxHeartbeats 4000000 in
set_option maxRecDepth 100000 in
theorem kJ1_indexOfChar_4cfef  {a_1 : Int32} {a_2 : Int32} {a_3 : Int32} {z : Int32} (h : fJ1_indexOfChar_4cfef a_1 a_2 a_3 = some z) : MI l D cA g yJ1_indexOfChar_4cfef (Cond.code yJ1_indexOfChar_4cfef cJ1_indexOfChar_4cfef 6 (some .int) :: lw_g) rmJ1_indexOfChar_4cfef [.ref (g 2), .int a_1, .int a_2, .int a_3] ([] : va_W) z ([] : va_W) := by
  intro sz
  refine Met.ofW (cc := cJ1_indexOfChar_4cfef) (maxL := 6) (ret := (some .int)) (by decide) rfl ?_
  intro p e s m args below meth c s₁ B hml hv
  obtain ⟨rfl, C, hr, hw⟩ := ent B hml hv
  generalize va_A ([] : va_W) sz = A at C hw ⊢
  have hl := lv_entry ([.ref (g 2), .int a_1, .int a_2, .int a_3]) (n := 6) (Nat.le_of_ble_eq_true rfl)
  rw [lg_entry_eq]
  generalize (lg_sl ([.ref (g 2), .int a_1, .int a_2, .int a_3]) ++ List.replicate (6 - (lg_sl ([.ref (g 2), .int a_1, .int a_2, .int a_3])).length) Slot.unset).toArray = ls at hl ⊢
  have hl : lv_has ls 6 [(0, .ref (g 2)), (1, .int a_1), (2, .int a_2), (3, .int a_3)] := hl
  have hx := C.1.1
  have hb := C.1.2.1
  have h : (bn ((a_1 : Int32).toInt8.toInt32) (fun x1 => lp (fJ1_indexOfChar_4cfef_7) 5000 (a_3, x1, a_2))) = some z := h
  refine lv_iload_n hx hb dJ1_indexOfChar_4cfef_0 rfl (lv_at hl 1 rfl) ?_
  refine lv_i2b (v := (a_1 : Int32).toInt8.toInt32) hx hb dJ1_indexOfChar_4cfef_1 rfl ?_
  refine lv_topi (fun x1 ex1 => ?_)
  replace h := bn_some h ex1
  refine lv_istore (lv' := [(4, .int x1), (0, .ref (g 2)), (1, .int a_1), (2, .int a_2), (3, .int a_3)]) hx hb dJ1_indexOfChar_4cfef_2 hl (by decide) rfl (fun ls hl => ?_)
  refine lv_iload_n hx hb dJ1_indexOfChar_4cfef_4 rfl (lv_at hl 3 rfl) ?_
  refine lv_istore (lv' := [(5, .int a_2), (4, .int x1), (0, .ref (g 2)), (1, .int a_1), (2, .int a_2), (3, .int a_3)]) hx hb dJ1_indexOfChar_4cfef_5 hl (by decide) rfl (fun ls hl => ?_)
  exact lJ1_indexOfChar_4cfef_7 C hr 5000 (a_3, x1, a_2) h _ _ _ hw (lv_sub hl [2, 5, 1, 0] rfl)
abbrev rmJ1_indexOf_4cfef : Room := { frames := 1, cells := 0, slots := 0, locals := 30 }
theorem hdJ1_indexOf_4cfef : yJ1_indexOf_4cfef.cls ≠ "java/lang/invoke/MethodHandle" ∧ yJ1_indexOf_4cfef.cls ≠ "java/lang/invoke/VarHandle" ∧ (parseMethodDescriptor yJ1_indexOf_4cfef.desc).map (fun d => d.parameters.length) = some 4 := by decide +kernel
def fJ1_indexOf_4cfef (a_1 : Int32) (a_2 : Int32) (a_3 : Int32) : Option Int32 := cl (fJ1_canEncode_9a6ad a_1) (fun r1 => if r1 = 0 then some (-1) else bn (if a_2 < 0 then 0 else a_2) (fun x3 => bn (if 6 < a_3 then 6 else a_3) (fun x4 => if x3 < x4 then cl (fJ1_indexOfChar_4cfef a_1 x3 x4) (fun r6 => some r6) else some (-1))))
set_option maxHeartbeats 4000000 in
set_option maxRecDepth 100000 in
theorem kJ1_indexOf_4cfef  {a_1 : Int32} {a_2 : Int32} {a_3 : Int32} {z : Int32} (h : fJ1_indexOf_4cfef a_1 a_2 a_3 = some z) : MI l D cA g yJ1_indexOf_4cfef (Cond.code yJ1_indexOf_4cfef cJ1_indexOf_4cfef 4 (some .int) :: lw_g) rmJ1_indexOf_4cfef [.ref (g 2), .int a_1, .int a_2, .int a_3] ([] : va_W) z ([] : va_W) := by
  intro sz
  refine Met.ofW (cc := cJ1_indexOf_4cfef) (maxL := 4) (ret := (some .int)) (by decide) rfl ?_
  intro p e s m args below meth c s₁ B hml hv
  obtain ⟨rfl, C, hr, hw⟩ := ent B hml hv
  generalize va_A ([] : va_W) sz = A at C hw ⊢
  have hl := lv_entry ([.ref (g 2), .int a_1, .int a_2, .int a_3]) (n := 4) (Nat.le_of_ble_eq_true rfl)
  rw [lg_entry_eq]
  generalize (lg_sl ([.ref (g 2), .int a_1, .int a_2, .int a_3]) ++ List.replicate (4 - (lg_sl ([.ref (g 2), .int a_1, .int a_2, .int a_3])).length) Slot.unset).toArray = ls at hl ⊢
  have hl : lv_has ls 4 [(0, .ref (g 2)), (1, .int a_1), (2, .int a_2), (3, .int a_3)] := hl
  have hx := C.1.1
  have hb := C.1.2.1
  have h : (cl (fJ1_canEncode_9a6ad a_1) (fun r1 => if r1 = 0 then some (-1) else bn (if a_2 < 0 then 0 else a_2) (fun x3 => bn (if 6 < a_3 then 6 else a_3) (fun x4 => if x3 < x4 then cl (fJ1_indexOfChar_4cfef a_1 x3 x4) (fun r6 => some r6) else some (-1))))) = some z := h
  refine lv_iload_n hx hb dJ1_indexOf_4cfef_0 rfl (lv_at hl 1 rfl) ?_
  obtain ⟨r1, hr1, h⟩ := cl_some h
  refine cSi (ws2 := ([] : va_W)) (As := [.int a_1]) (rest := []) C hw jnE (kJ1_canEncode_9a6ad hr1) kl_RJ1_88 kt_yJ1_canEncode_9a6ad kn_RJ1 kc_yJ1_canEncode_9a6ad ⟨rfl, rfl⟩ hdJ1_canEncode_9a6ad ⟨Nat.le_of_ble_eq_true rfl, Nat.le_of_ble_eq_true rfl⟩ rfl hl.1 (Nat.le_of_ble_eq_true rfl) dJ1_indexOf_4cfef_1 ⟨Nat.zero_le _, Nat.zero_le _⟩ (fun H locs hw => ?_)
  refine lv_if_ne (tgt := 9) hx hb dJ1_indexOf_4cfef_4 (by decide) (fun c2 => ?_) (fun c2 => ?_)
  · replace h := (if_neg c2).symm.trans h
    refine lv_iload_n hx hb dJ1_indexOf_4cfef_9 rfl (lv_at hl 2 rfl) ?_
    refine lv_iconst (v := 0) hx hb dJ1_indexOf_4cfef_10 (by decide) ?_
    refine va_mmax hx hb (by rw [hl.1]; exact C.1.2.2.1) C.1.2.2.2.1 (C.1.2.2.2.2 _ kl_RJ1_92) (C.1.2.2.2.2 _ kt_yJ9_max_7cf53) (C.1.2.2.2.2 _ kn_RJ9) (C.1.2.2.2.2 _ kc_yJ9_max_7cf53) (Nat.le_of_ble_eq_true rfl) (Nat.le_of_ble_eq_true rfl) (Nat.zero_le _) (Nat.zero_le _) dJ1_indexOf_4cfef_11 ?_
    refine lv_topi (fun x3 ex3 => ?_)
    replace h := bn_some h ex3
    refine lv_istore_n (lv' := [(2, .int x3), (0, .ref (g 2)), (1, .int a_1), (3, .int a_3)]) hx hb dJ1_indexOf_4cfef_14 rfl hl (by decide) rfl (fun ls hl => ?_)
    refine lv_iload_n hx hb dJ1_indexOf_4cfef_15 rfl (lv_at hl 3 rfl) ?_
    refine lv_aload_n hx hb dJ1_indexOf_4cfef_16 rfl (lv_at hl 1 rfl) ?_
    refine va_tlen (v := 6) hx hb C.2.2.2.2.str.2.2 hw.2.2 (by decide) dJ1_indexOf_4cfef_17 ?_
    refine va_mmin hx hb (by rw [hl.1]; exact C.1.2.2.1) C.1.2.2.2.1 (C.1.2.2.2.2 _ kl_RJ1_38) (C.1.2.2.2.2 _ kt_yJ9_min_7cf53) (C.1.2.2.2.2 _ kn_RJ9) (C.1.2.2.2.2 _ kc_yJ9_min_7cf53) (Nat.le_of_ble_eq_true rfl) (Nat.le_of_ble_eq_true rfl) (Nat.zero_le _) (Nat.zero_le _) dJ1_indexOf_4cfef_18 ?_
    refine lv_topi (fun x4 ex4 => ?_)
    replace h := bn_some h ex4
    refine lv_istore_n (lv' := [(3, .int x4), (2, .int x3), (0, .ref (g 2)), (1, .int a_1)]) hx hb dJ1_indexOf_4cfef_21 rfl hl (by decide) rfl (fun ls hl => ?_)
    refine lv_iload_n hx hb dJ1_indexOf_4cfef_22 rfl (lv_at hl 1 rfl) ?_
    refine lv_iload_n hx hb dJ1_indexOf_4cfef_23 rfl (lv_at hl 0 rfl) ?_
    refine lv_icmp_lt (tgt := 29) hx hb dJ1_indexOf_4cfef_24 (by decide) (fun c5 => ?_) (fun c5 => ?_)
    · replace h := (if_pos c5).symm.trans h
      refine lv_aload_n hx hb dJ1_indexOf_4cfef_29 rfl (lv_at hl 2 rfl) ?_
      refine lv_iload_n hx hb dJ1_indexOf_4cfef_30 rfl (lv_at hl 3 rfl) ?_
      refine lv_iload_n hx hb dJ1_indexOf_4cfef_31 rfl (lv_at hl 1 rfl) ?_
      refine lv_iload_n hx hb dJ1_indexOf_4cfef_32 rfl (lv_at hl 0 rfl) ?_
      obtain ⟨r6, hr6, h⟩ := cl_some h
      refine cSi (ws2 := ([] : va_W)) (As := [.ref (g 2), .int a_1, .int x3, .int x4]) (rest := []) C hw jnE (kJ1_indexOfChar_4cfef hr6) kl_RJ1_95 kt_yJ1_indexOfChar_4cfef kn_RJ1 kc_yJ1_indexOfChar_4cfef ⟨rfl, rfl⟩ hdJ1_indexOfChar_4cfef ⟨Nat.le_of_ble_eq_true rfl, Nat.le_of_ble_eq_true rfl⟩ rfl hl.1 (Nat.le_of_ble_eq_true rfl) dJ1_indexOf_4cfef_33 ⟨Nat.zero_le _, Nat.zero_le _⟩ (fun H locs hw => ?_)
      obtain rfl := some_e h
      exact rtI C hr hw dJ1_indexOf_4cfef_36
    · replace h := (if_neg c5).symm.trans h
      refine lv_iconst (v := (-1)) hx hb dJ1_indexOf_4cfef_27 (by decide) ?_
      obtain rfl := some_e h
      exact rtI C hr hw dJ1_indexOf_4cfef_28
  · replace h := (if_pos c2).symm.trans h
    refine lv_iconst (v := (-1)) hx hb dJ1_indexOf_4cfef_7 (by decide) ?_
    obtain rfl := some_e h
    exact rtI C hr hw dJ1_indexOf_4cfef_8
abbrev rmJ0_indexOf_7cf53 : Room := { frames := 2, cells := 0, slots := 0, locals := 53 }
theorem hdJ0_indexOf_7cf53 : yJ0_indexOf_7cf53.cls = RJ0 ∧ yJ0_indexOf_7cf53.cls ≠ "java/lang/invoke/MethodHandle" ∧ yJ0_indexOf_7cf53.cls ≠ "java/lang/invoke/VarHandle" ∧ (parseMethodDescriptor yJ0_indexOf_7cf53.desc).map (fun d => d.parameters.length) = some 2 := by decide +kernel
def fJ0_indexOf_7cf53 (a_1 : Int32) (a_2 : Int32) : Option Int32 := cl (fJ0_isLatin1_aae02) (fun r1 => if r1 = 0 then none else cl (fJ0_length_8abf5) (fun r3 => cl (fJ1_indexOf_4cfef a_1 a_2 r3) (fun r4 => some r4)))
set_option maxHeartbeats 4000000 in
set_option maxRecDepth 100000 in
theorem kJ0_indexOf_7cf53  {a_1 : Int32} {a_2 : Int32} {z : Int32} (h : fJ0_indexOf_7cf53 a_1 a_2 = some z) : MI l D cA g yJ0_indexOf_7cf53 (Cond.code yJ0_indexOf_7cf53 cJ0_indexOf_7cf53 3 (some .int) :: lw_g) rmJ0_indexOf_7cf53 [.ref (g 1), .int a_1, .int a_2] ([] : va_W) z ([] : va_W) := by
  intro sz
  refine Met.ofW (cc := cJ0_indexOf_7cf53) (maxL := 3) (ret := (some .int)) (by decide) rfl ?_
  intro p e s m args below meth c s₁ B hml hv
  obtain ⟨rfl, C, hr, hw⟩ := ent B hml hv
  generalize va_A ([] : va_W) sz = A at C hw ⊢
  have hl := lv_entry ([.ref (g 1), .int a_1, .int a_2]) (n := 3) (Nat.le_of_ble_eq_true rfl)
  rw [lg_entry_eq]
  generalize (lg_sl ([.ref (g 1), .int a_1, .int a_2]) ++ List.replicate (3 - (lg_sl ([.ref (g 1), .int a_1, .int a_2])).length) Slot.unset).toArray = ls at hl ⊢
  have hl : lv_has ls 3 [(0, .ref (g 1)), (1, .int a_1), (2, .int a_2)] := hl
  have hx := C.1.1
  have hb := C.1.2.1
  have h : (cl (fJ0_isLatin1_aae02) (fun r1 => if r1 = 0 then none else cl (fJ0_length_8abf5) (fun r3 => cl (fJ1_indexOf_4cfef a_1 a_2 r3) (fun r4 => some r4)))) = some z := h
  refine lv_aload_n hx hb dJ0_indexOf_7cf53_0 rfl (lv_at hl 0 rfl) ?_
  obtain ⟨r1, hr1, h⟩ := cl_some h
  refine cTi (As := []) (rest := []) C hw (kJ0_isLatin1_aae02 hr1) kl_RJ0_492 ki_yJ0_isLatin1_aae02 ks_yJ0_isLatin1_aae02 kn_RJ0 kc_yJ0_isLatin1_aae02 ⟨rfl, rfl⟩ hdJ0_isLatin1_aae02 ⟨Nat.le_of_ble_eq_true rfl, Nat.le_of_ble_eq_true rfl⟩ rfl hl.1 (Nat.le_of_ble_eq_true rfl) dJ0_indexOf_7cf53_1 ⟨Nat.zero_le _, Nat.zero_le _⟩ (fun H locs hw => ?_)
  refine lv_if_eq (tgt := 23) hx hb dJ0_indexOf_7cf53_4 (by decide) (fun c2 => ?_) (fun c2 => ?_)
  · replace h := (if_pos c2).symm.trans h
    cases h
  · replace h := (if_neg c2).symm.trans h
    refine lv_aload_n hx hb dJ0_indexOf_7cf53_7 rfl (lv_at hl 0 rfl) ?_
    refine vk_getf hx hb C.2.2.2.2.str.2.1 hw.2.2 C.1.2.2.2.1 (C.1.2.2.2.2 _ kf_RJ0_9) (fun _ h9 => h9) dJ0_indexOf_7cf53_8 ?_
    refine lv_iload_n hx hb dJ0_indexOf_7cf53_11 rfl (lv_at hl 1 rfl) ?_
    refine lv_iload_n hx hb dJ0_indexOf_7cf53_12 rfl (lv_at hl 2 rfl) ?_
    refine lv_aload_n hx hb dJ0_indexOf_7cf53_13 rfl (lv_at hl 0 rfl) ?_
    obtain ⟨r3, hr3, h⟩ := cl_some h
    refine cTi (As := []) (rest := [.int a_2, .int a_1, .ref (g 2)]) C hw (kJ0_length_8abf5 hr3) kl_RJ0_505 ki_yJ0_length_8abf5 ks_yJ0_length_8abf5 kn_RJ0 kc_yJ0_length_8abf5 ⟨rfl, rfl⟩ hdJ0_length_8abf5 ⟨Nat.le_of_ble_eq_true rfl, Nat.le_of_ble_eq_true rfl⟩ rfl hl.1 (Nat.le_of_ble_eq_true rfl) dJ0_indexOf_7cf53_14 ⟨Nat.zero_le _, Nat.zero_le _⟩ (fun H locs hw => ?_)
    obtain ⟨r4, hr4, h⟩ := cl_some h
    refine cSi (ws2 := ([] : va_W)) (As := [.ref (g 2), .int a_1, .int a_2, .int r3]) (rest := []) C hw jnE (kJ1_indexOf_4cfef hr4) kl_RJ0_637 kt_yJ1_indexOf_4cfef kn_RJ1 kc_yJ1_indexOf_4cfef ⟨rfl, rfl⟩ hdJ1_indexOf_4cfef ⟨Nat.le_of_ble_eq_true rfl, Nat.le_of_ble_eq_true rfl⟩ rfl hl.1 (Nat.le_of_ble_eq_true rfl) dJ0_indexOf_7cf53_17 ⟨Nat.zero_le _, Nat.zero_le _⟩ (fun H locs hw => ?_)
    refine lv_goto (tgt := 36) hx hb dJ0_indexOf_7cf53_20 (by decide) ?_
    obtain rfl := some_e h
    exact rtI C hr hw dJ0_indexOf_7cf53_36
abbrev rmJ0_indexOf_0f7a4 : Room := { frames := 3, cells := 0, slots := 0, locals := 75 }
theorem hdJ0_indexOf_0f7a4 : yJ0_indexOf_0f7a4.cls = RJ0 ∧ yJ0_indexOf_0f7a4.cls ≠ "java/lang/invoke/MethodHandle" ∧ yJ0_indexOf_0f7a4.cls ≠ "java/lang/invoke/VarHandle" ∧ (parseMethodDescriptor yJ0_indexOf_0f7a4.desc).map (fun d => d.parameters.length) = some 1 := by decide +kernel
def fJ0_indexOf_0f7a4 (a_1 : Int32) : Option Int32 := cl (fJ0_indexOf_7cf53 a_1 0) (fun r1 => some r1)
set_option maxHeartbeats 4000000 in
set_option maxRecDepth 100000 in
theorem kJ0_indexOf_0f7a4  {a_1 : Int32} {z : Int32} (h : fJ0_indexOf_0f7a4 a_1 = some z) : MI l D cA g yJ0_indexOf_0f7a4 (Cond.code yJ0_indexOf_0f7a4 cJ0_indexOf_0f7a4 2 (some .int) :: lw_g) rmJ0_indexOf_0f7a4 [.ref (g 1), .int a_1] ([] : va_W) z ([] : va_W) := by
  intro sz
  refine Met.ofW (cc := cJ0_indexOf_0f7a4) (maxL := 2) (ret := (some .int)) (by decide) rfl ?_
  intro p e s m args below meth c s₁ B hml hv
  obtain ⟨rfl, C, hr, hw⟩ := ent B hml hv
  generalize va_A ([] : va_W) sz = A at C hw ⊢
  have hl := lv_entry ([.ref (g 1), .int a_1]) (n := 2) (Nat.le_of_ble_eq_true rfl)
  rw [lg_entry_eq]
  generalize (lg_sl ([.ref (g 1), .int a_1]) ++ List.replicate (2 - (lg_sl ([.ref (g 1), .int a_1])).length) Slot.unset).toArray = ls at hl ⊢
  have hl : lv_has ls 2 [(0, .ref (g 1)), (1, .int a_1)] := hl
  have hx := C.1.1
  have hb := C.1.2.1
  have h : (cl (fJ0_indexOf_7cf53 a_1 0) (fun r1 => some r1)) = some z := h
  refine lv_aload_n hx hb dJ0_indexOf_0f7a4_0 rfl (lv_at hl 0 rfl) ?_
  refine lv_iload_n hx hb dJ0_indexOf_0f7a4_1 rfl (lv_at hl 1 rfl) ?_
  refine lv_iconst (v := 0) hx hb dJ0_indexOf_0f7a4_2 (by decide) ?_
  obtain ⟨r1, hr1, h⟩ := cl_some h
  refine cTi (As := [.int a_1, .int 0]) (rest := []) C hw (kJ0_indexOf_7cf53 hr1) kl_RJ0_633 ki_yJ0_indexOf_7cf53 ks_yJ0_indexOf_7cf53 kn_RJ0 kc_yJ0_indexOf_7cf53 ⟨rfl, rfl⟩ hdJ0_indexOf_7cf53 ⟨Nat.le_of_ble_eq_true rfl, Nat.le_of_ble_eq_true rfl⟩ rfl hl.1 (Nat.le_of_ble_eq_true rfl) dJ0_indexOf_0f7a4_3 ⟨Nat.zero_le _, Nat.zero_le _⟩ (fun H locs hw => ?_)
  obtain rfl := some_e h
  exact rtI C hr hw dJ0_indexOf_0f7a4_6
abbrev rmX1_kindOf : Room := { frames := 4, cells := 0, slots := 0, locals := 96 }
theorem hdX1_kindOf : yX1_kindOf.cls ≠ "java/lang/invoke/MethodHandle" ∧ yX1_kindOf.cls ≠ "java/lang/invoke/VarHandle" ∧ (parseMethodDescriptor yX1_kindOf.desc).map (fun d => d.parameters.length) = some 1 := by decide +kernel
def fX1_kindOf (a_0 : Int32) : Option Int32 := cl (fJ0_indexOf_0f7a4 (((a_0 : Int32).toUInt32 % 65536).toInt32)) (fun r1 => some r1)
set_option maxHeartbeats 4000000 in
set_option maxRecDepth 100000 in
theorem kX1_kindOf  {a_0 : Int32} {z : Int32} (h : fX1_kindOf a_0 = some z) : MI l D cA g yX1_kindOf (Cond.code yX1_kindOf cX1_kindOf 1 (some .int) :: lw_g) rmX1_kindOf [.int a_0] ([] : va_W) z ([] : va_W) := by
  intro sz
  refine Met.ofW (cc := cX1_kindOf) (maxL := 1) (ret := (some .int)) (by decide) rfl ?_
  intro p e s m args below meth c s₁ B hml hv
  obtain ⟨rfl, C, hr, hw⟩ := ent B hml hv
  generalize va_A ([] : va_W) sz = A at C hw ⊢
  have hl := lv_entry ([.int a_0]) (n := 1) (Nat.le_of_ble_eq_true rfl)
  rw [lg_entry_eq]
  generalize (lg_sl ([.int a_0]) ++ List.replicate (1 - (lg_sl ([.int a_0])).length) Slot.unset).toArray = ls at hl ⊢
  have hl : lv_has ls 1 [(0, .int a_0)] := hl
  have hx := C.1.1
  have hb := C.1.2.1
  have h : (cl (fJ0_indexOf_0f7a4 (((a_0 : Int32).toUInt32 % 65536).toInt32)) (fun r1 => some r1)) = some z := h
  refine va_ldcwS hx hb C.1.2.2.2.1 C.2.2.2.2.2.2.2.1 dX1_kindOf_0 ?_
  refine lv_iload_n hx hb dX1_kindOf_3 rfl (lv_at hl 0 rfl) ?_
  refine lv_i2c (v := ((a_0 : Int32).toUInt32 % 65536).toInt32) hx hb dX1_kindOf_4 rfl ?_
  obtain ⟨r1, hr1, h⟩ := cl_some h
  refine cTi (As := [.int (((a_0 : Int32).toUInt32 % 65536).toInt32)]) (rest := []) C hw (kJ0_indexOf_0f7a4 hr1) kl_RX1_261 ki_yJ0_indexOf_0f7a4 ks_yJ0_indexOf_0f7a4 kn_RJ0 kc_yJ0_indexOf_0f7a4 ⟨rfl, rfl⟩ hdJ0_indexOf_0f7a4 ⟨Nat.le_of_ble_eq_true rfl, Nat.le_of_ble_eq_true rfl⟩ rfl hl.1 (Nat.le_of_ble_eq_true rfl) dX1_kindOf_5 ⟨Nat.zero_le _, Nat.zero_le _⟩ (fun H locs hw => ?_)
  obtain rfl := some_e h
  exact rtI C hr hw dX1_kindOf_8
end
