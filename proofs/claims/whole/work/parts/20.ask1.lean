section
variable {p : Program} {l : Launch} {e : Env} {s : State} {m : MethodId} {args : Array Value} {below : List Frame} {meth : Method} {c : Code} {D : va_G} {cA : ClassId} {g : Nat → Nat} {A : Nat → Prop} {ad ad2 : Nat → Nat} {a0 a1 : Nat}
abbrev rmX1_refuse : Room := { frames := 0, cells := 0, slots := 0, locals := 0 }
theorem hdX1_refuse : yX1_refuse.cls = RX1 ∧ yX1_refuse.cls ≠ "java/lang/invoke/MethodHandle" ∧ yX1_refuse.cls ≠ "java/lang/invoke/VarHandle" ∧ (parseMethodDescriptor yX1_refuse.desc).map (fun d => d.parameters.length) = some 1 := by decide +kernel
def fX1_refuse (X : Nat → VS) (a_1 : Int32) : Option (Int32 × (Nat → VS)) := if 0 ≤ a_1 then some (a_1, X) else if a_1 < (-6) then some (a_1, X) else rd 7 (X 3 8) (-a_1) (fun r3 => ck 7 (-a_1) (bn (up X 3 (up (X 3) 8 (upd (X 3 8) ((-a_1) : Int32).toNatClampNeg (r3 + (1 : Int32))))) (fun w4 => some (a_1, w4))))
set_option maxHeartbeats 4000000 in
set_option maxRecDepth 100000 in
theorem kX1_refuse (ad : Nat → Nat) {X : Nat → VS} {a_1 : Int32} {z : (Int32 × (Nat → VS))} (h : fX1_refuse X a_1 = some z) : MI l D cA g yX1_refuse (Cond.code yX1_refuse cX1_refuse 2 (some .int) :: lw_g) rmX1_refuse [.ref (ad 0), .int a_1] (wR cA ad X) z.1 (wR cA ad z.2) := by
  intro sz
  refine Met.ofW (cc := cX1_refuse) (maxL := 2) (ret := (some .int)) (by decide) rfl ?_
  intro p e s m args below meth c s₁ B hml hv
  obtain ⟨rfl, C, hr, hw⟩ := ent B hml hv
  generalize va_A (wR cA ad X) sz = A at C hw ⊢
  have hl := lv_entry ([.ref (ad 0), .int a_1]) (n := 2) (Nat.le_of_ble_eq_true rfl)
  rw [lg_entry_eq]
  generalize (lg_sl ([.ref (ad 0), .int a_1]) ++ List.replicate (2 - (lg_sl ([.ref (ad 0), .int a_1])).length) Slot.unset).toArray = ls at hl ⊢
  have hl : lv_has ls 2 [(0, .ref (ad 0)), (1, .int a_1)] := hl
  have hx := C.1.1
  have hb := C.1.2.1
  have h : (if 0 ≤ a_1 then some (a_1, X) else if a_1 < (-6) then some (a_1, X) else rd 7 (X 3 8) (-a_1) (fun r3 => ck 7 (-a_1) (bn (up X 3 (up (X 3) 8 (upd (X 3 8) ((-a_1) : Int32).toNatClampNeg (r3 + (1 : Int32))))) (fun w4 => some (a_1, w4))))) = some z := h
  refine lv_iload_n hx hb dX1_refuse_0 rfl (lv_at hl 1 rfl) ?_
  refine lv_if_ge (tgt := 21) hx hb dX1_refuse_1 (by decide) (fun c1 => ?_) (fun c1 => ?_)
  · replace h := (if_pos c1).symm.trans h
    refine lv_iload_n hx hb dX1_refuse_21 rfl (lv_at hl 1 rfl) ?_
    obtain rfl := some_e h
    exact rtI C hr hw dX1_refuse_22
  · replace h := (if_neg c1).symm.trans h
    refine lv_iload_n hx hb dX1_refuse_4 rfl (lv_at hl 1 rfl) ?_
    refine lv_bipush (v := (-6)) hx hb dX1_refuse_5 (by decide) ?_
    refine lv_icmp_lt (tgt := 21) hx hb dX1_refuse_7 (by decide) (fun c2 => ?_) (fun c2 => ?_)
    · replace h := (if_pos c2).symm.trans h
      refine lv_iload_n hx hb dX1_refuse_21 rfl (lv_at hl 1 rfl) ?_
      obtain rfl := some_e h
      exact rtI C hr hw dX1_refuse_22
    · replace h := (if_neg c2).symm.trans h
      refine lv_aload_n hx hb dX1_refuse_10 rfl (lv_at hl 0 rfl) ?_
      refine tGet (T := TX1) (N := 12) (ci := 1) C hw inX1 8 0 rfl (by decide) kf_RX1_40 rfl rfl rfl dX1_refuse_11 ?_
      refine lv_iload_n hx hb dX1_refuse_14 rfl (lv_at hl 1 rfl) ?_
      refine lv_ineg hx hb dX1_refuse_15 ?_
      refine lv_dup2_11 hx hb dX1_refuse_16 rfl rfl ?_
      obtain ⟨r3, ir3, er3, h⟩ := rd_some h
      refine tLd C hw 24 rfl ir3 er3 dX1_refuse_17 ?_
      refine lv_iconst (v := 1) hx hb dX1_refuse_18 (by decide) ?_
      refine lv_iadd hx hb dX1_refuse_19 ?_
      obtain ⟨iw4, h⟩ := ck_some h
      obtain ⟨w4, ew4⟩ : ∃ y : Nat → VS, y = up X 3 (up (X 3) 8 (upd (X 3 8) ((-a_1) : Int32).toNatClampNeg (r3 + (1 : Int32)))) := ⟨_, rfl⟩
      replace h := bn_some h ew4
      refine tSt (ws2 := (wR cA ad w4)) C hw 24 rfl iw4 (by rw [ew4]; rfl) dX1_refuse_20 (fun H locs hw => ?_)
      refine lv_iload_n hx hb dX1_refuse_21 rfl (lv_at hl 1 rfl) ?_
      obtain rfl := some_e h
      exact rtI C hr hw dX1_refuse_22
abbrev rmX1_letter : Room := { frames := 1, cells := 0, slots := 0, locals := 21 }
theorem hdX1_letter : yX1_letter.cls = RX1 ∧ yX1_letter.cls ≠ "java/lang/invoke/MethodHandle" ∧ yX1_letter.cls ≠ "java/lang/invoke/VarHandle" ∧ (parseMethodDescriptor yX1_letter.desc).map (fun d => d.parameters.length) = some 1 := by decide +kernel
def GX1_letter_27 (p : Program) (l : Launch) (e : Env) (s : State) (m : MethodId) (args : Array Value) (below : List Frame) (meth : Method) (c : Code) (D : va_G) (cA : ClassId) (A : Nat → Prop) (ad : Nat → Nat) (z : (Int32 × (Nat → VS))) (x : (Nat → VS)) : Prop := ∀ (H : Heap) (locs : List Loc) (ls : Array Slot), Wd D A s.heap (wR cA ad x) H locs → lv_has ls 2 [(0, .ref (ad 0))] → W p l e rmX1_letter s m args below meth c H locs 0 0 (MQ below (QI D cA A z.1 (wR cA ad z.2)) args s 0 0 A) (F0 m 27 ls [])
def fX1_letter_27 : ((Nat → VS)) → Option (Int32 × (Nat → VS)) := fun X => cl (fX1_refuse X (-6)) (fun q1 => some (q1.1, q1.2))
def fX1_letter (X : Nat → VS) (a_1 : Int32) : Option (Int32 × (Nat → VS)) := if 0 ≤ a_1 then if 255 < a_1 then fX1_letter_27 X else if (X 3 5 0) < 96 then ck 96 (X 3 5 0) (bn (up X 3 (up (X 3) 4 (upd (X 3 4) ((X 3 5 0) : Int32).toNatClampNeg a_1))) (fun w4 => bn (up w4 3 (up (w4 3) 5 (fun _ => ((w4 3 5 0) + (1 : Int32))))) (fun w5 => some ((w5 3 5 0), w5)))) else fX1_letter_27 X else cl (fX1_refuse X (-4)) (fun q6 => some (q6.1, q6.2))
set_option maxHeartbeats 4000000 in
set_option maxRecDepth 100000 in
theorem kX1_letter_27 (C : Cx p s m args meth c cX1_letter 2 RX1 D cA g A) (hr : meth.sig.returnType = (some .int)) {z : (Int32 × (Nat → VS))} (x : (Nat → VS)) (h : fX1_letter_27 x = some z) : GX1_letter_27 p l e s m args below meth c D cA A ad z x := by
  obtain ⟨X, rfl⟩ : ∃ y, y = x := ⟨_, rfl⟩
  intro H locs ls hw hl
  have hw : Wd D A s.heap (wR cA ad X) H locs := hw
  have hl : lv_has ls 2 [(0, .ref (ad 0))] := hl
  have hx := C.1.1
  have hb := C.1.2.1
  have h : (cl (fX1_refuse X (-6)) (fun q1 => some (q1.1, q1.2))) = some z := h
  refine lv_aload_n hx hb dX1_letter_27 rfl (lv_at hl 0 rfl) ?_
  refine lv_bipush (v := (-6)) hx hb dX1_letter_28 (by decide) ?_
  obtain ⟨q1, hq1, h⟩ := cl_some h
  refine cVi (ws2 := (wR cA ad q1.2)) (As := [.int (-6)]) (rest := []) C hw jnW (kX1_refuse ad hq1) kl_RX1_52 ki_yX1_refuse ks_yX1_refuse kn_RX1 kc_yX1_refuse ⟨rfl, rfl⟩ hdX1_refuse ⟨Nat.le_of_ble_eq_true rfl, Nat.le_of_ble_eq_true rfl⟩ (ci := 1) (q0 := 0) rfl rfl rfl rfl hl.1 (Nat.le_of_ble_eq_true rfl) dX1_letter_30 ⟨Nat.zero_le _, Nat.zero_le _⟩ (fun H locs hw => ?_)
  obtain rfl := some_e h
  exact rtI C hr hw dX1_letter_33
set_option maxHeartbeats 4000000 in
set_option maxRecDepth 100000 in
theorem kX1_letter (ad : Nat → Nat) {X : Nat → VS} {a_1 : Int32} {z : (Int32 × (Nat → VS))} (h : fX1_letter X a_1 = some z) : MI l D cA g yX1_letter (Cond.code yX1_letter cX1_letter 2 (some .int) :: lw_g) rmX1_letter [.ref (ad 0), .int a_1] (wR cA ad X) z.1 (wR cA ad z.2) := by
  intro sz
  refine Met.ofW (cc := cX1_letter) (maxL := 2) (ret := (some .int)) (by decide) rfl ?_
  intro p e s m args below meth c s₁ B hml hv
  obtain ⟨rfl, C, hr, hw⟩ := ent B hml hv
  generalize va_A (wR cA ad X) sz = A at C hw ⊢
  have hl := lv_entry ([.ref (ad 0), .int a_1]) (n := 2) (Nat.le_of_ble_eq_true rfl)
  rw [lg_entry_eq]
  generalize (lg_sl ([.ref (ad 0), .int a_1]) ++ List.replicate (2 - (lg_sl ([.ref (ad 0), .int a_1])).length) Slot.unset).toArray = ls at hl ⊢
  have hl : lv_has ls 2 [(0, .ref (ad 0)), (1, .int a_1)] := hl
  have hx := C.1.1
  have hb := C.1.2.1
  have h : (if 0 ≤ a_1 then if 255 < a_1 then fX1_letter_27 X else if (X 3 5 0) < 96 then ck 96 (X 3 5 0) (bn (up X 3 (up (X 3) 4 (upd (X 3 4) ((X 3 5 0) : Int32).toNatClampNeg a_1))) (fun w4 => bn (up w4 3 (up (w4 3) 5 (fun _ => ((w4 3 5 0) + (1 : Int32))))) (fun w5 => some ((w5 3 5 0), w5)))) else fX1_letter_27 X else cl (fX1_refuse X (-4)) (fun q6 => some (q6.1, q6.2))) = some z := h
  refine lv_iload_n hx hb dX1_letter_0 rfl (lv_at hl 1 rfl) ?_
  refine lv_if_ge (tgt := 11) hx hb dX1_letter_1 (by decide) (fun c1 => ?_) (fun c1 => ?_)
  · replace h := (if_pos c1).symm.trans h
    refine lv_iload_n hx hb dX1_letter_11 rfl (lv_at hl 1 rfl) ?_
    refine lv_sipush (v := 255) hx hb dX1_letter_12 (by decide) ?_
    refine lv_icmp_gt (tgt := 27) hx hb dX1_letter_15 (by decide) (fun c2 => ?_) (fun c2 => ?_)
    · replace h := (if_pos c2).symm.trans h
      exact kX1_letter_27 C hr X h _ _ _ hw (lv_sub hl [0] rfl)
    · replace h := (if_neg c2).symm.trans h
      refine lv_aload_n hx hb dX1_letter_18 rfl (lv_at hl 0 rfl) ?_
      refine tGet (T := TX1) (N := 12) (ci := 1) C hw inX1 5 0 rfl (by decide) kf_RX1_30 rfl rfl rfl dX1_letter_19 ?_
      refine lv_bipush (v := 96) hx hb dX1_letter_22 (by decide) ?_
      refine lv_icmp_lt (tgt := 34) hx hb dX1_letter_24 (by decide) (fun c3 => ?_) (fun c3 => ?_)
      · replace h := (if_pos c3).symm.trans h
        refine lv_aload_n hx hb dX1_letter_34 rfl (lv_at hl 0 rfl) ?_
        refine tGet (T := TX1) (N := 12) (ci := 1) C hw inX1 4 0 rfl (by decide) kf_RX1_26 rfl rfl rfl dX1_letter_35 ?_
        refine lv_aload_n hx hb dX1_letter_38 rfl (lv_at hl 0 rfl) ?_
        refine tGet (T := TX1) (N := 12) (ci := 1) C hw inX1 5 0 rfl (by decide) kf_RX1_30 rfl rfl rfl dX1_letter_39 ?_
        refine lv_iload_n hx hb dX1_letter_42 rfl (lv_at hl 1 rfl) ?_
        obtain ⟨iw4, h⟩ := ck_some h
        obtain ⟨w4, ew4⟩ : ∃ y : Nat → VS, y = up X 3 (up (X 3) 4 (upd (X 3 4) ((X 3 5 0) : Int32).toNatClampNeg a_1)) := ⟨_, rfl⟩
        replace h := bn_some h ew4
        refine tSt (ws2 := (wR cA ad w4)) C hw 22 rfl iw4 (by rw [ew4]; rfl) dX1_letter_43 (fun H locs hw => ?_)
        refine lv_aload_n hx hb dX1_letter_44 rfl (lv_at hl 0 rfl) ?_
        refine lv_dup hx hb dX1_letter_45 rfl ?_
        refine tGet (T := TX1) (N := 12) (ci := 1) C hw inX1 5 0 rfl (by decide) kf_RX1_30 rfl rfl rfl dX1_letter_46 ?_
        refine lv_iconst (v := 1) hx hb dX1_letter_49 (by decide) ?_
        refine lv_iadd hx hb dX1_letter_50 ?_
        obtain ⟨w5, ew5⟩ : ∃ y : Nat → VS, y = up w4 3 (up (w4 3) 5 (fun _ => ((w4 3 5 0) + (1 : Int32)))) := ⟨_, rfl⟩
        replace h := bn_some h ew5
        refine tPut (T := TX1) (N := 12) (ci := 1) (ws2 := (wR cA ad w5)) C hw inX1 tyX1 tyX1_ok nmX1 5 0 rfl (by decide) kf_RX1_30 rfl rfl rfl rfl rfl (Nat.le_of_ble_eq_true rfl) (by rw [ew5]; rfl) dX1_letter_51 (fun H locs hw => ?_)
        refine lv_aload_n hx hb dX1_letter_54 rfl (lv_at hl 0 rfl) ?_
        refine tGet (T := TX1) (N := 12) (ci := 1) C hw inX1 5 0 rfl (by decide) kf_RX1_30 rfl rfl rfl dX1_letter_55 ?_
        obtain rfl := some_e h
        exact rtI C hr hw dX1_letter_58
      · replace h := (if_neg c3).symm.trans h
        exact kX1_letter_27 C hr X h _ _ _ hw (lv_sub hl [0] rfl)
  · replace h := (if_neg c1).symm.trans h
    refine lv_aload_n hx hb dX1_letter_4 rfl (lv_at hl 0 rfl) ?_
    refine lv_bipush (v := (-4)) hx hb dX1_letter_5 (by decide) ?_
    obtain ⟨q6, hq6, h⟩ := cl_some h
    refine cVi (ws2 := (wR cA ad q6.2)) (As := [.int (-4)]) (rest := []) C hw jnW (kX1_refuse ad hq6) kl_RX1_52 ki_yX1_refuse ks_yX1_refuse kn_RX1 kc_yX1_refuse ⟨rfl, rfl⟩ hdX1_refuse ⟨Nat.le_of_ble_eq_true rfl, Nat.le_of_ble_eq_true rfl⟩ (ci := 1) (q0 := 0) rfl rfl rfl rfl hl.1 (Nat.le_of_ble_eq_true rfl) dX1_letter_7 ⟨Nat.zero_le _, Nat.zero_le _⟩ (fun H locs hw => ?_)
    obtain rfl := some_e h
    exact rtI C hr hw dX1_letter_10
abbrev rmX1_lettersBehind : Room := { frames := 0, cells := 0, slots := 0, locals := 0 }
theorem hdX1_lettersBehind : yX1_lettersBehind.cls ≠ "java/lang/invoke/MethodHandle" ∧ yX1_lettersBehind.cls ≠ "java/lang/invoke/VarHandle" ∧ (parseMethodDescriptor yX1_lettersBehind.desc).map (fun d => d.parameters.length) = some 1 := by decide +kernel
def fX1_lettersBehind (a_0 : Int32) : Option Int32 := if a_0 = 98 then some 2 else if a_0 = 99 then some 0 else if a_0 = 100 then some 0 else if a_0 = 101 then some 0 else if a_0 = 102 then some 0 else if a_0 = 103 then some 4 else if a_0 = 104 then some 0 else if a_0 = 105 then some 0 else if a_0 = 106 then some 0 else if a_0 = 107 then some 0 else if a_0 = 108 then some 0 else if a_0 = 109 then some 0 else if a_0 = 110 then some 3 else if a_0 = 111 then some 0 else if a_0 = 112 then some 4 else if a_0 = 113 then some 0 else if a_0 = 114 then some 4 else if a_0 = 115 then some 2 else if a_0 = 116 then some 0 else if a_0 = 117 then some 0 else if a_0 = 118 then some 0 else if a_0 = 119 then some 2 else some 0
set_option maxHeartbeats 4000000 in
set_option maxRecDepth 100000 in
theorem kX1_lettersBehind  {a_0 : Int32} {z : Int32} (h : fX1_lettersBehind a_0 = some z) : MI l D cA g yX1_lettersBehind (Cond.code yX1_lettersBehind cX1_lettersBehind 1 (some .int) :: lw_g) rmX1_lettersBehind [.int a_0] ([] : va_W) z ([] : va_W) := by
  intro sz
  refine Met.ofW (cc := cX1_lettersBehind) (maxL := 1) (ret := (some .int)) (by decide) rfl ?_
  intro p e s m args below meth c s₁ B hml hv
  obtain ⟨rfl, C, hr, hw⟩ := ent B hml hv
  generalize va_A ([] : va_W) sz = A at C hw ⊢
  have hl := lv_entry ([.int a_0]) (n := 1) (Nat.le_of_ble_eq_true rfl)
  rw [lg_entry_eq]
  generalize (lg_sl ([.int a_0]) ++ List.replicate (1 - (lg_sl ([.int a_0])).length) Slot.unset).toArray = ls at hl ⊢
  have hl : lv_has ls 1 [(0, .int a_0)] := hl
  have hx := C.1.1
  have hb := C.1.2.1
  have h : (if a_0 = 98 then some 2 else if a_0 = 99 then some 0 else if a_0 = 100 then some 0 else if a_0 = 101 then some 0 else if a_0 = 102 then some 0 else if a_0 = 103 then some 4 else if a_0 = 104 then some 0 else if a_0 = 105 then some 0 else if a_0 = 106 then some 0 else if a_0 = 107 then some 0 else if a_0 = 108 then some 0 else if a_0 = 109 then some 0 else if a_0 = 110 then some 3 else if a_0 = 111 then some 0 else if a_0 = 112 then some 4 else if a_0 = 113 then some 0 else if a_0 = 114 then some 4 else if a_0 = 115 then some 2 else if a_0 = 116 then some 0 else if a_0 = 117 then some 0 else if a_0 = 118 then some 0 else if a_0 = 119 then some 2 else some 0) = some z := h
  refine lv_iload_n hx hb dX1_lettersBehind_0 rfl (lv_at hl 0 rfl) ?_
  by_cases c1 : a_0 = 98
  · replace h := (if_pos c1).symm.trans h
    refine lv_tableIn (tgt := 116) hx hb dX1_lettersBehind_1 (by rw [c1]; decide) (by rw [c1]; decide) (by rw [c1]; rfl) (by decide) ?_
    refine lv_iconst (v := 2) hx hb dX1_lettersBehind_116 (by decide) ?_
    obtain rfl := some_e h
    exact rtI C hr hw dX1_lettersBehind_117
  replace h := (if_neg c1).symm.trans h
  by_cases c2 : a_0 = 99
  · replace h := (if_pos c2).symm.trans h
    refine lv_tableIn (tgt := 118) hx hb dX1_lettersBehind_1 (by rw [c2]; decide) (by rw [c2]; decide) (by rw [c2]; rfl) (by decide) ?_
    refine lv_iconst (v := 0) hx hb dX1_lettersBehind_118 (by decide) ?_
    obtain rfl := some_e h
    exact rtI C hr hw dX1_lettersBehind_119
  replace h := (if_neg c2).symm.trans h
  by_cases c3 : a_0 = 100
  · replace h := (if_pos c3).symm.trans h
    refine lv_tableIn (tgt := 118) hx hb dX1_lettersBehind_1 (by rw [c3]; decide) (by rw [c3]; decide) (by rw [c3]; rfl) (by decide) ?_
    refine lv_iconst (v := 0) hx hb dX1_lettersBehind_118 (by decide) ?_
    obtain rfl := some_e h
    exact rtI C hr hw dX1_lettersBehind_119
  replace h := (if_neg c3).symm.trans h
  by_cases c4 : a_0 = 101
  · replace h := (if_pos c4).symm.trans h
    refine lv_tableIn (tgt := 118) hx hb dX1_lettersBehind_1 (by rw [c4]; decide) (by rw [c4]; decide) (by rw [c4]; rfl) (by decide) ?_
    refine lv_iconst (v := 0) hx hb dX1_lettersBehind_118 (by decide) ?_
    obtain rfl := some_e h
    exact rtI C hr hw dX1_lettersBehind_119
  replace h := (if_neg c4).symm.trans h
  by_cases c5 : a_0 = 102
  · replace h := (if_pos c5).symm.trans h
    refine lv_tableIn (tgt := 118) hx hb dX1_lettersBehind_1 (by rw [c5]; decide) (by rw [c5]; decide) (by rw [c5]; rfl) (by decide) ?_
    refine lv_iconst (v := 0) hx hb dX1_lettersBehind_118 (by decide) ?_
    obtain rfl := some_e h
    exact rtI C hr hw dX1_lettersBehind_119
  replace h := (if_neg c5).symm.trans h
  by_cases c6 : a_0 = 103
  · replace h := (if_pos c6).symm.trans h
    refine lv_tableIn (tgt := 108) hx hb dX1_lettersBehind_1 (by rw [c6]; decide) (by rw [c6]; decide) (by rw [c6]; rfl) (by decide) ?_
    refine lv_iconst (v := 4) hx hb dX1_lettersBehind_108 (by decide) ?_
    obtain rfl := some_e h
    exact rtI C hr hw dX1_lettersBehind_109
  replace h := (if_neg c6).symm.trans h
  by_cases c7 : a_0 = 104
  · replace h := (if_pos c7).symm.trans h
    refine lv_tableIn (tgt := 118) hx hb dX1_lettersBehind_1 (by rw [c7]; decide) (by rw [c7]; decide) (by rw [c7]; rfl) (by decide) ?_
    refine lv_iconst (v := 0) hx hb dX1_lettersBehind_118 (by decide) ?_
    obtain rfl := some_e h
    exact rtI C hr hw dX1_lettersBehind_119
  replace h := (if_neg c7).symm.trans h
  by_cases c8 : a_0 = 105
  · replace h := (if_pos c8).symm.trans h
    refine lv_tableIn (tgt := 118) hx hb dX1_lettersBehind_1 (by rw [c8]; decide) (by rw [c8]; decide) (by rw [c8]; rfl) (by decide) ?_
    refine lv_iconst (v := 0) hx hb dX1_lettersBehind_118 (by decide) ?_
    obtain rfl := some_e h
    exact rtI C hr hw dX1_lettersBehind_119
  replace h := (if_neg c8).symm.trans h
  by_cases c9 : a_0 = 106
  · replace h := (if_pos c9).symm.trans h
    refine lv_tableIn (tgt := 118) hx hb dX1_lettersBehind_1 (by rw [c9]; decide) (by rw [c9]; decide) (by rw [c9]; rfl) (by decide) ?_
    refine lv_iconst (v := 0) hx hb dX1_lettersBehind_118 (by decide) ?_
    obtain rfl := some_e h
    exact rtI C hr hw dX1_lettersBehind_119
  replace h := (if_neg c9).symm.trans h
  by_cases c10 : a_0 = 107
  · replace h := (if_pos c10).symm.trans h
    refine lv_tableIn (tgt := 118) hx hb dX1_lettersBehind_1 (by rw [c10]; decide) (by rw [c10]; decide) (by rw [c10]; rfl) (by decide) ?_
    refine lv_iconst (v := 0) hx hb dX1_lettersBehind_118 (by decide) ?_
    obtain rfl := some_e h
    exact rtI C hr hw dX1_lettersBehind_119
  replace h := (if_neg c10).symm.trans h
  by_cases c11 : a_0 = 108
  · replace h := (if_pos c11).symm.trans h
    refine lv_tableIn (tgt := 118) hx hb dX1_lettersBehind_1 (by rw [c11]; decide) (by rw [c11]; decide) (by rw [c11]; rfl) (by decide) ?_
    refine lv_iconst (v := 0) hx hb dX1_lettersBehind_118 (by decide) ?_
    obtain rfl := some_e h
    exact rtI C hr hw dX1_lettersBehind_119
  replace h := (if_neg c11).symm.trans h
  by_cases c12 : a_0 = 109
  · replace h := (if_pos c12).symm.trans h
    refine lv_tableIn (tgt := 118) hx hb dX1_lettersBehind_1 (by rw [c12]; decide) (by rw [c12]; decide) (by rw [c12]; rfl) (by decide) ?_
    refine lv_iconst (v := 0) hx hb dX1_lettersBehind_118 (by decide) ?_
    obtain rfl := some_e h
    exact rtI C hr hw dX1_lettersBehind_119
  replace h := (if_neg c12).symm.trans h
  by_cases c13 : a_0 = 110
  · replace h := (if_pos c13).symm.trans h
    refine lv_tableIn (tgt := 110) hx hb dX1_lettersBehind_1 (by rw [c13]; decide) (by rw [c13]; decide) (by rw [c13]; rfl) (by decide) ?_
    refine lv_iconst (v := 3) hx hb dX1_lettersBehind_110 (by decide) ?_
    obtain rfl := some_e h
    exact rtI C hr hw dX1_lettersBehind_111
  replace h := (if_neg c13).symm.trans h
  by_cases c14 : a_0 = 111
  · replace h := (if_pos c14).symm.trans h
    refine lv_tableIn (tgt := 118) hx hb dX1_lettersBehind_1 (by rw [c14]; decide) (by rw [c14]; decide) (by rw [c14]; rfl) (by decide) ?_
    refine lv_iconst (v := 0) hx hb dX1_lettersBehind_118 (by decide) ?_
    obtain rfl := some_e h
    exact rtI C hr hw dX1_lettersBehind_119
  replace h := (if_neg c14).symm.trans h
  by_cases c15 : a_0 = 112
  · replace h := (if_pos c15).symm.trans h
    refine lv_tableIn (tgt := 106) hx hb dX1_lettersBehind_1 (by rw [c15]; decide) (by rw [c15]; decide) (by rw [c15]; rfl) (by decide) ?_
    refine lv_iconst (v := 4) hx hb dX1_lettersBehind_106 (by decide) ?_
    obtain rfl := some_e h
    exact rtI C hr hw dX1_lettersBehind_107
  replace h := (if_neg c15).symm.trans h
  by_cases c16 : a_0 = 113
  · replace h := (if_pos c16).symm.trans h
    refine lv_tableIn (tgt := 118) hx hb dX1_lettersBehind_1 (by rw [c16]; decide) (by rw [c16]; decide) (by rw [c16]; rfl) (by decide) ?_
    refine lv_iconst (v := 0) hx hb dX1_lettersBehind_118 (by decide) ?_
    obtain rfl := some_e h
    exact rtI C hr hw dX1_lettersBehind_119
  replace h := (if_neg c16).symm.trans h
  by_cases c17 : a_0 = 114
  · replace h := (if_pos c17).symm.trans h
    refine lv_tableIn (tgt := 104) hx hb dX1_lettersBehind_1 (by rw [c17]; decide) (by rw [c17]; decide) (by rw [c17]; rfl) (by decide) ?_
    refine lv_iconst (v := 4) hx hb dX1_lettersBehind_104 (by decide) ?_
    obtain rfl := some_e h
    exact rtI C hr hw dX1_lettersBehind_105
  replace h := (if_neg c17).symm.trans h
  by_cases c18 : a_0 = 115
  · replace h := (if_pos c18).symm.trans h
    refine lv_tableIn (tgt := 112) hx hb dX1_lettersBehind_1 (by rw [c18]; decide) (by rw [c18]; decide) (by rw [c18]; rfl) (by decide) ?_
    refine lv_iconst (v := 2) hx hb dX1_lettersBehind_112 (by decide) ?_
    obtain rfl := some_e h
    exact rtI C hr hw dX1_lettersBehind_113
  replace h := (if_neg c18).symm.trans h
  by_cases c19 : a_0 = 116
  · replace h := (if_pos c19).symm.trans h
    refine lv_tableIn (tgt := 118) hx hb dX1_lettersBehind_1 (by rw [c19]; decide) (by rw [c19]; decide) (by rw [c19]; rfl) (by decide) ?_
    refine lv_iconst (v := 0) hx hb dX1_lettersBehind_118 (by decide) ?_
    obtain rfl := some_e h
    exact rtI C hr hw dX1_lettersBehind_119
  replace h := (if_neg c19).symm.trans h
  by_cases c20 : a_0 = 117
  · replace h := (if_pos c20).symm.trans h
    refine lv_tableIn (tgt := 118) hx hb dX1_lettersBehind_1 (by rw [c20]; decide) (by rw [c20]; decide) (by rw [c20]; rfl) (by decide) ?_
    refine lv_iconst (v := 0) hx hb dX1_lettersBehind_118 (by decide) ?_
    obtain rfl := some_e h
    exact rtI C hr hw dX1_lettersBehind_119
  replace h := (if_neg c20).symm.trans h
  by_cases c21 : a_0 = 118
  · replace h := (if_pos c21).symm.trans h
    refine lv_tableIn (tgt := 118) hx hb dX1_lettersBehind_1 (by rw [c21]; decide) (by rw [c21]; decide) (by rw [c21]; rfl) (by decide) ?_
    refine lv_iconst (v := 0) hx hb dX1_lettersBehind_118 (by decide) ?_
    obtain rfl := some_e h
    exact rtI C hr hw dX1_lettersBehind_119
  replace h := (if_neg c21).symm.trans h
  by_cases c22 : a_0 = 119
  · replace h := (if_pos c22).symm.trans h
    refine lv_tableIn (tgt := 114) hx hb dX1_lettersBehind_1 (by rw [c22]; decide) (by rw [c22]; decide) (by rw [c22]; rfl) (by decide) ?_
    refine lv_iconst (v := 2) hx hb dX1_lettersBehind_114 (by decide) ?_
    obtain rfl := some_e h
    exact rtI C hr hw dX1_lettersBehind_115
  replace h := (if_neg c22).symm.trans h
  have hout : (a_0 : Int32).toInt < 98 ∨ 119 < (a_0 : Int32).toInt := sw_out (fun k h1 h2 => by
    have hk : k = 98 ∨ k = 99 ∨ k = 100 ∨ k = 101 ∨ k = 102 ∨ k = 103 ∨ k = 104 ∨ k = 105 ∨ k = 106 ∨ k = 107 ∨ k = 108 ∨ k = 109 ∨ k = 110 ∨ k = 111 ∨ k = 112 ∨ k = 113 ∨ k = 114 ∨ k = 115 ∨ k = 116 ∨ k = 117 ∨ k = 118 ∨ k = 119 := by omega
    rcases hk with rfl | rfl | rfl | rfl | rfl | rfl | rfl | rfl | rfl | rfl | rfl | rfl | rfl | rfl | rfl | rfl | rfl | rfl | rfl | rfl | rfl | rfl
    · exact sw_ne c1 (by decide)
    · exact sw_ne c2 (by decide)
    · exact sw_ne c3 (by decide)
    · exact sw_ne c4 (by decide)
    · exact sw_ne c5 (by decide)
    · exact sw_ne c6 (by decide)
    · exact sw_ne c7 (by decide)
    · exact sw_ne c8 (by decide)
    · exact sw_ne c9 (by decide)
    · exact sw_ne c10 (by decide)
    · exact sw_ne c11 (by decide)
    · exact sw_ne c12 (by decide)
    · exact sw_ne c13 (by decide)
    · exact sw_ne c14 (by decide)
    · exact sw_ne c15 (by decide)
    · exact sw_ne c16 (by decide)
    · exact sw_ne c17 (by decide)
    · exact sw_ne c18 (by decide)
    · exact sw_ne c19 (by decide)
    · exact sw_ne c20 (by decide)
    · exact sw_ne c21 (by decide)
    · exact sw_ne c22 (by decide))
  refine lv_tableOut (tgt := 118) hx hb dX1_lettersBehind_1 hout (by decide) ?_
  refine lv_iconst (v := 0) hx hb dX1_lettersBehind_118 (by decide) ?_
  obtain rfl := some_e h
  exact rtI C hr hw dX1_lettersBehind_119
abbrev rmX1_canStand : Room := { frames := 5, cells := 0, slots := 0, locals := 116 }
theorem hdX1_canStand : yX1_canStand.cls ≠ "java/lang/invoke/MethodHandle" ∧ yX1_canStand.cls ≠ "java/lang/invoke/VarHandle" ∧ (parseMethodDescriptor yX1_canStand.desc).map (fun d => d.parameters.length) = some 3 := by decide +kernel
def GX1_canStand_41 (p : Program) (l : Launch) (e : Env) (s : State) (m : MethodId) (args : Array Value) (below : List Frame) (meth : Method) (c : Code) (D : va_G) (cA : ClassId) (A : Nat → Prop)  (z : Int32) (x : (Int32)) : Prop := ∀ (H : Heap) (locs : List Loc) (ls : Array Slot), Wd D A s.heap ([] : va_W) H locs → lv_has ls 3 [(0, .int x)] → W p l e rmX1_canStand s m args below meth c H locs 0 0 (MQ below (QI D cA A z ([] : va_W)) args s 0 0 A) (F0 m 41 ls [])
def fX1_canStand_41 : ((Int32)) → Option Int32 := fun x_0 => if x_0 < 48 then some 0 else if 57 < x_0 then some 0 else some 1
def fX1_canStand (a_0 : Int32) (a_1 : Int32) (a_2 : Int32) : Option Int32 := if a_2 = 1 then if a_0 = 59 then some 1 else some 0 else if a_1 = 114 then if a_2 = 4 then cl (fX1_kindOf a_0) (fun r4 => if r4 < 0 then some 0 else some 1) else fX1_canStand_41 a_0 else fX1_canStand_41 a_0
set_option maxHeartbeats 4000000 in
set_option maxRecDepth 100000 in
theorem kX1_canStand_41 (C : Cx p s m args meth c cX1_canStand 3 RX1 D cA g A) (hr : meth.sig.returnType = (some .boolean)) {z : Int32} (x : (Int32)) (h : fX1_canStand_41 x = some z) : GX1_canStand_41 p l e s m args below meth c D cA A  z x := by
  obtain ⟨x_0, rfl⟩ : ∃ y, y = x := ⟨_, rfl⟩
  intro H locs ls hw hl
  have hw : Wd D A s.heap ([] : va_W) H locs := hw
  have hl : lv_has ls 3 [(0, .int x_0)] := hl
  have hx := C.1.1
  have hb := C.1.2.1
  have h : (if x_0 < 48 then some 0 else if 57 < x_0 then some 0 else some 1) = some z := h
  refine lv_iload_n hx hb dX1_canStand_41 rfl (lv_at hl 0 rfl) ?_
  refine lv_bipush (v := 48) hx hb dX1_canStand_42 (by decide) ?_
  refine lv_icmp_lt (tgt := 57) hx hb dX1_canStand_44 (by decide) (fun c1 => ?_) (fun c1 => ?_)
  · replace h := (if_pos c1).symm.trans h
    refine lv_iconst (v := 0) hx hb dX1_canStand_57 (by decide) ?_
    obtain rfl := some_e h
    exact rtZ C hr nz0 hw dX1_canStand_58
  · replace h := (if_neg c1).symm.trans h
    refine lv_iload_n hx hb dX1_canStand_47 rfl (lv_at hl 0 rfl) ?_
    refine lv_bipush (v := 57) hx hb dX1_canStand_48 (by decide) ?_
    refine lv_icmp_gt (tgt := 57) hx hb dX1_canStand_50 (by decide) (fun c2 => ?_) (fun c2 => ?_)
    · replace h := (if_pos c2).symm.trans h
      refine lv_iconst (v := 0) hx hb dX1_canStand_57 (by decide) ?_
      obtain rfl := some_e h
      exact rtZ C hr nz0 hw dX1_canStand_58
    · replace h := (if_neg c2).symm.trans h
      refine lv_iconst (v := 1) hx hb dX1_canStand_53 (by decide) ?_
      refine lv_goto (tgt := 58) hx hb dX1_canStand_54 (by decide) ?_
      obtain rfl := some_e h
      exact rtZ C hr nz1 hw dX1_canStand_58
set_option maxHeartbeats 4000000 in
set_option maxRecDepth 100000 in
theorem kX1_canStand  {a_0 : Int32} {a_1 : Int32} {a_2 : Int32} {z : Int32} (h : fX1_canStand a_0 a_1 a_2 = some z) : MI l D cA g yX1_canStand (Cond.code yX1_canStand cX1_canStand 3 (some .boolean) :: lw_g) rmX1_canStand [.int a_0, .int a_1, .int a_2] ([] : va_W) z ([] : va_W) := by
  intro sz
  refine Met.ofW (cc := cX1_canStand) (maxL := 3) (ret := (some .boolean)) (by decide) rfl ?_
  intro p e s m args below meth c s₁ B hml hv
  obtain ⟨rfl, C, hr, hw⟩ := ent B hml hv
  generalize va_A ([] : va_W) sz = A at C hw ⊢
  have hl := lv_entry ([.int a_0, .int a_1, .int a_2]) (n := 3) (Nat.le_of_ble_eq_true rfl)
  rw [lg_entry_eq]
  generalize (lg_sl ([.int a_0, .int a_1, .int a_2]) ++ List.replicate (3 - (lg_sl ([.int a_0, .int a_1, .int a_2])).length) Slot.unset).toArray = ls at hl ⊢
  have hl : lv_has ls 3 [(0, .int a_0), (1, .int a_1), (2, .int a_2)] := hl
  have hx := C.1.1
  have hb := C.1.2.1
  have h : (if a_2 = 1 then if a_0 = 59 then some 1 else some 0 else if a_1 = 114 then if a_2 = 4 then cl (fX1_kindOf a_0) (fun r4 => if r4 < 0 then some 0 else some 1) else fX1_canStand_41 a_0 else fX1_canStand_41 a_0) = some z := h
  refine lv_iload_n hx hb dX1_canStand_0 rfl (lv_at hl 2 rfl) ?_
  refine lv_iconst (v := 1) hx hb dX1_canStand_1 (by decide) ?_
  refine lv_icmp_ne (tgt := 17) hx hb dX1_canStand_2 (by decide) (fun c1 => ?_) (fun c1 => ?_)
  · replace h := (if_neg c1).symm.trans h
    refine lv_iload_n hx hb dX1_canStand_17 rfl (lv_at hl 1 rfl) ?_
    refine lv_bipush (v := 114) hx hb dX1_canStand_18 (by decide) ?_
    refine lv_icmp_ne (tgt := 41) hx hb dX1_canStand_20 (by decide) (fun c2 => ?_) (fun c2 => ?_)
    · replace h := (if_neg c2).symm.trans h
      exact kX1_canStand_41 C hr a_0 h _ _ _ hw (lv_sub hl [0] rfl)
    · replace h := (if_pos c2).symm.trans h
      refine lv_iload_n hx hb dX1_canStand_23 rfl (lv_at hl 2 rfl) ?_
      refine lv_iconst (v := 4) hx hb dX1_canStand_24 (by decide) ?_
      refine lv_icmp_ne (tgt := 41) hx hb dX1_canStand_25 (by decide) (fun c3 => ?_) (fun c3 => ?_)
      · replace h := (if_neg c3).symm.trans h
        exact kX1_canStand_41 C hr a_0 h _ _ _ hw (lv_sub hl [0] rfl)
      · replace h := (if_pos c3).symm.trans h
        refine lv_iload_n hx hb dX1_canStand_28 rfl (lv_at hl 0 rfl) ?_
        obtain ⟨r4, hr4, h⟩ := cl_some h
        refine cSi (ws2 := ([] : va_W)) (As := [.int a_0]) (rest := []) C hw jnE (kX1_kindOf hr4) kl_RX1_256 kt_yX1_kindOf kn_RX1 kc_yX1_kindOf ⟨rfl, rfl⟩ hdX1_kindOf ⟨Nat.le_of_ble_eq_true rfl, Nat.le_of_ble_eq_true rfl⟩ rfl hl.1 (Nat.le_of_ble_eq_true rfl) dX1_canStand_29 ⟨Nat.zero_le _, Nat.zero_le _⟩ (fun H locs hw => ?_)
        refine lv_if_lt (tgt := 39) hx hb dX1_canStand_32 (by decide) (fun c5 => ?_) (fun c5 => ?_)
        · replace h := (if_pos c5).symm.trans h
          refine lv_iconst (v := 0) hx hb dX1_canStand_39 (by decide) ?_
          obtain rfl := some_e h
          exact rtZ C hr nz0 hw dX1_canStand_40
        · replace h := (if_neg c5).symm.trans h
          refine lv_iconst (v := 1) hx hb dX1_canStand_35 (by decide) ?_
          refine lv_goto (tgt := 40) hx hb dX1_canStand_36 (by decide) ?_
          obtain rfl := some_e h
          exact rtZ C hr nz1 hw dX1_canStand_40
  · replace h := (if_pos c1).symm.trans h
    refine lv_iload_n hx hb dX1_canStand_5 rfl (lv_at hl 0 rfl) ?_
    refine lv_bipush (v := 59) hx hb dX1_canStand_6 (by decide) ?_
    refine lv_icmp_ne (tgt := 15) hx hb dX1_canStand_8 (by decide) (fun c6 => ?_) (fun c6 => ?_)
    · replace h := (if_neg c6).symm.trans h
      refine lv_iconst (v := 0) hx hb dX1_canStand_15 (by decide) ?_
      obtain rfl := some_e h
      exact rtZ C hr nz0 hw dX1_canStand_16
    · replace h := (if_pos c6).symm.trans h
      refine lv_iconst (v := 1) hx hb dX1_canStand_11 (by decide) ?_
      refine lv_goto (tgt := 16) hx hb dX1_canStand_12 (by decide) ?_
      obtain rfl := some_e h
      exact rtZ C hr nz1 hw dX1_canStand_16
abbrev rmX1_wrongLetter : Room := { frames := 6, cells := 0, slots := 0, locals := 138 }
theorem hdX1_wrongLetter : yX1_wrongLetter.cls = RX1 ∧ yX1_wrongLetter.cls ≠ "java/lang/invoke/MethodHandle" ∧ yX1_wrongLetter.cls ≠ "java/lang/invoke/VarHandle" ∧ (parseMethodDescriptor yX1_wrongLetter.desc).map (fun d => d.parameters.length) = some 1 := by decide +kernel
def GX1_wrongLetter_73 (p : Program) (l : Launch) (e : Env) (s : State) (m : MethodId) (args : Array Value) (below : List Frame) (meth : Method) (c : Code) (D : va_G) (cA : ClassId) (A : Nat → Prop) (ad : Nat → Nat) (X : Nat → VS) (z : Int32) (x : (Int32)) : Prop := ∀ (H : Heap) (locs : List Loc) (ls : Array Slot), Wd D A s.heap (wR cA ad X) H locs → lv_has ls 6 [(1, .int x)] → W p l e rmX1_wrongLetter s m args below meth c H locs 0 0 (MQ below (QI D cA A z (wR cA ad X)) args s 0 0 A) (F0 m 73 ls [])
def GX1_wrongLetter_59 (p : Program) (l : Launch) (e : Env) (s : State) (m : MethodId) (args : Array Value) (below : List Frame) (meth : Method) (c : Code) (D : va_G) (cA : ClassId) (A : Nat → Prop) (ad : Nat → Nat) (X : Nat → VS) (z : Int32) (x : (Int32) × (Int32) × (Int32) × (Int32)) : Prop := ∀ (H : Heap) (locs : List Loc) (ls : Array Slot), Wd D A s.heap (wR cA ad X) H locs → lv_has ls 6 [(0, .ref (ad 0)), (1, .int x.1), (2, .int x.2.1), (3, .int x.2.2.1), (4, .int x.2.2.2)] → W p l e rmX1_wrongLetter s m args below meth c H locs 0 0 (MQ below (QI D cA A z (wR cA ad X)) args s 0 0 A) (F0 m 59 ls [])
def GX1_wrongLetter_8 (p : Program) (l : Launch) (e : Env) (s : State) (m : MethodId) (args : Array Value) (below : List Frame) (meth : Method) (c : Code) (D : va_G) (cA : ClassId) (A : Nat → Prop) (ad : Nat → Nat) (X : Nat → VS) (z : Int32) (x : (Int32) × (Int32) × (Int32) × (Int32)) : Prop := ∀ (H : Heap) (locs : List Loc) (ls : Array Slot), Wd D A s.heap (wR cA ad X) H locs → lv_has ls 6 [(0, .ref (ad 0)), (1, .int x.1), (2, .int x.2.1), (3, .int x.2.2.1), (4, .int x.2.2.2)] → W p l e rmX1_wrongLetter s m args below meth c H locs 0 0 (MQ below (QI D cA A z (wR cA ad X)) args s 0 0 A) (F0 m 8 ls [])
def fX1_wrongLetter_73 (X : Nat → VS) : ((Int32)) → Option Int32 := fun x_1 => some x_1
def fX1_wrongLetter_59 (X : Nat → VS) (k8 : ((Int32) × (Int32) × (Int32) × (Int32)) → Option Int32) : ((Int32) × (Int32) × (Int32) × (Int32)) → Option Int32 := fun x => match x with | (x_1, x_2, x_3, x_4) => bn (x_4 + 1) (fun x1 => k8 (x_1, x_2, x_3, x1))
def fX1_wrongLetter_8 (X : Nat → VS) (k8 : ((Int32) × (Int32) × (Int32) × (Int32)) → Option Int32) : ((Int32) × (Int32) × (Int32) × (Int32)) → Option Int32 := fun x => match x with | (x_1, x_2, x_3, x_4) => if x_1 ≤ x_4 then if 0 < x_3 then fX1_wrongLetter_73 X x_1 else if x_1 = 0 then fX1_wrongLetter_73 X x_1 else some (-1) else rd 96 (X 3 4) x_4 (fun r4 => if x_3 = 0 then cl (fX1_lettersBehind r4) (fun r9 => if r9 = 0 then some x_4 else fX1_wrongLetter_59 X k8 (x_1, r4, r9, x_4)) else cl (fX1_canStand r4 x_2 x_3) (fun r6 => if r6 = 0 then some x_4 else bn (x_3 + (-1)) (fun x8 => fX1_wrongLetter_59 X k8 (x_1, x_2, x8, x_4))))
def fX1_wrongLetter (X : Nat → VS) (a_1 : Int32) : Option Int32 := lp (fX1_wrongLetter_8 X) 5000 (a_1, 59, 0, 0)
set_option maxHeartbeats 4000000 in
set_option maxRecDepth 100000 in
theorem kX1_wrongLetter_73 (C : Cx p s m args meth c cX1_wrongLetter 6 RX1 D cA g A) (hr : meth.sig.returnType = (some .int)) {z : Int32} (X : Nat → VS) (x : (Int32)) (h : fX1_wrongLetter_73 X x = some z) : GX1_wrongLetter_73 p l e s m args below meth c D cA A ad X z x := by
  obtain ⟨x_1, rfl⟩ : ∃ y, y = x := ⟨_, rfl⟩
  intro H locs ls hw hl
  have hw : Wd D A s.heap (wR cA ad X) H locs := hw
  have hl : lv_has ls 6 [(1, .int x_1)] := hl
  have hx := C.1.1
  have hb := C.1.2.1
  have h : (some x_1) = some z := h
  refine lv_iload_n hx hb dX1_wrongLetter_73 rfl (lv_at hl 0 rfl) ?_
  refine lv_goto (tgt := 78) hx hb dX1_wrongLetter_74 (by decide) ?_
  obtain rfl := some_e h
  exact rtI C hr hw dX1_wrongLetter_78
set_option maxHeartbeats 4000000 in
set_option maxRecDepth 100000 in
theorem kX1_wrongLetter_59 (C : Cx p s m args meth c cX1_wrongLetter 6 RX1 D cA g A) (hr : meth.sig.returnType = (some .int)) {z : Int32} (X : Nat → VS) (k8 : ((Int32) × (Int32) × (Int32) × (Int32)) → Option Int32) (hk8 : ∀ x, k8 x = some z → GX1_wrongLetter_8 p l e s m args below meth c D cA A ad X z x) (x : (Int32) × (Int32) × (Int32) × (Int32)) (h : fX1_wrongLetter_59 X k8 x = some z) : GX1_wrongLetter_59 p l e s m args below meth c D cA A ad X z x := by
  obtain ⟨x_1, x_2, x_3, x_4⟩ := x
  intro H locs ls hw hl
  have hw : Wd D A s.heap (wR cA ad X) H locs := hw
  have hl : lv_has ls 6 [(0, .ref (ad 0)), (1, .int x_1), (2, .int x_2), (3, .int x_3), (4, .int x_4)] := hl
  have hx := C.1.1
  have hb := C.1.2.1
  have h : (bn (x_4 + 1) (fun x1 => k8 (x_1, x_2, x_3, x1))) = some z := h
  obtain ⟨x1, ex1⟩ : ∃ y : Int32, y = x_4 + 1 := ⟨_, rfl⟩
  replace h := bn_some h ex1
  refine lv_iinc (v := x1) (lv' := [(4, .int x1), (0, .ref (ad 0)), (1, .int x_1), (2, .int x_2), (3, .int x_3)]) hx hb dX1_wrongLetter_59 hl (k := 4) rfl (by rw [ex1]; rfl) (by decide) rfl (fun ls hl => ?_)
  refine lv_goto (tgt := 8) hx hb dX1_wrongLetter_62 (by decide) ?_
  exact hk8 (x_1, x_2, x_3, x1) h _ _ _ hw (lv_sub hl [1, 2, 3, 4, 0] rfl)
set_option maxHeartbeats 4000000 in
set_option maxRecDepth 100000 in
theorem kX1_wrongLetter_8 (C : Cx p s m args meth c cX1_wrongLetter 6 RX1 D cA g A) (hr : meth.sig.returnType = (some .int)) {z : Int32} (X : Nat → VS) (k8 : ((Int32) × (Int32) × (Int32) × (Int32)) → Option Int32) (hk8 : ∀ x, k8 x = some z → GX1_wrongLetter_8 p l e s m args below meth c D cA A ad X z x) (x : (Int32) × (Int32) × (Int32) × (Int32)) (h : fX1_wrongLetter_8 X k8 x = some z) : GX1_wrongLetter_8 p l e s m args below meth c D cA A ad X z x := by
  obtain ⟨x_1, x_2, x_3, x_4⟩ := x
  intro H locs ls hw hl
  have hw : Wd D A s.heap (wR cA ad X) H locs := hw
  have hl : lv_has ls 6 [(0, .ref (ad 0)), (1, .int x_1), (2, .int x_2), (3, .int x_3), (4, .int x_4)] := hl
  have hx := C.1.1
  have hb := C.1.2.1
  have h : (if x_1 ≤ x_4 then if 0 < x_3 then fX1_wrongLetter_73 X x_1 else if x_1 = 0 then fX1_wrongLetter_73 X x_1 else some (-1) else rd 96 (X 3 4) x_4 (fun r4 => if x_3 = 0 then cl (fX1_lettersBehind r4) (fun r9 => if r9 = 0 then some x_4 else fX1_wrongLetter_59 X k8 (x_1, r4, r9, x_4)) else cl (fX1_canStand r4 x_2 x_3) (fun r6 => if r6 = 0 then some x_4 else bn (x_3 + (-1)) (fun x8 => fX1_wrongLetter_59 X k8 (x_1, x_2, x8, x_4))))) = some z := h
  refine lv_iload hx hb dX1_wrongLetter_8 (lv_at hl 4 rfl) ?_
  refine lv_iload_n hx hb dX1_wrongLetter_10 rfl (lv_at hl 1 rfl) ?_
  refine lv_icmp_ge (tgt := 65) hx hb dX1_wrongLetter_11 (by decide) (fun c1 => ?_) (fun c1 => ?_)
  · replace h := (if_pos c1).symm.trans h
    refine lv_iload_n hx hb dX1_wrongLetter_65 rfl (lv_at hl 3 rfl) ?_
    refine lv_if_gt (tgt := 73) hx hb dX1_wrongLetter_66 (by decide) (fun c2 => ?_) (fun c2 => ?_)
    · replace h := (if_pos c2).symm.trans h
      exact kX1_wrongLetter_73 C hr X x_1 h _ _ _ hw (lv_sub hl [1] rfl)
    · replace h := (if_neg c2).symm.trans h
      refine lv_iload_n hx hb dX1_wrongLetter_69 rfl (lv_at hl 1 rfl) ?_
      refine lv_if_ne (tgt := 77) hx hb dX1_wrongLetter_70 (by decide) (fun c3 => ?_) (fun c3 => ?_)
      · replace h := (if_neg c3).symm.trans h
        refine lv_iconst (v := (-1)) hx hb dX1_wrongLetter_77 (by decide) ?_
        obtain rfl := some_e h
        exact rtI C hr hw dX1_wrongLetter_78
      · replace h := (if_pos c3).symm.trans h
        exact kX1_wrongLetter_73 C hr X x_1 h _ _ _ hw (lv_sub hl [1] rfl)
  · replace h := (if_neg c1).symm.trans h
    refine lv_aload_n hx hb dX1_wrongLetter_14 rfl (lv_at hl 0 rfl) ?_
    refine tGet (T := TX1) (N := 12) (ci := 1) C hw inX1 4 0 rfl (by decide) kf_RX1_26 rfl rfl rfl dX1_wrongLetter_15 ?_
    refine lv_iload hx hb dX1_wrongLetter_18 (lv_at hl 4 rfl) ?_
    obtain ⟨r4, ir4, er4, h⟩ := rd_some h
    refine tLd C hw 22 rfl ir4 er4 dX1_wrongLetter_20 ?_
    refine lv_istore (lv' := [(5, .int r4), (0, .ref (ad 0)), (1, .int x_1), (2, .int x_2), (3, .int x_3), (4, .int x_4)]) hx hb dX1_wrongLetter_21 hl (by decide) rfl (fun ls hl => ?_)
    refine lv_iload_n hx hb dX1_wrongLetter_23 rfl (lv_at hl 4 rfl) ?_
    refine lv_if_ne (tgt := 43) hx hb dX1_wrongLetter_24 (by decide) (fun c5 => ?_) (fun c5 => ?_)
    · replace h := (if_neg c5).symm.trans h
      refine lv_iload hx hb dX1_wrongLetter_43 (lv_at hl 0 rfl) ?_
      refine lv_iload_n hx hb dX1_wrongLetter_45 rfl (lv_at hl 3 rfl) ?_
      refine lv_iload_n hx hb dX1_wrongLetter_46 rfl (lv_at hl 4 rfl) ?_
      obtain ⟨r6, hr6, h⟩ := cl_some h
      refine cSi (ws2 := (wR cA ad X)) (As := [.int r4, .int x_2, .int x_3]) (rest := []) C hw jnE (kX1_canStand hr6) kl_RX1_253 kt_yX1_canStand kn_RX1 kc_yX1_canStand ⟨rfl, rfl⟩ hdX1_canStand ⟨Nat.le_of_ble_eq_true rfl, Nat.le_of_ble_eq_true rfl⟩ rfl hl.1 (Nat.le_of_ble_eq_true rfl) dX1_wrongLetter_47 ⟨Nat.zero_le _, Nat.zero_le _⟩ (fun H locs hw => ?_)
      refine lv_if_ne (tgt := 56) hx hb dX1_wrongLetter_50 (by decide) (fun c7 => ?_) (fun c7 => ?_)
      · replace h := (if_neg c7).symm.trans h
        obtain ⟨x8, ex8⟩ : ∃ y : Int32, y = x_3 + (-1) := ⟨_, rfl⟩
        replace h := bn_some h ex8
        refine lv_iinc (v := x8) (lv' := [(3, .int x8), (5, .int r4), (0, .ref (ad 0)), (1, .int x_1), (2, .int x_2), (4, .int x_4)]) hx hb dX1_wrongLetter_56 hl (k := 4) rfl (by rw [ex8]; rfl) (by decide) rfl (fun ls hl => ?_)
        exact kX1_wrongLetter_59 C hr X k8 hk8 (x_1, x_2, x8, x_4) h _ _ _ hw (lv_sub hl [2, 3, 4, 0, 5] rfl)
      · replace h := (if_pos c7).symm.trans h
        refine lv_iload hx hb dX1_wrongLetter_53 (lv_at hl 5 rfl) ?_
        obtain rfl := some_e h
        exact rtI C hr hw dX1_wrongLetter_55
    · replace h := (if_pos c5).symm.trans h
      refine lv_iload hx hb dX1_wrongLetter_27 (lv_at hl 0 rfl) ?_
      refine lv_istore_n (lv' := [(2, .int r4), (5, .int r4), (0, .ref (ad 0)), (1, .int x_1), (3, .int x_3), (4, .int x_4)]) hx hb dX1_wrongLetter_29 rfl hl (by decide) rfl (fun ls hl => ?_)
      refine lv_iload hx hb dX1_wrongLetter_30 (lv_at hl 1 rfl) ?_
      obtain ⟨r9, hr9, h⟩ := cl_some h
      refine cSi (ws2 := (wR cA ad X)) (As := [.int r4]) (rest := []) C hw jnE (kX1_lettersBehind hr9) kl_RX1_67 kt_yX1_lettersBehind kn_RX1 kc_yX1_lettersBehind ⟨rfl, rfl⟩ hdX1_lettersBehind ⟨Nat.le_of_ble_eq_true rfl, Nat.le_of_ble_eq_true rfl⟩ rfl hl.1 (Nat.le_of_ble_eq_true rfl) dX1_wrongLetter_32 ⟨Nat.zero_le _, Nat.zero_le _⟩ (fun H locs hw => ?_)
      refine lv_istore_n (lv' := [(3, .int r9), (2, .int r4), (5, .int r4), (0, .ref (ad 0)), (1, .int x_1), (4, .int x_4)]) hx hb dX1_wrongLetter_35 rfl hl (by decide) rfl (fun ls hl => ?_)
      refine lv_iload_n hx hb dX1_wrongLetter_36 rfl (lv_at hl 0 rfl) ?_
      refine lv_if_ne (tgt := 59) hx hb dX1_wrongLetter_37 (by decide) (fun c10 => ?_) (fun c10 => ?_)
      · replace h := (if_neg c10).symm.trans h
        exact kX1_wrongLetter_59 C hr X k8 hk8 (x_1, r4, r9, x_4) h _ _ _ hw (lv_sub hl [3, 4, 1, 0, 5] rfl)
      · replace h := (if_pos c10).symm.trans h
        refine lv_iload hx hb dX1_wrongLetter_40 (lv_at hl 5 rfl) ?_
        obtain rfl := some_e h
        exact rtI C hr hw dX1_wrongLetter_42
theorem lX1_wrongLetter_8 (C : Cx p s m args meth c cX1_wrongLetter 6 RX1 D cA g A) (hr : meth.sig.returnType = (some .int)) {z : Int32} (X : Nat → VS) (n : Nat) (x : (Int32) × (Int32) × (Int32) × (Int32)) (h : lp (fX1_wrongLetter_8 X) n x = some z) : GX1_wrongLetter_8 p l e s m args below meth c D cA A ad X z x := lp_ok (GX1_wrongLetter_8 p l e s m args below meth c D cA A ad X z) (fun kq hkq x h => kX1_wrongLetter_8 C hr X kq hkq x h) n x h
set_option maxHeartbeats 4000000 in
set_option maxRecDepth 100000 in
theorem kX1_wrongLetter (ad : Nat → Nat) {X : Nat → VS} {a_1 : Int32} {z : Int32} (h : fX1_wrongLetter X a_1 = some z) : MI l D cA g yX1_wrongLetter (Cond.code yX1_wrongLetter cX1_wrongLetter 6 (some .int) :: lw_g) rmX1_wrongLetter [.ref (ad 0), .int a_1] (wR cA ad X) z (wR cA ad X) := by
  intro sz
  refine Met.ofW (cc := cX1_wrongLetter) (maxL := 6) (ret := (some .int)) (by decide) rfl ?_
  intro p e s m args below meth c s₁ B hml hv
  obtain ⟨rfl, C, hr, hw⟩ := ent B hml hv
  generalize va_A (wR cA ad X) sz = A at C hw ⊢
  have hl := lv_entry ([.ref (ad 0), .int a_1]) (n := 6) (Nat.le_of_ble_eq_true rfl)
  rw [lg_entry_eq]
  generalize (lg_sl ([.ref (ad 0), .int a_1]) ++ List.replicate (6 - (lg_sl ([.ref (ad 0), .int a_1])).length) Slot.unset).toArray = ls at hl ⊢
  have hl : lv_has ls 6 [(0, .ref (ad 0)), (1, .int a_1)] := hl
  have hx := C.1.1
  have hb := C.1.2.1
  have h : (lp (fX1_wrongLetter_8 X) 5000 (a_1, 59, 0, 0)) = some z := h
  refine lv_bipush (v := 59) hx hb dX1_wrongLetter_0 (by decide) ?_
  refine lv_istore_n (lv' := [(2, .int 59), (0, .ref (ad 0)), (1, .int a_1)]) hx hb dX1_wrongLetter_2 rfl hl (by decide) rfl (fun ls hl => ?_)
  refine lv_iconst (v := 0) hx hb dX1_wrongLetter_3 (by decide) ?_
  refine lv_istore_n (lv' := [(3, .int 0), (2, .int 59), (0, .ref (ad 0)), (1, .int a_1)]) hx hb dX1_wrongLetter_4 rfl hl (by decide) rfl (fun ls hl => ?_)
  refine lv_iconst (v := 0) hx hb dX1_wrongLetter_5 (by decide) ?_
  refine lv_istore (lv' := [(4, .int 0), (3, .int 0), (2, .int 59), (0, .ref (ad 0)), (1, .int a_1)]) hx hb dX1_wrongLetter_6 hl (by decide) rfl (fun ls hl => ?_)
  exact lX1_wrongLetter_8 C hr X 5000 (a_1, 59, 0, 0) h _ _ _ hw (lv_sub hl [3, 4, 2, 1, 0] rfl)
abbrev rmX1_numberAt : Room := { frames := 0, cells := 0, slots := 0, locals := 0 }
theorem hdX1_numberAt : yX1_numberAt.cls = RX1 ∧ yX1_numberAt.cls ≠ "java/lang/invoke/MethodHandle" ∧ yX1_numberAt.cls ≠ "java/lang/invoke/VarHandle" ∧ (parseMethodDescriptor yX1_numberAt.desc).map (fun d => d.parameters.length) = some 2 := by decide +kernel
def GX1_numberAt_5 (p : Program) (l : Launch) (e : Env) (s : State) (m : MethodId) (args : Array Value) (below : List Frame) (meth : Method) (c : Code) (D : va_G) (cA : ClassId) (A : Nat → Prop) (ad : Nat → Nat) (X : Nat → VS) (z : Int32) (x : (Int32) × (Int32) × (Int32) × (Int32)) : Prop := ∀ (H : Heap) (locs : List Loc) (ls : Array Slot), Wd D A s.heap (wR cA ad X) H locs → lv_has ls 5 [(0, .ref (ad 0)), (1, .int x.1), (2, .int x.2.1), (3, .int x.2.2.1), (4, .int x.2.2.2)] → W p l e rmX1_numberAt s m args below meth c H locs 0 0 (MQ below (QI D cA A z (wR cA ad X)) args s 0 0 A) (F0 m 5 ls [])
def fX1_numberAt_5 (X : Nat → VS) (k5 : ((Int32) × (Int32) × (Int32) × (Int32)) → Option Int32) : ((Int32) × (Int32) × (Int32) × (Int32)) → Option Int32 := fun x => match x with | (x_1, x_2, x_3, x_4) => if (x_1 + x_2) ≤ x_4 then some x_3 else if 96 ≤ x_4 then some x_3 else rd 96 (X 3 4) x_4 (fun r3 => bn (((10 : Int32) * x_3) + (r3 - (48 : Int32))) (fun x4 => bn (x_4 + 1) (fun x5 => k5 (x_1, x_2, x4, x5))))
def fX1_numberAt (X : Nat → VS) (a_1 : Int32) (a_2 : Int32) : Option Int32 := lp (fX1_numberAt_5 X) 5000 (a_1, a_2, 0, a_1)
set_option maxHeartbeats 4000000 in
set_option maxRecDepth 100000 in
theorem kX1_numberAt_5 (C : Cx p s m args meth c cX1_numberAt 5 RX1 D cA g A) (hr : meth.sig.returnType = (some .int)) {z : Int32} (X : Nat → VS) (k5 : ((Int32) × (Int32) × (Int32) × (Int32)) → Option Int32) (hk5 : ∀ x, k5 x = some z → GX1_numberAt_5 p l e s m args below meth c D cA A ad X z x) (x : (Int32) × (Int32) × (Int32) × (Int32)) (h : fX1_numberAt_5 X k5 x = some z) : GX1_numberAt_5 p l e s m args below meth c D cA A ad X z x := by
  obtain ⟨x_1, x_2, x_3, x_4⟩ := x
  intro H locs ls hw hl
  have hw : Wd D A s.heap (wR cA ad X) H locs := hw
  have hl : lv_has ls 5 [(0, .ref (ad 0)), (1, .int x_1), (2, .int x_2), (3, .int x_3), (4, .int x_4)] := hl
  have hx := C.1.1
  have hb := C.1.2.1
  have h : (if (x_1 + x_2) ≤ x_4 then some x_3 else if 96 ≤ x_4 then some x_3 else rd 96 (X 3 4) x_4 (fun r3 => bn (((10 : Int32) * x_3) + (r3 - (48 : Int32))) (fun x4 => bn (x_4 + 1) (fun x5 => k5 (x_1, x_2, x4, x5))))) = some z := h
  refine lv_iload hx hb dX1_numberAt_5 (lv_at hl 4 rfl) ?_
  refine lv_iload_n hx hb dX1_numberAt_7 rfl (lv_at hl 1 rfl) ?_
  refine lv_iload_n hx hb dX1_numberAt_8 rfl (lv_at hl 2 rfl) ?_
  refine lv_iadd hx hb dX1_numberAt_9 ?_
  refine lv_icmp_ge (tgt := 42) hx hb dX1_numberAt_10 (by decide) (fun c1 => ?_) (fun c1 => ?_)
  · replace h := (if_pos c1).symm.trans h
    refine lv_iload_n hx hb dX1_numberAt_42 rfl (lv_at hl 3 rfl) ?_
    obtain rfl := some_e h
    exact rtI C hr hw dX1_numberAt_43
  · replace h := (if_neg c1).symm.trans h
    refine lv_iload hx hb dX1_numberAt_13 (lv_at hl 4 rfl) ?_
    refine lv_bipush (v := 96) hx hb dX1_numberAt_15 (by decide) ?_
    refine lv_icmp_ge (tgt := 42) hx hb dX1_numberAt_17 (by decide) (fun c2 => ?_) (fun c2 => ?_)
    · replace h := (if_pos c2).symm.trans h
      refine lv_iload_n hx hb dX1_numberAt_42 rfl (lv_at hl 3 rfl) ?_
      obtain rfl := some_e h
      exact rtI C hr hw dX1_numberAt_43
    · replace h := (if_neg c2).symm.trans h
      refine lv_bipush (v := 10) hx hb dX1_numberAt_20 (by decide) ?_
      refine lv_iload_n hx hb dX1_numberAt_22 rfl (lv_at hl 3 rfl) ?_
      refine lv_imul hx hb dX1_numberAt_23 ?_
      refine lv_aload_n hx hb dX1_numberAt_24 rfl (lv_at hl 0 rfl) ?_
      refine tGet (T := TX1) (N := 12) (ci := 1) C hw inX1 4 0 rfl (by decide) kf_RX1_26 rfl rfl rfl dX1_numberAt_25 ?_
      refine lv_iload hx hb dX1_numberAt_28 (lv_at hl 4 rfl) ?_
      obtain ⟨r3, ir3, er3, h⟩ := rd_some h
      refine tLd C hw 22 rfl ir3 er3 dX1_numberAt_30 ?_
      refine lv_bipush (v := 48) hx hb dX1_numberAt_31 (by decide) ?_
      refine lv_isub hx hb dX1_numberAt_33 ?_
      refine lv_iadd hx hb dX1_numberAt_34 ?_
      refine lv_topi (fun x4 ex4 => ?_)
      replace h := bn_some h ex4
      refine lv_istore_n (lv' := [(3, .int x4), (0, .ref (ad 0)), (1, .int x_1), (2, .int x_2), (4, .int x_4)]) hx hb dX1_numberAt_35 rfl hl (by decide) rfl (fun ls hl => ?_)
      obtain ⟨x5, ex5⟩ : ∃ y : Int32, y = x_4 + 1 := ⟨_, rfl⟩
      replace h := bn_some h ex5
      refine lv_iinc (v := x5) (lv' := [(4, .int x5), (3, .int x4), (0, .ref (ad 0)), (1, .int x_1), (2, .int x_2)]) hx hb dX1_numberAt_36 hl (k := 4) rfl (by rw [ex5]; rfl) (by decide) rfl (fun ls hl => ?_)
      refine lv_goto (tgt := 5) hx hb dX1_numberAt_39 (by decide) ?_
      exact hk5 (x_1, x_2, x4, x5) h _ _ _ hw (lv_sub hl [2, 3, 4, 1, 0] rfl)
theorem lX1_numberAt_5 (C : Cx p s m args meth c cX1_numberAt 5 RX1 D cA g A) (hr : meth.sig.returnType = (some .int)) {z : Int32} (X : Nat → VS) (n : Nat) (x : (Int32) × (Int32) × (Int32) × (Int32)) (h : lp (fX1_numberAt_5 X) n x = some z) : GX1_numberAt_5 p l e s m args below meth c D cA A ad X z x := lp_ok (GX1_numberAt_5 p l e s m args below meth c D cA A ad X z) (fun kq hkq x h => kX1_numberAt_5 C hr X kq hkq x h) n x h
set_option maxHeartbeats 4000000 in
set_option maxRecDepth 100000 in
theorem kX1_numberAt (ad : Nat → Nat) {X : Nat → VS} {a_1 : Int32} {a_2 : Int32} {z : Int32} (h : fX1_numberAt X a_1 a_2 = some z) : MI l D cA g yX1_numberAt (Cond.code yX1_numberAt cX1_numberAt 5 (some .int) :: lw_g) rmX1_numberAt [.ref (ad 0), .int a_1, .int a_2] (wR cA ad X) z (wR cA ad X) := by
  intro sz
  refine Met.ofW (cc := cX1_numberAt) (maxL := 5) (ret := (some .int)) (by decide) rfl ?_
  intro p e s m args below meth c s₁ B hml hv
  obtain ⟨rfl, C, hr, hw⟩ := ent B hml hv
  generalize va_A (wR cA ad X) sz = A at C hw ⊢
  have hl := lv_entry ([.ref (ad 0), .int a_1, .int a_2]) (n := 5) (Nat.le_of_ble_eq_true rfl)
  rw [lg_entry_eq]
  generalize (lg_sl ([.ref (ad 0), .int a_1, .int a_2]) ++ List.replicate (5 - (lg_sl ([.ref (ad 0), .int a_1, .int a_2])).length) Slot.unset).toArray = ls at hl ⊢
  have hl : lv_has ls 5 [(0, .ref (ad 0)), (1, .int a_1), (2, .int a_2)] := hl
  have hx := C.1.1
  have hb := C.1.2.1
  have h : (lp (fX1_numberAt_5 X) 5000 (a_1, a_2, 0, a_1)) = some z := h
  refine lv_iconst (v := 0) hx hb dX1_numberAt_0 (by decide) ?_
  refine lv_istore_n (lv' := [(3, .int 0), (0, .ref (ad 0)), (1, .int a_1), (2, .int a_2)]) hx hb dX1_numberAt_1 rfl hl (by decide) rfl (fun ls hl => ?_)
  refine lv_iload_n hx hb dX1_numberAt_2 rfl (lv_at hl 2 rfl) ?_
  refine lv_istore (lv' := [(4, .int a_1), (3, .int 0), (0, .ref (ad 0)), (1, .int a_1), (2, .int a_2)]) hx hb dX1_numberAt_3 hl (by decide) rfl (fun ls hl => ?_)
  exact lX1_numberAt_5 C hr X 5000 (a_1, a_2, 0, a_1) h _ _ _ hw (lv_sub hl [2, 3, 4, 1, 0] rfl)
abbrev rmX1_rocketComes : Room := { frames := 5, cells := 0, slots := 0, locals := 116 }
theorem hdX1_rocketComes : yX1_rocketComes.cls = RX1 ∧ yX1_rocketComes.cls ≠ "java/lang/invoke/MethodHandle" ∧ yX1_rocketComes.cls ≠ "java/lang/invoke/VarHandle" ∧ (parseMethodDescriptor yX1_rocketComes.desc).map (fun d => d.parameters.length) = some 1 := by decide +kernel
def fX1_rocketComes (X : Nat → VS) (a_1 : Int32) : Option (Int32 × (Nat → VS)) := if (a_1 + (1 : Int32)) < 96 then rd 96 (X 3 4) (a_1 + (1 : Int32)) (fun r2 => cl (fX1_kindOf r2) (fun r3 => cl (fX1_numberAt X (a_1 + (2 : Int32)) 1) (fun r4 => cl (fX1_numberAt X (a_1 + (3 : Int32)) 1) (fun r5 => cl (fX0_addRocket (X 1) r3 r4 r5) (fun q6 => bn (up X 1 q6.2) (fun w7 => bz q6.1 (some (q6.1, w7)))))))) else some (0, X)
set_option maxHeartbeats 4000000 in
set_option maxRecDepth 100000 in
theorem kX1_rocketComes (ad : Nat → Nat) {X : Nat → VS} {a_1 : Int32} {z : (Int32 × (Nat → VS))} (h : fX1_rocketComes X a_1 = some z) : MI l D cA g yX1_rocketComes (Cond.code yX1_rocketComes cX1_rocketComes 2 (some .boolean) :: lw_g) rmX1_rocketComes [.ref (ad 0), .int a_1] (wR cA ad X) z.1 (wR cA ad z.2) := by
  intro sz
  refine Met.ofW (cc := cX1_rocketComes) (maxL := 2) (ret := (some .boolean)) (by decide) rfl ?_
  intro p e s m args below meth c s₁ B hml hv
  obtain ⟨rfl, C, hr, hw⟩ := ent B hml hv
  generalize va_A (wR cA ad X) sz = A at C hw ⊢
  have hl := lv_entry ([.ref (ad 0), .int a_1]) (n := 2) (Nat.le_of_ble_eq_true rfl)
  rw [lg_entry_eq]
  generalize (lg_sl ([.ref (ad 0), .int a_1]) ++ List.replicate (2 - (lg_sl ([.ref (ad 0), .int a_1])).length) Slot.unset).toArray = ls at hl ⊢
  have hl : lv_has ls 2 [(0, .ref (ad 0)), (1, .int a_1)] := hl
  have hx := C.1.1
  have hb := C.1.2.1
  have h : (if (a_1 + (1 : Int32)) < 96 then rd 96 (X 3 4) (a_1 + (1 : Int32)) (fun r2 => cl (fX1_kindOf r2) (fun r3 => cl (fX1_numberAt X (a_1 + (2 : Int32)) 1) (fun r4 => cl (fX1_numberAt X (a_1 + (3 : Int32)) 1) (fun r5 => cl (fX0_addRocket (X 1) r3 r4 r5) (fun q6 => bn (up X 1 q6.2) (fun w7 => bz q6.1 (some (q6.1, w7)))))))) else some (0, X)) = some z := h
  refine lv_iload_n hx hb dX1_rocketComes_0 rfl (lv_at hl 1 rfl) ?_
  refine lv_iconst (v := 1) hx hb dX1_rocketComes_1 (by decide) ?_
  refine lv_iadd hx hb dX1_rocketComes_2 ?_
  refine lv_bipush (v := 96) hx hb dX1_rocketComes_3 (by decide) ?_
  refine lv_icmp_lt (tgt := 10) hx hb dX1_rocketComes_5 (by decide) (fun c1 => ?_) (fun c1 => ?_)
  · replace h := (if_pos c1).symm.trans h
    refine lv_aload_n hx hb dX1_rocketComes_10 rfl (lv_at hl 0 rfl) ?_
    refine tGet (T := TX1) (N := 12) (ci := 1) C hw inX1 1 0 rfl (by decide) kf_RX1_16 rfl rfl rfl dX1_rocketComes_11 ?_
    refine lv_aload_n hx hb dX1_rocketComes_14 rfl (lv_at hl 0 rfl) ?_
    refine tGet (T := TX1) (N := 12) (ci := 1) C hw inX1 4 0 rfl (by decide) kf_RX1_26 rfl rfl rfl dX1_rocketComes_15 ?_
    refine lv_iload_n hx hb dX1_rocketComes_18 rfl (lv_at hl 1 rfl) ?_
    refine lv_iconst (v := 1) hx hb dX1_rocketComes_19 (by decide) ?_
    refine lv_iadd hx hb dX1_rocketComes_20 ?_
    obtain ⟨r2, ir2, er2, h⟩ := rd_some h
    refine tLd C hw 22 rfl ir2 er2 dX1_rocketComes_21 ?_
    obtain ⟨r3, hr3, h⟩ := cl_some h
    refine cSi (ws2 := (wR cA ad X)) (As := [.int r2]) (rest := [.ref (ad 8)]) C hw jnE (kX1_kindOf hr3) kl_RX1_256 kt_yX1_kindOf kn_RX1 kc_yX1_kindOf ⟨rfl, rfl⟩ hdX1_kindOf ⟨Nat.le_of_ble_eq_true rfl, Nat.le_of_ble_eq_true rfl⟩ rfl hl.1 (Nat.le_of_ble_eq_true rfl) dX1_rocketComes_22 ⟨Nat.zero_le _, Nat.zero_le _⟩ (fun H locs hw => ?_)
    refine lv_aload_n hx hb dX1_rocketComes_25 rfl (lv_at hl 0 rfl) ?_
    refine lv_iload_n hx hb dX1_rocketComes_26 rfl (lv_at hl 1 rfl) ?_
    refine lv_iconst (v := 2) hx hb dX1_rocketComes_27 (by decide) ?_
    refine lv_iadd hx hb dX1_rocketComes_28 ?_
    refine lv_iconst (v := 1) hx hb dX1_rocketComes_29 (by decide) ?_
    obtain ⟨r4, hr4, h⟩ := cl_some h
    refine cVi (ws2 := (wR cA ad X)) (As := [.int (a_1 + (2 : Int32)), .int 1]) (rest := [.int r3, .ref (ad 8)]) C hw jnW (kX1_numberAt ad hr4) kl_RX1_269 ki_yX1_numberAt ks_yX1_numberAt kn_RX1 kc_yX1_numberAt ⟨rfl, rfl⟩ hdX1_numberAt ⟨Nat.le_of_ble_eq_true rfl, Nat.le_of_ble_eq_true rfl⟩ (ci := 1) (q0 := 0) rfl rfl rfl rfl hl.1 (Nat.le_of_ble_eq_true rfl) dX1_rocketComes_30 ⟨Nat.zero_le _, Nat.zero_le _⟩ (fun H locs hw => ?_)
    refine lv_aload_n hx hb dX1_rocketComes_33 rfl (lv_at hl 0 rfl) ?_
    refine lv_iload_n hx hb dX1_rocketComes_34 rfl (lv_at hl 1 rfl) ?_
    refine lv_iconst (v := 3) hx hb dX1_rocketComes_35 (by decide) ?_
    refine lv_iadd hx hb dX1_rocketComes_36 ?_
    refine lv_iconst (v := 1) hx hb dX1_rocketComes_37 (by decide) ?_
    obtain ⟨r5, hr5, h⟩ := cl_some h
    refine cVi (ws2 := (wR cA ad X)) (As := [.int (a_1 + (3 : Int32)), .int 1]) (rest := [.int r4, .int r3, .ref (ad 8)]) C hw jnW (kX1_numberAt ad hr5) kl_RX1_269 ki_yX1_numberAt ks_yX1_numberAt kn_RX1 kc_yX1_numberAt ⟨rfl, rfl⟩ hdX1_numberAt ⟨Nat.le_of_ble_eq_true rfl, Nat.le_of_ble_eq_true rfl⟩ (ci := 1) (q0 := 0) rfl rfl rfl rfl hl.1 (Nat.le_of_ble_eq_true rfl) dX1_rocketComes_38 ⟨Nat.zero_le _, Nat.zero_le _⟩ (fun H locs hw => ?_)
    obtain ⟨q6, hq6, h⟩ := cl_some h
    obtain ⟨w7, ew7⟩ : ∃ y : Nat → VS, y = up X 1 q6.2 := ⟨_, rfl⟩
    replace h := bn_some h ew7
    refine cVi (ws2 := (wR cA ad w7)) (As := [.int r3, .int r4, .int r5]) (rest := []) C hw (by rw [ew7]; exact jR1) (kX0_addRocket (fun k => ad (8 + k)) hq6) kl_RX1_285 ki_yX0_addRocket ks_yX0_addRocket kn_RX0 kc_yX0_addRocket ⟨rfl, rfl⟩ hdX0_addRocket ⟨Nat.le_of_ble_eq_true rfl, Nat.le_of_ble_eq_true rfl⟩ (ci := 0) (q0 := 0) rfl rfl rfl rfl hl.1 (Nat.le_of_ble_eq_true rfl) dX1_rocketComes_41 ⟨Nat.zero_le _, Nat.zero_le _⟩ (fun H locs hw => ?_)
    obtain ⟨hz, h⟩ := bz_some h
    obtain rfl := some_e h
    exact rtZ C hr hz hw dX1_rocketComes_44
  · replace h := (if_neg c1).symm.trans h
    refine lv_iconst (v := 0) hx hb dX1_rocketComes_8 (by decide) ?_
    obtain rfl := some_e h
    exact rtZ C hr nz0 hw dX1_rocketComes_9
abbrev rmX1_rocketGoesUp : Room := { frames := 3, cells := 0, slots := 0, locals := 76 }
theorem hdX1_rocketGoesUp : yX1_rocketGoesUp.cls = RX1 ∧ yX1_rocketGoesUp.cls ≠ "java/lang/invoke/MethodHandle" ∧ yX1_rocketGoesUp.cls ≠ "java/lang/invoke/VarHandle" ∧ (parseMethodDescriptor yX1_rocketGoesUp.desc).map (fun d => d.parameters.length) = some 1 := by decide +kernel
def fX1_rocketGoesUp (X : Nat → VS) (a_1 : Int32) : Option (Int32 × (Nat → VS)) := cl (fX0_canSend (X 1) a_1) (fun r1 => if r1 = 0 then some (0, X) else cl (fX0_sendUp (X 1) a_1 31) (fun w3 => bn (up X 1 w3) (fun w4 => some (1, w4))))
set_option maxHeartbeats 4000000 in
set_option maxRecDepth 100000 in
theorem kX1_rocketGoesUp (ad : Nat → Nat) {X : Nat → VS} {a_1 : Int32} {z : (Int32 × (Nat → VS))} (h : fX1_rocketGoesUp X a_1 = some z) : MI l D cA g yX1_rocketGoesUp (Cond.code yX1_rocketGoesUp cX1_rocketGoesUp 2 (some .boolean) :: lw_g) rmX1_rocketGoesUp [.ref (ad 0), .int a_1] (wR cA ad X) z.1 (wR cA ad z.2) := by
  intro sz
  refine Met.ofW (cc := cX1_rocketGoesUp) (maxL := 2) (ret := (some .boolean)) (by decide) rfl ?_
  intro p e s m args below meth c s₁ B hml hv
  obtain ⟨rfl, C, hr, hw⟩ := ent B hml hv
  generalize va_A (wR cA ad X) sz = A at C hw ⊢
  have hl := lv_entry ([.ref (ad 0), .int a_1]) (n := 2) (Nat.le_of_ble_eq_true rfl)
  rw [lg_entry_eq]
  generalize (lg_sl ([.ref (ad 0), .int a_1]) ++ List.replicate (2 - (lg_sl ([.ref (ad 0), .int a_1])).length) Slot.unset).toArray = ls at hl ⊢
  have hl : lv_has ls 2 [(0, .ref (ad 0)), (1, .int a_1)] := hl
  have hx := C.1.1
  have hb := C.1.2.1
  have h : (cl (fX0_canSend (X 1) a_1) (fun r1 => if r1 = 0 then some (0, X) else cl (fX0_sendUp (X 1) a_1 31) (fun w3 => bn (up X 1 w3) (fun w4 => some (1, w4))))) = some z := h
  refine lv_aload_n hx hb dX1_rocketGoesUp_0 rfl (lv_at hl 0 rfl) ?_
  refine tGet (T := TX1) (N := 12) (ci := 1) C hw inX1 1 0 rfl (by decide) kf_RX1_16 rfl rfl rfl dX1_rocketGoesUp_1 ?_
  refine lv_iload_n hx hb dX1_rocketGoesUp_4 rfl (lv_at hl 1 rfl) ?_
  obtain ⟨r1, hr1, h⟩ := cl_some h
  refine cVi (ws2 := (wR cA ad X)) (As := [.int a_1]) (rest := []) C hw jR1r (kX0_canSend (fun k => ad (8 + k)) hr1) kl_RX1_115 ki_yX0_canSend ks_yX0_canSend kn_RX0 kc_yX0_canSend ⟨rfl, rfl⟩ hdX0_canSend ⟨Nat.le_of_ble_eq_true rfl, Nat.le_of_ble_eq_true rfl⟩ (ci := 0) (q0 := 0) rfl rfl rfl rfl hl.1 (Nat.le_of_ble_eq_true rfl) dX1_rocketGoesUp_5 ⟨Nat.zero_le _, Nat.zero_le _⟩ (fun H locs hw => ?_)
  refine lv_if_ne (tgt := 13) hx hb dX1_rocketGoesUp_8 (by decide) (fun c2 => ?_) (fun c2 => ?_)
  · replace h := (if_neg c2).symm.trans h
    refine lv_aload_n hx hb dX1_rocketGoesUp_13 rfl (lv_at hl 0 rfl) ?_
    refine tGet (T := TX1) (N := 12) (ci := 1) C hw inX1 1 0 rfl (by decide) kf_RX1_16 rfl rfl rfl dX1_rocketGoesUp_14 ?_
    refine lv_iload_n hx hb dX1_rocketGoesUp_17 rfl (lv_at hl 1 rfl) ?_
    refine lv_bipush (v := 31) hx hb dX1_rocketGoesUp_18 (by decide) ?_
    obtain ⟨w3, hw3, h⟩ := cl_some h
    obtain ⟨w4, ew4⟩ : ∃ y : Nat → VS, y = up X 1 w3 := ⟨_, rfl⟩
    replace h := bn_some h ew4
    refine cVv (ws2 := (wR cA ad w4)) (As := [.int a_1, .int 31]) (rest := []) C hw (by rw [ew4]; exact jR1) (kX0_sendUp (fun k => ad (8 + k)) hw3) kl_RX1_118 ki_yX0_sendUp ks_yX0_sendUp kn_RX0 kc_yX0_sendUp ⟨rfl, rfl⟩ hdX0_sendUp ⟨Nat.le_of_ble_eq_true rfl, Nat.le_of_ble_eq_true rfl⟩ (ci := 0) (q0 := 0) rfl rfl rfl rfl hl.1 (Nat.le_of_ble_eq_true rfl) dX1_rocketGoesUp_20 ⟨Nat.zero_le _, Nat.zero_le _⟩ (fun H locs hw => ?_)
    refine lv_iconst (v := 1) hx hb dX1_rocketGoesUp_23 (by decide) ?_
    obtain rfl := some_e h
    exact rtZ C hr nz1 hw dX1_rocketGoesUp_24
  · replace h := (if_pos c2).symm.trans h
    refine lv_iconst (v := 0) hx hb dX1_rocketGoesUp_11 (by decide) ?_
    obtain rfl := some_e h
    exact rtZ C hr nz0 hw dX1_rocketGoesUp_12
abbrev rmX1_rocketGoesBack : Room := { frames := 1, cells := 0, slots := 0, locals := 21 }
theorem hdX1_rocketGoesBack : yX1_rocketGoesBack.cls = RX1 ∧ yX1_rocketGoesBack.cls ≠ "java/lang/invoke/MethodHandle" ∧ yX1_rocketGoesBack.cls ≠ "java/lang/invoke/VarHandle" ∧ (parseMethodDescriptor yX1_rocketGoesBack.desc).map (fun d => d.parameters.length) = some 1 := by decide +kernel
def fX1_rocketGoesBack (X : Nat → VS) (a_1 : Int32) : Option (Int32 × (Nat → VS)) := cl (fX0_hasRocket (X 1) a_1) (fun r1 => if r1 = 0 then some (0, X) else cl (fX0_isSent (X 1) a_1) (fun r3 => if r3 = 0 then some (0, X) else cl (fX0_putBack (X 1) a_1) (fun w5 => bn (up X 1 w5) (fun w6 => some (1, w6)))))
set_option maxHeartbeats 4000000 in
set_option maxRecDepth 100000 in
theorem kX1_rocketGoesBack (ad : Nat → Nat) {X : Nat → VS} {a_1 : Int32} {z : (Int32 × (Nat → VS))} (h : fX1_rocketGoesBack X a_1 = some z) : MI l D cA g yX1_rocketGoesBack (Cond.code yX1_rocketGoesBack cX1_rocketGoesBack 2 (some .boolean) :: lw_g) rmX1_rocketGoesBack [.ref (ad 0), .int a_1] (wR cA ad X) z.1 (wR cA ad z.2) := by
  intro sz
  refine Met.ofW (cc := cX1_rocketGoesBack) (maxL := 2) (ret := (some .boolean)) (by decide) rfl ?_
  intro p e s m args below meth c s₁ B hml hv
  obtain ⟨rfl, C, hr, hw⟩ := ent B hml hv
  generalize va_A (wR cA ad X) sz = A at C hw ⊢
  have hl := lv_entry ([.ref (ad 0), .int a_1]) (n := 2) (Nat.le_of_ble_eq_true rfl)
  rw [lg_entry_eq]
  generalize (lg_sl ([.ref (ad 0), .int a_1]) ++ List.replicate (2 - (lg_sl ([.ref (ad 0), .int a_1])).length) Slot.unset).toArray = ls at hl ⊢
  have hl : lv_has ls 2 [(0, .ref (ad 0)), (1, .int a_1)] := hl
  have hx := C.1.1
  have hb := C.1.2.1
  have h : (cl (fX0_hasRocket (X 1) a_1) (fun r1 => if r1 = 0 then some (0, X) else cl (fX0_isSent (X 1) a_1) (fun r3 => if r3 = 0 then some (0, X) else cl (fX0_putBack (X 1) a_1) (fun w5 => bn (up X 1 w5) (fun w6 => some (1, w6)))))) = some z := h
  refine lv_aload_n hx hb dX1_rocketGoesBack_0 rfl (lv_at hl 0 rfl) ?_
  refine tGet (T := TX1) (N := 12) (ci := 1) C hw inX1 1 0 rfl (by decide) kf_RX1_16 rfl rfl rfl dX1_rocketGoesBack_1 ?_
  refine lv_iload_n hx hb dX1_rocketGoesBack_4 rfl (lv_at hl 1 rfl) ?_
  obtain ⟨r1, hr1, h⟩ := cl_some h
  refine cVi (ws2 := (wR cA ad X)) (As := [.int a_1]) (rest := []) C hw jR1r (kX0_hasRocket (fun k => ad (8 + k)) hr1) kl_RX1_70 ki_yX0_hasRocket ks_yX0_hasRocket kn_RX0 kc_yX0_hasRocket ⟨rfl, rfl⟩ hdX0_hasRocket ⟨Nat.le_of_ble_eq_true rfl, Nat.le_of_ble_eq_true rfl⟩ (ci := 0) (q0 := 0) rfl rfl rfl rfl hl.1 (Nat.le_of_ble_eq_true rfl) dX1_rocketGoesBack_5 ⟨Nat.zero_le _, Nat.zero_le _⟩ (fun H locs hw => ?_)
  refine lv_if_eq (tgt := 22) hx hb dX1_rocketGoesBack_8 (by decide) (fun c2 => ?_) (fun c2 => ?_)
  · replace h := (if_pos c2).symm.trans h
    refine lv_iconst (v := 0) hx hb dX1_rocketGoesBack_22 (by decide) ?_
    obtain rfl := some_e h
    exact rtZ C hr nz0 hw dX1_rocketGoesBack_23
  · replace h := (if_neg c2).symm.trans h
    refine lv_aload_n hx hb dX1_rocketGoesBack_11 rfl (lv_at hl 0 rfl) ?_
    refine tGet (T := TX1) (N := 12) (ci := 1) C hw inX1 1 0 rfl (by decide) kf_RX1_16 rfl rfl rfl dX1_rocketGoesBack_12 ?_
    refine lv_iload_n hx hb dX1_rocketGoesBack_15 rfl (lv_at hl 1 rfl) ?_
    obtain ⟨r3, hr3, h⟩ := cl_some h
    refine cVi (ws2 := (wR cA ad X)) (As := [.int a_1]) (rest := []) C hw jR1r (kX0_isSent (fun k => ad (8 + k)) hr3) kl_RX1_82 ki_yX0_isSent ks_yX0_isSent kn_RX0 kc_yX0_isSent ⟨rfl, rfl⟩ hdX0_isSent ⟨Nat.le_of_ble_eq_true rfl, Nat.le_of_ble_eq_true rfl⟩ (ci := 0) (q0 := 0) rfl rfl rfl rfl hl.1 (Nat.le_of_ble_eq_true rfl) dX1_rocketGoesBack_16 ⟨Nat.zero_le _, Nat.zero_le _⟩ (fun H locs hw => ?_)
    refine lv_if_ne (tgt := 24) hx hb dX1_rocketGoesBack_19 (by decide) (fun c4 => ?_) (fun c4 => ?_)
    · replace h := (if_neg c4).symm.trans h
      refine lv_aload_n hx hb dX1_rocketGoesBack_24 rfl (lv_at hl 0 rfl) ?_
      refine tGet (T := TX1) (N := 12) (ci := 1) C hw inX1 1 0 rfl (by decide) kf_RX1_16 rfl rfl rfl dX1_rocketGoesBack_25 ?_
      refine lv_iload_n hx hb dX1_rocketGoesBack_28 rfl (lv_at hl 1 rfl) ?_
      obtain ⟨w5, hw5, h⟩ := cl_some h
      obtain ⟨w6, ew6⟩ : ∃ y : Nat → VS, y = up X 1 w5 := ⟨_, rfl⟩
      replace h := bn_some h ew6
      refine cVv (ws2 := (wR cA ad w6)) (As := [.int a_1]) (rest := []) C hw (by rw [ew6]; exact jR1) (kX0_putBack (fun k => ad (8 + k)) hw5) kl_RX1_125 ki_yX0_putBack ks_yX0_putBack kn_RX0 kc_yX0_putBack ⟨rfl, rfl⟩ hdX0_putBack ⟨Nat.le_of_ble_eq_true rfl, Nat.le_of_ble_eq_true rfl⟩ (ci := 0) (q0 := 0) rfl rfl rfl rfl hl.1 (Nat.le_of_ble_eq_true rfl) dX1_rocketGoesBack_29 ⟨Nat.zero_le _, Nat.zero_le _⟩ (fun H locs hw => ?_)
      refine lv_iconst (v := 1) hx hb dX1_rocketGoesBack_32 (by decide) ?_
      obtain rfl := some_e h
      exact rtZ C hr nz1 hw dX1_rocketGoesBack_33
    · replace h := (if_pos c4).symm.trans h
      refine lv_iconst (v := 0) hx hb dX1_rocketGoesBack_22 (by decide) ?_
      obtain rfl := some_e h
      exact rtZ C hr nz0 hw dX1_rocketGoesBack_23
abbrev rmX1_nightsGoBy : Room := { frames := 4, cells := 0, slots := 0, locals := 100 }
theorem hdX1_nightsGoBy : yX1_nightsGoBy.cls = RX1 ∧ yX1_nightsGoBy.cls ≠ "java/lang/invoke/MethodHandle" ∧ yX1_nightsGoBy.cls ≠ "java/lang/invoke/VarHandle" ∧ (parseMethodDescriptor yX1_nightsGoBy.desc).map (fun d => d.parameters.length) = some 1 := by decide +kernel
def fX1_nightsGoBy (X : Nat → VS) (a_1 : Int32) : Option (Int32 × (Nat → VS)) := if a_1 < 1 then some (0, X) else if 60 < a_1 then some (0, X) else if ((X 1 11 0) + a_1) ≤ 999 then cl (fX0_passNights (X 1) a_1 31) (fun w4 => bn (up X 1 w4) (fun w5 => some (1, w5))) else some (0, X)
set_option maxHeartbeats 4000000 in
set_option maxRecDepth 100000 in
theorem kX1_nightsGoBy (ad : Nat → Nat) {X : Nat → VS} {a_1 : Int32} {z : (Int32 × (Nat → VS))} (h : fX1_nightsGoBy X a_1 = some z) : MI l D cA g yX1_nightsGoBy (Cond.code yX1_nightsGoBy cX1_nightsGoBy 2 (some .boolean) :: lw_g) rmX1_nightsGoBy [.ref (ad 0), .int a_1] (wR cA ad X) z.1 (wR cA ad z.2) := by
  intro sz
  refine Met.ofW (cc := cX1_nightsGoBy) (maxL := 2) (ret := (some .boolean)) (by decide) rfl ?_
  intro p e s m args below meth c s₁ B hml hv
  obtain ⟨rfl, C, hr, hw⟩ := ent B hml hv
  generalize va_A (wR cA ad X) sz = A at C hw ⊢
  have hl := lv_entry ([.ref (ad 0), .int a_1]) (n := 2) (Nat.le_of_ble_eq_true rfl)
  rw [lg_entry_eq]
  generalize (lg_sl ([.ref (ad 0), .int a_1]) ++ List.replicate (2 - (lg_sl ([.ref (ad 0), .int a_1])).length) Slot.unset).toArray = ls at hl ⊢
  have hl : lv_has ls 2 [(0, .ref (ad 0)), (1, .int a_1)] := hl
  have hx := C.1.1
  have hb := C.1.2.1
  have h : (if a_1 < 1 then some (0, X) else if 60 < a_1 then some (0, X) else if ((X 1 11 0) + a_1) ≤ 999 then cl (fX0_passNights (X 1) a_1 31) (fun w4 => bn (up X 1 w4) (fun w5 => some (1, w5))) else some (0, X)) = some z := h
  refine lv_iload_n hx hb dX1_nightsGoBy_0 rfl (lv_at hl 1 rfl) ?_
  refine lv_iconst (v := 1) hx hb dX1_nightsGoBy_1 (by decide) ?_
  refine lv_icmp_lt (tgt := 26) hx hb dX1_nightsGoBy_2 (by decide) (fun c1 => ?_) (fun c1 => ?_)
  · replace h := (if_pos c1).symm.trans h
    refine lv_iconst (v := 0) hx hb dX1_nightsGoBy_26 (by decide) ?_
    obtain rfl := some_e h
    exact rtZ C hr nz0 hw dX1_nightsGoBy_27
  · replace h := (if_neg c1).symm.trans h
    refine lv_iload_n hx hb dX1_nightsGoBy_5 rfl (lv_at hl 1 rfl) ?_
    refine lv_bipush (v := 60) hx hb dX1_nightsGoBy_6 (by decide) ?_
    refine lv_icmp_gt (tgt := 26) hx hb dX1_nightsGoBy_8 (by decide) (fun c2 => ?_) (fun c2 => ?_)
    · replace h := (if_pos c2).symm.trans h
      refine lv_iconst (v := 0) hx hb dX1_nightsGoBy_26 (by decide) ?_
      obtain rfl := some_e h
      exact rtZ C hr nz0 hw dX1_nightsGoBy_27
    · replace h := (if_neg c2).symm.trans h
      refine lv_aload_n hx hb dX1_nightsGoBy_11 rfl (lv_at hl 0 rfl) ?_
      refine tGet (T := TX1) (N := 12) (ci := 1) C hw inX1 1 0 rfl (by decide) kf_RX1_16 rfl rfl rfl dX1_nightsGoBy_12 ?_
      refine tGet (T := TX0) (N := 12) (ci := 0) C hw inX0 11 8 rfl (by decide) kf_RX1_147 rfl rfl rfl dX1_nightsGoBy_15 ?_
      refine lv_iload_n hx hb dX1_nightsGoBy_18 rfl (lv_at hl 1 rfl) ?_
      refine lv_iadd hx hb dX1_nightsGoBy_19 ?_
      refine lv_sipush (v := 999) hx hb dX1_nightsGoBy_20 (by decide) ?_
      refine lv_icmp_le (tgt := 28) hx hb dX1_nightsGoBy_23 (by decide) (fun c3 => ?_) (fun c3 => ?_)
      · replace h := (if_pos c3).symm.trans h
        refine lv_aload_n hx hb dX1_nightsGoBy_28 rfl (lv_at hl 0 rfl) ?_
        refine tGet (T := TX1) (N := 12) (ci := 1) C hw inX1 1 0 rfl (by decide) kf_RX1_16 rfl rfl rfl dX1_nightsGoBy_29 ?_
        refine lv_iload_n hx hb dX1_nightsGoBy_32 rfl (lv_at hl 1 rfl) ?_
        refine lv_bipush (v := 31) hx hb dX1_nightsGoBy_33 (by decide) ?_
        obtain ⟨w4, hw4, h⟩ := cl_some h
        obtain ⟨w5, ew5⟩ : ∃ y : Nat → VS, y = up X 1 w4 := ⟨_, rfl⟩
        replace h := bn_some h ew5
        refine cVv (ws2 := (wR cA ad w5)) (As := [.int a_1, .int 31]) (rest := []) C hw (by rw [ew5]; exact jR1) (kX0_passNights (fun k => ad (8 + k)) hw4) kl_RX1_150 ki_yX0_passNights ks_yX0_passNights kn_RX0 kc_yX0_passNights ⟨rfl, rfl⟩ hdX0_passNights ⟨Nat.le_of_ble_eq_true rfl, Nat.le_of_ble_eq_true rfl⟩ (ci := 0) (q0 := 0) rfl rfl rfl rfl hl.1 (Nat.le_of_ble_eq_true rfl) dX1_nightsGoBy_35 ⟨Nat.zero_le _, Nat.zero_le _⟩ (fun H locs hw => ?_)
        refine lv_iconst (v := 1) hx hb dX1_nightsGoBy_38 (by decide) ?_
        obtain rfl := some_e h
        exact rtZ C hr nz1 hw dX1_nightsGoBy_39
      · replace h := (if_neg c3).symm.trans h
        refine lv_iconst (v := 0) hx hb dX1_nightsGoBy_26 (by decide) ?_
        obtain rfl := some_e h
        exact rtZ C hr nz0 hw dX1_nightsGoBy_27
abbrev rmX1_comesToMind : Room := { frames := 6, cells := 0, slots := 0, locals := 137 }
theorem hdX1_comesToMind : yX1_comesToMind.cls = RX1 ∧ yX1_comesToMind.cls ≠ "java/lang/invoke/MethodHandle" ∧ yX1_comesToMind.cls ≠ "java/lang/invoke/VarHandle" ∧ (parseMethodDescriptor yX1_comesToMind.desc).map (fun d => d.parameters.length) = some 1 := by decide +kernel
def fX1_comesToMind (X : Nat → VS) (a_1 : Int32) : Option (Int32 × (Nat → VS)) := rd 96 (X 3 4) a_1 (fun r1 => if r1 = 98 then cl (fX1_numberAt X (a_1 + (1 : Int32)) 1) (fun r3 => cl (fX1_rocketGoesBack X r3) (fun q4 => bz q4.1 (some (q4.1, q4.2)))) else if r1 = 99 then some (0, X) else if r1 = 100 then some (0, X) else if r1 = 101 then some (0, X) else if r1 = 102 then some (0, X) else if r1 = 103 then cl (fX1_numberAt X (a_1 + (1 : Int32)) 3) (fun r10 => bn (up X 1 (up (X 1) 9 (fun _ => r10))) (fun w11 => some (1, w11))) else if r1 = 104 then some (0, X) else if r1 = 105 then some (0, X) else if r1 = 106 then some (0, X) else if r1 = 107 then some (0, X) else if r1 = 108 then some (0, X) else if r1 = 109 then some (0, X) else if r1 = 110 then cl (fX1_numberAt X (a_1 + (1 : Int32)) 2) (fun r19 => cl (fX1_nightsGoBy X r19) (fun q20 => bz q20.1 (some (q20.1, q20.2)))) else if r1 = 111 then some (0, X) else if r1 = 112 then cl (fX1_numberAt X (a_1 + (1 : Int32)) 2) (fun r23 => cl (fX1_numberAt X (a_1 + (3 : Int32)) 1) (fun r24 => cl (fX0_addReader (X 1) r23 r24) (fun q25 => bn (up X 1 q25.2) (fun w26 => bz q25.1 (some (q25.1, w26)))))) else if r1 = 113 then some (0, X) else if r1 = 114 then cl (fX1_rocketComes X a_1) (fun q29 => bz q29.1 (some (q29.1, q29.2))) else if r1 = 115 then cl (fX1_numberAt X (a_1 + (1 : Int32)) 1) (fun r31 => cl (fX1_rocketGoesUp X r31) (fun q32 => bz q32.1 (some (q32.1, q32.2)))) else if r1 = 116 then some (0, X) else if r1 = 117 then some (0, X) else if r1 = 118 then some (0, X) else if r1 = 119 then cl (fX1_numberAt X (a_1 + (1 : Int32)) 1) (fun r37 => bn (up X 1 (up (X 1) 10 (fun _ => r37))) (fun w38 => some (1, w38))) else some (0, X))
set_option maxHeartbeats 4000000 in
set_option maxRecDepth 100000 in
theorem kX1_comesToMind (ad : Nat → Nat) {X : Nat → VS} {a_1 : Int32} {z : (Int32 × (Nat → VS))} (h : fX1_comesToMind X a_1 = some z) : MI l D cA g yX1_comesToMind (Cond.code yX1_comesToMind cX1_comesToMind 2 (some .boolean) :: lw_g) rmX1_comesToMind [.ref (ad 0), .int a_1] (wR cA ad X) z.1 (wR cA ad z.2) := by
  intro sz
  refine Met.ofW (cc := cX1_comesToMind) (maxL := 2) (ret := (some .boolean)) (by decide) rfl ?_
  intro p e s m args below meth c s₁ B hml hv
  obtain ⟨rfl, C, hr, hw⟩ := ent B hml hv
  generalize va_A (wR cA ad X) sz = A at C hw ⊢
  have hl := lv_entry ([.ref (ad 0), .int a_1]) (n := 2) (Nat.le_of_ble_eq_true rfl)
  rw [lg_entry_eq]
  generalize (lg_sl ([.ref (ad 0), .int a_1]) ++ List.replicate (2 - (lg_sl ([.ref (ad 0), .int a_1])).length) Slot.unset).toArray = ls at hl ⊢
  have hl : lv_has ls 2 [(0, .ref (ad 0)), (1, .int a_1)] := hl
  have hx := C.1.1
  have hb := C.1.2.1
  have h : (rd 96 (X 3 4) a_1 (fun r1 => if r1 = 98 then cl (fX1_numberAt X (a_1 + (1 : Int32)) 1) (fun r3 => cl (fX1_rocketGoesBack X r3) (fun q4 => bz q4.1 (some (q4.1, q4.2)))) else if r1 = 99 then some (0, X) else if r1 = 100 then some (0, X) else if r1 = 101 then some (0, X) else if r1 = 102 then some (0, X) else if r1 = 103 then cl (fX1_numberAt X (a_1 + (1 : Int32)) 3) (fun r10 => bn (up X 1 (up (X 1) 9 (fun _ => r10))) (fun w11 => some (1, w11))) else if r1 = 104 then some (0, X) else if r1 = 105 then some (0, X) else if r1 = 106 then some (0, X) else if r1 = 107 then some (0, X) else if r1 = 108 then some (0, X) else if r1 = 109 then some (0, X) else if r1 = 110 then cl (fX1_numberAt X (a_1 + (1 : Int32)) 2) (fun r19 => cl (fX1_nightsGoBy X r19) (fun q20 => bz q20.1 (some (q20.1, q20.2)))) else if r1 = 111 then some (0, X) else if r1 = 112 then cl (fX1_numberAt X (a_1 + (1 : Int32)) 2) (fun r23 => cl (fX1_numberAt X (a_1 + (3 : Int32)) 1) (fun r24 => cl (fX0_addReader (X 1) r23 r24) (fun q25 => bn (up X 1 q25.2) (fun w26 => bz q25.1 (some (q25.1, w26)))))) else if r1 = 113 then some (0, X) else if r1 = 114 then cl (fX1_rocketComes X a_1) (fun q29 => bz q29.1 (some (q29.1, q29.2))) else if r1 = 115 then cl (fX1_numberAt X (a_1 + (1 : Int32)) 1) (fun r31 => cl (fX1_rocketGoesUp X r31) (fun q32 => bz q32.1 (some (q32.1, q32.2)))) else if r1 = 116 then some (0, X) else if r1 = 117 then some (0, X) else if r1 = 118 then some (0, X) else if r1 = 119 then cl (fX1_numberAt X (a_1 + (1 : Int32)) 1) (fun r37 => bn (up X 1 (up (X 1) 10 (fun _ => r37))) (fun w38 => some (1, w38))) else some (0, X))) = some z := h
  refine lv_aload_n hx hb dX1_comesToMind_0 rfl (lv_at hl 0 rfl) ?_
  refine tGet (T := TX1) (N := 12) (ci := 1) C hw inX1 4 0 rfl (by decide) kf_RX1_26 rfl rfl rfl dX1_comesToMind_1 ?_
  refine lv_iload_n hx hb dX1_comesToMind_4 rfl (lv_at hl 1 rfl) ?_
  obtain ⟨r1, ir1, er1, h⟩ := rd_some h
  refine tLd C hw 22 rfl ir1 er1 dX1_comesToMind_5 ?_
  by_cases c2 : r1 = 98
  · replace h := (if_pos c2).symm.trans h
    refine lv_tableIn (tgt := 151) hx hb dX1_comesToMind_6 (by rw [c2]; decide) (by rw [c2]; decide) (by rw [c2]; rfl) (by decide) ?_
    refine lv_aload_n hx hb dX1_comesToMind_151 rfl (lv_at hl 0 rfl) ?_
    refine lv_aload_n hx hb dX1_comesToMind_152 rfl (lv_at hl 0 rfl) ?_
    refine lv_iload_n hx hb dX1_comesToMind_153 rfl (lv_at hl 1 rfl) ?_
    refine lv_iconst (v := 1) hx hb dX1_comesToMind_154 (by decide) ?_
    refine lv_iadd hx hb dX1_comesToMind_155 ?_
    refine lv_iconst (v := 1) hx hb dX1_comesToMind_156 (by decide) ?_
    obtain ⟨r3, hr3, h⟩ := cl_some h
    refine cVi (ws2 := (wR cA ad X)) (As := [.int (a_1 + (1 : Int32)), .int 1]) (rest := [.ref (ad 0)]) C hw jnW (kX1_numberAt ad hr3) kl_RX1_269 ki_yX1_numberAt ks_yX1_numberAt kn_RX1 kc_yX1_numberAt ⟨rfl, rfl⟩ hdX1_numberAt ⟨Nat.le_of_ble_eq_true rfl, Nat.le_of_ble_eq_true rfl⟩ (ci := 1) (q0 := 0) rfl rfl rfl rfl hl.1 (Nat.le_of_ble_eq_true rfl) dX1_comesToMind_157 ⟨Nat.zero_le _, Nat.zero_le _⟩ (fun H locs hw => ?_)
    obtain ⟨q4, hq4, h⟩ := cl_some h
    refine cVi (ws2 := (wR cA ad q4.2)) (As := [.int r3]) (rest := []) C hw jnW (kX1_rocketGoesBack ad hq4) kl_RX1_279 ki_yX1_rocketGoesBack ks_yX1_rocketGoesBack kn_RX1 kc_yX1_rocketGoesBack ⟨rfl, rfl⟩ hdX1_rocketGoesBack ⟨Nat.le_of_ble_eq_true rfl, Nat.le_of_ble_eq_true rfl⟩ (ci := 1) (q0 := 0) rfl rfl rfl rfl hl.1 (Nat.le_of_ble_eq_true rfl) dX1_comesToMind_160 ⟨Nat.zero_le _, Nat.zero_le _⟩ (fun H locs hw => ?_)
    obtain ⟨hz, h⟩ := bz_some h
    obtain rfl := some_e h
    exact rtZ C hr hz hw dX1_comesToMind_163
  replace h := (if_neg c2).symm.trans h
  by_cases c5 : r1 = 99
  · replace h := (if_pos c5).symm.trans h
    refine lv_tableIn (tgt := 211) hx hb dX1_comesToMind_6 (by rw [c5]; decide) (by rw [c5]; decide) (by rw [c5]; rfl) (by decide) ?_
    refine lv_iconst (v := 0) hx hb dX1_comesToMind_211 (by decide) ?_
    obtain rfl := some_e h
    exact rtZ C hr nz0 hw dX1_comesToMind_212
  replace h := (if_neg c5).symm.trans h
  by_cases c6 : r1 = 100
  · replace h := (if_pos c6).symm.trans h
    refine lv_tableIn (tgt := 211) hx hb dX1_comesToMind_6 (by rw [c6]; decide) (by rw [c6]; decide) (by rw [c6]; rfl) (by decide) ?_
    refine lv_iconst (v := 0) hx hb dX1_comesToMind_211 (by decide) ?_
    obtain rfl := some_e h
    exact rtZ C hr nz0 hw dX1_comesToMind_212
  replace h := (if_neg c6).symm.trans h
  by_cases c7 : r1 = 101
  · replace h := (if_pos c7).symm.trans h
    refine lv_tableIn (tgt := 211) hx hb dX1_comesToMind_6 (by rw [c7]; decide) (by rw [c7]; decide) (by rw [c7]; rfl) (by decide) ?_
    refine lv_iconst (v := 0) hx hb dX1_comesToMind_211 (by decide) ?_
    obtain rfl := some_e h
    exact rtZ C hr nz0 hw dX1_comesToMind_212
  replace h := (if_neg c7).symm.trans h
  by_cases c8 : r1 = 102
  · replace h := (if_pos c8).symm.trans h
    refine lv_tableIn (tgt := 211) hx hb dX1_comesToMind_6 (by rw [c8]; decide) (by rw [c8]; decide) (by rw [c8]; rfl) (by decide) ?_
    refine lv_iconst (v := 0) hx hb dX1_comesToMind_211 (by decide) ?_
    obtain rfl := some_e h
    exact rtZ C hr nz0 hw dX1_comesToMind_212
  replace h := (if_neg c8).symm.trans h
  by_cases c9 : r1 = 103
  · replace h := (if_pos c9).symm.trans h
    refine lv_tableIn (tgt := 194) hx hb dX1_comesToMind_6 (by rw [c9]; decide) (by rw [c9]; decide) (by rw [c9]; rfl) (by decide) ?_
    refine lv_aload_n hx hb dX1_comesToMind_194 rfl (lv_at hl 0 rfl) ?_
    refine tGet (T := TX1) (N := 12) (ci := 1) C hw inX1 1 0 rfl (by decide) kf_RX1_16 rfl rfl rfl dX1_comesToMind_195 ?_
    refine lv_aload_n hx hb dX1_comesToMind_198 rfl (lv_at hl 0 rfl) ?_
    refine lv_iload_n hx hb dX1_comesToMind_199 rfl (lv_at hl 1 rfl) ?_
    refine lv_iconst (v := 1) hx hb dX1_comesToMind_200 (by decide) ?_
    refine lv_iadd hx hb dX1_comesToMind_201 ?_
    refine lv_iconst (v := 3) hx hb dX1_comesToMind_202 (by decide) ?_
    obtain ⟨r10, hr10, h⟩ := cl_some h
    refine cVi (ws2 := (wR cA ad X)) (As := [.int (a_1 + (1 : Int32)), .int 3]) (rest := [.ref (ad 8)]) C hw jnW (kX1_numberAt ad hr10) kl_RX1_269 ki_yX1_numberAt ks_yX1_numberAt kn_RX1 kc_yX1_numberAt ⟨rfl, rfl⟩ hdX1_numberAt ⟨Nat.le_of_ble_eq_true rfl, Nat.le_of_ble_eq_true rfl⟩ (ci := 1) (q0 := 0) rfl rfl rfl rfl hl.1 (Nat.le_of_ble_eq_true rfl) dX1_comesToMind_203 ⟨Nat.zero_le _, Nat.zero_le _⟩ (fun H locs hw => ?_)
    obtain ⟨w11, ew11⟩ : ∃ y : Nat → VS, y = up X 1 (up (X 1) 9 (fun _ => r10)) := ⟨_, rfl⟩
    replace h := bn_some h ew11
    refine tPut (T := TX0) (N := 12) (ci := 0) (ws2 := (wR cA ad w11)) C hw inX0 tyX0 tyX0_ok nmX0 9 8 rfl (by decide) kf_RX1_122 rfl rfl rfl rfl rfl (Nat.le_of_ble_eq_true rfl) (by rw [ew11]; rfl) dX1_comesToMind_206 (fun H locs hw => ?_)
    refine lv_iconst (v := 1) hx hb dX1_comesToMind_209 (by decide) ?_
    obtain rfl := some_e h
    exact rtZ C hr nz1 hw dX1_comesToMind_210
  replace h := (if_neg c9).symm.trans h
  by_cases c12 : r1 = 104
  · replace h := (if_pos c12).symm.trans h
    refine lv_tableIn (tgt := 211) hx hb dX1_comesToMind_6 (by rw [c12]; decide) (by rw [c12]; decide) (by rw [c12]; rfl) (by decide) ?_
    refine lv_iconst (v := 0) hx hb dX1_comesToMind_211 (by decide) ?_
    obtain rfl := some_e h
    exact rtZ C hr nz0 hw dX1_comesToMind_212
  replace h := (if_neg c12).symm.trans h
  by_cases c13 : r1 = 105
  · replace h := (if_pos c13).symm.trans h
    refine lv_tableIn (tgt := 211) hx hb dX1_comesToMind_6 (by rw [c13]; decide) (by rw [c13]; decide) (by rw [c13]; rfl) (by decide) ?_
    refine lv_iconst (v := 0) hx hb dX1_comesToMind_211 (by decide) ?_
    obtain rfl := some_e h
    exact rtZ C hr nz0 hw dX1_comesToMind_212
  replace h := (if_neg c13).symm.trans h
  by_cases c14 : r1 = 106
  · replace h := (if_pos c14).symm.trans h
    refine lv_tableIn (tgt := 211) hx hb dX1_comesToMind_6 (by rw [c14]; decide) (by rw [c14]; decide) (by rw [c14]; rfl) (by decide) ?_
    refine lv_iconst (v := 0) hx hb dX1_comesToMind_211 (by decide) ?_
    obtain rfl := some_e h
    exact rtZ C hr nz0 hw dX1_comesToMind_212
  replace h := (if_neg c14).symm.trans h
  by_cases c15 : r1 = 107
  · replace h := (if_pos c15).symm.trans h
    refine lv_tableIn (tgt := 211) hx hb dX1_comesToMind_6 (by rw [c15]; decide) (by rw [c15]; decide) (by rw [c15]; rfl) (by decide) ?_
    refine lv_iconst (v := 0) hx hb dX1_comesToMind_211 (by decide) ?_
    obtain rfl := some_e h
    exact rtZ C hr nz0 hw dX1_comesToMind_212
  replace h := (if_neg c15).symm.trans h
  by_cases c16 : r1 = 108
  · replace h := (if_pos c16).symm.trans h
    refine lv_tableIn (tgt := 211) hx hb dX1_comesToMind_6 (by rw [c16]; decide) (by rw [c16]; decide) (by rw [c16]; rfl) (by decide) ?_
    refine lv_iconst (v := 0) hx hb dX1_comesToMind_211 (by decide) ?_
    obtain rfl := some_e h
    exact rtZ C hr nz0 hw dX1_comesToMind_212
  replace h := (if_neg c16).symm.trans h
  by_cases c17 : r1 = 109
  · replace h := (if_pos c17).symm.trans h
    refine lv_tableIn (tgt := 211) hx hb dX1_comesToMind_6 (by rw [c17]; decide) (by rw [c17]; decide) (by rw [c17]; rfl) (by decide) ?_
    refine lv_iconst (v := 0) hx hb dX1_comesToMind_211 (by decide) ?_
    obtain rfl := some_e h
    exact rtZ C hr nz0 hw dX1_comesToMind_212
  replace h := (if_neg c17).symm.trans h
  by_cases c18 : r1 = 110
  · replace h := (if_pos c18).symm.trans h
    refine lv_tableIn (tgt := 164) hx hb dX1_comesToMind_6 (by rw [c18]; decide) (by rw [c18]; decide) (by rw [c18]; rfl) (by decide) ?_
    refine lv_aload_n hx hb dX1_comesToMind_164 rfl (lv_at hl 0 rfl) ?_
    refine lv_aload_n hx hb dX1_comesToMind_165 rfl (lv_at hl 0 rfl) ?_
    refine lv_iload_n hx hb dX1_comesToMind_166 rfl (lv_at hl 1 rfl) ?_
    refine lv_iconst (v := 1) hx hb dX1_comesToMind_167 (by decide) ?_
    refine lv_iadd hx hb dX1_comesToMind_168 ?_
    refine lv_iconst (v := 2) hx hb dX1_comesToMind_169 (by decide) ?_
    obtain ⟨r19, hr19, h⟩ := cl_some h
    refine cVi (ws2 := (wR cA ad X)) (As := [.int (a_1 + (1 : Int32)), .int 2]) (rest := [.ref (ad 0)]) C hw jnW (kX1_numberAt ad hr19) kl_RX1_269 ki_yX1_numberAt ks_yX1_numberAt kn_RX1 kc_yX1_numberAt ⟨rfl, rfl⟩ hdX1_numberAt ⟨Nat.le_of_ble_eq_true rfl, Nat.le_of_ble_eq_true rfl⟩ (ci := 1) (q0 := 0) rfl rfl rfl rfl hl.1 (Nat.le_of_ble_eq_true rfl) dX1_comesToMind_170 ⟨Nat.zero_le _, Nat.zero_le _⟩ (fun H locs hw => ?_)
    obtain ⟨q20, hq20, h⟩ := cl_some h
    refine cVi (ws2 := (wR cA ad q20.2)) (As := [.int r19]) (rest := []) C hw jnW (kX1_nightsGoBy ad hq20) kl_RX1_282 ki_yX1_nightsGoBy ks_yX1_nightsGoBy kn_RX1 kc_yX1_nightsGoBy ⟨rfl, rfl⟩ hdX1_nightsGoBy ⟨Nat.le_of_ble_eq_true rfl, Nat.le_of_ble_eq_true rfl⟩ (ci := 1) (q0 := 0) rfl rfl rfl rfl hl.1 (Nat.le_of_ble_eq_true rfl) dX1_comesToMind_173 ⟨Nat.zero_le _, Nat.zero_le _⟩ (fun H locs hw => ?_)
    obtain ⟨hz, h⟩ := bz_some h
    obtain rfl := some_e h
    exact rtZ C hr hz hw dX1_comesToMind_176
  replace h := (if_neg c18).symm.trans h
  by_cases c21 : r1 = 111
  · replace h := (if_pos c21).symm.trans h
    refine lv_tableIn (tgt := 211) hx hb dX1_comesToMind_6 (by rw [c21]; decide) (by rw [c21]; decide) (by rw [c21]; rfl) (by decide) ?_
    refine lv_iconst (v := 0) hx hb dX1_comesToMind_211 (by decide) ?_
    obtain rfl := some_e h
    exact rtZ C hr nz0 hw dX1_comesToMind_212
  replace h := (if_neg c21).symm.trans h
  by_cases c22 : r1 = 112
  · replace h := (if_pos c22).symm.trans h
    refine lv_tableIn (tgt := 114) hx hb dX1_comesToMind_6 (by rw [c22]; decide) (by rw [c22]; decide) (by rw [c22]; rfl) (by decide) ?_
    refine lv_aload_n hx hb dX1_comesToMind_114 rfl (lv_at hl 0 rfl) ?_
    refine tGet (T := TX1) (N := 12) (ci := 1) C hw inX1 1 0 rfl (by decide) kf_RX1_16 rfl rfl rfl dX1_comesToMind_115 ?_
    refine lv_aload_n hx hb dX1_comesToMind_118 rfl (lv_at hl 0 rfl) ?_
    refine lv_iload_n hx hb dX1_comesToMind_119 rfl (lv_at hl 1 rfl) ?_
    refine lv_iconst (v := 1) hx hb dX1_comesToMind_120 (by decide) ?_
    refine lv_iadd hx hb dX1_comesToMind_121 ?_
    refine lv_iconst (v := 2) hx hb dX1_comesToMind_122 (by decide) ?_
    obtain ⟨r23, hr23, h⟩ := cl_some h
    refine cVi (ws2 := (wR cA ad X)) (As := [.int (a_1 + (1 : Int32)), .int 2]) (rest := [.ref (ad 8)]) C hw jnW (kX1_numberAt ad hr23) kl_RX1_269 ki_yX1_numberAt ks_yX1_numberAt kn_RX1 kc_yX1_numberAt ⟨rfl, rfl⟩ hdX1_numberAt ⟨Nat.le_of_ble_eq_true rfl, Nat.le_of_ble_eq_true rfl⟩ (ci := 1) (q0 := 0) rfl rfl rfl rfl hl.1 (Nat.le_of_ble_eq_true rfl) dX1_comesToMind_123 ⟨Nat.zero_le _, Nat.zero_le _⟩ (fun H locs hw => ?_)
    refine lv_aload_n hx hb dX1_comesToMind_126 rfl (lv_at hl 0 rfl) ?_
    refine lv_iload_n hx hb dX1_comesToMind_127 rfl (lv_at hl 1 rfl) ?_
    refine lv_iconst (v := 3) hx hb dX1_comesToMind_128 (by decide) ?_
    refine lv_iadd hx hb dX1_comesToMind_129 ?_
    refine lv_iconst (v := 1) hx hb dX1_comesToMind_130 (by decide) ?_
    obtain ⟨r24, hr24, h⟩ := cl_some h
    refine cVi (ws2 := (wR cA ad X)) (As := [.int (a_1 + (3 : Int32)), .int 1]) (rest := [.int r23, .ref (ad 8)]) C hw jnW (kX1_numberAt ad hr24) kl_RX1_269 ki_yX1_numberAt ks_yX1_numberAt kn_RX1 kc_yX1_numberAt ⟨rfl, rfl⟩ hdX1_numberAt ⟨Nat.le_of_ble_eq_true rfl, Nat.le_of_ble_eq_true rfl⟩ (ci := 1) (q0 := 0) rfl rfl rfl rfl hl.1 (Nat.le_of_ble_eq_true rfl) dX1_comesToMind_131 ⟨Nat.zero_le _, Nat.zero_le _⟩ (fun H locs hw => ?_)
    obtain ⟨q25, hq25, h⟩ := cl_some h
    obtain ⟨w26, ew26⟩ : ∃ y : Nat → VS, y = up X 1 q25.2 := ⟨_, rfl⟩
    replace h := bn_some h ew26
    refine cVi (ws2 := (wR cA ad w26)) (As := [.int r23, .int r24]) (rest := []) C hw (by rw [ew26]; exact jR1) (kX0_addReader (fun k => ad (8 + k)) hq25) kl_RX1_272 ki_yX0_addReader ks_yX0_addReader kn_RX0 kc_yX0_addReader ⟨rfl, rfl⟩ hdX0_addReader ⟨Nat.le_of_ble_eq_true rfl, Nat.le_of_ble_eq_true rfl⟩ (ci := 0) (q0 := 0) rfl rfl rfl rfl hl.1 (Nat.le_of_ble_eq_true rfl) dX1_comesToMind_134 ⟨Nat.zero_le _, Nat.zero_le _⟩ (fun H locs hw => ?_)
    obtain ⟨hz, h⟩ := bz_some h
    obtain rfl := some_e h
    exact rtZ C hr hz hw dX1_comesToMind_137
  replace h := (if_neg c22).symm.trans h
  by_cases c27 : r1 = 113
  · replace h := (if_pos c27).symm.trans h
    refine lv_tableIn (tgt := 211) hx hb dX1_comesToMind_6 (by rw [c27]; decide) (by rw [c27]; decide) (by rw [c27]; rfl) (by decide) ?_
    refine lv_iconst (v := 0) hx hb dX1_comesToMind_211 (by decide) ?_
    obtain rfl := some_e h
    exact rtZ C hr nz0 hw dX1_comesToMind_212
  replace h := (if_neg c27).symm.trans h
  by_cases c28 : r1 = 114
  · replace h := (if_pos c28).symm.trans h
    refine lv_tableIn (tgt := 108) hx hb dX1_comesToMind_6 (by rw [c28]; decide) (by rw [c28]; decide) (by rw [c28]; rfl) (by decide) ?_
    refine lv_aload_n hx hb dX1_comesToMind_108 rfl (lv_at hl 0 rfl) ?_
    refine lv_iload_n hx hb dX1_comesToMind_109 rfl (lv_at hl 1 rfl) ?_
    obtain ⟨q29, hq29, h⟩ := cl_some h
    refine cVi (ws2 := (wR cA ad q29.2)) (As := [.int a_1]) (rest := []) C hw jnW (kX1_rocketComes ad hq29) kl_RX1_266 ki_yX1_rocketComes ks_yX1_rocketComes kn_RX1 kc_yX1_rocketComes ⟨rfl, rfl⟩ hdX1_rocketComes ⟨Nat.le_of_ble_eq_true rfl, Nat.le_of_ble_eq_true rfl⟩ (ci := 1) (q0 := 0) rfl rfl rfl rfl hl.1 (Nat.le_of_ble_eq_true rfl) dX1_comesToMind_110 ⟨Nat.zero_le _, Nat.zero_le _⟩ (fun H locs hw => ?_)
    obtain ⟨hz, h⟩ := bz_some h
    obtain rfl := some_e h
    exact rtZ C hr hz hw dX1_comesToMind_113
  replace h := (if_neg c28).symm.trans h
  by_cases c30 : r1 = 115
  · replace h := (if_pos c30).symm.trans h
    refine lv_tableIn (tgt := 138) hx hb dX1_comesToMind_6 (by rw [c30]; decide) (by rw [c30]; decide) (by rw [c30]; rfl) (by decide) ?_
    refine lv_aload_n hx hb dX1_comesToMind_138 rfl (lv_at hl 0 rfl) ?_
    refine lv_aload_n hx hb dX1_comesToMind_139 rfl (lv_at hl 0 rfl) ?_
    refine lv_iload_n hx hb dX1_comesToMind_140 rfl (lv_at hl 1 rfl) ?_
    refine lv_iconst (v := 1) hx hb dX1_comesToMind_141 (by decide) ?_
    refine lv_iadd hx hb dX1_comesToMind_142 ?_
    refine lv_iconst (v := 1) hx hb dX1_comesToMind_143 (by decide) ?_
    obtain ⟨r31, hr31, h⟩ := cl_some h
    refine cVi (ws2 := (wR cA ad X)) (As := [.int (a_1 + (1 : Int32)), .int 1]) (rest := [.ref (ad 0)]) C hw jnW (kX1_numberAt ad hr31) kl_RX1_269 ki_yX1_numberAt ks_yX1_numberAt kn_RX1 kc_yX1_numberAt ⟨rfl, rfl⟩ hdX1_numberAt ⟨Nat.le_of_ble_eq_true rfl, Nat.le_of_ble_eq_true rfl⟩ (ci := 1) (q0 := 0) rfl rfl rfl rfl hl.1 (Nat.le_of_ble_eq_true rfl) dX1_comesToMind_144 ⟨Nat.zero_le _, Nat.zero_le _⟩ (fun H locs hw => ?_)
    obtain ⟨q32, hq32, h⟩ := cl_some h
    refine cVi (ws2 := (wR cA ad q32.2)) (As := [.int r31]) (rest := []) C hw jnW (kX1_rocketGoesUp ad hq32) kl_RX1_276 ki_yX1_rocketGoesUp ks_yX1_rocketGoesUp kn_RX1 kc_yX1_rocketGoesUp ⟨rfl, rfl⟩ hdX1_rocketGoesUp ⟨Nat.le_of_ble_eq_true rfl, Nat.le_of_ble_eq_true rfl⟩ (ci := 1) (q0 := 0) rfl rfl rfl rfl hl.1 (Nat.le_of_ble_eq_true rfl) dX1_comesToMind_147 ⟨Nat.zero_le _, Nat.zero_le _⟩ (fun H locs hw => ?_)
    obtain ⟨hz, h⟩ := bz_some h
    obtain rfl := some_e h
    exact rtZ C hr hz hw dX1_comesToMind_150
  replace h := (if_neg c30).symm.trans h
  by_cases c33 : r1 = 116
  · replace h := (if_pos c33).symm.trans h
    refine lv_tableIn (tgt := 211) hx hb dX1_comesToMind_6 (by rw [c33]; decide) (by rw [c33]; decide) (by rw [c33]; rfl) (by decide) ?_
    refine lv_iconst (v := 0) hx hb dX1_comesToMind_211 (by decide) ?_
    obtain rfl := some_e h
    exact rtZ C hr nz0 hw dX1_comesToMind_212
  replace h := (if_neg c33).symm.trans h
  by_cases c34 : r1 = 117
  · replace h := (if_pos c34).symm.trans h
    refine lv_tableIn (tgt := 211) hx hb dX1_comesToMind_6 (by rw [c34]; decide) (by rw [c34]; decide) (by rw [c34]; rfl) (by decide) ?_
    refine lv_iconst (v := 0) hx hb dX1_comesToMind_211 (by decide) ?_
    obtain rfl := some_e h
    exact rtZ C hr nz0 hw dX1_comesToMind_212
  replace h := (if_neg c34).symm.trans h
  by_cases c35 : r1 = 118
  · replace h := (if_pos c35).symm.trans h
    refine lv_tableIn (tgt := 211) hx hb dX1_comesToMind_6 (by rw [c35]; decide) (by rw [c35]; decide) (by rw [c35]; rfl) (by decide) ?_
    refine lv_iconst (v := 0) hx hb dX1_comesToMind_211 (by decide) ?_
    obtain rfl := some_e h
    exact rtZ C hr nz0 hw dX1_comesToMind_212
  replace h := (if_neg c35).symm.trans h
  by_cases c36 : r1 = 119
  · replace h := (if_pos c36).symm.trans h
    refine lv_tableIn (tgt := 177) hx hb dX1_comesToMind_6 (by rw [c36]; decide) (by rw [c36]; decide) (by rw [c36]; rfl) (by decide) ?_
    refine lv_aload_n hx hb dX1_comesToMind_177 rfl (lv_at hl 0 rfl) ?_
    refine tGet (T := TX1) (N := 12) (ci := 1) C hw inX1 1 0 rfl (by decide) kf_RX1_16 rfl rfl rfl dX1_comesToMind_178 ?_
    refine lv_aload_n hx hb dX1_comesToMind_181 rfl (lv_at hl 0 rfl) ?_
    refine lv_iload_n hx hb dX1_comesToMind_182 rfl (lv_at hl 1 rfl) ?_
    refine lv_iconst (v := 1) hx hb dX1_comesToMind_183 (by decide) ?_
    refine lv_iadd hx hb dX1_comesToMind_184 ?_
    refine lv_iconst (v := 1) hx hb dX1_comesToMind_185 (by decide) ?_
    obtain ⟨r37, hr37, h⟩ := cl_some h
    refine cVi (ws2 := (wR cA ad X)) (As := [.int (a_1 + (1 : Int32)), .int 1]) (rest := [.ref (ad 8)]) C hw jnW (kX1_numberAt ad hr37) kl_RX1_269 ki_yX1_numberAt ks_yX1_numberAt kn_RX1 kc_yX1_numberAt ⟨rfl, rfl⟩ hdX1_numberAt ⟨Nat.le_of_ble_eq_true rfl, Nat.le_of_ble_eq_true rfl⟩ (ci := 1) (q0 := 0) rfl rfl rfl rfl hl.1 (Nat.le_of_ble_eq_true rfl) dX1_comesToMind_186 ⟨Nat.zero_le _, Nat.zero_le _⟩ (fun H locs hw => ?_)
    obtain ⟨w38, ew38⟩ : ∃ y : Nat → VS, y = up X 1 (up (X 1) 10 (fun _ => r37)) := ⟨_, rfl⟩
    replace h := bn_some h ew38
    refine tPut (T := TX0) (N := 12) (ci := 0) (ws2 := (wR cA ad w38)) C hw inX0 tyX0 tyX0_ok nmX0 10 8 rfl (by decide) kf_RX1_144 rfl rfl rfl rfl rfl (Nat.le_of_ble_eq_true rfl) (by rw [ew38]; rfl) dX1_comesToMind_189 (fun H locs hw => ?_)
    refine lv_iconst (v := 1) hx hb dX1_comesToMind_192 (by decide) ?_
    obtain rfl := some_e h
    exact rtZ C hr nz1 hw dX1_comesToMind_193
  replace h := (if_neg c36).symm.trans h
  have hout : (r1 : Int32).toInt < 98 ∨ 119 < (r1 : Int32).toInt := sw_out (fun k h1 h2 => by
    have hk : k = 98 ∨ k = 99 ∨ k = 100 ∨ k = 101 ∨ k = 102 ∨ k = 103 ∨ k = 104 ∨ k = 105 ∨ k = 106 ∨ k = 107 ∨ k = 108 ∨ k = 109 ∨ k = 110 ∨ k = 111 ∨ k = 112 ∨ k = 113 ∨ k = 114 ∨ k = 115 ∨ k = 116 ∨ k = 117 ∨ k = 118 ∨ k = 119 := by omega
    rcases hk with rfl | rfl | rfl | rfl | rfl | rfl | rfl | rfl | rfl | rfl | rfl | rfl | rfl | rfl | rfl | rfl | rfl | rfl | rfl | rfl | rfl | rfl
    · exact sw_ne c2 (by decide)
    · exact sw_ne c5 (by decide)
    · exact sw_ne c6 (by decide)
    · exact sw_ne c7 (by decide)
    · exact sw_ne c8 (by decide)
    · exact sw_ne c9 (by decide)
    · exact sw_ne c12 (by decide)
    · exact sw_ne c13 (by decide)
    · exact sw_ne c14 (by decide)
    · exact sw_ne c15 (by decide)
    · exact sw_ne c16 (by decide)
    · exact sw_ne c17 (by decide)
    · exact sw_ne c18 (by decide)
    · exact sw_ne c21 (by decide)
    · exact sw_ne c22 (by decide)
    · exact sw_ne c27 (by decide)
    · exact sw_ne c28 (by decide)
    · exact sw_ne c30 (by decide)
    · exact sw_ne c33 (by decide)
    · exact sw_ne c34 (by decide)
    · exact sw_ne c35 (by decide)
    · exact sw_ne c36 (by decide))
  refine lv_tableOut (tgt := 211) hx hb dX1_comesToMind_6 hout (by decide) ?_
  refine lv_iconst (v := 0) hx hb dX1_comesToMind_211 (by decide) ?_
  obtain rfl := some_e h
  exact rtZ C hr nz0 hw dX1_comesToMind_212
abbrev rmX1_valley : Room := { frames := 7, cells := 0, slots := 0, locals := 163 }
theorem hdX1_valley : yX1_valley.cls = RX1 ∧ yX1_valley.cls ≠ "java/lang/invoke/MethodHandle" ∧ yX1_valley.cls ≠ "java/lang/invoke/VarHandle" ∧ (parseMethodDescriptor yX1_valley.desc).map (fun d => d.parameters.length) = some 0 := by decide +kernel
def GX1_valley_42 (p : Program) (l : Launch) (e : Env) (s : State) (m : MethodId) (args : Array Value) (below : List Frame) (meth : Method) (c : Code) (D : va_G) (cA : ClassId) (A : Nat → Prop) (ad : Nat → Nat) (z : (Int32 × (Nat → VS))) (x : (Nat → VS) × (Int32) × (Int32) × (Int32)) : Prop := ∀ (H : Heap) (locs : List Loc) (ls : Array Slot), Wd D A s.heap (wR cA ad x.1) H locs → lv_has ls 5 [(0, .ref (ad 0)), (1, .int x.2.1), (3, .int x.2.2.1), (4, .int x.2.2.2)] → W p l e rmX1_valley s m args below meth c H locs 0 0 (MQ below (QI D cA A z.1 (wR cA ad z.2)) args s 0 0 A) (F0 m 42 ls [])
def fX1_valley_42 (k42 : ((Nat → VS) × (Int32) × (Int32) × (Int32)) → Option (Int32 × (Nat → VS))) : ((Nat → VS) × (Int32) × (Int32) × (Int32)) → Option (Int32 × (Nat → VS)) := fun x => match x with | (X, x_1, x_3, x_4) => if x_1 ≤ x_4 then cl (fX0_copyFrom (X 0) (X 1)) (fun w2 => bn (up X 0 w2) (fun w3 => some (x_3, w3))) else cl (fX1_comesToMind X x_4) (fun q4 => if q4.1 = 0 then some (((-2000 : Int32) - x_4), q4.2) else bn (x_3 + 1) (fun x6 => rd 96 (q4.2 3 4) x_4 (fun r7 => cl (fX1_lettersBehind r7) (fun r8 => bn (x_4 + ((1 : Int32) + r8)) (fun x9 => k42 (q4.2, x_1, x6, x9))))))
def fX1_valley (X : Nat → VS) : Option (Int32 × (Nat → VS)) := bn (X 3 5 0) (fun x1 => bn (up X 3 (up (X 3) 5 (fun _ => 0))) (fun w2 => cl (fX1_wrongLetter w2 x1) (fun r3 => if r3 < 0 then cl (fX0_copyFrom (w2 1) (w2 0)) (fun w5 => bn (up w2 1 w5) (fun w6 => lp (fX1_valley_42) 5000 (w6, x1, 0, 0))) else some (((-1000 : Int32) - r3), w2))))
set_option maxHeartbeats 4000000 in
set_option maxRecDepth 100000 in
theorem kX1_valley_42 (C : Cx p s m args meth c cX1_valley 5 RX1 D cA g A) (hr : meth.sig.returnType = (some .int)) {z : (Int32 × (Nat → VS))} (k42 : ((Nat → VS) × (Int32) × (Int32) × (Int32)) → Option (Int32 × (Nat → VS))) (hk42 : ∀ x, k42 x = some z → GX1_valley_42 p l e s m args below meth c D cA A ad z x) (x : (Nat → VS) × (Int32) × (Int32) × (Int32)) (h : fX1_valley_42 k42 x = some z) : GX1_valley_42 p l e s m args below meth c D cA A ad z x := by
  obtain ⟨X, x_1, x_3, x_4⟩ := x
  intro H locs ls hw hl
  have hw : Wd D A s.heap (wR cA ad X) H locs := hw
  have hl : lv_has ls 5 [(0, .ref (ad 0)), (1, .int x_1), (3, .int x_3), (4, .int x_4)] := hl
  have hx := C.1.1
  have hb := C.1.2.1
  have h : (if x_1 ≤ x_4 then cl (fX0_copyFrom (X 0) (X 1)) (fun w2 => bn (up X 0 w2) (fun w3 => some (x_3, w3))) else cl (fX1_comesToMind X x_4) (fun q4 => if q4.1 = 0 then some (((-2000 : Int32) - x_4), q4.2) else bn (x_3 + 1) (fun x6 => rd 96 (q4.2 3 4) x_4 (fun r7 => cl (fX1_lettersBehind r7) (fun r8 => bn (x_4 + ((1 : Int32) + r8)) (fun x9 => k42 (q4.2, x_1, x6, x9))))))) = some z := h
  refine lv_iload hx hb dX1_valley_42 (lv_at hl 3 rfl) ?_
  refine lv_iload_n hx hb dX1_valley_44 rfl (lv_at hl 1 rfl) ?_
  refine lv_icmp_ge (tgt := 87) hx hb dX1_valley_45 (by decide) (fun c1 => ?_) (fun c1 => ?_)
  · replace h := (if_pos c1).symm.trans h
    refine lv_aload_n hx hb dX1_valley_87 rfl (lv_at hl 0 rfl) ?_
    refine tGet (T := TX1) (N := 12) (ci := 1) C hw inX1 0 0 rfl (by decide) kf_RX1_10 rfl rfl rfl dX1_valley_88 ?_
    refine lv_aload_n hx hb dX1_valley_91 rfl (lv_at hl 0 rfl) ?_
    refine tGet (T := TX1) (N := 12) (ci := 1) C hw inX1 1 0 rfl (by decide) kf_RX1_16 rfl rfl rfl dX1_valley_92 ?_
    obtain ⟨w2, hw2, h⟩ := cl_some h
    obtain ⟨w3, ew3⟩ : ∃ y : Nat → VS, y = up X 0 w2 := ⟨_, rfl⟩
    replace h := bn_some h ew3
    refine cVv (ws2 := (wR cA ad w3)) (As := [.ref (ad 8)]) (rest := []) C hw (by rw [ew3]; exact jRR01) (kX0_copyFrom (fun k => ad (1 + k)) (fun k => ad (8 + k)) hw2) kl_RX1_59 ki_yX0_copyFrom ks_yX0_copyFrom kn_RX0 kc_yX0_copyFrom ⟨rfl, rfl⟩ hdX0_copyFrom ⟨Nat.le_of_ble_eq_true rfl, Nat.le_of_ble_eq_true rfl⟩ (ci := 0) (q0 := 0) rfl rfl rfl rfl hl.1 (Nat.le_of_ble_eq_true rfl) dX1_valley_95 ⟨Nat.zero_le _, Nat.zero_le _⟩ (fun H locs hw => ?_)
    refine lv_iload_n hx hb dX1_valley_98 rfl (lv_at hl 2 rfl) ?_
    obtain rfl := some_e h
    exact rtI C hr hw dX1_valley_99
  · replace h := (if_neg c1).symm.trans h
    refine lv_aload_n hx hb dX1_valley_48 rfl (lv_at hl 0 rfl) ?_
    refine lv_iload hx hb dX1_valley_49 (lv_at hl 3 rfl) ?_
    obtain ⟨q4, hq4, h⟩ := cl_some h
    refine cVi (ws2 := (wR cA ad q4.2)) (As := [.int x_4]) (rest := []) C hw jnW (kX1_comesToMind ad hq4) kl_RX1_63 ki_yX1_comesToMind ks_yX1_comesToMind kn_RX1 kc_yX1_comesToMind ⟨rfl, rfl⟩ hdX1_comesToMind ⟨Nat.le_of_ble_eq_true rfl, Nat.le_of_ble_eq_true rfl⟩ (ci := 1) (q0 := 0) rfl rfl rfl rfl hl.1 (Nat.le_of_ble_eq_true rfl) dX1_valley_51 ⟨Nat.zero_le _, Nat.zero_le _⟩ (fun H locs hw => ?_)
    refine lv_if_ne (tgt := 64) hx hb dX1_valley_54 (by decide) (fun c5 => ?_) (fun c5 => ?_)
    · replace h := (if_neg c5).symm.trans h
      obtain ⟨x6, ex6⟩ : ∃ y : Int32, y = x_3 + 1 := ⟨_, rfl⟩
      replace h := bn_some h ex6
      refine lv_iinc (v := x6) (lv' := [(3, .int x6), (0, .ref (ad 0)), (1, .int x_1), (4, .int x_4)]) hx hb dX1_valley_64 hl (k := 2) rfl (by rw [ex6]; rfl) (by decide) rfl (fun ls hl => ?_)
      refine lv_iload hx hb dX1_valley_67 (lv_at hl 3 rfl) ?_
      refine lv_iconst (v := 1) hx hb dX1_valley_69 (by decide) ?_
      refine lv_aload_n hx hb dX1_valley_70 rfl (lv_at hl 1 rfl) ?_
      refine tGet (T := TX1) (N := 12) (ci := 1) C hw inX1 4 0 rfl (by decide) kf_RX1_26 rfl rfl rfl dX1_valley_71 ?_
      refine lv_iload hx hb dX1_valley_74 (lv_at hl 3 rfl) ?_
      obtain ⟨r7, ir7, er7, h⟩ := rd_some h
      refine tLd C hw 22 rfl ir7 er7 dX1_valley_76 ?_
      obtain ⟨r8, hr8, h⟩ := cl_some h
      refine cSi (ws2 := (wR cA ad q4.2)) (As := [.int r7]) (rest := [.int 1, .int x_4]) C hw jnE (kX1_lettersBehind hr8) kl_RX1_67 kt_yX1_lettersBehind kn_RX1 kc_yX1_lettersBehind ⟨rfl, rfl⟩ hdX1_lettersBehind ⟨Nat.le_of_ble_eq_true rfl, Nat.le_of_ble_eq_true rfl⟩ rfl hl.1 (Nat.le_of_ble_eq_true rfl) dX1_valley_77 ⟨Nat.zero_le _, Nat.zero_le _⟩ (fun H locs hw => ?_)
      refine lv_iadd hx hb dX1_valley_80 ?_
      refine lv_iadd hx hb dX1_valley_81 ?_
      refine lv_topi (fun x9 ex9 => ?_)
      replace h := bn_some h ex9
      refine lv_istore (lv' := [(4, .int x9), (3, .int x6), (0, .ref (ad 0)), (1, .int x_1)]) hx hb dX1_valley_82 hl (by decide) rfl (fun ls hl => ?_)
      refine lv_goto (tgt := 42) hx hb dX1_valley_84 (by decide) ?_
      exact hk42 (q4.2, x_1, x6, x9) h _ _ _ hw (lv_sub hl [2, 3, 1, 0] rfl)
    · replace h := (if_pos c5).symm.trans h
      refine lv_sipush (v := (-2000)) hx hb dX1_valley_57 (by decide) ?_
      refine lv_iload hx hb dX1_valley_60 (lv_at hl 3 rfl) ?_
      refine lv_isub hx hb dX1_valley_62 ?_
      obtain rfl := some_e h
      exact rtI C hr hw dX1_valley_63
theorem lX1_valley_42 (C : Cx p s m args meth c cX1_valley 5 RX1 D cA g A) (hr : meth.sig.returnType = (some .int)) {z : (Int32 × (Nat → VS))} (n : Nat) (x : (Nat → VS) × (Int32) × (Int32) × (Int32)) (h : lp (fX1_valley_42) n x = some z) : GX1_valley_42 p l e s m args below meth c D cA A ad z x := lp_ok (GX1_valley_42 p l e s m args below meth c D cA A ad z) (fun kq hkq x h => kX1_valley_42 C hr kq hkq x h) n x h
set_option maxHeartbeats 4000000 in
set_option maxRecDepth 100000 in
theorem kX1_valley (ad : Nat → Nat) {X : Nat → VS} {z : (Int32 × (Nat → VS))} (h : fX1_valley X = some z) : MI l D cA g yX1_valley (Cond.code yX1_valley cX1_valley 5 (some .int) :: lw_g) rmX1_valley [.ref (ad 0)] (wR cA ad X) z.1 (wR cA ad z.2) := by
  intro sz
  refine Met.ofW (cc := cX1_valley) (maxL := 5) (ret := (some .int)) (by decide) rfl ?_
  intro p e s m args below meth c s₁ B hml hv
  obtain ⟨rfl, C, hr, hw⟩ := ent B hml hv
  generalize va_A (wR cA ad X) sz = A at C hw ⊢
  have hl := lv_entry ([.ref (ad 0)]) (n := 5) (Nat.le_of_ble_eq_true rfl)
  rw [lg_entry_eq]
  generalize (lg_sl ([.ref (ad 0)]) ++ List.replicate (5 - (lg_sl ([.ref (ad 0)])).length) Slot.unset).toArray = ls at hl ⊢
  have hl : lv_has ls 5 [(0, .ref (ad 0))] := hl
  have hx := C.1.1
  have hb := C.1.2.1
  have h : (bn (X 3 5 0) (fun x1 => bn (up X 3 (up (X 3) 5 (fun _ => 0))) (fun w2 => cl (fX1_wrongLetter w2 x1) (fun r3 => if r3 < 0 then cl (fX0_copyFrom (w2 1) (w2 0)) (fun w5 => bn (up w2 1 w5) (fun w6 => lp (fX1_valley_42) 5000 (w6, x1, 0, 0))) else some (((-1000 : Int32) - r3), w2))))) = some z := h
  refine lv_aload_n hx hb dX1_valley_0 rfl (lv_at hl 0 rfl) ?_
  refine tGet (T := TX1) (N := 12) (ci := 1) C hw inX1 5 0 rfl (by decide) kf_RX1_30 rfl rfl rfl dX1_valley_1 ?_
  refine lv_topi (fun x1 ex1 => ?_)
  replace h := bn_some h ex1
  refine lv_istore_n (lv' := [(1, .int x1), (0, .ref (ad 0))]) hx hb dX1_valley_4 rfl hl (by decide) rfl (fun ls hl => ?_)
  refine lv_aload_n hx hb dX1_valley_5 rfl (lv_at hl 1 rfl) ?_
  refine lv_iconst (v := 0) hx hb dX1_valley_6 (by decide) ?_
  obtain ⟨w2, ew2⟩ : ∃ y : Nat → VS, y = up X 3 (up (X 3) 5 (fun _ => 0)) := ⟨_, rfl⟩
  replace h := bn_some h ew2
  refine tPut (T := TX1) (N := 12) (ci := 1) (ws2 := (wR cA ad w2)) C hw inX1 tyX1 tyX1_ok nmX1 5 0 rfl (by decide) kf_RX1_30 rfl rfl rfl rfl rfl (Nat.le_of_ble_eq_true rfl) (by rw [ew2]; rfl) dX1_valley_7 (fun H locs hw => ?_)
  refine lv_aload_n hx hb dX1_valley_10 rfl (lv_at hl 1 rfl) ?_
  refine lv_iload_n hx hb dX1_valley_11 rfl (lv_at hl 0 rfl) ?_
  obtain ⟨r3, hr3, h⟩ := cl_some h
  refine cVi (ws2 := (wR cA ad w2)) (As := [.int x1]) (rest := []) C hw jnW (kX1_wrongLetter ad hr3) kl_RX1_56 ki_yX1_wrongLetter ks_yX1_wrongLetter kn_RX1 kc_yX1_wrongLetter ⟨rfl, rfl⟩ hdX1_wrongLetter ⟨Nat.le_of_ble_eq_true rfl, Nat.le_of_ble_eq_true rfl⟩ (ci := 1) (q0 := 0) rfl rfl rfl rfl hl.1 (Nat.le_of_ble_eq_true rfl) dX1_valley_12 ⟨Nat.zero_le _, Nat.zero_le _⟩ (fun H locs hw => ?_)
  refine lv_istore_n (lv' := [(2, .int r3), (1, .int x1), (0, .ref (ad 0))]) hx hb dX1_valley_15 rfl hl (by decide) rfl (fun ls hl => ?_)
  refine lv_iload_n hx hb dX1_valley_16 rfl (lv_at hl 0 rfl) ?_
  refine lv_if_lt (tgt := 26) hx hb dX1_valley_17 (by decide) (fun c4 => ?_) (fun c4 => ?_)
  · replace h := (if_pos c4).symm.trans h
    refine lv_aload_n hx hb dX1_valley_26 rfl (lv_at hl 2 rfl) ?_
    refine tGet (T := TX1) (N := 12) (ci := 1) C hw inX1 1 0 rfl (by decide) kf_RX1_16 rfl rfl rfl dX1_valley_27 ?_
    refine lv_aload_n hx hb dX1_valley_30 rfl (lv_at hl 2 rfl) ?_
    refine tGet (T := TX1) (N := 12) (ci := 1) C hw inX1 0 0 rfl (by decide) kf_RX1_10 rfl rfl rfl dX1_valley_31 ?_
    obtain ⟨w5, hw5, h⟩ := cl_some h
    obtain ⟨w6, ew6⟩ : ∃ y : Nat → VS, y = up w2 1 w5 := ⟨_, rfl⟩
    replace h := bn_some h ew6
    refine cVv (ws2 := (wR cA ad w6)) (As := [.ref (ad 1)]) (rest := []) C hw (by rw [ew6]; exact jRR10) (kX0_copyFrom (fun k => ad (8 + k)) (fun k => ad (1 + k)) hw5) kl_RX1_59 ki_yX0_copyFrom ks_yX0_copyFrom kn_RX0 kc_yX0_copyFrom ⟨rfl, rfl⟩ hdX0_copyFrom ⟨Nat.le_of_ble_eq_true rfl, Nat.le_of_ble_eq_true rfl⟩ (ci := 0) (q0 := 0) rfl rfl rfl rfl hl.1 (Nat.le_of_ble_eq_true rfl) dX1_valley_34 ⟨Nat.zero_le _, Nat.zero_le _⟩ (fun H locs hw => ?_)
    refine lv_iconst (v := 0) hx hb dX1_valley_37 (by decide) ?_
    refine lv_istore_n (lv' := [(3, .int 0), (2, .int r3), (1, .int x1), (0, .ref (ad 0))]) hx hb dX1_valley_38 rfl hl (by decide) rfl (fun ls hl => ?_)
    refine lv_iconst (v := 0) hx hb dX1_valley_39 (by decide) ?_
    refine lv_istore (lv' := [(4, .int 0), (3, .int 0), (2, .int r3), (1, .int x1), (0, .ref (ad 0))]) hx hb dX1_valley_40 hl (by decide) rfl (fun ls hl => ?_)
    exact lX1_valley_42 C hr 5000 (w6, x1, 0, 0) h _ _ _ hw (lv_sub hl [4, 3, 1, 0] rfl)
  · replace h := (if_neg c4).symm.trans h
    refine lv_sipush (v := (-1000)) hx hb dX1_valley_20 (by decide) ?_
    refine lv_iload_n hx hb dX1_valley_23 rfl (lv_at hl 0 rfl) ?_
    refine lv_isub hx hb dX1_valley_24 ?_
    obtain rfl := some_e h
    exact rtI C hr hw dX1_valley_25
abbrev rmX1_rocket : Room := { frames := 2, cells := 0, slots := 0, locals := 50 }
theorem hdX1_rocket : yX1_rocket.cls = RX1 ∧ yX1_rocket.cls ≠ "java/lang/invoke/MethodHandle" ∧ yX1_rocket.cls ≠ "java/lang/invoke/VarHandle" ∧ (parseMethodDescriptor yX1_rocket.desc).map (fun d => d.parameters.length) = some 2 := by decide +kernel
def fX1_rocket (X : Nat → VS) (a_1 : Int32) (a_2 : Int32) : Option (Int32 × (Nat → VS)) := cl (fX0_hasRocket (X 0) a_1) (fun r1 => if r1 = 0 then cl (fX1_refuse X (-1)) (fun q23 => some (q23.1, q23.2)) else if a_2 = 0 then rd 9 (X 0 1) a_1 (fun r4 => some (r4, X)) else if a_2 = 1 then rd 9 (X 0 2) a_1 (fun r6 => some (r6, X)) else if a_2 = 2 then rd 9 (X 0 3) a_1 (fun r8 => some (r8, X)) else if a_2 = 3 then cl (fX0_isSent (X 0) a_1) (fun r10 => if r10 = 0 then some (0, X) else some (1, X)) else if a_2 = 4 then cl (fX0_costOf (X 0) a_1) (fun r13 => some (r13, X)) else if a_2 = 5 then cl (fX0_reachOf (X 0) a_1) (fun r15 => some (r15, X)) else if a_2 = 6 then cl (fX0_darkOf (X 0) a_1) (fun r17 => some (r17, X)) else if a_2 = 7 then cl (fX0_burstOf (X 0) a_1) (fun r19 => some (r19, X)) else if a_2 = 8 then cl (fX0_readersOf (X 0) a_1) (fun r21 => some (r21, X)) else cl (fX1_refuse X (-2)) (fun q22 => some (q22.1, q22.2)))
set_option maxHeartbeats 4000000 in
set_option maxRecDepth 100000 in
theorem kX1_rocket (ad : Nat → Nat) {X : Nat → VS} {a_1 : Int32} {a_2 : Int32} {z : (Int32 × (Nat → VS))} (h : fX1_rocket X a_1 a_2 = some z) : MI l D cA g yX1_rocket (Cond.code yX1_rocket cX1_rocket 3 (some .int) :: lw_g) rmX1_rocket [.ref (ad 0), .int a_1, .int a_2] (wR cA ad X) z.1 (wR cA ad z.2) := by
  intro sz
  refine Met.ofW (cc := cX1_rocket) (maxL := 3) (ret := (some .int)) (by decide) rfl ?_
  intro p e s m args below meth c s₁ B hml hv
  obtain ⟨rfl, C, hr, hw⟩ := ent B hml hv
  generalize va_A (wR cA ad X) sz = A at C hw ⊢
  have hl := lv_entry ([.ref (ad 0), .int a_1, .int a_2]) (n := 3) (Nat.le_of_ble_eq_true rfl)
  rw [lg_entry_eq]
  generalize (lg_sl ([.ref (ad 0), .int a_1, .int a_2]) ++ List.replicate (3 - (lg_sl ([.ref (ad 0), .int a_1, .int a_2])).length) Slot.unset).toArray = ls at hl ⊢
  have hl : lv_has ls 3 [(0, .ref (ad 0)), (1, .int a_1), (2, .int a_2)] := hl
  have hx := C.1.1
  have hb := C.1.2.1
  have h : (cl (fX0_hasRocket (X 0) a_1) (fun r1 => if r1 = 0 then cl (fX1_refuse X (-1)) (fun q23 => some (q23.1, q23.2)) else if a_2 = 0 then rd 9 (X 0 1) a_1 (fun r4 => some (r4, X)) else if a_2 = 1 then rd 9 (X 0 2) a_1 (fun r6 => some (r6, X)) else if a_2 = 2 then rd 9 (X 0 3) a_1 (fun r8 => some (r8, X)) else if a_2 = 3 then cl (fX0_isSent (X 0) a_1) (fun r10 => if r10 = 0 then some (0, X) else some (1, X)) else if a_2 = 4 then cl (fX0_costOf (X 0) a_1) (fun r13 => some (r13, X)) else if a_2 = 5 then cl (fX0_reachOf (X 0) a_1) (fun r15 => some (r15, X)) else if a_2 = 6 then cl (fX0_darkOf (X 0) a_1) (fun r17 => some (r17, X)) else if a_2 = 7 then cl (fX0_burstOf (X 0) a_1) (fun r19 => some (r19, X)) else if a_2 = 8 then cl (fX0_readersOf (X 0) a_1) (fun r21 => some (r21, X)) else cl (fX1_refuse X (-2)) (fun q22 => some (q22.1, q22.2)))) = some z := h
  refine lv_aload_n hx hb dX1_rocket_0 rfl (lv_at hl 0 rfl) ?_
  refine tGet (T := TX1) (N := 12) (ci := 1) C hw inX1 0 0 rfl (by decide) kf_RX1_10 rfl rfl rfl dX1_rocket_1 ?_
  refine lv_iload_n hx hb dX1_rocket_4 rfl (lv_at hl 1 rfl) ?_
  obtain ⟨r1, hr1, h⟩ := cl_some h
  refine cVi (ws2 := (wR cA ad X)) (As := [.int a_1]) (rest := []) C hw jR0r (kX0_hasRocket (fun k => ad (1 + k)) hr1) kl_RX1_70 ki_yX0_hasRocket ks_yX0_hasRocket kn_RX0 kc_yX0_hasRocket ⟨rfl, rfl⟩ hdX0_hasRocket ⟨Nat.le_of_ble_eq_true rfl, Nat.le_of_ble_eq_true rfl⟩ (ci := 0) (q0 := 0) rfl rfl rfl rfl hl.1 (Nat.le_of_ble_eq_true rfl) dX1_rocket_5 ⟨Nat.zero_le _, Nat.zero_le _⟩ (fun H locs hw => ?_)
  refine lv_if_ne (tgt := 17) hx hb dX1_rocket_8 (by decide) (fun c2 => ?_) (fun c2 => ?_)
  · replace h := (if_neg c2).symm.trans h
    refine lv_iload_n hx hb dX1_rocket_17 rfl (lv_at hl 2 rfl) ?_
    by_cases c3 : a_2 = 0
    · replace h := (if_pos c3).symm.trans h
      refine lv_tableIn (tgt := 68) hx hb dX1_rocket_18 (by rw [c3]; decide) (by rw [c3]; decide) (by rw [c3]; rfl) (by decide) ?_
      refine lv_aload_n hx hb dX1_rocket_68 rfl (lv_at hl 0 rfl) ?_
      refine tGet (T := TX1) (N := 12) (ci := 1) C hw inX1 0 0 rfl (by decide) kf_RX1_10 rfl rfl rfl dX1_rocket_69 ?_
      refine tGet (T := TX0) (N := 12) (ci := 0) C hw inX0 1 1 rfl (by decide) kf_RX1_73 rfl rfl rfl dX1_rocket_72 ?_
      refine lv_iload_n hx hb dX1_rocket_75 rfl (lv_at hl 1 rfl) ?_
      obtain ⟨r4, ir4, er4, h⟩ := rd_some h
      refine tLd C hw 2 rfl ir4 er4 dX1_rocket_76 ?_
      obtain rfl := some_e h
      exact rtI C hr hw dX1_rocket_77
    replace h := (if_neg c3).symm.trans h
    by_cases c5 : a_2 = 1
    · replace h := (if_pos c5).symm.trans h
      refine lv_tableIn (tgt := 78) hx hb dX1_rocket_18 (by rw [c5]; decide) (by rw [c5]; decide) (by rw [c5]; rfl) (by decide) ?_
      refine lv_aload_n hx hb dX1_rocket_78 rfl (lv_at hl 0 rfl) ?_
      refine tGet (T := TX1) (N := 12) (ci := 1) C hw inX1 0 0 rfl (by decide) kf_RX1_10 rfl rfl rfl dX1_rocket_79 ?_
      refine tGet (T := TX0) (N := 12) (ci := 0) C hw inX0 2 1 rfl (by decide) kf_RX1_76 rfl rfl rfl dX1_rocket_82 ?_
      refine lv_iload_n hx hb dX1_rocket_85 rfl (lv_at hl 1 rfl) ?_
      obtain ⟨r6, ir6, er6, h⟩ := rd_some h
      refine tLd C hw 3 rfl ir6 er6 dX1_rocket_86 ?_
      obtain rfl := some_e h
      exact rtI C hr hw dX1_rocket_87
    replace h := (if_neg c5).symm.trans h
    by_cases c7 : a_2 = 2
    · replace h := (if_pos c7).symm.trans h
      refine lv_tableIn (tgt := 88) hx hb dX1_rocket_18 (by rw [c7]; decide) (by rw [c7]; decide) (by rw [c7]; rfl) (by decide) ?_
      refine lv_aload_n hx hb dX1_rocket_88 rfl (lv_at hl 0 rfl) ?_
      refine tGet (T := TX1) (N := 12) (ci := 1) C hw inX1 0 0 rfl (by decide) kf_RX1_10 rfl rfl rfl dX1_rocket_89 ?_
      refine tGet (T := TX0) (N := 12) (ci := 0) C hw inX0 3 1 rfl (by decide) kf_RX1_79 rfl rfl rfl dX1_rocket_92 ?_
      refine lv_iload_n hx hb dX1_rocket_95 rfl (lv_at hl 1 rfl) ?_
      obtain ⟨r8, ir8, er8, h⟩ := rd_some h
      refine tLd C hw 4 rfl ir8 er8 dX1_rocket_96 ?_
      obtain rfl := some_e h
      exact rtI C hr hw dX1_rocket_97
    replace h := (if_neg c7).symm.trans h
    by_cases c9 : a_2 = 3
    · replace h := (if_pos c9).symm.trans h
      refine lv_tableIn (tgt := 98) hx hb dX1_rocket_18 (by rw [c9]; decide) (by rw [c9]; decide) (by rw [c9]; rfl) (by decide) ?_
      refine lv_aload_n hx hb dX1_rocket_98 rfl (lv_at hl 0 rfl) ?_
      refine tGet (T := TX1) (N := 12) (ci := 1) C hw inX1 0 0 rfl (by decide) kf_RX1_10 rfl rfl rfl dX1_rocket_99 ?_
      refine lv_iload_n hx hb dX1_rocket_102 rfl (lv_at hl 1 rfl) ?_
      obtain ⟨r10, hr10, h⟩ := cl_some h
      refine cVi (ws2 := (wR cA ad X)) (As := [.int a_1]) (rest := []) C hw jR0r (kX0_isSent (fun k => ad (1 + k)) hr10) kl_RX1_82 ki_yX0_isSent ks_yX0_isSent kn_RX0 kc_yX0_isSent ⟨rfl, rfl⟩ hdX0_isSent ⟨Nat.le_of_ble_eq_true rfl, Nat.le_of_ble_eq_true rfl⟩ (ci := 0) (q0 := 0) rfl rfl rfl rfl hl.1 (Nat.le_of_ble_eq_true rfl) dX1_rocket_103 ⟨Nat.zero_le _, Nat.zero_le _⟩ (fun H locs hw => ?_)
      refine lv_if_eq (tgt := 113) hx hb dX1_rocket_106 (by decide) (fun c11 => ?_) (fun c11 => ?_)
      · replace h := (if_pos c11).symm.trans h
        refine lv_iconst (v := 0) hx hb dX1_rocket_113 (by decide) ?_
        obtain rfl := some_e h
        exact rtI C hr hw dX1_rocket_114
      · replace h := (if_neg c11).symm.trans h
        refine lv_iconst (v := 1) hx hb dX1_rocket_109 (by decide) ?_
        refine lv_goto (tgt := 114) hx hb dX1_rocket_110 (by decide) ?_
        obtain rfl := some_e h
        exact rtI C hr hw dX1_rocket_114
    replace h := (if_neg c9).symm.trans h
    by_cases c12 : a_2 = 4
    · replace h := (if_pos c12).symm.trans h
      refine lv_tableIn (tgt := 115) hx hb dX1_rocket_18 (by rw [c12]; decide) (by rw [c12]; decide) (by rw [c12]; rfl) (by decide) ?_
      refine lv_aload_n hx hb dX1_rocket_115 rfl (lv_at hl 0 rfl) ?_
      refine tGet (T := TX1) (N := 12) (ci := 1) C hw inX1 0 0 rfl (by decide) kf_RX1_10 rfl rfl rfl dX1_rocket_116 ?_
      refine lv_iload_n hx hb dX1_rocket_119 rfl (lv_at hl 1 rfl) ?_
      obtain ⟨r13, hr13, h⟩ := cl_some h
      refine cVi (ws2 := (wR cA ad X)) (As := [.int a_1]) (rest := []) C hw jR0r (kX0_costOf (fun k => ad (1 + k)) hr13) kl_RX1_85 ki_yX0_costOf ks_yX0_costOf kn_RX0 kc_yX0_costOf ⟨rfl, rfl⟩ hdX0_costOf ⟨Nat.le_of_ble_eq_true rfl, Nat.le_of_ble_eq_true rfl⟩ (ci := 0) (q0 := 0) rfl rfl rfl rfl hl.1 (Nat.le_of_ble_eq_true rfl) dX1_rocket_120 ⟨Nat.zero_le _, Nat.zero_le _⟩ (fun H locs hw => ?_)
      obtain rfl := some_e h
      exact rtI C hr hw dX1_rocket_123
    replace h := (if_neg c12).symm.trans h
    by_cases c14 : a_2 = 5
    · replace h := (if_pos c14).symm.trans h
      refine lv_tableIn (tgt := 124) hx hb dX1_rocket_18 (by rw [c14]; decide) (by rw [c14]; decide) (by rw [c14]; rfl) (by decide) ?_
      refine lv_aload_n hx hb dX1_rocket_124 rfl (lv_at hl 0 rfl) ?_
      refine tGet (T := TX1) (N := 12) (ci := 1) C hw inX1 0 0 rfl (by decide) kf_RX1_10 rfl rfl rfl dX1_rocket_125 ?_
      refine lv_iload_n hx hb dX1_rocket_128 rfl (lv_at hl 1 rfl) ?_
      obtain ⟨r15, hr15, h⟩ := cl_some h
      refine cVi (ws2 := (wR cA ad X)) (As := [.int a_1]) (rest := []) C hw jR0r (kX0_reachOf (fun k => ad (1 + k)) hr15) kl_RX1_88 ki_yX0_reachOf ks_yX0_reachOf kn_RX0 kc_yX0_reachOf ⟨rfl, rfl⟩ hdX0_reachOf ⟨Nat.le_of_ble_eq_true rfl, Nat.le_of_ble_eq_true rfl⟩ (ci := 0) (q0 := 0) rfl rfl rfl rfl hl.1 (Nat.le_of_ble_eq_true rfl) dX1_rocket_129 ⟨Nat.zero_le _, Nat.zero_le _⟩ (fun H locs hw => ?_)
      obtain rfl := some_e h
      exact rtI C hr hw dX1_rocket_132
    replace h := (if_neg c14).symm.trans h
    by_cases c16 : a_2 = 6
    · replace h := (if_pos c16).symm.trans h
      refine lv_tableIn (tgt := 133) hx hb dX1_rocket_18 (by rw [c16]; decide) (by rw [c16]; decide) (by rw [c16]; rfl) (by decide) ?_
      refine lv_aload_n hx hb dX1_rocket_133 rfl (lv_at hl 0 rfl) ?_
      refine tGet (T := TX1) (N := 12) (ci := 1) C hw inX1 0 0 rfl (by decide) kf_RX1_10 rfl rfl rfl dX1_rocket_134 ?_
      refine lv_iload_n hx hb dX1_rocket_137 rfl (lv_at hl 1 rfl) ?_
      obtain ⟨r17, hr17, h⟩ := cl_some h
      refine cVi (ws2 := (wR cA ad X)) (As := [.int a_1]) (rest := []) C hw jR0r (kX0_darkOf (fun k => ad (1 + k)) hr17) kl_RX1_91 ki_yX0_darkOf ks_yX0_darkOf kn_RX0 kc_yX0_darkOf ⟨rfl, rfl⟩ hdX0_darkOf ⟨Nat.le_of_ble_eq_true rfl, Nat.le_of_ble_eq_true rfl⟩ (ci := 0) (q0 := 0) rfl rfl rfl rfl hl.1 (Nat.le_of_ble_eq_true rfl) dX1_rocket_138 ⟨Nat.zero_le _, Nat.zero_le _⟩ (fun H locs hw => ?_)
      obtain rfl := some_e h
      exact rtI C hr hw dX1_rocket_141
    replace h := (if_neg c16).symm.trans h
    by_cases c18 : a_2 = 7
    · replace h := (if_pos c18).symm.trans h
      refine lv_tableIn (tgt := 142) hx hb dX1_rocket_18 (by rw [c18]; decide) (by rw [c18]; decide) (by rw [c18]; rfl) (by decide) ?_
      refine lv_aload_n hx hb dX1_rocket_142 rfl (lv_at hl 0 rfl) ?_
      refine tGet (T := TX1) (N := 12) (ci := 1) C hw inX1 0 0 rfl (by decide) kf_RX1_10 rfl rfl rfl dX1_rocket_143 ?_
      refine lv_iload_n hx hb dX1_rocket_146 rfl (lv_at hl 1 rfl) ?_
      obtain ⟨r19, hr19, h⟩ := cl_some h
      refine cVi (ws2 := (wR cA ad X)) (As := [.int a_1]) (rest := []) C hw jR0r (kX0_burstOf (fun k => ad (1 + k)) hr19) kl_RX1_94 ki_yX0_burstOf ks_yX0_burstOf kn_RX0 kc_yX0_burstOf ⟨rfl, rfl⟩ hdX0_burstOf ⟨Nat.le_of_ble_eq_true rfl, Nat.le_of_ble_eq_true rfl⟩ (ci := 0) (q0 := 0) rfl rfl rfl rfl hl.1 (Nat.le_of_ble_eq_true rfl) dX1_rocket_147 ⟨Nat.zero_le _, Nat.zero_le _⟩ (fun H locs hw => ?_)
      obtain rfl := some_e h
      exact rtI C hr hw dX1_rocket_150
    replace h := (if_neg c18).symm.trans h
    by_cases c20 : a_2 = 8
    · replace h := (if_pos c20).symm.trans h
      refine lv_tableIn (tgt := 151) hx hb dX1_rocket_18 (by rw [c20]; decide) (by rw [c20]; decide) (by rw [c20]; rfl) (by decide) ?_
      refine lv_aload_n hx hb dX1_rocket_151 rfl (lv_at hl 0 rfl) ?_
      refine tGet (T := TX1) (N := 12) (ci := 1) C hw inX1 0 0 rfl (by decide) kf_RX1_10 rfl rfl rfl dX1_rocket_152 ?_
      refine lv_iload_n hx hb dX1_rocket_155 rfl (lv_at hl 1 rfl) ?_
      obtain ⟨r21, hr21, h⟩ := cl_some h
      refine cVi (ws2 := (wR cA ad X)) (As := [.int a_1]) (rest := []) C hw jR0r (kX0_readersOf (fun k => ad (1 + k)) hr21) kl_RX1_97 ki_yX0_readersOf ks_yX0_readersOf kn_RX0 kc_yX0_readersOf ⟨rfl, rfl⟩ hdX0_readersOf ⟨Nat.le_of_ble_eq_true rfl, Nat.le_of_ble_eq_true rfl⟩ (ci := 0) (q0 := 0) rfl rfl rfl rfl hl.1 (Nat.le_of_ble_eq_true rfl) dX1_rocket_156 ⟨Nat.zero_le _, Nat.zero_le _⟩ (fun H locs hw => ?_)
      obtain rfl := some_e h
      exact rtI C hr hw dX1_rocket_159
    replace h := (if_neg c20).symm.trans h
    have hout : (a_2 : Int32).toInt < 0 ∨ 8 < (a_2 : Int32).toInt := sw_out (fun k h1 h2 => by
      have hk : k = 0 ∨ k = 1 ∨ k = 2 ∨ k = 3 ∨ k = 4 ∨ k = 5 ∨ k = 6 ∨ k = 7 ∨ k = 8 := by omega
      rcases hk with rfl | rfl | rfl | rfl | rfl | rfl | rfl | rfl | rfl
      · exact sw_ne c3 (by decide)
      · exact sw_ne c5 (by decide)
      · exact sw_ne c7 (by decide)
      · exact sw_ne c9 (by decide)
      · exact sw_ne c12 (by decide)
      · exact sw_ne c14 (by decide)
      · exact sw_ne c16 (by decide)
      · exact sw_ne c18 (by decide)
      · exact sw_ne c20 (by decide))
    refine lv_tableOut (tgt := 160) hx hb dX1_rocket_18 hout (by decide) ?_
    refine lv_aload_n hx hb dX1_rocket_160 rfl (lv_at hl 0 rfl) ?_
    refine lv_bipush (v := (-2)) hx hb dX1_rocket_161 (by decide) ?_
    obtain ⟨q22, hq22, h⟩ := cl_some h
    refine cVi (ws2 := (wR cA ad q22.2)) (As := [.int (-2)]) (rest := []) C hw jnW (kX1_refuse ad hq22) kl_RX1_52 ki_yX1_refuse ks_yX1_refuse kn_RX1 kc_yX1_refuse ⟨rfl, rfl⟩ hdX1_refuse ⟨Nat.le_of_ble_eq_true rfl, Nat.le_of_ble_eq_true rfl⟩ (ci := 1) (q0 := 0) rfl rfl rfl rfl hl.1 (Nat.le_of_ble_eq_true rfl) dX1_rocket_163 ⟨Nat.zero_le _, Nat.zero_le _⟩ (fun H locs hw => ?_)
    obtain rfl := some_e h
    exact rtI C hr hw dX1_rocket_166
  · replace h := (if_pos c2).symm.trans h
    refine lv_aload_n hx hb dX1_rocket_11 rfl (lv_at hl 0 rfl) ?_
    refine lv_iconst (v := (-1)) hx hb dX1_rocket_12 (by decide) ?_
    obtain ⟨q23, hq23, h⟩ := cl_some h
    refine cVi (ws2 := (wR cA ad q23.2)) (As := [.int (-1)]) (rest := []) C hw jnW (kX1_refuse ad hq23) kl_RX1_52 ki_yX1_refuse ks_yX1_refuse kn_RX1 kc_yX1_refuse ⟨rfl, rfl⟩ hdX1_refuse ⟨Nat.le_of_ble_eq_true rfl, Nat.le_of_ble_eq_true rfl⟩ (ci := 1) (q0 := 0) rfl rfl rfl rfl hl.1 (Nat.le_of_ble_eq_true rfl) dX1_rocket_13 ⟨Nat.zero_le _, Nat.zero_le _⟩ (fun H locs hw => ?_)
    obtain rfl := some_e h
    exact rtI C hr hw dX1_rocket_16
abbrev rmX1_reader : Room := { frames := 1, cells := 0, slots := 0, locals := 23 }
theorem hdX1_reader : yX1_reader.cls = RX1 ∧ yX1_reader.cls ≠ "java/lang/invoke/MethodHandle" ∧ yX1_reader.cls ≠ "java/lang/invoke/VarHandle" ∧ (parseMethodDescriptor yX1_reader.desc).map (fun d => d.parameters.length) = some 2 := by decide +kernel
def fX1_reader (X : Nat → VS) (a_1 : Int32) (a_2 : Int32) : Option (Int32 × (Nat → VS)) := cl (fX0_hasReader (X 0) a_1) (fun r1 => if r1 = 0 then cl (fX1_refuse X (-1)) (fun q10 => some (q10.1, q10.2)) else if a_2 = 0 then rd 5 (X 0 6) a_1 (fun r4 => some (r4, X)) else if a_2 = 1 then rd 5 (X 0 7) a_1 (fun r6 => some (r6, X)) else if a_2 = 2 then cl (fX0_wordsOf (X 0) a_1) (fun r8 => some (r8, X)) else cl (fX1_refuse X (-2)) (fun q9 => some (q9.1, q9.2)))
set_option maxHeartbeats 4000000 in
set_option maxRecDepth 100000 in
theorem kX1_reader (ad : Nat → Nat) {X : Nat → VS} {a_1 : Int32} {a_2 : Int32} {z : (Int32 × (Nat → VS))} (h : fX1_reader X a_1 a_2 = some z) : MI l D cA g yX1_reader (Cond.code yX1_reader cX1_reader 3 (some .int) :: lw_g) rmX1_reader [.ref (ad 0), .int a_1, .int a_2] (wR cA ad X) z.1 (wR cA ad z.2) := by
  intro sz
  refine Met.ofW (cc := cX1_reader) (maxL := 3) (ret := (some .int)) (by decide) rfl ?_
  intro p e s m args below meth c s₁ B hml hv
  obtain ⟨rfl, C, hr, hw⟩ := ent B hml hv
  generalize va_A (wR cA ad X) sz = A at C hw ⊢
  have hl := lv_entry ([.ref (ad 0), .int a_1, .int a_2]) (n := 3) (Nat.le_of_ble_eq_true rfl)
  rw [lg_entry_eq]
  generalize (lg_sl ([.ref (ad 0), .int a_1, .int a_2]) ++ List.replicate (3 - (lg_sl ([.ref (ad 0), .int a_1, .int a_2])).length) Slot.unset).toArray = ls at hl ⊢
  have hl : lv_has ls 3 [(0, .ref (ad 0)), (1, .int a_1), (2, .int a_2)] := hl
  have hx := C.1.1
  have hb := C.1.2.1
  have h : (cl (fX0_hasReader (X 0) a_1) (fun r1 => if r1 = 0 then cl (fX1_refuse X (-1)) (fun q10 => some (q10.1, q10.2)) else if a_2 = 0 then rd 5 (X 0 6) a_1 (fun r4 => some (r4, X)) else if a_2 = 1 then rd 5 (X 0 7) a_1 (fun r6 => some (r6, X)) else if a_2 = 2 then cl (fX0_wordsOf (X 0) a_1) (fun r8 => some (r8, X)) else cl (fX1_refuse X (-2)) (fun q9 => some (q9.1, q9.2)))) = some z := h
  refine lv_aload_n hx hb dX1_reader_0 rfl (lv_at hl 0 rfl) ?_
  refine tGet (T := TX1) (N := 12) (ci := 1) C hw inX1 0 0 rfl (by decide) kf_RX1_10 rfl rfl rfl dX1_reader_1 ?_
  refine lv_iload_n hx hb dX1_reader_4 rfl (lv_at hl 1 rfl) ?_
  obtain ⟨r1, hr1, h⟩ := cl_some h
  refine cVi (ws2 := (wR cA ad X)) (As := [.int a_1]) (rest := []) C hw jR0r (kX0_hasReader (fun k => ad (1 + k)) hr1) kl_RX1_100 ki_yX0_hasReader ks_yX0_hasReader kn_RX0 kc_yX0_hasReader ⟨rfl, rfl⟩ hdX0_hasReader ⟨Nat.le_of_ble_eq_true rfl, Nat.le_of_ble_eq_true rfl⟩ (ci := 0) (q0 := 0) rfl rfl rfl rfl hl.1 (Nat.le_of_ble_eq_true rfl) dX1_reader_5 ⟨Nat.zero_le _, Nat.zero_le _⟩ (fun H locs hw => ?_)
  refine lv_if_ne (tgt := 17) hx hb dX1_reader_8 (by decide) (fun c2 => ?_) (fun c2 => ?_)
  · replace h := (if_neg c2).symm.trans h
    refine lv_iload_n hx hb dX1_reader_17 rfl (lv_at hl 2 rfl) ?_
    by_cases c3 : a_2 = 0
    · replace h := (if_pos c3).symm.trans h
      refine lv_tableIn (tgt := 44) hx hb dX1_reader_18 (by rw [c3]; decide) (by rw [c3]; decide) (by rw [c3]; rfl) (by decide) ?_
      refine lv_aload_n hx hb dX1_reader_44 rfl (lv_at hl 0 rfl) ?_
      refine tGet (T := TX1) (N := 12) (ci := 1) C hw inX1 0 0 rfl (by decide) kf_RX1_10 rfl rfl rfl dX1_reader_45 ?_
      refine tGet (T := TX0) (N := 12) (ci := 0) C hw inX0 6 1 rfl (by decide) kf_RX1_103 rfl rfl rfl dX1_reader_48 ?_
      refine lv_iload_n hx hb dX1_reader_51 rfl (lv_at hl 1 rfl) ?_
      obtain ⟨r4, ir4, er4, h⟩ := rd_some h
      refine tLd C hw 5 rfl ir4 er4 dX1_reader_52 ?_
      obtain rfl := some_e h
      exact rtI C hr hw dX1_reader_53
    replace h := (if_neg c3).symm.trans h
    by_cases c5 : a_2 = 1
    · replace h := (if_pos c5).symm.trans h
      refine lv_tableIn (tgt := 54) hx hb dX1_reader_18 (by rw [c5]; decide) (by rw [c5]; decide) (by rw [c5]; rfl) (by decide) ?_
      refine lv_aload_n hx hb dX1_reader_54 rfl (lv_at hl 0 rfl) ?_
      refine tGet (T := TX1) (N := 12) (ci := 1) C hw inX1 0 0 rfl (by decide) kf_RX1_10 rfl rfl rfl dX1_reader_55 ?_
      refine tGet (T := TX0) (N := 12) (ci := 0) C hw inX0 7 1 rfl (by decide) kf_RX1_106 rfl rfl rfl dX1_reader_58 ?_
      refine lv_iload_n hx hb dX1_reader_61 rfl (lv_at hl 1 rfl) ?_
      obtain ⟨r6, ir6, er6, h⟩ := rd_some h
      refine tLd C hw 6 rfl ir6 er6 dX1_reader_62 ?_
      obtain rfl := some_e h
      exact rtI C hr hw dX1_reader_63
    replace h := (if_neg c5).symm.trans h
    by_cases c7 : a_2 = 2
    · replace h := (if_pos c7).symm.trans h
      refine lv_tableIn (tgt := 64) hx hb dX1_reader_18 (by rw [c7]; decide) (by rw [c7]; decide) (by rw [c7]; rfl) (by decide) ?_
      refine lv_aload_n hx hb dX1_reader_64 rfl (lv_at hl 0 rfl) ?_
      refine tGet (T := TX1) (N := 12) (ci := 1) C hw inX1 0 0 rfl (by decide) kf_RX1_10 rfl rfl rfl dX1_reader_65 ?_
      refine lv_iload_n hx hb dX1_reader_68 rfl (lv_at hl 1 rfl) ?_
      obtain ⟨r8, hr8, h⟩ := cl_some h
      refine cVi (ws2 := (wR cA ad X)) (As := [.int a_1]) (rest := []) C hw jR0r (kX0_wordsOf (fun k => ad (1 + k)) hr8) kl_RX1_109 ki_yX0_wordsOf ks_yX0_wordsOf kn_RX0 kc_yX0_wordsOf ⟨rfl, rfl⟩ hdX0_wordsOf ⟨Nat.le_of_ble_eq_true rfl, Nat.le_of_ble_eq_true rfl⟩ (ci := 0) (q0 := 0) rfl rfl rfl rfl hl.1 (Nat.le_of_ble_eq_true rfl) dX1_reader_69 ⟨Nat.zero_le _, Nat.zero_le _⟩ (fun H locs hw => ?_)
      obtain rfl := some_e h
      exact rtI C hr hw dX1_reader_72
    replace h := (if_neg c7).symm.trans h
    have hout : (a_2 : Int32).toInt < 0 ∨ 2 < (a_2 : Int32).toInt := sw_out (fun k h1 h2 => by
      have hk : k = 0 ∨ k = 1 ∨ k = 2 := by omega
      rcases hk with rfl | rfl | rfl
      · exact sw_ne c3 (by decide)
      · exact sw_ne c5 (by decide)
      · exact sw_ne c7 (by decide))
    refine lv_tableOut (tgt := 73) hx hb dX1_reader_18 hout (by decide) ?_
    refine lv_aload_n hx hb dX1_reader_73 rfl (lv_at hl 0 rfl) ?_
    refine lv_bipush (v := (-2)) hx hb dX1_reader_74 (by decide) ?_
    obtain ⟨q9, hq9, h⟩ := cl_some h
    refine cVi (ws2 := (wR cA ad q9.2)) (As := [.int (-2)]) (rest := []) C hw jnW (kX1_refuse ad hq9) kl_RX1_52 ki_yX1_refuse ks_yX1_refuse kn_RX1 kc_yX1_refuse ⟨rfl, rfl⟩ hdX1_refuse ⟨Nat.le_of_ble_eq_true rfl, Nat.le_of_ble_eq_true rfl⟩ (ci := 1) (q0 := 0) rfl rfl rfl rfl hl.1 (Nat.le_of_ble_eq_true rfl) dX1_reader_76 ⟨Nat.zero_le _, Nat.zero_le _⟩ (fun H locs hw => ?_)
    obtain rfl := some_e h
    exact rtI C hr hw dX1_reader_79
  · replace h := (if_pos c2).symm.trans h
    refine lv_aload_n hx hb dX1_reader_11 rfl (lv_at hl 0 rfl) ?_
    refine lv_iconst (v := (-1)) hx hb dX1_reader_12 (by decide) ?_
    obtain ⟨q10, hq10, h⟩ := cl_some h
    refine cVi (ws2 := (wR cA ad q10.2)) (As := [.int (-1)]) (rest := []) C hw jnW (kX1_refuse ad hq10) kl_RX1_52 ki_yX1_refuse ks_yX1_refuse kn_RX1 kc_yX1_refuse ⟨rfl, rfl⟩ hdX1_refuse ⟨Nat.le_of_ble_eq_true rfl, Nat.le_of_ble_eq_true rfl⟩ (ci := 1) (q0 := 0) rfl rfl rfl rfl hl.1 (Nat.le_of_ble_eq_true rfl) dX1_reader_13 ⟨Nat.zero_le _, Nat.zero_le _⟩ (fun H locs hw => ?_)
    obtain rfl := some_e h
    exact rtI C hr hw dX1_reader_16
abbrev rmX1_keeps : Room := { frames := 1, cells := 0, slots := 0, locals := 21 }
theorem hdX1_keeps : yX1_keeps.cls = RX1 ∧ yX1_keeps.cls ≠ "java/lang/invoke/MethodHandle" ∧ yX1_keeps.cls ≠ "java/lang/invoke/VarHandle" ∧ (parseMethodDescriptor yX1_keeps.desc).map (fun d => d.parameters.length) = some 2 := by decide +kernel
def GX1_keeps_21 (p : Program) (l : Launch) (e : Env) (s : State) (m : MethodId) (args : Array Value) (below : List Frame) (meth : Method) (c : Code) (D : va_G) (cA : ClassId) (A : Nat → Prop) (ad : Nat → Nat) (z : (Int32 × (Nat → VS))) (x : (Nat → VS)) : Prop := ∀ (H : Heap) (locs : List Loc) (ls : Array Slot), Wd D A s.heap (wR cA ad x) H locs → lv_has ls 3 [(0, .ref (ad 0))] → W p l e rmX1_keeps s m args below meth c H locs 0 0 (MQ below (QI D cA A z.1 (wR cA ad z.2)) args s 0 0 A) (F0 m 21 ls [])
def fX1_keeps_21 : ((Nat → VS)) → Option (Int32 × (Nat → VS)) := fun X => cl (fX1_refuse X (-1)) (fun q1 => some (q1.1, q1.2))
def fX1_keeps (X : Nat → VS) (a_1 : Int32) (a_2 : Int32) : Option (Int32 × (Nat → VS)) := cl (fX0_hasReader (X 0) a_1) (fun r1 => if r1 = 0 then fX1_keeps_21 X else if a_2 < 0 then fX1_keeps_21 X else if a_2 < 6 then rd 30 (X 0 8) ((a_1 * (6 : Int32)) + a_2) (fun r5 => some (r5, X)) else fX1_keeps_21 X)
set_option maxHeartbeats 4000000 in
set_option maxRecDepth 100000 in
theorem kX1_keeps_21 (C : Cx p s m args meth c cX1_keeps 3 RX1 D cA g A) (hr : meth.sig.returnType = (some .int)) {z : (Int32 × (Nat → VS))} (x : (Nat → VS)) (h : fX1_keeps_21 x = some z) : GX1_keeps_21 p l e s m args below meth c D cA A ad z x := by
  obtain ⟨X, rfl⟩ : ∃ y, y = x := ⟨_, rfl⟩
  intro H locs ls hw hl
  have hw : Wd D A s.heap (wR cA ad X) H locs := hw
  have hl : lv_has ls 3 [(0, .ref (ad 0))] := hl
  have hx := C.1.1
  have hb := C.1.2.1
  have h : (cl (fX1_refuse X (-1)) (fun q1 => some (q1.1, q1.2))) = some z := h
  refine lv_aload_n hx hb dX1_keeps_21 rfl (lv_at hl 0 rfl) ?_
  refine lv_iconst (v := (-1)) hx hb dX1_keeps_22 (by decide) ?_
  obtain ⟨q1, hq1, h⟩ := cl_some h
  refine cVi (ws2 := (wR cA ad q1.2)) (As := [.int (-1)]) (rest := []) C hw jnW (kX1_refuse ad hq1) kl_RX1_52 ki_yX1_refuse ks_yX1_refuse kn_RX1 kc_yX1_refuse ⟨rfl, rfl⟩ hdX1_refuse ⟨Nat.le_of_ble_eq_true rfl, Nat.le_of_ble_eq_true rfl⟩ (ci := 1) (q0 := 0) rfl rfl rfl rfl hl.1 (Nat.le_of_ble_eq_true rfl) dX1_keeps_23 ⟨Nat.zero_le _, Nat.zero_le _⟩ (fun H locs hw => ?_)
  obtain rfl := some_e h
  exact rtI C hr hw dX1_keeps_26
set_option maxHeartbeats 4000000 in
set_option maxRecDepth 100000 in
theorem kX1_keeps (ad : Nat → Nat) {X : Nat → VS} {a_1 : Int32} {a_2 : Int32} {z : (Int32 × (Nat → VS))} (h : fX1_keeps X a_1 a_2 = some z) : MI l D cA g yX1_keeps (Cond.code yX1_keeps cX1_keeps 3 (some .int) :: lw_g) rmX1_keeps [.ref (ad 0), .int a_1, .int a_2] (wR cA ad X) z.1 (wR cA ad z.2) := by
  intro sz
  refine Met.ofW (cc := cX1_keeps) (maxL := 3) (ret := (some .int)) (by decide) rfl ?_
  intro p e s m args below meth c s₁ B hml hv
  obtain ⟨rfl, C, hr, hw⟩ := ent B hml hv
  generalize va_A (wR cA ad X) sz = A at C hw ⊢
  have hl := lv_entry ([.ref (ad 0), .int a_1, .int a_2]) (n := 3) (Nat.le_of_ble_eq_true rfl)
  rw [lg_entry_eq]
  generalize (lg_sl ([.ref (ad 0), .int a_1, .int a_2]) ++ List.replicate (3 - (lg_sl ([.ref (ad 0), .int a_1, .int a_2])).length) Slot.unset).toArray = ls at hl ⊢
  have hl : lv_has ls 3 [(0, .ref (ad 0)), (1, .int a_1), (2, .int a_2)] := hl
  have hx := C.1.1
  have hb := C.1.2.1
  have h : (cl (fX0_hasReader (X 0) a_1) (fun r1 => if r1 = 0 then fX1_keeps_21 X else if a_2 < 0 then fX1_keeps_21 X else if a_2 < 6 then rd 30 (X 0 8) ((a_1 * (6 : Int32)) + a_2) (fun r5 => some (r5, X)) else fX1_keeps_21 X)) = some z := h
  refine lv_aload_n hx hb dX1_keeps_0 rfl (lv_at hl 0 rfl) ?_
  refine tGet (T := TX1) (N := 12) (ci := 1) C hw inX1 0 0 rfl (by decide) kf_RX1_10 rfl rfl rfl dX1_keeps_1 ?_
  refine lv_iload_n hx hb dX1_keeps_4 rfl (lv_at hl 1 rfl) ?_
  obtain ⟨r1, hr1, h⟩ := cl_some h
  refine cVi (ws2 := (wR cA ad X)) (As := [.int a_1]) (rest := []) C hw jR0r (kX0_hasReader (fun k => ad (1 + k)) hr1) kl_RX1_100 ki_yX0_hasReader ks_yX0_hasReader kn_RX0 kc_yX0_hasReader ⟨rfl, rfl⟩ hdX0_hasReader ⟨Nat.le_of_ble_eq_true rfl, Nat.le_of_ble_eq_true rfl⟩ (ci := 0) (q0 := 0) rfl rfl rfl rfl hl.1 (Nat.le_of_ble_eq_true rfl) dX1_keeps_5 ⟨Nat.zero_le _, Nat.zero_le _⟩ (fun H locs hw => ?_)
  refine lv_if_eq (tgt := 21) hx hb dX1_keeps_8 (by decide) (fun c2 => ?_) (fun c2 => ?_)
  · replace h := (if_pos c2).symm.trans h
    exact kX1_keeps_21 C hr X h _ _ _ hw (lv_sub hl [0] rfl)
  · replace h := (if_neg c2).symm.trans h
    refine lv_iload_n hx hb dX1_keeps_11 rfl (lv_at hl 2 rfl) ?_
    refine lv_if_lt (tgt := 21) hx hb dX1_keeps_12 (by decide) (fun c3 => ?_) (fun c3 => ?_)
    · replace h := (if_pos c3).symm.trans h
      exact kX1_keeps_21 C hr X h _ _ _ hw (lv_sub hl [0] rfl)
    · replace h := (if_neg c3).symm.trans h
      refine lv_iload_n hx hb dX1_keeps_15 rfl (lv_at hl 2 rfl) ?_
      refine lv_bipush (v := 6) hx hb dX1_keeps_16 (by decide) ?_
      refine lv_icmp_lt (tgt := 27) hx hb dX1_keeps_18 (by decide) (fun c4 => ?_) (fun c4 => ?_)
      · replace h := (if_pos c4).symm.trans h
        refine lv_aload_n hx hb dX1_keeps_27 rfl (lv_at hl 0 rfl) ?_
        refine tGet (T := TX1) (N := 12) (ci := 1) C hw inX1 0 0 rfl (by decide) kf_RX1_10 rfl rfl rfl dX1_keeps_28 ?_
        refine tGet (T := TX0) (N := 12) (ci := 0) C hw inX0 8 1 rfl (by decide) kf_RX1_112 rfl rfl rfl dX1_keeps_31 ?_
        refine lv_iload_n hx hb dX1_keeps_34 rfl (lv_at hl 1 rfl) ?_
        refine lv_bipush (v := 6) hx hb dX1_keeps_35 (by decide) ?_
        refine lv_imul hx hb dX1_keeps_37 ?_
        refine lv_iload_n hx hb dX1_keeps_38 rfl (lv_at hl 2 rfl) ?_
        refine lv_iadd hx hb dX1_keeps_39 ?_
        obtain ⟨r5, ir5, er5, h⟩ := rd_some h
        refine tLd C hw 7 rfl ir5 er5 dX1_keeps_40 ?_
        obtain rfl := some_e h
        exact rtI C hr hw dX1_keeps_41
      · replace h := (if_neg c4).symm.trans h
        exact kX1_keeps_21 C hr X h _ _ _ hw (lv_sub hl [0] rfl)
abbrev rmX1_sends : Room := { frames := 3, cells := 0, slots := 0, locals := 76 }
theorem hdX1_sends : yX1_sends.cls = RX1 ∧ yX1_sends.cls ≠ "java/lang/invoke/MethodHandle" ∧ yX1_sends.cls ≠ "java/lang/invoke/VarHandle" ∧ (parseMethodDescriptor yX1_sends.desc).map (fun d => d.parameters.length) = some 1 := by decide +kernel
def fX1_sends (X : Nat → VS) (a_1 : Int32) : Option (Int32 × (Nat → VS)) := cl (fX0_hasRocket (X 0) a_1) (fun r1 => if r1 = 0 then cl (fX1_refuse X (-1)) (fun q8 => some (q8.1, q8.2)) else cl (fX0_canSend (X 0) a_1) (fun r3 => if r3 = 0 then cl (fX1_refuse X (-3)) (fun q7 => some (q7.1, q7.2)) else cl (fX0_sendUp (X 0) a_1 31) (fun w5 => bn (up X 0 w5) (fun w6 => some ((w6 0 9 0), w6)))))
set_option maxHeartbeats 4000000 in
set_option maxRecDepth 100000 in
theorem kX1_sends (ad : Nat → Nat) {X : Nat → VS} {a_1 : Int32} {z : (Int32 × (Nat → VS))} (h : fX1_sends X a_1 = some z) : MI l D cA g yX1_sends (Cond.code yX1_sends cX1_sends 2 (some .int) :: lw_g) rmX1_sends [.ref (ad 0), .int a_1] (wR cA ad X) z.1 (wR cA ad z.2) := by
  intro sz
  refine Met.ofW (cc := cX1_sends) (maxL := 2) (ret := (some .int)) (by decide) rfl ?_
  intro p e s m args below meth c s₁ B hml hv
  obtain ⟨rfl, C, hr, hw⟩ := ent B hml hv
  generalize va_A (wR cA ad X) sz = A at C hw ⊢
  have hl := lv_entry ([.ref (ad 0), .int a_1]) (n := 2) (Nat.le_of_ble_eq_true rfl)
  rw [lg_entry_eq]
  generalize (lg_sl ([.ref (ad 0), .int a_1]) ++ List.replicate (2 - (lg_sl ([.ref (ad 0), .int a_1])).length) Slot.unset).toArray = ls at hl ⊢
  have hl : lv_has ls 2 [(0, .ref (ad 0)), (1, .int a_1)] := hl
  have hx := C.1.1
  have hb := C.1.2.1
  have h : (cl (fX0_hasRocket (X 0) a_1) (fun r1 => if r1 = 0 then cl (fX1_refuse X (-1)) (fun q8 => some (q8.1, q8.2)) else cl (fX0_canSend (X 0) a_1) (fun r3 => if r3 = 0 then cl (fX1_refuse X (-3)) (fun q7 => some (q7.1, q7.2)) else cl (fX0_sendUp (X 0) a_1 31) (fun w5 => bn (up X 0 w5) (fun w6 => some ((w6 0 9 0), w6)))))) = some z := h
  refine lv_aload_n hx hb dX1_sends_0 rfl (lv_at hl 0 rfl) ?_
  refine tGet (T := TX1) (N := 12) (ci := 1) C hw inX1 0 0 rfl (by decide) kf_RX1_10 rfl rfl rfl dX1_sends_1 ?_
  refine lv_iload_n hx hb dX1_sends_4 rfl (lv_at hl 1 rfl) ?_
  obtain ⟨r1, hr1, h⟩ := cl_some h
  refine cVi (ws2 := (wR cA ad X)) (As := [.int a_1]) (rest := []) C hw jR0r (kX0_hasRocket (fun k => ad (1 + k)) hr1) kl_RX1_70 ki_yX0_hasRocket ks_yX0_hasRocket kn_RX0 kc_yX0_hasRocket ⟨rfl, rfl⟩ hdX0_hasRocket ⟨Nat.le_of_ble_eq_true rfl, Nat.le_of_ble_eq_true rfl⟩ (ci := 0) (q0 := 0) rfl rfl rfl rfl hl.1 (Nat.le_of_ble_eq_true rfl) dX1_sends_5 ⟨Nat.zero_le _, Nat.zero_le _⟩ (fun H locs hw => ?_)
  refine lv_if_ne (tgt := 17) hx hb dX1_sends_8 (by decide) (fun c2 => ?_) (fun c2 => ?_)
  · replace h := (if_neg c2).symm.trans h
    refine lv_aload_n hx hb dX1_sends_17 rfl (lv_at hl 0 rfl) ?_
    refine tGet (T := TX1) (N := 12) (ci := 1) C hw inX1 0 0 rfl (by decide) kf_RX1_10 rfl rfl rfl dX1_sends_18 ?_
    refine lv_iload_n hx hb dX1_sends_21 rfl (lv_at hl 1 rfl) ?_
    obtain ⟨r3, hr3, h⟩ := cl_some h
    refine cVi (ws2 := (wR cA ad X)) (As := [.int a_1]) (rest := []) C hw jR0r (kX0_canSend (fun k => ad (1 + k)) hr3) kl_RX1_115 ki_yX0_canSend ks_yX0_canSend kn_RX0 kc_yX0_canSend ⟨rfl, rfl⟩ hdX0_canSend ⟨Nat.le_of_ble_eq_true rfl, Nat.le_of_ble_eq_true rfl⟩ (ci := 0) (q0 := 0) rfl rfl rfl rfl hl.1 (Nat.le_of_ble_eq_true rfl) dX1_sends_22 ⟨Nat.zero_le _, Nat.zero_le _⟩ (fun H locs hw => ?_)
    refine lv_if_ne (tgt := 35) hx hb dX1_sends_25 (by decide) (fun c4 => ?_) (fun c4 => ?_)
    · replace h := (if_neg c4).symm.trans h
      refine lv_aload_n hx hb dX1_sends_35 rfl (lv_at hl 0 rfl) ?_
      refine tGet (T := TX1) (N := 12) (ci := 1) C hw inX1 0 0 rfl (by decide) kf_RX1_10 rfl rfl rfl dX1_sends_36 ?_
      refine lv_iload_n hx hb dX1_sends_39 rfl (lv_at hl 1 rfl) ?_
      refine lv_bipush (v := 31) hx hb dX1_sends_40 (by decide) ?_
      obtain ⟨w5, hw5, h⟩ := cl_some h
      obtain ⟨w6, ew6⟩ : ∃ y : Nat → VS, y = up X 0 w5 := ⟨_, rfl⟩
      replace h := bn_some h ew6
      refine cVv (ws2 := (wR cA ad w6)) (As := [.int a_1, .int 31]) (rest := []) C hw (by rw [ew6]; exact jR0) (kX0_sendUp (fun k => ad (1 + k)) hw5) kl_RX1_118 ki_yX0_sendUp ks_yX0_sendUp kn_RX0 kc_yX0_sendUp ⟨rfl, rfl⟩ hdX0_sendUp ⟨Nat.le_of_ble_eq_true rfl, Nat.le_of_ble_eq_true rfl⟩ (ci := 0) (q0 := 0) rfl rfl rfl rfl hl.1 (Nat.le_of_ble_eq_true rfl) dX1_sends_42 ⟨Nat.zero_le _, Nat.zero_le _⟩ (fun H locs hw => ?_)
      refine lv_aload_n hx hb dX1_sends_45 rfl (lv_at hl 0 rfl) ?_
      refine tGet (T := TX1) (N := 12) (ci := 1) C hw inX1 0 0 rfl (by decide) kf_RX1_10 rfl rfl rfl dX1_sends_46 ?_
      refine tGet (T := TX0) (N := 12) (ci := 0) C hw inX0 9 1 rfl (by decide) kf_RX1_122 rfl rfl rfl dX1_sends_49 ?_
      obtain rfl := some_e h
      exact rtI C hr hw dX1_sends_52
    · replace h := (if_pos c4).symm.trans h
      refine lv_aload_n hx hb dX1_sends_28 rfl (lv_at hl 0 rfl) ?_
      refine lv_bipush (v := (-3)) hx hb dX1_sends_29 (by decide) ?_
      obtain ⟨q7, hq7, h⟩ := cl_some h
      refine cVi (ws2 := (wR cA ad q7.2)) (As := [.int (-3)]) (rest := []) C hw jnW (kX1_refuse ad hq7) kl_RX1_52 ki_yX1_refuse ks_yX1_refuse kn_RX1 kc_yX1_refuse ⟨rfl, rfl⟩ hdX1_refuse ⟨Nat.le_of_ble_eq_true rfl, Nat.le_of_ble_eq_true rfl⟩ (ci := 1) (q0 := 0) rfl rfl rfl rfl hl.1 (Nat.le_of_ble_eq_true rfl) dX1_sends_31 ⟨Nat.zero_le _, Nat.zero_le _⟩ (fun H locs hw => ?_)
      obtain rfl := some_e h
      exact rtI C hr hw dX1_sends_34
  · replace h := (if_pos c2).symm.trans h
    refine lv_aload_n hx hb dX1_sends_11 rfl (lv_at hl 0 rfl) ?_
    refine lv_iconst (v := (-1)) hx hb dX1_sends_12 (by decide) ?_
    obtain ⟨q8, hq8, h⟩ := cl_some h
    refine cVi (ws2 := (wR cA ad q8.2)) (As := [.int (-1)]) (rest := []) C hw jnW (kX1_refuse ad hq8) kl_RX1_52 ki_yX1_refuse ks_yX1_refuse kn_RX1 kc_yX1_refuse ⟨rfl, rfl⟩ hdX1_refuse ⟨Nat.le_of_ble_eq_true rfl, Nat.le_of_ble_eq_true rfl⟩ (ci := 1) (q0 := 0) rfl rfl rfl rfl hl.1 (Nat.le_of_ble_eq_true rfl) dX1_sends_13 ⟨Nat.zero_le _, Nat.zero_le _⟩ (fun H locs hw => ?_)
    obtain rfl := some_e h
    exact rtI C hr hw dX1_sends_16
abbrev rmX1_boxes : Room := { frames := 1, cells := 0, slots := 0, locals := 21 }
theorem hdX1_boxes : yX1_boxes.cls = RX1 ∧ yX1_boxes.cls ≠ "java/lang/invoke/MethodHandle" ∧ yX1_boxes.cls ≠ "java/lang/invoke/VarHandle" ∧ (parseMethodDescriptor yX1_boxes.desc).map (fun d => d.parameters.length) = some 1 := by decide +kernel
def fX1_boxes (X : Nat → VS) (a_1 : Int32) : Option (Int32 × (Nat → VS)) := cl (fX0_hasRocket (X 0) a_1) (fun r1 => if r1 = 0 then cl (fX1_refuse X (-1)) (fun q9 => some (q9.1, q9.2)) else cl (fX0_isSent (X 0) a_1) (fun r3 => if r3 = 0 then cl (fX1_refuse X (-3)) (fun q8 => some (q8.1, q8.2)) else cl (fX0_putBack (X 0) a_1) (fun w5 => bn (up X 0 w5) (fun w6 => cl (fJ6_bitCount_0f7a4 (w6 0 4 0)) (fun r7 => some (((w6 0 0 0) - r7), w6))))))
set_option maxHeartbeats 4000000 in
set_option maxRecDepth 100000 in
theorem kX1_boxes (ad : Nat → Nat) {X : Nat → VS} {a_1 : Int32} {z : (Int32 × (Nat → VS))} (h : fX1_boxes X a_1 = some z) : MI l D cA g yX1_boxes (Cond.code yX1_boxes cX1_boxes 2 (some .int) :: lw_g) rmX1_boxes [.ref (ad 0), .int a_1] (wR cA ad X) z.1 (wR cA ad z.2) := by
  intro sz
  refine Met.ofW (cc := cX1_boxes) (maxL := 2) (ret := (some .int)) (by decide) rfl ?_
  intro p e s m args below meth c s₁ B hml hv
  obtain ⟨rfl, C, hr, hw⟩ := ent B hml hv
  generalize va_A (wR cA ad X) sz = A at C hw ⊢
  have hl := lv_entry ([.ref (ad 0), .int a_1]) (n := 2) (Nat.le_of_ble_eq_true rfl)
  rw [lg_entry_eq]
  generalize (lg_sl ([.ref (ad 0), .int a_1]) ++ List.replicate (2 - (lg_sl ([.ref (ad 0), .int a_1])).length) Slot.unset).toArray = ls at hl ⊢
  have hl : lv_has ls 2 [(0, .ref (ad 0)), (1, .int a_1)] := hl
  have hx := C.1.1
  have hb := C.1.2.1
  have h : (cl (fX0_hasRocket (X 0) a_1) (fun r1 => if r1 = 0 then cl (fX1_refuse X (-1)) (fun q9 => some (q9.1, q9.2)) else cl (fX0_isSent (X 0) a_1) (fun r3 => if r3 = 0 then cl (fX1_refuse X (-3)) (fun q8 => some (q8.1, q8.2)) else cl (fX0_putBack (X 0) a_1) (fun w5 => bn (up X 0 w5) (fun w6 => cl (fJ6_bitCount_0f7a4 (w6 0 4 0)) (fun r7 => some (((w6 0 0 0) - r7), w6))))))) = some z := h
  refine lv_aload_n hx hb dX1_boxes_0 rfl (lv_at hl 0 rfl) ?_
  refine tGet (T := TX1) (N := 12) (ci := 1) C hw inX1 0 0 rfl (by decide) kf_RX1_10 rfl rfl rfl dX1_boxes_1 ?_
  refine lv_iload_n hx hb dX1_boxes_4 rfl (lv_at hl 1 rfl) ?_
  obtain ⟨r1, hr1, h⟩ := cl_some h
  refine cVi (ws2 := (wR cA ad X)) (As := [.int a_1]) (rest := []) C hw jR0r (kX0_hasRocket (fun k => ad (1 + k)) hr1) kl_RX1_70 ki_yX0_hasRocket ks_yX0_hasRocket kn_RX0 kc_yX0_hasRocket ⟨rfl, rfl⟩ hdX0_hasRocket ⟨Nat.le_of_ble_eq_true rfl, Nat.le_of_ble_eq_true rfl⟩ (ci := 0) (q0 := 0) rfl rfl rfl rfl hl.1 (Nat.le_of_ble_eq_true rfl) dX1_boxes_5 ⟨Nat.zero_le _, Nat.zero_le _⟩ (fun H locs hw => ?_)
  refine lv_if_ne (tgt := 17) hx hb dX1_boxes_8 (by decide) (fun c2 => ?_) (fun c2 => ?_)
  · replace h := (if_neg c2).symm.trans h
    refine lv_aload_n hx hb dX1_boxes_17 rfl (lv_at hl 0 rfl) ?_
    refine tGet (T := TX1) (N := 12) (ci := 1) C hw inX1 0 0 rfl (by decide) kf_RX1_10 rfl rfl rfl dX1_boxes_18 ?_
    refine lv_iload_n hx hb dX1_boxes_21 rfl (lv_at hl 1 rfl) ?_
    obtain ⟨r3, hr3, h⟩ := cl_some h
    refine cVi (ws2 := (wR cA ad X)) (As := [.int a_1]) (rest := []) C hw jR0r (kX0_isSent (fun k => ad (1 + k)) hr3) kl_RX1_82 ki_yX0_isSent ks_yX0_isSent kn_RX0 kc_yX0_isSent ⟨rfl, rfl⟩ hdX0_isSent ⟨Nat.le_of_ble_eq_true rfl, Nat.le_of_ble_eq_true rfl⟩ (ci := 0) (q0 := 0) rfl rfl rfl rfl hl.1 (Nat.le_of_ble_eq_true rfl) dX1_boxes_22 ⟨Nat.zero_le _, Nat.zero_le _⟩ (fun H locs hw => ?_)
    refine lv_if_ne (tgt := 35) hx hb dX1_boxes_25 (by decide) (fun c4 => ?_) (fun c4 => ?_)
    · replace h := (if_neg c4).symm.trans h
      refine lv_aload_n hx hb dX1_boxes_35 rfl (lv_at hl 0 rfl) ?_
      refine tGet (T := TX1) (N := 12) (ci := 1) C hw inX1 0 0 rfl (by decide) kf_RX1_10 rfl rfl rfl dX1_boxes_36 ?_
      refine lv_iload_n hx hb dX1_boxes_39 rfl (lv_at hl 1 rfl) ?_
      obtain ⟨w5, hw5, h⟩ := cl_some h
      obtain ⟨w6, ew6⟩ : ∃ y : Nat → VS, y = up X 0 w5 := ⟨_, rfl⟩
      replace h := bn_some h ew6
      refine cVv (ws2 := (wR cA ad w6)) (As := [.int a_1]) (rest := []) C hw (by rw [ew6]; exact jR0) (kX0_putBack (fun k => ad (1 + k)) hw5) kl_RX1_125 ki_yX0_putBack ks_yX0_putBack kn_RX0 kc_yX0_putBack ⟨rfl, rfl⟩ hdX0_putBack ⟨Nat.le_of_ble_eq_true rfl, Nat.le_of_ble_eq_true rfl⟩ (ci := 0) (q0 := 0) rfl rfl rfl rfl hl.1 (Nat.le_of_ble_eq_true rfl) dX1_boxes_40 ⟨Nat.zero_le _, Nat.zero_le _⟩ (fun H locs hw => ?_)
      refine lv_aload_n hx hb dX1_boxes_43 rfl (lv_at hl 0 rfl) ?_
      refine tGet (T := TX1) (N := 12) (ci := 1) C hw inX1 0 0 rfl (by decide) kf_RX1_10 rfl rfl rfl dX1_boxes_44 ?_
      refine tGet (T := TX0) (N := 12) (ci := 0) C hw inX0 0 1 rfl (by decide) kf_RX1_129 rfl rfl rfl dX1_boxes_47 ?_
      refine lv_aload_n hx hb dX1_boxes_50 rfl (lv_at hl 0 rfl) ?_
      refine tGet (T := TX1) (N := 12) (ci := 1) C hw inX1 0 0 rfl (by decide) kf_RX1_10 rfl rfl rfl dX1_boxes_51 ?_
      refine tGet (T := TX0) (N := 12) (ci := 0) C hw inX0 4 1 rfl (by decide) kf_RX1_132 rfl rfl rfl dX1_boxes_54 ?_
      obtain ⟨r7, hr7, h⟩ := cl_some h
      refine cSi (ws2 := (wR cA ad w6)) (As := [.int (w6 0 4 0)]) (rest := [.int (w6 0 0 0)]) C hw jnE (kJ6_bitCount_0f7a4 hr7) kl_RX1_135 kt_yJ6_bitCount_0f7a4 kn_RJ6 kc_yJ6_bitCount_0f7a4 ⟨rfl, rfl⟩ hdJ6_bitCount_0f7a4 ⟨Nat.le_of_ble_eq_true rfl, Nat.le_of_ble_eq_true rfl⟩ rfl hl.1 (Nat.le_of_ble_eq_true rfl) dX1_boxes_57 ⟨Nat.zero_le _, Nat.zero_le _⟩ (fun H locs hw => ?_)
      refine lv_isub hx hb dX1_boxes_60 ?_
      obtain rfl := some_e h
      exact rtI C hr hw dX1_boxes_61
    · replace h := (if_pos c4).symm.trans h
      refine lv_aload_n hx hb dX1_boxes_28 rfl (lv_at hl 0 rfl) ?_
      refine lv_bipush (v := (-3)) hx hb dX1_boxes_29 (by decide) ?_
      obtain ⟨q8, hq8, h⟩ := cl_some h
      refine cVi (ws2 := (wR cA ad q8.2)) (As := [.int (-3)]) (rest := []) C hw jnW (kX1_refuse ad hq8) kl_RX1_52 ki_yX1_refuse ks_yX1_refuse kn_RX1 kc_yX1_refuse ⟨rfl, rfl⟩ hdX1_refuse ⟨Nat.le_of_ble_eq_true rfl, Nat.le_of_ble_eq_true rfl⟩ (ci := 1) (q0 := 0) rfl rfl rfl rfl hl.1 (Nat.le_of_ble_eq_true rfl) dX1_boxes_31 ⟨Nat.zero_le _, Nat.zero_le _⟩ (fun H locs hw => ?_)
      obtain rfl := some_e h
      exact rtI C hr hw dX1_boxes_34
  · replace h := (if_pos c2).symm.trans h
    refine lv_aload_n hx hb dX1_boxes_11 rfl (lv_at hl 0 rfl) ?_
    refine lv_iconst (v := (-1)) hx hb dX1_boxes_12 (by decide) ?_
    obtain ⟨q9, hq9, h⟩ := cl_some h
    refine cVi (ws2 := (wR cA ad q9.2)) (As := [.int (-1)]) (rest := []) C hw jnW (kX1_refuse ad hq9) kl_RX1_52 ki_yX1_refuse ks_yX1_refuse kn_RX1 kc_yX1_refuse ⟨rfl, rfl⟩ hdX1_refuse ⟨Nat.le_of_ble_eq_true rfl, Nat.le_of_ble_eq_true rfl⟩ (ci := 1) (q0 := 0) rfl rfl rfl rfl hl.1 (Nat.le_of_ble_eq_true rfl) dX1_boxes_13 ⟨Nat.zero_le _, Nat.zero_le _⟩ (fun H locs hw => ?_)
    obtain rfl := some_e h
    exact rtI C hr hw dX1_boxes_16
abbrev rmX1_outside : Room := { frames := 0, cells := 0, slots := 0, locals := 0 }
theorem hdX1_outside : yX1_outside.cls ≠ "java/lang/invoke/MethodHandle" ∧ yX1_outside.cls ≠ "java/lang/invoke/VarHandle" ∧ (parseMethodDescriptor yX1_outside.desc).map (fun d => d.parameters.length) = some 3 := by decide +kernel
def fX1_outside (a_0 : Int32) (a_1 : Int32) (a_2 : Int32) : Option Int32 := if a_1 ≤ a_0 then if a_0 ≤ a_2 then some 0 else some (-6) else some (-4)
set_option maxHeartbeats 4000000 in
set_option maxRecDepth 100000 in
theorem kX1_outside  {a_0 : Int32} {a_1 : Int32} {a_2 : Int32} {z : Int32} (h : fX1_outside a_0 a_1 a_2 = some z) : MI l D cA g yX1_outside (Cond.code yX1_outside cX1_outside 3 (some .int) :: lw_g) rmX1_outside [.int a_0, .int a_1, .int a_2] ([] : va_W) z ([] : va_W) := by
  intro sz
  refine Met.ofW (cc := cX1_outside) (maxL := 3) (ret := (some .int)) (by decide) rfl ?_
  intro p e s m args below meth c s₁ B hml hv
  obtain ⟨rfl, C, hr, hw⟩ := ent B hml hv
  generalize va_A ([] : va_W) sz = A at C hw ⊢
  have hl := lv_entry ([.int a_0, .int a_1, .int a_2]) (n := 3) (Nat.le_of_ble_eq_true rfl)
  rw [lg_entry_eq]
  generalize (lg_sl ([.int a_0, .int a_1, .int a_2]) ++ List.replicate (3 - (lg_sl ([.int a_0, .int a_1, .int a_2])).length) Slot.unset).toArray = ls at hl ⊢
  have hl : lv_has ls 3 [(0, .int a_0), (1, .int a_1), (2, .int a_2)] := hl
  have hx := C.1.1
  have hb := C.1.2.1
  have h : (if a_1 ≤ a_0 then if a_0 ≤ a_2 then some 0 else some (-6) else some (-4)) = some z := h
  refine lv_iload_n hx hb dX1_outside_0 rfl (lv_at hl 0 rfl) ?_
  refine lv_iload_n hx hb dX1_outside_1 rfl (lv_at hl 1 rfl) ?_
  refine lv_icmp_ge (tgt := 8) hx hb dX1_outside_2 (by decide) (fun c1 => ?_) (fun c1 => ?_)
  · replace h := (if_pos c1).symm.trans h
    refine lv_iload_n hx hb dX1_outside_8 rfl (lv_at hl 0 rfl) ?_
    refine lv_iload_n hx hb dX1_outside_9 rfl (lv_at hl 2 rfl) ?_
    refine lv_icmp_le (tgt := 18) hx hb dX1_outside_10 (by decide) (fun c2 => ?_) (fun c2 => ?_)
    · replace h := (if_pos c2).symm.trans h
      refine lv_iconst (v := 0) hx hb dX1_outside_18 (by decide) ?_
      obtain rfl := some_e h
      exact rtI C hr hw dX1_outside_19
    · replace h := (if_neg c2).symm.trans h
      refine lv_bipush (v := (-6)) hx hb dX1_outside_13 (by decide) ?_
      refine lv_goto (tgt := 19) hx hb dX1_outside_15 (by decide) ?_
      obtain rfl := some_e h
      exact rtI C hr hw dX1_outside_19
  · replace h := (if_neg c1).symm.trans h
    refine lv_bipush (v := (-4)) hx hb dX1_outside_5 (by decide) ?_
    obtain rfl := some_e h
    exact rtI C hr hw dX1_outside_7
abbrev rmX1_wind : Room := { frames := 1, cells := 0, slots := 0, locals := 22 }
theorem hdX1_wind : yX1_wind.cls = RX1 ∧ yX1_wind.cls ≠ "java/lang/invoke/MethodHandle" ∧ yX1_wind.cls ≠ "java/lang/invoke/VarHandle" ∧ (parseMethodDescriptor yX1_wind.desc).map (fun d => d.parameters.length) = some 1 := by decide +kernel
def fX1_wind (X : Nat → VS) (a_1 : Int32) : Option (Int32 × (Nat → VS)) := cl (fX1_outside a_1 0 9) (fun r1 => if r1 = 0 then bn (X 0 10 0) (fun x3 => bn (up X 0 (up (X 0) 10 (fun _ => a_1))) (fun w4 => some (x3, w4))) else cl (fX1_refuse X r1) (fun q5 => some (q5.1, q5.2)))
set_option maxHeartbeats 4000000 in
set_option maxRecDepth 100000 in
theorem kX1_wind (ad : Nat → Nat) {X : Nat → VS} {a_1 : Int32} {z : (Int32 × (Nat → VS))} (h : fX1_wind X a_1 = some z) : MI l D cA g yX1_wind (Cond.code yX1_wind cX1_wind 4 (some .int) :: lw_g) rmX1_wind [.ref (ad 0), .int a_1] (wR cA ad X) z.1 (wR cA ad z.2) := by
  intro sz
  refine Met.ofW (cc := cX1_wind) (maxL := 4) (ret := (some .int)) (by decide) rfl ?_
  intro p e s m args below meth c s₁ B hml hv
  obtain ⟨rfl, C, hr, hw⟩ := ent B hml hv
  generalize va_A (wR cA ad X) sz = A at C hw ⊢
  have hl := lv_entry ([.ref (ad 0), .int a_1]) (n := 4) (Nat.le_of_ble_eq_true rfl)
  rw [lg_entry_eq]
  generalize (lg_sl ([.ref (ad 0), .int a_1]) ++ List.replicate (4 - (lg_sl ([.ref (ad 0), .int a_1])).length) Slot.unset).toArray = ls at hl ⊢
  have hl : lv_has ls 4 [(0, .ref (ad 0)), (1, .int a_1)] := hl
  have hx := C.1.1
  have hb := C.1.2.1
  have h : (cl (fX1_outside a_1 0 9) (fun r1 => if r1 = 0 then bn (X 0 10 0) (fun x3 => bn (up X 0 (up (X 0) 10 (fun _ => a_1))) (fun w4 => some (x3, w4))) else cl (fX1_refuse X r1) (fun q5 => some (q5.1, q5.2)))) = some z := h
  refine lv_iload_n hx hb dX1_wind_0 rfl (lv_at hl 1 rfl) ?_
  refine lv_iconst (v := 0) hx hb dX1_wind_1 (by decide) ?_
  refine lv_bipush (v := 9) hx hb dX1_wind_2 (by decide) ?_
  obtain ⟨r1, hr1, h⟩ := cl_some h
  refine cSi (ws2 := (wR cA ad X)) (As := [.int a_1, .int 0, .int 9]) (rest := []) C hw jnE (kX1_outside hr1) kl_RX1_140 kt_yX1_outside kn_RX1 kc_yX1_outside ⟨rfl, rfl⟩ hdX1_outside ⟨Nat.le_of_ble_eq_true rfl, Nat.le_of_ble_eq_true rfl⟩ rfl hl.1 (Nat.le_of_ble_eq_true rfl) dX1_wind_4 ⟨Nat.zero_le _, Nat.zero_le _⟩ (fun H locs hw => ?_)
  refine lv_istore_n (lv' := [(2, .int r1), (0, .ref (ad 0)), (1, .int a_1)]) hx hb dX1_wind_7 rfl hl (by decide) rfl (fun ls hl => ?_)
  refine lv_iload_n hx hb dX1_wind_8 rfl (lv_at hl 0 rfl) ?_
  refine lv_if_eq (tgt := 18) hx hb dX1_wind_9 (by decide) (fun c2 => ?_) (fun c2 => ?_)
  · replace h := (if_pos c2).symm.trans h
    refine lv_aload_n hx hb dX1_wind_18 rfl (lv_at hl 1 rfl) ?_
    refine tGet (T := TX1) (N := 12) (ci := 1) C hw inX1 0 0 rfl (by decide) kf_RX1_10 rfl rfl rfl dX1_wind_19 ?_
    refine tGet (T := TX0) (N := 12) (ci := 0) C hw inX0 10 1 rfl (by decide) kf_RX1_144 rfl rfl rfl dX1_wind_22 ?_
    refine lv_topi (fun x3 ex3 => ?_)
    replace h := bn_some h ex3
    refine lv_istore_n (lv' := [(3, .int x3), (2, .int r1), (0, .ref (ad 0)), (1, .int a_1)]) hx hb dX1_wind_25 rfl hl (by decide) rfl (fun ls hl => ?_)
    refine lv_aload_n hx hb dX1_wind_26 rfl (lv_at hl 2 rfl) ?_
    refine tGet (T := TX1) (N := 12) (ci := 1) C hw inX1 0 0 rfl (by decide) kf_RX1_10 rfl rfl rfl dX1_wind_27 ?_
    refine lv_iload_n hx hb dX1_wind_30 rfl (lv_at hl 3 rfl) ?_
    obtain ⟨w4, ew4⟩ : ∃ y : Nat → VS, y = up X 0 (up (X 0) 10 (fun _ => a_1)) := ⟨_, rfl⟩
    replace h := bn_some h ew4
    refine tPut (T := TX0) (N := 12) (ci := 0) (ws2 := (wR cA ad w4)) C hw inX0 tyX0 tyX0_ok nmX0 10 1 rfl (by decide) kf_RX1_144 rfl rfl rfl rfl rfl (Nat.le_of_ble_eq_true rfl) (by rw [ew4]; rfl) dX1_wind_31 (fun H locs hw => ?_)
    refine lv_iload_n hx hb dX1_wind_34 rfl (lv_at hl 0 rfl) ?_
    obtain rfl := some_e h
    exact rtI C hr hw dX1_wind_35
  · replace h := (if_neg c2).symm.trans h
    refine lv_aload_n hx hb dX1_wind_12 rfl (lv_at hl 1 rfl) ?_
    refine lv_iload_n hx hb dX1_wind_13 rfl (lv_at hl 0 rfl) ?_
    obtain ⟨q5, hq5, h⟩ := cl_some h
    refine cVi (ws2 := (wR cA ad q5.2)) (As := [.int r1]) (rest := []) C hw jnW (kX1_refuse ad hq5) kl_RX1_52 ki_yX1_refuse ks_yX1_refuse kn_RX1 kc_yX1_refuse ⟨rfl, rfl⟩ hdX1_refuse ⟨Nat.le_of_ble_eq_true rfl, Nat.le_of_ble_eq_true rfl⟩ (ci := 1) (q0 := 0) rfl rfl rfl rfl hl.1 (Nat.le_of_ble_eq_true rfl) dX1_wind_14 ⟨Nat.zero_le _, Nat.zero_le _⟩ (fun H locs hw => ?_)
    obtain rfl := some_e h
    exact rtI C hr hw dX1_wind_17
abbrev rmX1_grant : Room := { frames := 1, cells := 0, slots := 0, locals := 22 }
theorem hdX1_grant : yX1_grant.cls = RX1 ∧ yX1_grant.cls ≠ "java/lang/invoke/MethodHandle" ∧ yX1_grant.cls ≠ "java/lang/invoke/VarHandle" ∧ (parseMethodDescriptor yX1_grant.desc).map (fun d => d.parameters.length) = some 1 := by decide +kernel
def fX1_grant (X : Nat → VS) (a_1 : Int32) : Option (Int32 × (Nat → VS)) := cl (fX1_outside a_1 0 999) (fun r1 => if r1 = 0 then bn (X 0 9 0) (fun x3 => bn (up X 0 (up (X 0) 9 (fun _ => a_1))) (fun w4 => some (x3, w4))) else cl (fX1_refuse X r1) (fun q5 => some (q5.1, q5.2)))
set_option maxHeartbeats 4000000 in
set_option maxRecDepth 100000 in
theorem kX1_grant (ad : Nat → Nat) {X : Nat → VS} {a_1 : Int32} {z : (Int32 × (Nat → VS))} (h : fX1_grant X a_1 = some z) : MI l D cA g yX1_grant (Cond.code yX1_grant cX1_grant 4 (some .int) :: lw_g) rmX1_grant [.ref (ad 0), .int a_1] (wR cA ad X) z.1 (wR cA ad z.2) := by
  intro sz
  refine Met.ofW (cc := cX1_grant) (maxL := 4) (ret := (some .int)) (by decide) rfl ?_
  intro p e s m args below meth c s₁ B hml hv
  obtain ⟨rfl, C, hr, hw⟩ := ent B hml hv
  generalize va_A (wR cA ad X) sz = A at C hw ⊢
  have hl := lv_entry ([.ref (ad 0), .int a_1]) (n := 4) (Nat.le_of_ble_eq_true rfl)
  rw [lg_entry_eq]
  generalize (lg_sl ([.ref (ad 0), .int a_1]) ++ List.replicate (4 - (lg_sl ([.ref (ad 0), .int a_1])).length) Slot.unset).toArray = ls at hl ⊢
  have hl : lv_has ls 4 [(0, .ref (ad 0)), (1, .int a_1)] := hl
  have hx := C.1.1
  have hb := C.1.2.1
  have h : (cl (fX1_outside a_1 0 999) (fun r1 => if r1 = 0 then bn (X 0 9 0) (fun x3 => bn (up X 0 (up (X 0) 9 (fun _ => a_1))) (fun w4 => some (x3, w4))) else cl (fX1_refuse X r1) (fun q5 => some (q5.1, q5.2)))) = some z := h
  refine lv_iload_n hx hb dX1_grant_0 rfl (lv_at hl 1 rfl) ?_
  refine lv_iconst (v := 0) hx hb dX1_grant_1 (by decide) ?_
  refine lv_sipush (v := 999) hx hb dX1_grant_2 (by decide) ?_
  obtain ⟨r1, hr1, h⟩ := cl_some h
  refine cSi (ws2 := (wR cA ad X)) (As := [.int a_1, .int 0, .int 999]) (rest := []) C hw jnE (kX1_outside hr1) kl_RX1_140 kt_yX1_outside kn_RX1 kc_yX1_outside ⟨rfl, rfl⟩ hdX1_outside ⟨Nat.le_of_ble_eq_true rfl, Nat.le_of_ble_eq_true rfl⟩ rfl hl.1 (Nat.le_of_ble_eq_true rfl) dX1_grant_5 ⟨Nat.zero_le _, Nat.zero_le _⟩ (fun H locs hw => ?_)
  refine lv_istore_n (lv' := [(2, .int r1), (0, .ref (ad 0)), (1, .int a_1)]) hx hb dX1_grant_8 rfl hl (by decide) rfl (fun ls hl => ?_)
  refine lv_iload_n hx hb dX1_grant_9 rfl (lv_at hl 0 rfl) ?_
  refine lv_if_eq (tgt := 19) hx hb dX1_grant_10 (by decide) (fun c2 => ?_) (fun c2 => ?_)
  · replace h := (if_pos c2).symm.trans h
    refine lv_aload_n hx hb dX1_grant_19 rfl (lv_at hl 1 rfl) ?_
    refine tGet (T := TX1) (N := 12) (ci := 1) C hw inX1 0 0 rfl (by decide) kf_RX1_10 rfl rfl rfl dX1_grant_20 ?_
    refine tGet (T := TX0) (N := 12) (ci := 0) C hw inX0 9 1 rfl (by decide) kf_RX1_122 rfl rfl rfl dX1_grant_23 ?_
    refine lv_topi (fun x3 ex3 => ?_)
    replace h := bn_some h ex3
    refine lv_istore_n (lv' := [(3, .int x3), (2, .int r1), (0, .ref (ad 0)), (1, .int a_1)]) hx hb dX1_grant_26 rfl hl (by decide) rfl (fun ls hl => ?_)
    refine lv_aload_n hx hb dX1_grant_27 rfl (lv_at hl 2 rfl) ?_
    refine tGet (T := TX1) (N := 12) (ci := 1) C hw inX1 0 0 rfl (by decide) kf_RX1_10 rfl rfl rfl dX1_grant_28 ?_
    refine lv_iload_n hx hb dX1_grant_31 rfl (lv_at hl 3 rfl) ?_
    obtain ⟨w4, ew4⟩ : ∃ y : Nat → VS, y = up X 0 (up (X 0) 9 (fun _ => a_1)) := ⟨_, rfl⟩
    replace h := bn_some h ew4
    refine tPut (T := TX0) (N := 12) (ci := 0) (ws2 := (wR cA ad w4)) C hw inX0 tyX0 tyX0_ok nmX0 9 1 rfl (by decide) kf_RX1_122 rfl rfl rfl rfl rfl (Nat.le_of_ble_eq_true rfl) (by rw [ew4]; rfl) dX1_grant_32 (fun H locs hw => ?_)
    refine lv_iload_n hx hb dX1_grant_35 rfl (lv_at hl 0 rfl) ?_
    obtain rfl := some_e h
    exact rtI C hr hw dX1_grant_36
  · replace h := (if_neg c2).symm.trans h
    refine lv_aload_n hx hb dX1_grant_13 rfl (lv_at hl 1 rfl) ?_
    refine lv_iload_n hx hb dX1_grant_14 rfl (lv_at hl 0 rfl) ?_
    obtain ⟨q5, hq5, h⟩ := cl_some h
    refine cVi (ws2 := (wR cA ad q5.2)) (As := [.int r1]) (rest := []) C hw jnW (kX1_refuse ad hq5) kl_RX1_52 ki_yX1_refuse ks_yX1_refuse kn_RX1 kc_yX1_refuse ⟨rfl, rfl⟩ hdX1_refuse ⟨Nat.le_of_ble_eq_true rfl, Nat.le_of_ble_eq_true rfl⟩ (ci := 1) (q0 := 0) rfl rfl rfl rfl hl.1 (Nat.le_of_ble_eq_true rfl) dX1_grant_15 ⟨Nat.zero_le _, Nat.zero_le _⟩ (fun H locs hw => ?_)
    obtain rfl := some_e h
    exact rtI C hr hw dX1_grant_18
abbrev rmX1_stands : Room := { frames := 1, cells := 0, slots := 0, locals := 21 }
theorem hdX1_stands : yX1_stands.cls = RX1 ∧ yX1_stands.cls ≠ "java/lang/invoke/MethodHandle" ∧ yX1_stands.cls ≠ "java/lang/invoke/VarHandle" ∧ (parseMethodDescriptor yX1_stands.desc).map (fun d => d.parameters.length) = some 2 := by decide +kernel
def GX1_stands_21 (p : Program) (l : Launch) (e : Env) (s : State) (m : MethodId) (args : Array Value) (below : List Frame) (meth : Method) (c : Code) (D : va_G) (cA : ClassId) (A : Nat → Prop) (ad : Nat → Nat) (z : (Int32 × (Nat → VS))) (x : (Nat → VS)) : Prop := ∀ (H : Heap) (locs : List Loc) (ls : Array Slot), Wd D A s.heap (wR cA ad x) H locs → lv_has ls 4 [(0, .ref (ad 0))] → W p l e rmX1_stands s m args below meth c H locs 0 0 (MQ below (QI D cA A z.1 (wR cA ad z.2)) args s 0 0 A) (F0 m 21 ls [])
def fX1_stands_21 : ((Nat → VS)) → Option (Int32 × (Nat → VS)) := fun X => cl (fX1_refuse X (-1)) (fun q1 => some (q1.1, q1.2))
def fX1_stands (X : Nat → VS) (a_1 : Int32) (a_2 : Int32) : Option (Int32 × (Nat → VS)) := cl (fX0_hasReader (X 0) a_1) (fun r1 => if r1 = 0 then fX1_stands_21 X else if a_2 < 0 then fX1_stands_21 X else if a_2 < 20 then rd 5 (X 0 6) a_1 (fun r5 => ck 5 a_1 (bn (up X 0 (up (X 0) 6 (upd (X 0 6) (a_1 : Int32).toNatClampNeg a_2))) (fun w6 => some (r5, w6)))) else fX1_stands_21 X)
set_option maxHeartbeats 4000000 in
set_option maxRecDepth 100000 in
theorem kX1_stands_21 (C : Cx p s m args meth c cX1_stands 4 RX1 D cA g A) (hr : meth.sig.returnType = (some .int)) {z : (Int32 × (Nat → VS))} (x : (Nat → VS)) (h : fX1_stands_21 x = some z) : GX1_stands_21 p l e s m args below meth c D cA A ad z x := by
  obtain ⟨X, rfl⟩ : ∃ y, y = x := ⟨_, rfl⟩
  intro H locs ls hw hl
  have hw : Wd D A s.heap (wR cA ad X) H locs := hw
  have hl : lv_has ls 4 [(0, .ref (ad 0))] := hl
  have hx := C.1.1
  have hb := C.1.2.1
  have h : (cl (fX1_refuse X (-1)) (fun q1 => some (q1.1, q1.2))) = some z := h
  refine lv_aload_n hx hb dX1_stands_21 rfl (lv_at hl 0 rfl) ?_
  refine lv_iconst (v := (-1)) hx hb dX1_stands_22 (by decide) ?_
  obtain ⟨q1, hq1, h⟩ := cl_some h
  refine cVi (ws2 := (wR cA ad q1.2)) (As := [.int (-1)]) (rest := []) C hw jnW (kX1_refuse ad hq1) kl_RX1_52 ki_yX1_refuse ks_yX1_refuse kn_RX1 kc_yX1_refuse ⟨rfl, rfl⟩ hdX1_refuse ⟨Nat.le_of_ble_eq_true rfl, Nat.le_of_ble_eq_true rfl⟩ (ci := 1) (q0 := 0) rfl rfl rfl rfl hl.1 (Nat.le_of_ble_eq_true rfl) dX1_stands_23 ⟨Nat.zero_le _, Nat.zero_le _⟩ (fun H locs hw => ?_)
  obtain rfl := some_e h
  exact rtI C hr hw dX1_stands_26
set_option maxHeartbeats 4000000 in
set_option maxRecDepth 100000 in
theorem kX1_stands (ad : Nat → Nat) {X : Nat → VS} {a_1 : Int32} {a_2 : Int32} {z : (Int32 × (Nat → VS))} (h : fX1_stands X a_1 a_2 = some z) : MI l D cA g yX1_stands (Cond.code yX1_stands cX1_stands 4 (some .int) :: lw_g) rmX1_stands [.ref (ad 0), .int a_1, .int a_2] (wR cA ad X) z.1 (wR cA ad z.2) := by
  intro sz
  refine Met.ofW (cc := cX1_stands) (maxL := 4) (ret := (some .int)) (by decide) rfl ?_
  intro p e s m args below meth c s₁ B hml hv
  obtain ⟨rfl, C, hr, hw⟩ := ent B hml hv
  generalize va_A (wR cA ad X) sz = A at C hw ⊢
  have hl := lv_entry ([.ref (ad 0), .int a_1, .int a_2]) (n := 4) (Nat.le_of_ble_eq_true rfl)
  rw [lg_entry_eq]
  generalize (lg_sl ([.ref (ad 0), .int a_1, .int a_2]) ++ List.replicate (4 - (lg_sl ([.ref (ad 0), .int a_1, .int a_2])).length) Slot.unset).toArray = ls at hl ⊢
  have hl : lv_has ls 4 [(0, .ref (ad 0)), (1, .int a_1), (2, .int a_2)] := hl
  have hx := C.1.1
  have hb := C.1.2.1
  have h : (cl (fX0_hasReader (X 0) a_1) (fun r1 => if r1 = 0 then fX1_stands_21 X else if a_2 < 0 then fX1_stands_21 X else if a_2 < 20 then rd 5 (X 0 6) a_1 (fun r5 => ck 5 a_1 (bn (up X 0 (up (X 0) 6 (upd (X 0 6) (a_1 : Int32).toNatClampNeg a_2))) (fun w6 => some (r5, w6)))) else fX1_stands_21 X)) = some z := h
  refine lv_aload_n hx hb dX1_stands_0 rfl (lv_at hl 0 rfl) ?_
  refine tGet (T := TX1) (N := 12) (ci := 1) C hw inX1 0 0 rfl (by decide) kf_RX1_10 rfl rfl rfl dX1_stands_1 ?_
  refine lv_iload_n hx hb dX1_stands_4 rfl (lv_at hl 1 rfl) ?_
  obtain ⟨r1, hr1, h⟩ := cl_some h
  refine cVi (ws2 := (wR cA ad X)) (As := [.int a_1]) (rest := []) C hw jR0r (kX0_hasReader (fun k => ad (1 + k)) hr1) kl_RX1_100 ki_yX0_hasReader ks_yX0_hasReader kn_RX0 kc_yX0_hasReader ⟨rfl, rfl⟩ hdX0_hasReader ⟨Nat.le_of_ble_eq_true rfl, Nat.le_of_ble_eq_true rfl⟩ (ci := 0) (q0 := 0) rfl rfl rfl rfl hl.1 (Nat.le_of_ble_eq_true rfl) dX1_stands_5 ⟨Nat.zero_le _, Nat.zero_le _⟩ (fun H locs hw => ?_)
  refine lv_if_eq (tgt := 21) hx hb dX1_stands_8 (by decide) (fun c2 => ?_) (fun c2 => ?_)
  · replace h := (if_pos c2).symm.trans h
    exact kX1_stands_21 C hr X h _ _ _ hw (lv_sub hl [0] rfl)
  · replace h := (if_neg c2).symm.trans h
    refine lv_iload_n hx hb dX1_stands_11 rfl (lv_at hl 2 rfl) ?_
    refine lv_if_lt (tgt := 21) hx hb dX1_stands_12 (by decide) (fun c3 => ?_) (fun c3 => ?_)
    · replace h := (if_pos c3).symm.trans h
      exact kX1_stands_21 C hr X h _ _ _ hw (lv_sub hl [0] rfl)
    · replace h := (if_neg c3).symm.trans h
      refine lv_iload_n hx hb dX1_stands_15 rfl (lv_at hl 2 rfl) ?_
      refine lv_bipush (v := 20) hx hb dX1_stands_16 (by decide) ?_
      refine lv_icmp_lt (tgt := 27) hx hb dX1_stands_18 (by decide) (fun c4 => ?_) (fun c4 => ?_)
      · replace h := (if_pos c4).symm.trans h
        refine lv_aload_n hx hb dX1_stands_27 rfl (lv_at hl 0 rfl) ?_
        refine tGet (T := TX1) (N := 12) (ci := 1) C hw inX1 0 0 rfl (by decide) kf_RX1_10 rfl rfl rfl dX1_stands_28 ?_
        refine tGet (T := TX0) (N := 12) (ci := 0) C hw inX0 6 1 rfl (by decide) kf_RX1_103 rfl rfl rfl dX1_stands_31 ?_
        refine lv_iload_n hx hb dX1_stands_34 rfl (lv_at hl 1 rfl) ?_
        obtain ⟨r5, ir5, er5, h⟩ := rd_some h
        refine tLd C hw 5 rfl ir5 er5 dX1_stands_35 ?_
        refine lv_istore_n (lv' := [(3, .int r5), (0, .ref (ad 0)), (1, .int a_1), (2, .int a_2)]) hx hb dX1_stands_36 rfl hl (by decide) rfl (fun ls hl => ?_)
        refine lv_aload_n hx hb dX1_stands_37 rfl (lv_at hl 1 rfl) ?_
        refine tGet (T := TX1) (N := 12) (ci := 1) C hw inX1 0 0 rfl (by decide) kf_RX1_10 rfl rfl rfl dX1_stands_38 ?_
        refine tGet (T := TX0) (N := 12) (ci := 0) C hw inX0 6 1 rfl (by decide) kf_RX1_103 rfl rfl rfl dX1_stands_41 ?_
        refine lv_iload_n hx hb dX1_stands_44 rfl (lv_at hl 2 rfl) ?_
        refine lv_iload_n hx hb dX1_stands_45 rfl (lv_at hl 3 rfl) ?_
        obtain ⟨iw6, h⟩ := ck_some h
        obtain ⟨w6, ew6⟩ : ∃ y : Nat → VS, y = up X 0 (up (X 0) 6 (upd (X 0 6) (a_1 : Int32).toNatClampNeg a_2)) := ⟨_, rfl⟩
        replace h := bn_some h ew6
        refine tSt (ws2 := (wR cA ad w6)) C hw 5 rfl iw6 (by rw [ew6]; rfl) dX1_stands_46 (fun H locs hw => ?_)
        refine lv_iload_n hx hb dX1_stands_47 rfl (lv_at hl 0 rfl) ?_
        obtain rfl := some_e h
        exact rtI C hr hw dX1_stands_48
      · replace h := (if_neg c4).symm.trans h
        exact kX1_stands_21 C hr X h _ _ _ hw (lv_sub hl [0] rfl)
abbrev rmX1_turn : Room := { frames := 1, cells := 0, slots := 0, locals := 22 }
theorem hdX1_turn : yX1_turn.cls = RX1 ∧ yX1_turn.cls ≠ "java/lang/invoke/MethodHandle" ∧ yX1_turn.cls ≠ "java/lang/invoke/VarHandle" ∧ (parseMethodDescriptor yX1_turn.desc).map (fun d => d.parameters.length) = some 3 := by decide +kernel
def GX1_turn_27 (p : Program) (l : Launch) (e : Env) (s : State) (m : MethodId) (args : Array Value) (below : List Frame) (meth : Method) (c : Code) (D : va_G) (cA : ClassId) (A : Nat → Prop) (ad : Nat → Nat) (z : (Int32 × (Nat → VS))) (x : (Nat → VS)) : Prop := ∀ (H : Heap) (locs : List Loc) (ls : Array Slot), Wd D A s.heap (wR cA ad x) H locs → lv_has ls 6 [(0, .ref (ad 0))] → W p l e rmX1_turn s m args below meth c H locs 0 0 (MQ below (QI D cA A z.1 (wR cA ad z.2)) args s 0 0 A) (F0 m 27 ls [])
def fX1_turn_27 : ((Nat → VS)) → Option (Int32 × (Nat → VS)) := fun X => cl (fX1_refuse X (-2)) (fun q1 => some (q1.1, q1.2))
def fX1_turn (X : Nat → VS) (a_1 : Int32) (a_2 : Int32) (a_3 : Int32) : Option (Int32 × (Nat → VS)) := cl (fX0_hasRocket (X 0) a_1) (fun r1 => if r1 = 0 then cl (fX1_refuse X (-1)) (fun q13 => some (q13.1, q13.2)) else if a_2 < 0 then fX1_turn_27 X else if a_2 < 6 then cl (fX1_outside a_3 0 9) (fun r5 => if r5 = 0 then rd 9 (X 0 1) a_1 (fun r7 => rd 9 (X 0 2) a_1 (fun r8 => bn (((10 : Int32) * r7) + r8) (fun x9 => ck 9 a_1 (bn (up X 0 (up (X 0) 1 (upd (X 0 1) (a_1 : Int32).toNatClampNeg a_2))) (fun w10 => ck 9 a_1 (bn (up w10 0 (up (w10 0) 2 (upd (w10 0 2) (a_1 : Int32).toNatClampNeg a_3))) (fun w11 => some (x9, w11)))))))) else cl (fX1_refuse X r5) (fun q12 => some (q12.1, q12.2))) else fX1_turn_27 X)
set_option maxHeartbeats 4000000 in
set_option maxRecDepth 100000 in
theorem kX1_turn_27 (C : Cx p s m args meth c cX1_turn 6 RX1 D cA g A) (hr : meth.sig.returnType = (some .int)) {z : (Int32 × (Nat → VS))} (x : (Nat → VS)) (h : fX1_turn_27 x = some z) : GX1_turn_27 p l e s m args below meth c D cA A ad z x := by
  obtain ⟨X, rfl⟩ : ∃ y, y = x := ⟨_, rfl⟩
  intro H locs ls hw hl
  have hw : Wd D A s.heap (wR cA ad X) H locs := hw
  have hl : lv_has ls 6 [(0, .ref (ad 0))] := hl
  have hx := C.1.1
  have hb := C.1.2.1
  have h : (cl (fX1_refuse X (-2)) (fun q1 => some (q1.1, q1.2))) = some z := h
  refine lv_aload_n hx hb dX1_turn_27 rfl (lv_at hl 0 rfl) ?_
  refine lv_bipush (v := (-2)) hx hb dX1_turn_28 (by decide) ?_
  obtain ⟨q1, hq1, h⟩ := cl_some h
  refine cVi (ws2 := (wR cA ad q1.2)) (As := [.int (-2)]) (rest := []) C hw jnW (kX1_refuse ad hq1) kl_RX1_52 ki_yX1_refuse ks_yX1_refuse kn_RX1 kc_yX1_refuse ⟨rfl, rfl⟩ hdX1_refuse ⟨Nat.le_of_ble_eq_true rfl, Nat.le_of_ble_eq_true rfl⟩ (ci := 1) (q0 := 0) rfl rfl rfl rfl hl.1 (Nat.le_of_ble_eq_true rfl) dX1_turn_30 ⟨Nat.zero_le _, Nat.zero_le _⟩ (fun H locs hw => ?_)
  obtain rfl := some_e h
  exact rtI C hr hw dX1_turn_33
set_option maxHeartbeats 4000000 in
set_option maxRecDepth 100000 in
theorem kX1_turn (ad : Nat → Nat) {X : Nat → VS} {a_1 : Int32} {a_2 : Int32} {a_3 : Int32} {z : (Int32 × (Nat → VS))} (h : fX1_turn X a_1 a_2 a_3 = some z) : MI l D cA g yX1_turn (Cond.code yX1_turn cX1_turn 6 (some .int) :: lw_g) rmX1_turn [.ref (ad 0), .int a_1, .int a_2, .int a_3] (wR cA ad X) z.1 (wR cA ad z.2) := by
  intro sz
  refine Met.ofW (cc := cX1_turn) (maxL := 6) (ret := (some .int)) (by decide) rfl ?_
  intro p e s m args below meth c s₁ B hml hv
  obtain ⟨rfl, C, hr, hw⟩ := ent B hml hv
  generalize va_A (wR cA ad X) sz = A at C hw ⊢
  have hl := lv_entry ([.ref (ad 0), .int a_1, .int a_2, .int a_3]) (n := 6) (Nat.le_of_ble_eq_true rfl)
  rw [lg_entry_eq]
  generalize (lg_sl ([.ref (ad 0), .int a_1, .int a_2, .int a_3]) ++ List.replicate (6 - (lg_sl ([.ref (ad 0), .int a_1, .int a_2, .int a_3])).length) Slot.unset).toArray = ls at hl ⊢
  have hl : lv_has ls 6 [(0, .ref (ad 0)), (1, .int a_1), (2, .int a_2), (3, .int a_3)] := hl
  have hx := C.1.1
  have hb := C.1.2.1
  have h : (cl (fX0_hasRocket (X 0) a_1) (fun r1 => if r1 = 0 then cl (fX1_refuse X (-1)) (fun q13 => some (q13.1, q13.2)) else if a_2 < 0 then fX1_turn_27 X else if a_2 < 6 then cl (fX1_outside a_3 0 9) (fun r5 => if r5 = 0 then rd 9 (X 0 1) a_1 (fun r7 => rd 9 (X 0 2) a_1 (fun r8 => bn (((10 : Int32) * r7) + r8) (fun x9 => ck 9 a_1 (bn (up X 0 (up (X 0) 1 (upd (X 0 1) (a_1 : Int32).toNatClampNeg a_2))) (fun w10 => ck 9 a_1 (bn (up w10 0 (up (w10 0) 2 (upd (w10 0 2) (a_1 : Int32).toNatClampNeg a_3))) (fun w11 => some (x9, w11)))))))) else cl (fX1_refuse X r5) (fun q12 => some (q12.1, q12.2))) else fX1_turn_27 X)) = some z := h
  refine lv_aload_n hx hb dX1_turn_0 rfl (lv_at hl 0 rfl) ?_
  refine tGet (T := TX1) (N := 12) (ci := 1) C hw inX1 0 0 rfl (by decide) kf_RX1_10 rfl rfl rfl dX1_turn_1 ?_
  refine lv_iload_n hx hb dX1_turn_4 rfl (lv_at hl 1 rfl) ?_
  obtain ⟨r1, hr1, h⟩ := cl_some h
  refine cVi (ws2 := (wR cA ad X)) (As := [.int a_1]) (rest := []) C hw jR0r (kX0_hasRocket (fun k => ad (1 + k)) hr1) kl_RX1_70 ki_yX0_hasRocket ks_yX0_hasRocket kn_RX0 kc_yX0_hasRocket ⟨rfl, rfl⟩ hdX0_hasRocket ⟨Nat.le_of_ble_eq_true rfl, Nat.le_of_ble_eq_true rfl⟩ (ci := 0) (q0 := 0) rfl rfl rfl rfl hl.1 (Nat.le_of_ble_eq_true rfl) dX1_turn_5 ⟨Nat.zero_le _, Nat.zero_le _⟩ (fun H locs hw => ?_)
  refine lv_if_ne (tgt := 17) hx hb dX1_turn_8 (by decide) (fun c2 => ?_) (fun c2 => ?_)
  · replace h := (if_neg c2).symm.trans h
    refine lv_iload_n hx hb dX1_turn_17 rfl (lv_at hl 2 rfl) ?_
    refine lv_if_lt (tgt := 27) hx hb dX1_turn_18 (by decide) (fun c3 => ?_) (fun c3 => ?_)
    · replace h := (if_pos c3).symm.trans h
      exact kX1_turn_27 C hr X h _ _ _ hw (lv_sub hl [0] rfl)
    · replace h := (if_neg c3).symm.trans h
      refine lv_iload_n hx hb dX1_turn_21 rfl (lv_at hl 2 rfl) ?_
      refine lv_bipush (v := 6) hx hb dX1_turn_22 (by decide) ?_
      refine lv_icmp_lt (tgt := 34) hx hb dX1_turn_24 (by decide) (fun c4 => ?_) (fun c4 => ?_)
      · replace h := (if_pos c4).symm.trans h
        refine lv_iload_n hx hb dX1_turn_34 rfl (lv_at hl 3 rfl) ?_
        refine lv_iconst (v := 0) hx hb dX1_turn_35 (by decide) ?_
        refine lv_bipush (v := 9) hx hb dX1_turn_36 (by decide) ?_
        obtain ⟨r5, hr5, h⟩ := cl_some h
        refine cSi (ws2 := (wR cA ad X)) (As := [.int a_3, .int 0, .int 9]) (rest := []) C hw jnE (kX1_outside hr5) kl_RX1_140 kt_yX1_outside kn_RX1 kc_yX1_outside ⟨rfl, rfl⟩ hdX1_outside ⟨Nat.le_of_ble_eq_true rfl, Nat.le_of_ble_eq_true rfl⟩ rfl hl.1 (Nat.le_of_ble_eq_true rfl) dX1_turn_38 ⟨Nat.zero_le _, Nat.zero_le _⟩ (fun H locs hw => ?_)
        refine lv_istore (lv' := [(4, .int r5), (0, .ref (ad 0)), (1, .int a_1), (2, .int a_2), (3, .int a_3)]) hx hb dX1_turn_41 hl (by decide) rfl (fun ls hl => ?_)
        refine lv_iload hx hb dX1_turn_43 (lv_at hl 0 rfl) ?_
        refine lv_if_eq (tgt := 55) hx hb dX1_turn_45 (by decide) (fun c6 => ?_) (fun c6 => ?_)
        · replace h := (if_pos c6).symm.trans h
          refine lv_bipush (v := 10) hx hb dX1_turn_55 (by decide) ?_
          refine lv_aload_n hx hb dX1_turn_57 rfl (lv_at hl 1 rfl) ?_
          refine tGet (T := TX1) (N := 12) (ci := 1) C hw inX1 0 0 rfl (by decide) kf_RX1_10 rfl rfl rfl dX1_turn_58 ?_
          refine tGet (T := TX0) (N := 12) (ci := 0) C hw inX0 1 1 rfl (by decide) kf_RX1_73 rfl rfl rfl dX1_turn_61 ?_
          refine lv_iload_n hx hb dX1_turn_64 rfl (lv_at hl 2 rfl) ?_
          obtain ⟨r7, ir7, er7, h⟩ := rd_some h
          refine tLd C hw 2 rfl ir7 er7 dX1_turn_65 ?_
          refine lv_imul hx hb dX1_turn_66 ?_
          refine lv_aload_n hx hb dX1_turn_67 rfl (lv_at hl 1 rfl) ?_
          refine tGet (T := TX1) (N := 12) (ci := 1) C hw inX1 0 0 rfl (by decide) kf_RX1_10 rfl rfl rfl dX1_turn_68 ?_
          refine tGet (T := TX0) (N := 12) (ci := 0) C hw inX0 2 1 rfl (by decide) kf_RX1_76 rfl rfl rfl dX1_turn_71 ?_
          refine lv_iload_n hx hb dX1_turn_74 rfl (lv_at hl 2 rfl) ?_
          obtain ⟨r8, ir8, er8, h⟩ := rd_some h
          refine tLd C hw 3 rfl ir8 er8 dX1_turn_75 ?_
          refine lv_iadd hx hb dX1_turn_76 ?_
          refine lv_topi (fun x9 ex9 => ?_)
          replace h := bn_some h ex9
          refine lv_istore (lv' := [(5, .int x9), (4, .int r5), (0, .ref (ad 0)), (1, .int a_1), (2, .int a_2), (3, .int a_3)]) hx hb dX1_turn_77 hl (by decide) rfl (fun ls hl => ?_)
          refine lv_aload_n hx hb dX1_turn_79 rfl (lv_at hl 2 rfl) ?_
          refine tGet (T := TX1) (N := 12) (ci := 1) C hw inX1 0 0 rfl (by decide) kf_RX1_10 rfl rfl rfl dX1_turn_80 ?_
          refine tGet (T := TX0) (N := 12) (ci := 0) C hw inX0 1 1 rfl (by decide) kf_RX1_73 rfl rfl rfl dX1_turn_83 ?_
          refine lv_iload_n hx hb dX1_turn_86 rfl (lv_at hl 3 rfl) ?_
          refine lv_iload_n hx hb dX1_turn_87 rfl (lv_at hl 4 rfl) ?_
          obtain ⟨iw10, h⟩ := ck_some h
          obtain ⟨w10, ew10⟩ : ∃ y : Nat → VS, y = up X 0 (up (X 0) 1 (upd (X 0 1) (a_1 : Int32).toNatClampNeg a_2)) := ⟨_, rfl⟩
          replace h := bn_some h ew10
          refine tSt (ws2 := (wR cA ad w10)) C hw 2 rfl iw10 (by rw [ew10]; rfl) dX1_turn_88 (fun H locs hw => ?_)
          refine lv_aload_n hx hb dX1_turn_89 rfl (lv_at hl 2 rfl) ?_
          refine tGet (T := TX1) (N := 12) (ci := 1) C hw inX1 0 0 rfl (by decide) kf_RX1_10 rfl rfl rfl dX1_turn_90 ?_
          refine tGet (T := TX0) (N := 12) (ci := 0) C hw inX0 2 1 rfl (by decide) kf_RX1_76 rfl rfl rfl dX1_turn_93 ?_
          refine lv_iload_n hx hb dX1_turn_96 rfl (lv_at hl 3 rfl) ?_
          refine lv_iload_n hx hb dX1_turn_97 rfl (lv_at hl 5 rfl) ?_
          obtain ⟨iw11, h⟩ := ck_some h
          obtain ⟨w11, ew11⟩ : ∃ y : Nat → VS, y = up w10 0 (up (w10 0) 2 (upd (w10 0 2) (a_1 : Int32).toNatClampNeg a_3)) := ⟨_, rfl⟩
          replace h := bn_some h ew11
          refine tSt (ws2 := (wR cA ad w11)) C hw 3 rfl iw11 (by rw [ew11]; rfl) dX1_turn_98 (fun H locs hw => ?_)
          refine lv_iload hx hb dX1_turn_99 (lv_at hl 0 rfl) ?_
          obtain rfl := some_e h
          exact rtI C hr hw dX1_turn_101
        · replace h := (if_neg c6).symm.trans h
          refine lv_aload_n hx hb dX1_turn_48 rfl (lv_at hl 1 rfl) ?_
          refine lv_iload hx hb dX1_turn_49 (lv_at hl 0 rfl) ?_
          obtain ⟨q12, hq12, h⟩ := cl_some h
          refine cVi (ws2 := (wR cA ad q12.2)) (As := [.int r5]) (rest := []) C hw jnW (kX1_refuse ad hq12) kl_RX1_52 ki_yX1_refuse ks_yX1_refuse kn_RX1 kc_yX1_refuse ⟨rfl, rfl⟩ hdX1_refuse ⟨Nat.le_of_ble_eq_true rfl, Nat.le_of_ble_eq_true rfl⟩ (ci := 1) (q0 := 0) rfl rfl rfl rfl hl.1 (Nat.le_of_ble_eq_true rfl) dX1_turn_51 ⟨Nat.zero_le _, Nat.zero_le _⟩ (fun H locs hw => ?_)
          obtain rfl := some_e h
          exact rtI C hr hw dX1_turn_54
      · replace h := (if_neg c4).symm.trans h
        exact kX1_turn_27 C hr X h _ _ _ hw (lv_sub hl [0] rfl)
  · replace h := (if_pos c2).symm.trans h
    refine lv_aload_n hx hb dX1_turn_11 rfl (lv_at hl 0 rfl) ?_
    refine lv_iconst (v := (-1)) hx hb dX1_turn_12 (by decide) ?_
    obtain ⟨q13, hq13, h⟩ := cl_some h
    refine cVi (ws2 := (wR cA ad q13.2)) (As := [.int (-1)]) (rest := []) C hw jnW (kX1_refuse ad hq13) kl_RX1_52 ki_yX1_refuse ks_yX1_refuse kn_RX1 kc_yX1_refuse ⟨rfl, rfl⟩ hdX1_refuse ⟨Nat.le_of_ble_eq_true rfl, Nat.le_of_ble_eq_true rfl⟩ (ci := 1) (q0 := 0) rfl rfl rfl rfl hl.1 (Nat.le_of_ble_eq_true rfl) dX1_turn_13 ⟨Nat.zero_le _, Nat.zero_le _⟩ (fun H locs hw => ?_)
    obtain rfl := some_e h
    exact rtI C hr hw dX1_turn_16
abbrev rmX1_nights : Room := { frames := 4, cells := 0, slots := 0, locals := 100 }
theorem hdX1_nights : yX1_nights.cls = RX1 ∧ yX1_nights.cls ≠ "java/lang/invoke/MethodHandle" ∧ yX1_nights.cls ≠ "java/lang/invoke/VarHandle" ∧ (parseMethodDescriptor yX1_nights.desc).map (fun d => d.parameters.length) = some 1 := by decide +kernel
def fX1_nights (X : Nat → VS) (a_1 : Int32) : Option (Int32 × (Nat → VS)) := cl (fX1_outside a_1 1 60) (fun r1 => if r1 = 0 then if ((X 0 11 0) + a_1) ≤ 999 then cl (fX0_passNights (X 0) a_1 31) (fun w4 => bn (up X 0 w4) (fun w5 => some ((w5 0 9 0), w5))) else cl (fX1_refuse X (-6)) (fun q6 => some (q6.1, q6.2)) else cl (fX1_refuse X r1) (fun q7 => some (q7.1, q7.2)))
set_option maxHeartbeats 4000000 in
set_option maxRecDepth 100000 in
theorem kX1_nights (ad : Nat → Nat) {X : Nat → VS} {a_1 : Int32} {z : (Int32 × (Nat → VS))} (h : fX1_nights X a_1 = some z) : MI l D cA g yX1_nights (Cond.code yX1_nights cX1_nights 3 (some .int) :: lw_g) rmX1_nights [.ref (ad 0), .int a_1] (wR cA ad X) z.1 (wR cA ad z.2) := by
  intro sz
  refine Met.ofW (cc := cX1_nights) (maxL := 3) (ret := (some .int)) (by decide) rfl ?_
  intro p e s m args below meth c s₁ B hml hv
  obtain ⟨rfl, C, hr, hw⟩ := ent B hml hv
  generalize va_A (wR cA ad X) sz = A at C hw ⊢
  have hl := lv_entry ([.ref (ad 0), .int a_1]) (n := 3) (Nat.le_of_ble_eq_true rfl)
  rw [lg_entry_eq]
  generalize (lg_sl ([.ref (ad 0), .int a_1]) ++ List.replicate (3 - (lg_sl ([.ref (ad 0), .int a_1])).length) Slot.unset).toArray = ls at hl ⊢
  have hl : lv_has ls 3 [(0, .ref (ad 0)), (1, .int a_1)] := hl
  have hx := C.1.1
  have hb := C.1.2.1
  have h : (cl (fX1_outside a_1 1 60) (fun r1 => if r1 = 0 then if ((X 0 11 0) + a_1) ≤ 999 then cl (fX0_passNights (X 0) a_1 31) (fun w4 => bn (up X 0 w4) (fun w5 => some ((w5 0 9 0), w5))) else cl (fX1_refuse X (-6)) (fun q6 => some (q6.1, q6.2)) else cl (fX1_refuse X r1) (fun q7 => some (q7.1, q7.2)))) = some z := h
  refine lv_iload_n hx hb dX1_nights_0 rfl (lv_at hl 1 rfl) ?_
  refine lv_iconst (v := 1) hx hb dX1_nights_1 (by decide) ?_
  refine lv_bipush (v := 60) hx hb dX1_nights_2 (by decide) ?_
  obtain ⟨r1, hr1, h⟩ := cl_some h
  refine cSi (ws2 := (wR cA ad X)) (As := [.int a_1, .int 1, .int 60]) (rest := []) C hw jnE (kX1_outside hr1) kl_RX1_140 kt_yX1_outside kn_RX1 kc_yX1_outside ⟨rfl, rfl⟩ hdX1_outside ⟨Nat.le_of_ble_eq_true rfl, Nat.le_of_ble_eq_true rfl⟩ rfl hl.1 (Nat.le_of_ble_eq_true rfl) dX1_nights_4 ⟨Nat.zero_le _, Nat.zero_le _⟩ (fun H locs hw => ?_)
  refine lv_istore_n (lv' := [(2, .int r1), (0, .ref (ad 0)), (1, .int a_1)]) hx hb dX1_nights_7 rfl hl (by decide) rfl (fun ls hl => ?_)
  refine lv_iload_n hx hb dX1_nights_8 rfl (lv_at hl 0 rfl) ?_
  refine lv_if_eq (tgt := 18) hx hb dX1_nights_9 (by decide) (fun c2 => ?_) (fun c2 => ?_)
  · replace h := (if_pos c2).symm.trans h
    refine lv_aload_n hx hb dX1_nights_18 rfl (lv_at hl 1 rfl) ?_
    refine tGet (T := TX1) (N := 12) (ci := 1) C hw inX1 0 0 rfl (by decide) kf_RX1_10 rfl rfl rfl dX1_nights_19 ?_
    refine tGet (T := TX0) (N := 12) (ci := 0) C hw inX0 11 1 rfl (by decide) kf_RX1_147 rfl rfl rfl dX1_nights_22 ?_
    refine lv_iload_n hx hb dX1_nights_25 rfl (lv_at hl 2 rfl) ?_
    refine lv_iadd hx hb dX1_nights_26 ?_
    refine lv_sipush (v := 999) hx hb dX1_nights_27 (by decide) ?_
    refine lv_icmp_le (tgt := 40) hx hb dX1_nights_30 (by decide) (fun c3 => ?_) (fun c3 => ?_)
    · replace h := (if_pos c3).symm.trans h
      refine lv_aload_n hx hb dX1_nights_40 rfl (lv_at hl 1 rfl) ?_
      refine tGet (T := TX1) (N := 12) (ci := 1) C hw inX1 0 0 rfl (by decide) kf_RX1_10 rfl rfl rfl dX1_nights_41 ?_
      refine lv_iload_n hx hb dX1_nights_44 rfl (lv_at hl 2 rfl) ?_
      refine lv_bipush (v := 31) hx hb dX1_nights_45 (by decide) ?_
      obtain ⟨w4, hw4, h⟩ := cl_some h
      obtain ⟨w5, ew5⟩ : ∃ y : Nat → VS, y = up X 0 w4 := ⟨_, rfl⟩
      replace h := bn_some h ew5
      refine cVv (ws2 := (wR cA ad w5)) (As := [.int a_1, .int 31]) (rest := []) C hw (by rw [ew5]; exact jR0) (kX0_passNights (fun k => ad (1 + k)) hw4) kl_RX1_150 ki_yX0_passNights ks_yX0_passNights kn_RX0 kc_yX0_passNights ⟨rfl, rfl⟩ hdX0_passNights ⟨Nat.le_of_ble_eq_true rfl, Nat.le_of_ble_eq_true rfl⟩ (ci := 0) (q0 := 0) rfl rfl rfl rfl hl.1 (Nat.le_of_ble_eq_true rfl) dX1_nights_47 ⟨Nat.zero_le _, Nat.zero_le _⟩ (fun H locs hw => ?_)
      refine lv_aload_n hx hb dX1_nights_50 rfl (lv_at hl 1 rfl) ?_
      refine tGet (T := TX1) (N := 12) (ci := 1) C hw inX1 0 0 rfl (by decide) kf_RX1_10 rfl rfl rfl dX1_nights_51 ?_
      refine tGet (T := TX0) (N := 12) (ci := 0) C hw inX0 9 1 rfl (by decide) kf_RX1_122 rfl rfl rfl dX1_nights_54 ?_
      obtain rfl := some_e h
      exact rtI C hr hw dX1_nights_57
    · replace h := (if_neg c3).symm.trans h
      refine lv_aload_n hx hb dX1_nights_33 rfl (lv_at hl 1 rfl) ?_
      refine lv_bipush (v := (-6)) hx hb dX1_nights_34 (by decide) ?_
      obtain ⟨q6, hq6, h⟩ := cl_some h
      refine cVi (ws2 := (wR cA ad q6.2)) (As := [.int (-6)]) (rest := []) C hw jnW (kX1_refuse ad hq6) kl_RX1_52 ki_yX1_refuse ks_yX1_refuse kn_RX1 kc_yX1_refuse ⟨rfl, rfl⟩ hdX1_refuse ⟨Nat.le_of_ble_eq_true rfl, Nat.le_of_ble_eq_true rfl⟩ (ci := 1) (q0 := 0) rfl rfl rfl rfl hl.1 (Nat.le_of_ble_eq_true rfl) dX1_nights_36 ⟨Nat.zero_le _, Nat.zero_le _⟩ (fun H locs hw => ?_)
      obtain rfl := some_e h
      exact rtI C hr hw dX1_nights_39
  · replace h := (if_neg c2).symm.trans h
    refine lv_aload_n hx hb dX1_nights_12 rfl (lv_at hl 1 rfl) ?_
    refine lv_iload_n hx hb dX1_nights_13 rfl (lv_at hl 0 rfl) ?_
    obtain ⟨q7, hq7, h⟩ := cl_some h
    refine cVi (ws2 := (wR cA ad q7.2)) (As := [.int r1]) (rest := []) C hw jnW (kX1_refuse ad hq7) kl_RX1_52 ki_yX1_refuse ks_yX1_refuse kn_RX1 kc_yX1_refuse ⟨rfl, rfl⟩ hdX1_refuse ⟨Nat.le_of_ble_eq_true rfl, Nat.le_of_ble_eq_true rfl⟩ (ci := 1) (q0 := 0) rfl rfl rfl rfl hl.1 (Nat.le_of_ble_eq_true rfl) dX1_nights_14 ⟨Nat.zero_le _, Nat.zero_le _⟩ (fun H locs hw => ?_)
    obtain rfl := some_e h
    exact rtI C hr hw dX1_nights_17
abbrev rmX1_thinkOn : Room := { frames := 4, cells := 0, slots := 0, locals := 100 }
theorem hdX1_thinkOn : yX1_thinkOn.cls = RX1 ∧ yX1_thinkOn.cls ≠ "java/lang/invoke/MethodHandle" ∧ yX1_thinkOn.cls ≠ "java/lang/invoke/VarHandle" ∧ (parseMethodDescriptor yX1_thinkOn.desc).map (fun d => d.parameters.length) = some 1 := by decide +kernel
def fX1_thinkOn (X : Nat → VS) (a_1 : Int32) : Option (Nat → VS) := cl (fX0_copyFrom (X 1) (X 0)) (fun w1 => bn (up X 1 w1) (fun w2 => cl (fX0_passNights (w2 1) a_1 31) (fun w3 => bn (up w2 1 w3) (fun w4 => some w4))))
set_option maxHeartbeats 4000000 in
set_option maxRecDepth 100000 in
theorem kX1_thinkOn (ad : Nat → Nat) {X : Nat → VS} {a_1 : Int32} {z : (Nat → VS)} (h : fX1_thinkOn X a_1 = some z) : MV l D cA g yX1_thinkOn (Cond.code yX1_thinkOn cX1_thinkOn 2 none :: lw_g) rmX1_thinkOn [.ref (ad 0), .int a_1] (wR cA ad X) (wR cA ad z) := by
  intro sz
  refine Met.ofW (cc := cX1_thinkOn) (maxL := 2) (ret := none) (by decide) rfl ?_
  intro p e s m args below meth c s₁ B hml hv
  obtain ⟨rfl, C, hr, hw⟩ := ent B hml hv
  generalize va_A (wR cA ad X) sz = A at C hw ⊢
  have hl := lv_entry ([.ref (ad 0), .int a_1]) (n := 2) (Nat.le_of_ble_eq_true rfl)
  rw [lg_entry_eq]
  generalize (lg_sl ([.ref (ad 0), .int a_1]) ++ List.replicate (2 - (lg_sl ([.ref (ad 0), .int a_1])).length) Slot.unset).toArray = ls at hl ⊢
  have hl : lv_has ls 2 [(0, .ref (ad 0)), (1, .int a_1)] := hl
  have hx := C.1.1
  have hb := C.1.2.1
  have h : (cl (fX0_copyFrom (X 1) (X 0)) (fun w1 => bn (up X 1 w1) (fun w2 => cl (fX0_passNights (w2 1) a_1 31) (fun w3 => bn (up w2 1 w3) (fun w4 => some w4))))) = some z := h
  refine lv_aload_n hx hb dX1_thinkOn_0 rfl (lv_at hl 0 rfl) ?_
  refine tGet (T := TX1) (N := 12) (ci := 1) C hw inX1 1 0 rfl (by decide) kf_RX1_16 rfl rfl rfl dX1_thinkOn_1 ?_
  refine lv_aload_n hx hb dX1_thinkOn_4 rfl (lv_at hl 0 rfl) ?_
  refine tGet (T := TX1) (N := 12) (ci := 1) C hw inX1 0 0 rfl (by decide) kf_RX1_10 rfl rfl rfl dX1_thinkOn_5 ?_
  obtain ⟨w1, hw1, h⟩ := cl_some h
  obtain ⟨w2, ew2⟩ : ∃ y : Nat → VS, y = up X 1 w1 := ⟨_, rfl⟩
  replace h := bn_some h ew2
  refine cVv (ws2 := (wR cA ad w2)) (As := [.ref (ad 1)]) (rest := []) C hw (by rw [ew2]; exact jRR10) (kX0_copyFrom (fun k => ad (8 + k)) (fun k => ad (1 + k)) hw1) kl_RX1_59 ki_yX0_copyFrom ks_yX0_copyFrom kn_RX0 kc_yX0_copyFrom ⟨rfl, rfl⟩ hdX0_copyFrom ⟨Nat.le_of_ble_eq_true rfl, Nat.le_of_ble_eq_true rfl⟩ (ci := 0) (q0 := 0) rfl rfl rfl rfl hl.1 (Nat.le_of_ble_eq_true rfl) dX1_thinkOn_8 ⟨Nat.zero_le _, Nat.zero_le _⟩ (fun H locs hw => ?_)
  refine lv_aload_n hx hb dX1_thinkOn_11 rfl (lv_at hl 0 rfl) ?_
  refine tGet (T := TX1) (N := 12) (ci := 1) C hw inX1 1 0 rfl (by decide) kf_RX1_16 rfl rfl rfl dX1_thinkOn_12 ?_
  refine lv_iload_n hx hb dX1_thinkOn_15 rfl (lv_at hl 1 rfl) ?_
  refine lv_bipush (v := 31) hx hb dX1_thinkOn_16 (by decide) ?_
  obtain ⟨w3, hw3, h⟩ := cl_some h
  obtain ⟨w4, ew4⟩ : ∃ y : Nat → VS, y = up w2 1 w3 := ⟨_, rfl⟩
  replace h := bn_some h ew4
  refine cVv (ws2 := (wR cA ad w4)) (As := [.int a_1, .int 31]) (rest := []) C hw (by rw [ew4]; exact jR1) (kX0_passNights (fun k => ad (8 + k)) hw3) kl_RX1_150 ki_yX0_passNights ks_yX0_passNights kn_RX0 kc_yX0_passNights ⟨rfl, rfl⟩ hdX0_passNights ⟨Nat.le_of_ble_eq_true rfl, Nat.le_of_ble_eq_true rfl⟩ (ci := 0) (q0 := 0) rfl rfl rfl rfl hl.1 (Nat.le_of_ble_eq_true rfl) dX1_thinkOn_18 ⟨Nat.zero_le _, Nat.zero_le _⟩ (fun H locs hw => ?_)
  obtain rfl := some_e h
  exact rtV C hr hw dX1_thinkOn_21
abbrev rmX1_wordsThen : Room := { frames := 5, cells := 0, slots := 0, locals := 121 }
theorem hdX1_wordsThen : yX1_wordsThen.cls = RX1 ∧ yX1_wordsThen.cls ≠ "java/lang/invoke/MethodHandle" ∧ yX1_wordsThen.cls ≠ "java/lang/invoke/VarHandle" ∧ (parseMethodDescriptor yX1_wordsThen.desc).map (fun d => d.parameters.length) = some 2 := by decide +kernel
def fX1_wordsThen (X : Nat → VS) (a_1 : Int32) (a_2 : Int32) : Option (Int32 × (Nat → VS)) := cl (fX0_hasReader (X 0) a_1) (fun r1 => if r1 = 0 then cl (fX1_refuse X (-1)) (fun q8 => some (q8.1, q8.2)) else cl (fX1_outside a_2 0 60) (fun r3 => if r3 = 0 then cl (fX1_thinkOn X a_2) (fun w5 => cl (fX0_wordsOf (w5 1) a_1) (fun r6 => some (r6, w5))) else cl (fX1_refuse X r3) (fun q7 => some (q7.1, q7.2))))
set_option maxHeartbeats 4000000 in
set_option maxRecDepth 100000 in
theorem kX1_wordsThen (ad : Nat → Nat) {X : Nat → VS} {a_1 : Int32} {a_2 : Int32} {z : (Int32 × (Nat → VS))} (h : fX1_wordsThen X a_1 a_2 = some z) : MI l D cA g yX1_wordsThen (Cond.code yX1_wordsThen cX1_wordsThen 4 (some .int) :: lw_g) rmX1_wordsThen [.ref (ad 0), .int a_1, .int a_2] (wR cA ad X) z.1 (wR cA ad z.2) := by
  intro sz
  refine Met.ofW (cc := cX1_wordsThen) (maxL := 4) (ret := (some .int)) (by decide) rfl ?_
  intro p e s m args below meth c s₁ B hml hv
  obtain ⟨rfl, C, hr, hw⟩ := ent B hml hv
  generalize va_A (wR cA ad X) sz = A at C hw ⊢
  have hl := lv_entry ([.ref (ad 0), .int a_1, .int a_2]) (n := 4) (Nat.le_of_ble_eq_true rfl)
  rw [lg_entry_eq]
  generalize (lg_sl ([.ref (ad 0), .int a_1, .int a_2]) ++ List.replicate (4 - (lg_sl ([.ref (ad 0), .int a_1, .int a_2])).length) Slot.unset).toArray = ls at hl ⊢
  have hl : lv_has ls 4 [(0, .ref (ad 0)), (1, .int a_1), (2, .int a_2)] := hl
  have hx := C.1.1
  have hb := C.1.2.1
  have h : (cl (fX0_hasReader (X 0) a_1) (fun r1 => if r1 = 0 then cl (fX1_refuse X (-1)) (fun q8 => some (q8.1, q8.2)) else cl (fX1_outside a_2 0 60) (fun r3 => if r3 = 0 then cl (fX1_thinkOn X a_2) (fun w5 => cl (fX0_wordsOf (w5 1) a_1) (fun r6 => some (r6, w5))) else cl (fX1_refuse X r3) (fun q7 => some (q7.1, q7.2))))) = some z := h
  refine lv_aload_n hx hb dX1_wordsThen_0 rfl (lv_at hl 0 rfl) ?_
  refine tGet (T := TX1) (N := 12) (ci := 1) C hw inX1 0 0 rfl (by decide) kf_RX1_10 rfl rfl rfl dX1_wordsThen_1 ?_
  refine lv_iload_n hx hb dX1_wordsThen_4 rfl (lv_at hl 1 rfl) ?_
  obtain ⟨r1, hr1, h⟩ := cl_some h
  refine cVi (ws2 := (wR cA ad X)) (As := [.int a_1]) (rest := []) C hw jR0r (kX0_hasReader (fun k => ad (1 + k)) hr1) kl_RX1_100 ki_yX0_hasReader ks_yX0_hasReader kn_RX0 kc_yX0_hasReader ⟨rfl, rfl⟩ hdX0_hasReader ⟨Nat.le_of_ble_eq_true rfl, Nat.le_of_ble_eq_true rfl⟩ (ci := 0) (q0 := 0) rfl rfl rfl rfl hl.1 (Nat.le_of_ble_eq_true rfl) dX1_wordsThen_5 ⟨Nat.zero_le _, Nat.zero_le _⟩ (fun H locs hw => ?_)
  refine lv_if_ne (tgt := 17) hx hb dX1_wordsThen_8 (by decide) (fun c2 => ?_) (fun c2 => ?_)
  · replace h := (if_neg c2).symm.trans h
    refine lv_iload_n hx hb dX1_wordsThen_17 rfl (lv_at hl 2 rfl) ?_
    refine lv_iconst (v := 0) hx hb dX1_wordsThen_18 (by decide) ?_
    refine lv_bipush (v := 60) hx hb dX1_wordsThen_19 (by decide) ?_
    obtain ⟨r3, hr3, h⟩ := cl_some h
    refine cSi (ws2 := (wR cA ad X)) (As := [.int a_2, .int 0, .int 60]) (rest := []) C hw jnE (kX1_outside hr3) kl_RX1_140 kt_yX1_outside kn_RX1 kc_yX1_outside ⟨rfl, rfl⟩ hdX1_outside ⟨Nat.le_of_ble_eq_true rfl, Nat.le_of_ble_eq_true rfl⟩ rfl hl.1 (Nat.le_of_ble_eq_true rfl) dX1_wordsThen_21 ⟨Nat.zero_le _, Nat.zero_le _⟩ (fun H locs hw => ?_)
    refine lv_istore_n (lv' := [(3, .int r3), (0, .ref (ad 0)), (1, .int a_1), (2, .int a_2)]) hx hb dX1_wordsThen_24 rfl hl (by decide) rfl (fun ls hl => ?_)
    refine lv_iload_n hx hb dX1_wordsThen_25 rfl (lv_at hl 0 rfl) ?_
    refine lv_if_eq (tgt := 35) hx hb dX1_wordsThen_26 (by decide) (fun c4 => ?_) (fun c4 => ?_)
    · replace h := (if_pos c4).symm.trans h
      refine lv_aload_n hx hb dX1_wordsThen_35 rfl (lv_at hl 1 rfl) ?_
      refine lv_iload_n hx hb dX1_wordsThen_36 rfl (lv_at hl 3 rfl) ?_
      obtain ⟨w5, hw5, h⟩ := cl_some h
      refine cVv (ws2 := (wR cA ad w5)) (As := [.int a_2]) (rest := []) C hw jnW (kX1_thinkOn ad hw5) kl_RX1_153 ki_yX1_thinkOn ks_yX1_thinkOn kn_RX1 kc_yX1_thinkOn ⟨rfl, rfl⟩ hdX1_thinkOn ⟨Nat.le_of_ble_eq_true rfl, Nat.le_of_ble_eq_true rfl⟩ (ci := 1) (q0 := 0) rfl rfl rfl rfl hl.1 (Nat.le_of_ble_eq_true rfl) dX1_wordsThen_37 ⟨Nat.zero_le _, Nat.zero_le _⟩ (fun H locs hw => ?_)
      refine lv_aload_n hx hb dX1_wordsThen_40 rfl (lv_at hl 1 rfl) ?_
      refine tGet (T := TX1) (N := 12) (ci := 1) C hw inX1 1 0 rfl (by decide) kf_RX1_16 rfl rfl rfl dX1_wordsThen_41 ?_
      refine lv_iload_n hx hb dX1_wordsThen_44 rfl (lv_at hl 2 rfl) ?_
      obtain ⟨r6, hr6, h⟩ := cl_some h
      refine cVi (ws2 := (wR cA ad w5)) (As := [.int a_1]) (rest := []) C hw jR1r (kX0_wordsOf (fun k => ad (8 + k)) hr6) kl_RX1_109 ki_yX0_wordsOf ks_yX0_wordsOf kn_RX0 kc_yX0_wordsOf ⟨rfl, rfl⟩ hdX0_wordsOf ⟨Nat.le_of_ble_eq_true rfl, Nat.le_of_ble_eq_true rfl⟩ (ci := 0) (q0 := 0) rfl rfl rfl rfl hl.1 (Nat.le_of_ble_eq_true rfl) dX1_wordsThen_45 ⟨Nat.zero_le _, Nat.zero_le _⟩ (fun H locs hw => ?_)
      obtain rfl := some_e h
      exact rtI C hr hw dX1_wordsThen_48
    · replace h := (if_neg c4).symm.trans h
      refine lv_aload_n hx hb dX1_wordsThen_29 rfl (lv_at hl 1 rfl) ?_
      refine lv_iload_n hx hb dX1_wordsThen_30 rfl (lv_at hl 0 rfl) ?_
      obtain ⟨q7, hq7, h⟩ := cl_some h
      refine cVi (ws2 := (wR cA ad q7.2)) (As := [.int r3]) (rest := []) C hw jnW (kX1_refuse ad hq7) kl_RX1_52 ki_yX1_refuse ks_yX1_refuse kn_RX1 kc_yX1_refuse ⟨rfl, rfl⟩ hdX1_refuse ⟨Nat.le_of_ble_eq_true rfl, Nat.le_of_ble_eq_true rfl⟩ (ci := 1) (q0 := 0) rfl rfl rfl rfl hl.1 (Nat.le_of_ble_eq_true rfl) dX1_wordsThen_31 ⟨Nat.zero_le _, Nat.zero_le _⟩ (fun H locs hw => ?_)
      obtain rfl := some_e h
      exact rtI C hr hw dX1_wordsThen_34
  · replace h := (if_pos c2).symm.trans h
    refine lv_aload_n hx hb dX1_wordsThen_11 rfl (lv_at hl 0 rfl) ?_
    refine lv_iconst (v := (-1)) hx hb dX1_wordsThen_12 (by decide) ?_
    obtain ⟨q8, hq8, h⟩ := cl_some h
    refine cVi (ws2 := (wR cA ad q8.2)) (As := [.int (-1)]) (rest := []) C hw jnW (kX1_refuse ad hq8) kl_RX1_52 ki_yX1_refuse ks_yX1_refuse kn_RX1 kc_yX1_refuse ⟨rfl, rfl⟩ hdX1_refuse ⟨Nat.le_of_ble_eq_true rfl, Nat.le_of_ble_eq_true rfl⟩ (ci := 1) (q0 := 0) rfl rfl rfl rfl hl.1 (Nat.le_of_ble_eq_true rfl) dX1_wordsThen_13 ⟨Nat.zero_le _, Nat.zero_le _⟩ (fun H locs hw => ?_)
    obtain rfl := some_e h
    exact rtI C hr hw dX1_wordsThen_16
abbrev rmX1_isOneOfTwo : Room := { frames := 0, cells := 0, slots := 0, locals := 0 }
theorem hdX1_isOneOfTwo : yX1_isOneOfTwo.cls ≠ "java/lang/invoke/MethodHandle" ∧ yX1_isOneOfTwo.cls ≠ "java/lang/invoke/VarHandle" ∧ (parseMethodDescriptor yX1_isOneOfTwo.desc).map (fun d => d.parameters.length) = some 1 := by decide +kernel
def GX1_isOneOfTwo_9 (p : Program) (l : Launch) (e : Env) (s : State) (m : MethodId) (args : Array Value) (below : List Frame) (meth : Method) (c : Code) (D : va_G) (cA : ClassId) (A : Nat → Prop)  (z : Int32) (x : Unit) : Prop := ∀ (H : Heap) (locs : List Loc) (ls : Array Slot), Wd D A s.heap ([] : va_W) H locs → lv_has ls 1 [] → W p l e rmX1_isOneOfTwo s m args below meth c H locs 0 0 (MQ below (QI D cA A z ([] : va_W)) args s 0 0 A) (F0 m 9 ls [])
def fX1_isOneOfTwo_9 : (Unit) → Option Int32 := fun _ => some 1
def fX1_isOneOfTwo (a_0 : Int32) : Option Int32 := if a_0 = 0 then fX1_isOneOfTwo_9 () else if a_0 = 1 then fX1_isOneOfTwo_9 () else some 0
set_option maxHeartbeats 4000000 in
set_option maxRecDepth 100000 in
theorem kX1_isOneOfTwo_9 (C : Cx p s m args meth c cX1_isOneOfTwo 1 RX1 D cA g A) (hr : meth.sig.returnType = (some .boolean)) {z : Int32} (x : Unit) (h : fX1_isOneOfTwo_9 x = some z) : GX1_isOneOfTwo_9 p l e s m args below meth c D cA A  z x := by
  intro H locs ls hw hl
  have hw : Wd D A s.heap ([] : va_W) H locs := hw
  have hl : lv_has ls 1 [] := hl
  have hx := C.1.1
  have hb := C.1.2.1
  have h : (some 1) = some z := h
  refine lv_iconst (v := 1) hx hb dX1_isOneOfTwo_9 (by decide) ?_
  refine lv_goto (tgt := 14) hx hb dX1_isOneOfTwo_10 (by decide) ?_
  obtain rfl := some_e h
  exact rtZ C hr nz1 hw dX1_isOneOfTwo_14
set_option maxHeartbeats 4000000 in
set_option maxRecDepth 100000 in
theorem kX1_isOneOfTwo  {a_0 : Int32} {z : Int32} (h : fX1_isOneOfTwo a_0 = some z) : MI l D cA g yX1_isOneOfTwo (Cond.code yX1_isOneOfTwo cX1_isOneOfTwo 1 (some .boolean) :: lw_g) rmX1_isOneOfTwo [.int a_0] ([] : va_W) z ([] : va_W) := by
  intro sz
  refine Met.ofW (cc := cX1_isOneOfTwo) (maxL := 1) (ret := (some .boolean)) (by decide) rfl ?_
  intro p e s m args below meth c s₁ B hml hv
  obtain ⟨rfl, C, hr, hw⟩ := ent B hml hv
  generalize va_A ([] : va_W) sz = A at C hw ⊢
  have hl := lv_entry ([.int a_0]) (n := 1) (Nat.le_of_ble_eq_true rfl)
  rw [lg_entry_eq]
  generalize (lg_sl ([.int a_0]) ++ List.replicate (1 - (lg_sl ([.int a_0])).length) Slot.unset).toArray = ls at hl ⊢
  have hl : lv_has ls 1 [(0, .int a_0)] := hl
  have hx := C.1.1
  have hb := C.1.2.1
  have h : (if a_0 = 0 then fX1_isOneOfTwo_9 () else if a_0 = 1 then fX1_isOneOfTwo_9 () else some 0) = some z := h
  refine lv_iload_n hx hb dX1_isOneOfTwo_0 rfl (lv_at hl 0 rfl) ?_
  refine lv_if_eq (tgt := 9) hx hb dX1_isOneOfTwo_1 (by decide) (fun c1 => ?_) (fun c1 => ?_)
  · replace h := (if_pos c1).symm.trans h
    exact kX1_isOneOfTwo_9 C hr () h _ _ _ hw (lv_sub hl [] rfl)
  · replace h := (if_neg c1).symm.trans h
    refine lv_iload_n hx hb dX1_isOneOfTwo_4 rfl (lv_at hl 0 rfl) ?_
    refine lv_iconst (v := 1) hx hb dX1_isOneOfTwo_5 (by decide) ?_
    refine lv_icmp_ne (tgt := 13) hx hb dX1_isOneOfTwo_6 (by decide) (fun c2 => ?_) (fun c2 => ?_)
    · replace h := (if_neg c2).symm.trans h
      refine lv_iconst (v := 0) hx hb dX1_isOneOfTwo_13 (by decide) ?_
      obtain rfl := some_e h
      exact rtZ C hr nz0 hw dX1_isOneOfTwo_14
    · replace h := (if_pos c2).symm.trans h
      exact kX1_isOneOfTwo_9 C hr () h _ _ _ hw (lv_sub hl [] rfl)
abbrev rmX1_then : Room := { frames := 5, cells := 0, slots := 0, locals := 121 }
theorem hdX1_then : yX1_then.cls = RX1 ∧ yX1_then.cls ≠ "java/lang/invoke/MethodHandle" ∧ yX1_then.cls ≠ "java/lang/invoke/VarHandle" ∧ (parseMethodDescriptor yX1_then.desc).map (fun d => d.parameters.length) = some 2 := by decide +kernel
def fX1_then (X : Nat → VS) (a_1 : Int32) (a_2 : Int32) : Option (Int32 × (Nat → VS)) := cl (fX1_outside a_1 0 60) (fun r1 => if r1 = 0 then cl (fX1_isOneOfTwo a_2) (fun r3 => if r3 = 0 then cl (fX1_refuse X (-2)) (fun q7 => some (q7.1, q7.2)) else cl (fX1_thinkOn X a_1) (fun w5 => if a_2 = 0 then some ((w5 1 9 0), w5) else some ((w5 1 4 0), w5))) else cl (fX1_refuse X r1) (fun q8 => some (q8.1, q8.2)))
set_option maxHeartbeats 4000000 in
set_option maxRecDepth 100000 in
theorem kX1_then (ad : Nat → Nat) {X : Nat → VS} {a_1 : Int32} {a_2 : Int32} {z : (Int32 × (Nat → VS))} (h : fX1_then X a_1 a_2 = some z) : MI l D cA g yX1_then (Cond.code yX1_then cX1_then 4 (some .int) :: lw_g) rmX1_then [.ref (ad 0), .int a_1, .int a_2] (wR cA ad X) z.1 (wR cA ad z.2) := by
  intro sz
  refine Met.ofW (cc := cX1_then) (maxL := 4) (ret := (some .int)) (by decide) rfl ?_
  intro p e s m args below meth c s₁ B hml hv
  obtain ⟨rfl, C, hr, hw⟩ := ent B hml hv
  generalize va_A (wR cA ad X) sz = A at C hw ⊢
  have hl := lv_entry ([.ref (ad 0), .int a_1, .int a_2]) (n := 4) (Nat.le_of_ble_eq_true rfl)
  rw [lg_entry_eq]
  generalize (lg_sl ([.ref (ad 0), .int a_1, .int a_2]) ++ List.replicate (4 - (lg_sl ([.ref (ad 0), .int a_1, .int a_2])).length) Slot.unset).toArray = ls at hl ⊢
  have hl : lv_has ls 4 [(0, .ref (ad 0)), (1, .int a_1), (2, .int a_2)] := hl
  have hx := C.1.1
  have hb := C.1.2.1
  have h : (cl (fX1_outside a_1 0 60) (fun r1 => if r1 = 0 then cl (fX1_isOneOfTwo a_2) (fun r3 => if r3 = 0 then cl (fX1_refuse X (-2)) (fun q7 => some (q7.1, q7.2)) else cl (fX1_thinkOn X a_1) (fun w5 => if a_2 = 0 then some ((w5 1 9 0), w5) else some ((w5 1 4 0), w5))) else cl (fX1_refuse X r1) (fun q8 => some (q8.1, q8.2)))) = some z := h
  refine lv_iload_n hx hb dX1_then_0 rfl (lv_at hl 1 rfl) ?_
  refine lv_iconst (v := 0) hx hb dX1_then_1 (by decide) ?_
  refine lv_bipush (v := 60) hx hb dX1_then_2 (by decide) ?_
  obtain ⟨r1, hr1, h⟩ := cl_some h
  refine cSi (ws2 := (wR cA ad X)) (As := [.int a_1, .int 0, .int 60]) (rest := []) C hw jnE (kX1_outside hr1) kl_RX1_140 kt_yX1_outside kn_RX1 kc_yX1_outside ⟨rfl, rfl⟩ hdX1_outside ⟨Nat.le_of_ble_eq_true rfl, Nat.le_of_ble_eq_true rfl⟩ rfl hl.1 (Nat.le_of_ble_eq_true rfl) dX1_then_4 ⟨Nat.zero_le _, Nat.zero_le _⟩ (fun H locs hw => ?_)
  refine lv_istore_n (lv' := [(3, .int r1), (0, .ref (ad 0)), (1, .int a_1), (2, .int a_2)]) hx hb dX1_then_7 rfl hl (by decide) rfl (fun ls hl => ?_)
  refine lv_iload_n hx hb dX1_then_8 rfl (lv_at hl 0 rfl) ?_
  refine lv_if_eq (tgt := 18) hx hb dX1_then_9 (by decide) (fun c2 => ?_) (fun c2 => ?_)
  · replace h := (if_pos c2).symm.trans h
    refine lv_iload_n hx hb dX1_then_18 rfl (lv_at hl 3 rfl) ?_
    obtain ⟨r3, hr3, h⟩ := cl_some h
    refine cSi (ws2 := (wR cA ad X)) (As := [.int a_2]) (rest := []) C hw jnE (kX1_isOneOfTwo hr3) kl_RX1_156 kt_yX1_isOneOfTwo kn_RX1 kc_yX1_isOneOfTwo ⟨rfl, rfl⟩ hdX1_isOneOfTwo ⟨Nat.le_of_ble_eq_true rfl, Nat.le_of_ble_eq_true rfl⟩ rfl hl.1 (Nat.le_of_ble_eq_true rfl) dX1_then_19 ⟨Nat.zero_le _, Nat.zero_le _⟩ (fun H locs hw => ?_)
    refine lv_if_ne (tgt := 32) hx hb dX1_then_22 (by decide) (fun c4 => ?_) (fun c4 => ?_)
    · replace h := (if_neg c4).symm.trans h
      refine lv_aload_n hx hb dX1_then_32 rfl (lv_at hl 1 rfl) ?_
      refine lv_iload_n hx hb dX1_then_33 rfl (lv_at hl 2 rfl) ?_
      obtain ⟨w5, hw5, h⟩ := cl_some h
      refine cVv (ws2 := (wR cA ad w5)) (As := [.int a_1]) (rest := []) C hw jnW (kX1_thinkOn ad hw5) kl_RX1_153 ki_yX1_thinkOn ks_yX1_thinkOn kn_RX1 kc_yX1_thinkOn ⟨rfl, rfl⟩ hdX1_thinkOn ⟨Nat.le_of_ble_eq_true rfl, Nat.le_of_ble_eq_true rfl⟩ (ci := 1) (q0 := 0) rfl rfl rfl rfl hl.1 (Nat.le_of_ble_eq_true rfl) dX1_then_34 ⟨Nat.zero_le _, Nat.zero_le _⟩ (fun H locs hw => ?_)
      refine lv_iload_n hx hb dX1_then_37 rfl (lv_at hl 3 rfl) ?_
      refine lv_if_ne (tgt := 51) hx hb dX1_then_38 (by decide) (fun c6 => ?_) (fun c6 => ?_)
      · replace h := (if_neg c6).symm.trans h
        refine lv_aload_n hx hb dX1_then_51 rfl (lv_at hl 1 rfl) ?_
        refine tGet (T := TX1) (N := 12) (ci := 1) C hw inX1 1 0 rfl (by decide) kf_RX1_16 rfl rfl rfl dX1_then_52 ?_
        refine tGet (T := TX0) (N := 12) (ci := 0) C hw inX0 4 8 rfl (by decide) kf_RX1_132 rfl rfl rfl dX1_then_55 ?_
        obtain rfl := some_e h
        exact rtI C hr hw dX1_then_58
      · replace h := (if_pos c6).symm.trans h
        refine lv_aload_n hx hb dX1_then_41 rfl (lv_at hl 1 rfl) ?_
        refine tGet (T := TX1) (N := 12) (ci := 1) C hw inX1 1 0 rfl (by decide) kf_RX1_16 rfl rfl rfl dX1_then_42 ?_
        refine tGet (T := TX0) (N := 12) (ci := 0) C hw inX0 9 8 rfl (by decide) kf_RX1_122 rfl rfl rfl dX1_then_45 ?_
        refine lv_goto (tgt := 58) hx hb dX1_then_48 (by decide) ?_
        obtain rfl := some_e h
        exact rtI C hr hw dX1_then_58
    · replace h := (if_pos c4).symm.trans h
      refine lv_aload_n hx hb dX1_then_25 rfl (lv_at hl 1 rfl) ?_
      refine lv_bipush (v := (-2)) hx hb dX1_then_26 (by decide) ?_
      obtain ⟨q7, hq7, h⟩ := cl_some h
      refine cVi (ws2 := (wR cA ad q7.2)) (As := [.int (-2)]) (rest := []) C hw jnW (kX1_refuse ad hq7) kl_RX1_52 ki_yX1_refuse ks_yX1_refuse kn_RX1 kc_yX1_refuse ⟨rfl, rfl⟩ hdX1_refuse ⟨Nat.le_of_ble_eq_true rfl, Nat.le_of_ble_eq_true rfl⟩ (ci := 1) (q0 := 0) rfl rfl rfl rfl hl.1 (Nat.le_of_ble_eq_true rfl) dX1_then_28 ⟨Nat.zero_le _, Nat.zero_le _⟩ (fun H locs hw => ?_)
      obtain rfl := some_e h
      exact rtI C hr hw dX1_then_31
  · replace h := (if_neg c2).symm.trans h
    refine lv_aload_n hx hb dX1_then_12 rfl (lv_at hl 1 rfl) ?_
    refine lv_iload_n hx hb dX1_then_13 rfl (lv_at hl 0 rfl) ?_
    obtain ⟨q8, hq8, h⟩ := cl_some h
    refine cVi (ws2 := (wR cA ad q8.2)) (As := [.int r1]) (rest := []) C hw jnW (kX1_refuse ad hq8) kl_RX1_52 ki_yX1_refuse ks_yX1_refuse kn_RX1 kc_yX1_refuse ⟨rfl, rfl⟩ hdX1_refuse ⟨Nat.le_of_ble_eq_true rfl, Nat.le_of_ble_eq_true rfl⟩ (ci := 1) (q0 := 0) rfl rfl rfl rfl hl.1 (Nat.le_of_ble_eq_true rfl) dX1_then_14 ⟨Nat.zero_le _, Nat.zero_le _⟩ (fun H locs hw => ?_)
    obtain rfl := some_e h
    exact rtI C hr hw dX1_then_17
abbrev rmX1_nightsUntilWhole : Room := { frames := 4, cells := 0, slots := 0, locals := 100 }
theorem hdX1_nightsUntilWhole : yX1_nightsUntilWhole.cls = RX1 ∧ yX1_nightsUntilWhole.cls ≠ "java/lang/invoke/MethodHandle" ∧ yX1_nightsUntilWhole.cls ≠ "java/lang/invoke/VarHandle" ∧ (parseMethodDescriptor yX1_nightsUntilWhole.desc).map (fun d => d.parameters.length) = some 1 := by decide +kernel
def GX1_nightsUntilWhole_13 (p : Program) (l : Launch) (e : Env) (s : State) (m : MethodId) (args : Array Value) (below : List Frame) (meth : Method) (c : Code) (D : va_G) (cA : ClassId) (A : Nat → Prop) (ad : Nat → Nat) (z : (Int32 × (Nat → VS))) (x : (Nat → VS) × (Int32) × (Int32)) : Prop := ∀ (H : Heap) (locs : List Loc) (ls : Array Slot), Wd D A s.heap (wR cA ad x.1) H locs → lv_has ls 3 [(0, .ref (ad 0)), (1, .int x.2.1), (2, .int x.2.2)] → W p l e rmX1_nightsUntilWhole s m args below meth c H locs 0 0 (MQ below (QI D cA A z.1 (wR cA ad z.2)) args s 0 0 A) (F0 m 13 ls [])
def fX1_nightsUntilWhole_13 (k13 : ((Nat → VS) × (Int32) × (Int32)) → Option (Int32 × (Nat → VS))) : ((Nat → VS) × (Int32) × (Int32)) → Option (Int32 × (Nat → VS)) := fun x => match x with | (X, x_1, x_2) => if 60 < x_2 then some ((-9), X) else cl (fX0_isWhole (X 1) x_1) (fun r2 => if r2 = 0 then cl (fX0_passNights (X 1) 1 31) (fun w4 => bn (up X 1 w4) (fun w5 => bn (x_2 + 1) (fun x6 => k13 (w5, x_1, x6)))) else some (x_2, X))
def fX1_nightsUntilWhole (X : Nat → VS) (a_1 : Int32) : Option (Int32 × (Nat → VS)) := cl (fX0_copyFrom (X 1) (X 0)) (fun w1 => bn (up X 1 w1) (fun w2 => lp (fX1_nightsUntilWhole_13) 5000 (w2, a_1, 0)))
set_option maxHeartbeats 4000000 in
set_option maxRecDepth 100000 in
theorem kX1_nightsUntilWhole_13 (C : Cx p s m args meth c cX1_nightsUntilWhole 3 RX1 D cA g A) (hr : meth.sig.returnType = (some .int)) {z : (Int32 × (Nat → VS))} (k13 : ((Nat → VS) × (Int32) × (Int32)) → Option (Int32 × (Nat → VS))) (hk13 : ∀ x, k13 x = some z → GX1_nightsUntilWhole_13 p l e s m args below meth c D cA A ad z x) (x : (Nat → VS) × (Int32) × (Int32)) (h : fX1_nightsUntilWhole_13 k13 x = some z) : GX1_nightsUntilWhole_13 p l e s m args below meth c D cA A ad z x := by
  obtain ⟨X, x_1, x_2⟩ := x
  intro H locs ls hw hl
  have hw : Wd D A s.heap (wR cA ad X) H locs := hw
  have hl : lv_has ls 3 [(0, .ref (ad 0)), (1, .int x_1), (2, .int x_2)] := hl
  have hx := C.1.1
  have hb := C.1.2.1
  have h : (if 60 < x_2 then some ((-9), X) else cl (fX0_isWhole (X 1) x_1) (fun r2 => if r2 = 0 then cl (fX0_passNights (X 1) 1 31) (fun w4 => bn (up X 1 w4) (fun w5 => bn (x_2 + 1) (fun x6 => k13 (w5, x_1, x6)))) else some (x_2, X))) = some z := h
  refine lv_iload_n hx hb dX1_nightsUntilWhole_13 rfl (lv_at hl 2 rfl) ?_
  refine lv_bipush (v := 60) hx hb dX1_nightsUntilWhole_14 (by decide) ?_
  refine lv_icmp_gt (tgt := 48) hx hb dX1_nightsUntilWhole_16 (by decide) (fun c1 => ?_) (fun c1 => ?_)
  · replace h := (if_pos c1).symm.trans h
    refine lv_bipush (v := (-9)) hx hb dX1_nightsUntilWhole_48 (by decide) ?_
    obtain rfl := some_e h
    exact rtI C hr hw dX1_nightsUntilWhole_50
  · replace h := (if_neg c1).symm.trans h
    refine lv_aload_n hx hb dX1_nightsUntilWhole_19 rfl (lv_at hl 0 rfl) ?_
    refine tGet (T := TX1) (N := 12) (ci := 1) C hw inX1 1 0 rfl (by decide) kf_RX1_16 rfl rfl rfl dX1_nightsUntilWhole_20 ?_
    refine lv_iload_n hx hb dX1_nightsUntilWhole_23 rfl (lv_at hl 1 rfl) ?_
    obtain ⟨r2, hr2, h⟩ := cl_some h
    refine cVi (ws2 := (wR cA ad X)) (As := [.int x_1]) (rest := []) C hw jR1r (kX0_isWhole (fun k => ad (8 + k)) hr2) kl_RX1_288 ki_yX0_isWhole ks_yX0_isWhole kn_RX0 kc_yX0_isWhole ⟨rfl, rfl⟩ hdX0_isWhole ⟨Nat.le_of_ble_eq_true rfl, Nat.le_of_ble_eq_true rfl⟩ (ci := 0) (q0 := 0) rfl rfl rfl rfl hl.1 (Nat.le_of_ble_eq_true rfl) dX1_nightsUntilWhole_24 ⟨Nat.zero_le _, Nat.zero_le _⟩ (fun H locs hw => ?_)
    refine lv_if_eq (tgt := 32) hx hb dX1_nightsUntilWhole_27 (by decide) (fun c3 => ?_) (fun c3 => ?_)
    · replace h := (if_pos c3).symm.trans h
      refine lv_aload_n hx hb dX1_nightsUntilWhole_32 rfl (lv_at hl 0 rfl) ?_
      refine tGet (T := TX1) (N := 12) (ci := 1) C hw inX1 1 0 rfl (by decide) kf_RX1_16 rfl rfl rfl dX1_nightsUntilWhole_33 ?_
      refine lv_iconst (v := 1) hx hb dX1_nightsUntilWhole_36 (by decide) ?_
      refine lv_bipush (v := 31) hx hb dX1_nightsUntilWhole_37 (by decide) ?_
      obtain ⟨w4, hw4, h⟩ := cl_some h
      obtain ⟨w5, ew5⟩ : ∃ y : Nat → VS, y = up X 1 w4 := ⟨_, rfl⟩
      replace h := bn_some h ew5
      refine cVv (ws2 := (wR cA ad w5)) (As := [.int 1, .int 31]) (rest := []) C hw (by rw [ew5]; exact jR1) (kX0_passNights (fun k => ad (8 + k)) hw4) kl_RX1_150 ki_yX0_passNights ks_yX0_passNights kn_RX0 kc_yX0_passNights ⟨rfl, rfl⟩ hdX0_passNights ⟨Nat.le_of_ble_eq_true rfl, Nat.le_of_ble_eq_true rfl⟩ (ci := 0) (q0 := 0) rfl rfl rfl rfl hl.1 (Nat.le_of_ble_eq_true rfl) dX1_nightsUntilWhole_39 ⟨Nat.zero_le _, Nat.zero_le _⟩ (fun H locs hw => ?_)
      obtain ⟨x6, ex6⟩ : ∃ y : Int32, y = x_2 + 1 := ⟨_, rfl⟩
      replace h := bn_some h ex6
      refine lv_iinc (v := x6) (lv' := [(2, .int x6), (0, .ref (ad 0)), (1, .int x_1)]) hx hb dX1_nightsUntilWhole_42 hl (k := 2) rfl (by rw [ex6]; rfl) (by decide) rfl (fun ls hl => ?_)
      refine lv_goto (tgt := 13) hx hb dX1_nightsUntilWhole_45 (by decide) ?_
      exact hk13 (w5, x_1, x6) h _ _ _ hw (lv_sub hl [1, 2, 0] rfl)
    · replace h := (if_neg c3).symm.trans h
      refine lv_iload_n hx hb dX1_nightsUntilWhole_30 rfl (lv_at hl 2 rfl) ?_
      obtain rfl := some_e h
      exact rtI C hr hw dX1_nightsUntilWhole_31
theorem lX1_nightsUntilWhole_13 (C : Cx p s m args meth c cX1_nightsUntilWhole 3 RX1 D cA g A) (hr : meth.sig.returnType = (some .int)) {z : (Int32 × (Nat → VS))} (n : Nat) (x : (Nat → VS) × (Int32) × (Int32)) (h : lp (fX1_nightsUntilWhole_13) n x = some z) : GX1_nightsUntilWhole_13 p l e s m args below meth c D cA A ad z x := lp_ok (GX1_nightsUntilWhole_13 p l e s m args below meth c D cA A ad z) (fun kq hkq x h => kX1_nightsUntilWhole_13 C hr kq hkq x h) n x h
set_option maxHeartbeats 4000000 in
set_option maxRecDepth 100000 in
theorem kX1_nightsUntilWhole (ad : Nat → Nat) {X : Nat → VS} {a_1 : Int32} {z : (Int32 × (Nat → VS))} (h : fX1_nightsUntilWhole X a_1 = some z) : MI l D cA g yX1_nightsUntilWhole (Cond.code yX1_nightsUntilWhole cX1_nightsUntilWhole 3 (some .int) :: lw_g) rmX1_nightsUntilWhole [.ref (ad 0), .int a_1] (wR cA ad X) z.1 (wR cA ad z.2) := by
  intro sz
  refine Met.ofW (cc := cX1_nightsUntilWhole) (maxL := 3) (ret := (some .int)) (by decide) rfl ?_
  intro p e s m args below meth c s₁ B hml hv
  obtain ⟨rfl, C, hr, hw⟩ := ent B hml hv
  generalize va_A (wR cA ad X) sz = A at C hw ⊢
  have hl := lv_entry ([.ref (ad 0), .int a_1]) (n := 3) (Nat.le_of_ble_eq_true rfl)
  rw [lg_entry_eq]
  generalize (lg_sl ([.ref (ad 0), .int a_1]) ++ List.replicate (3 - (lg_sl ([.ref (ad 0), .int a_1])).length) Slot.unset).toArray = ls at hl ⊢
  have hl : lv_has ls 3 [(0, .ref (ad 0)), (1, .int a_1)] := hl
  have hx := C.1.1
  have hb := C.1.2.1
  have h : (cl (fX0_copyFrom (X 1) (X 0)) (fun w1 => bn (up X 1 w1) (fun w2 => lp (fX1_nightsUntilWhole_13) 5000 (w2, a_1, 0)))) = some z := h
  refine lv_aload_n hx hb dX1_nightsUntilWhole_0 rfl (lv_at hl 0 rfl) ?_
  refine tGet (T := TX1) (N := 12) (ci := 1) C hw inX1 1 0 rfl (by decide) kf_RX1_16 rfl rfl rfl dX1_nightsUntilWhole_1 ?_
  refine lv_aload_n hx hb dX1_nightsUntilWhole_4 rfl (lv_at hl 0 rfl) ?_
  refine tGet (T := TX1) (N := 12) (ci := 1) C hw inX1 0 0 rfl (by decide) kf_RX1_10 rfl rfl rfl dX1_nightsUntilWhole_5 ?_
  obtain ⟨w1, hw1, h⟩ := cl_some h
  obtain ⟨w2, ew2⟩ : ∃ y : Nat → VS, y = up X 1 w1 := ⟨_, rfl⟩
  replace h := bn_some h ew2
  refine cVv (ws2 := (wR cA ad w2)) (As := [.ref (ad 1)]) (rest := []) C hw (by rw [ew2]; exact jRR10) (kX0_copyFrom (fun k => ad (8 + k)) (fun k => ad (1 + k)) hw1) kl_RX1_59 ki_yX0_copyFrom ks_yX0_copyFrom kn_RX0 kc_yX0_copyFrom ⟨rfl, rfl⟩ hdX0_copyFrom ⟨Nat.le_of_ble_eq_true rfl, Nat.le_of_ble_eq_true rfl⟩ (ci := 0) (q0 := 0) rfl rfl rfl rfl hl.1 (Nat.le_of_ble_eq_true rfl) dX1_nightsUntilWhole_8 ⟨Nat.zero_le _, Nat.zero_le _⟩ (fun H locs hw => ?_)
  refine lv_iconst (v := 0) hx hb dX1_nightsUntilWhole_11 (by decide) ?_
  refine lv_istore_n (lv' := [(2, .int 0), (0, .ref (ad 0)), (1, .int a_1)]) hx hb dX1_nightsUntilWhole_12 rfl hl (by decide) rfl (fun ls hl => ?_)
  exact lX1_nightsUntilWhole_13 C hr 5000 (w2, a_1, 0) h _ _ _ hw (lv_sub hl [1, 2, 0] rfl)
abbrev rmX1_firstWhole : Room := { frames := 5, cells := 0, slots := 0, locals := 122 }
theorem hdX1_firstWhole : yX1_firstWhole.cls = RX1 ∧ yX1_firstWhole.cls ≠ "java/lang/invoke/MethodHandle" ∧ yX1_firstWhole.cls ≠ "java/lang/invoke/VarHandle" ∧ (parseMethodDescriptor yX1_firstWhole.desc).map (fun d => d.parameters.length) = some 0 := by decide +kernel
def GX1_firstWhole_44 (p : Program) (l : Launch) (e : Env) (s : State) (m : MethodId) (args : Array Value) (below : List Frame) (meth : Method) (c : Code) (D : va_G) (cA : ClassId) (A : Nat → Prop) (ad : Nat → Nat) (z : (Int32 × (Nat → VS))) (x : (Nat → VS) × (Int32) × (Int32) × (Int32)) : Prop := ∀ (H : Heap) (locs : List Loc) (ls : Array Slot), Wd D A s.heap (wR cA ad x.1) H locs → lv_has ls 5 [(0, .ref (ad 0)), (1, .int x.2.1), (2, .int x.2.2.1), (3, .int x.2.2.2)] → W p l e rmX1_firstWhole s m args below meth c H locs 0 0 (MQ below (QI D cA A z.1 (wR cA ad z.2)) args s 0 0 A) (F0 m 44 ls [])
def GX1_firstWhole_8 (p : Program) (l : Launch) (e : Env) (s : State) (m : MethodId) (args : Array Value) (below : List Frame) (meth : Method) (c : Code) (D : va_G) (cA : ClassId) (A : Nat → Prop) (ad : Nat → Nat) (z : (Int32 × (Nat → VS))) (x : (Nat → VS) × (Int32) × (Int32) × (Int32)) : Prop := ∀ (H : Heap) (locs : List Loc) (ls : Array Slot), Wd D A s.heap (wR cA ad x.1) H locs → lv_has ls 5 [(0, .ref (ad 0)), (1, .int x.2.1), (2, .int x.2.2.1), (3, .int x.2.2.2)] → W p l e rmX1_firstWhole s m args below meth c H locs 0 0 (MQ below (QI D cA A z.1 (wR cA ad z.2)) args s 0 0 A) (F0 m 8 ls [])
def fX1_firstWhole_44 (k8 : ((Nat → VS) × (Int32) × (Int32) × (Int32)) → Option (Int32 × (Nat → VS))) : ((Nat → VS) × (Int32) × (Int32) × (Int32)) → Option (Int32 × (Nat → VS)) := fun x => match x with | (X, x_1, x_2, x_3) => bn (x_3 + 1) (fun x1 => k8 (X, x_1, x_2, x1))
def fX1_firstWhole_8 (k8 : ((Nat → VS) × (Int32) × (Int32) × (Int32)) → Option (Int32 × (Nat → VS))) : ((Nat → VS) × (Int32) × (Int32) × (Int32)) → Option (Int32 × (Nat → VS)) := fun x => match x with | (X, x_1, x_2, x_3) => if (X 0 5 0) ≤ x_3 then some (x_1, X) else cl (fX1_nightsUntilWhole X x_3) (fun q2 => bn q2.1 (fun x3 => if x3 = (-9) then fX1_firstWhole_44 k8 (q2.2, x_1, x_2, x_3) else if x_2 ≤ x3 then fX1_firstWhole_44 k8 (q2.2, x_1, x_2, x_3) else fX1_firstWhole_44 k8 (q2.2, x_3, x3, x_3)))
def fX1_firstWhole (X : Nat → VS) : Option (Int32 × (Nat → VS)) := lp (fX1_firstWhole_8) 5000 (X, (-9), 61, 0)
set_option maxHeartbeats 4000000 in
set_option maxRecDepth 100000 in
theorem kX1_firstWhole_44 (C : Cx p s m args meth c cX1_firstWhole 5 RX1 D cA g A) (hr : meth.sig.returnType = (some .int)) {z : (Int32 × (Nat → VS))} (k8 : ((Nat → VS) × (Int32) × (Int32) × (Int32)) → Option (Int32 × (Nat → VS))) (hk8 : ∀ x, k8 x = some z → GX1_firstWhole_8 p l e s m args below meth c D cA A ad z x) (x : (Nat → VS) × (Int32) × (Int32) × (Int32)) (h : fX1_firstWhole_44 k8 x = some z) : GX1_firstWhole_44 p l e s m args below meth c D cA A ad z x := by
  obtain ⟨X, x_1, x_2, x_3⟩ := x
  intro H locs ls hw hl
  have hw : Wd D A s.heap (wR cA ad X) H locs := hw
  have hl : lv_has ls 5 [(0, .ref (ad 0)), (1, .int x_1), (2, .int x_2), (3, .int x_3)] := hl
  have hx := C.1.1
  have hb := C.1.2.1
  have h : (bn (x_3 + 1) (fun x1 => k8 (X, x_1, x_2, x1))) = some z := h
  obtain ⟨x1, ex1⟩ : ∃ y : Int32, y = x_3 + 1 := ⟨_, rfl⟩
  replace h := bn_some h ex1
  refine lv_iinc (v := x1) (lv' := [(3, .int x1), (0, .ref (ad 0)), (1, .int x_1), (2, .int x_2)]) hx hb dX1_firstWhole_44 hl (k := 3) rfl (by rw [ex1]; rfl) (by decide) rfl (fun ls hl => ?_)
  refine lv_goto (tgt := 8) hx hb dX1_firstWhole_47 (by decide) ?_
  exact hk8 (X, x_1, x_2, x1) h _ _ _ hw (lv_sub hl [1, 2, 3, 0] rfl)
set_option maxHeartbeats 4000000 in
set_option maxRecDepth 100000 in
theorem kX1_firstWhole_8 (C : Cx p s m args meth c cX1_firstWhole 5 RX1 D cA g A) (hr : meth.sig.returnType = (some .int)) {z : (Int32 × (Nat → VS))} (k8 : ((Nat → VS) × (Int32) × (Int32) × (Int32)) → Option (Int32 × (Nat → VS))) (hk8 : ∀ x, k8 x = some z → GX1_firstWhole_8 p l e s m args below meth c D cA A ad z x) (x : (Nat → VS) × (Int32) × (Int32) × (Int32)) (h : fX1_firstWhole_8 k8 x = some z) : GX1_firstWhole_8 p l e s m args below meth c D cA A ad z x := by
  obtain ⟨X, x_1, x_2, x_3⟩ := x
  intro H locs ls hw hl
  have hw : Wd D A s.heap (wR cA ad X) H locs := hw
  have hl : lv_has ls 5 [(0, .ref (ad 0)), (1, .int x_1), (2, .int x_2), (3, .int x_3)] := hl
  have hx := C.1.1
  have hb := C.1.2.1
  have h : (if (X 0 5 0) ≤ x_3 then some (x_1, X) else cl (fX1_nightsUntilWhole X x_3) (fun q2 => bn q2.1 (fun x3 => if x3 = (-9) then fX1_firstWhole_44 k8 (q2.2, x_1, x_2, x_3) else if x_2 ≤ x3 then fX1_firstWhole_44 k8 (q2.2, x_1, x_2, x_3) else fX1_firstWhole_44 k8 (q2.2, x_3, x3, x_3)))) = some z := h
  refine lv_iload_n hx hb dX1_firstWhole_8 rfl (lv_at hl 3 rfl) ?_
  refine lv_aload_n hx hb dX1_firstWhole_9 rfl (lv_at hl 0 rfl) ?_
  refine tGet (T := TX1) (N := 12) (ci := 1) C hw inX1 0 0 rfl (by decide) kf_RX1_10 rfl rfl rfl dX1_firstWhole_10 ?_
  refine tGet (T := TX0) (N := 12) (ci := 0) C hw inX0 5 1 rfl (by decide) kf_RX1_203 rfl rfl rfl dX1_firstWhole_13 ?_
  refine lv_icmp_ge (tgt := 50) hx hb dX1_firstWhole_16 (by decide) (fun c1 => ?_) (fun c1 => ?_)
  · replace h := (if_pos c1).symm.trans h
    refine lv_iload_n hx hb dX1_firstWhole_50 rfl (lv_at hl 1 rfl) ?_
    obtain rfl := some_e h
    exact rtI C hr hw dX1_firstWhole_51
  · replace h := (if_neg c1).symm.trans h
    refine lv_aload_n hx hb dX1_firstWhole_19 rfl (lv_at hl 0 rfl) ?_
    refine lv_iload_n hx hb dX1_firstWhole_20 rfl (lv_at hl 3 rfl) ?_
    obtain ⟨q2, hq2, h⟩ := cl_some h
    refine cVi (ws2 := (wR cA ad q2.2)) (As := [.int x_3]) (rest := []) C hw jnW (kX1_nightsUntilWhole ad hq2) kl_RX1_163 ki_yX1_nightsUntilWhole ks_yX1_nightsUntilWhole kn_RX1 kc_yX1_nightsUntilWhole ⟨rfl, rfl⟩ hdX1_nightsUntilWhole ⟨Nat.le_of_ble_eq_true rfl, Nat.le_of_ble_eq_true rfl⟩ (ci := 1) (q0 := 0) rfl rfl rfl rfl hl.1 (Nat.le_of_ble_eq_true rfl) dX1_firstWhole_21 ⟨Nat.zero_le _, Nat.zero_le _⟩ (fun H locs hw => ?_)
    refine lv_topi (fun x3 ex3 => ?_)
    replace h := bn_some h ex3
    refine lv_istore (lv' := [(4, .int x3), (0, .ref (ad 0)), (1, .int x_1), (2, .int x_2), (3, .int x_3)]) hx hb dX1_firstWhole_24 hl (by decide) rfl (fun ls hl => ?_)
    refine lv_iload hx hb dX1_firstWhole_26 (lv_at hl 0 rfl) ?_
    refine lv_bipush (v := (-9)) hx hb dX1_firstWhole_28 (by decide) ?_
    refine lv_icmp_eq (tgt := 44) hx hb dX1_firstWhole_30 (by decide) (fun c4 => ?_) (fun c4 => ?_)
    · replace h := (if_pos c4).symm.trans h
      exact kX1_firstWhole_44 C hr k8 hk8 (q2.2, x_1, x_2, x_3) h _ _ _ hw (lv_sub hl [1, 2, 3, 4] rfl)
    · replace h := (if_neg c4).symm.trans h
      refine lv_iload hx hb dX1_firstWhole_33 (lv_at hl 0 rfl) ?_
      refine lv_iload_n hx hb dX1_firstWhole_35 rfl (lv_at hl 3 rfl) ?_
      refine lv_icmp_ge (tgt := 44) hx hb dX1_firstWhole_36 (by decide) (fun c5 => ?_) (fun c5 => ?_)
      · replace h := (if_pos c5).symm.trans h
        exact kX1_firstWhole_44 C hr k8 hk8 (q2.2, x_1, x_2, x_3) h _ _ _ hw (lv_sub hl [1, 2, 3, 4] rfl)
      · replace h := (if_neg c5).symm.trans h
        refine lv_iload hx hb dX1_firstWhole_39 (lv_at hl 0 rfl) ?_
        refine lv_istore_n (lv' := [(2, .int x3), (4, .int x3), (0, .ref (ad 0)), (1, .int x_1), (3, .int x_3)]) hx hb dX1_firstWhole_41 rfl hl (by decide) rfl (fun ls hl => ?_)
        refine lv_iload_n hx hb dX1_firstWhole_42 rfl (lv_at hl 4 rfl) ?_
        refine lv_istore_n (lv' := [(1, .int x_3), (2, .int x3), (4, .int x3), (0, .ref (ad 0)), (3, .int x_3)]) hx hb dX1_firstWhole_43 rfl hl (by decide) rfl (fun ls hl => ?_)
        exact kX1_firstWhole_44 C hr k8 hk8 (q2.2, x_3, x3, x_3) h _ _ _ hw (lv_sub hl [3, 0, 1, 4] rfl)
theorem lX1_firstWhole_8 (C : Cx p s m args meth c cX1_firstWhole 5 RX1 D cA g A) (hr : meth.sig.returnType = (some .int)) {z : (Int32 × (Nat → VS))} (n : Nat) (x : (Nat → VS) × (Int32) × (Int32) × (Int32)) (h : lp (fX1_firstWhole_8) n x = some z) : GX1_firstWhole_8 p l e s m args below meth c D cA A ad z x := lp_ok (GX1_firstWhole_8 p l e s m args below meth c D cA A ad z) (fun kq hkq x h => kX1_firstWhole_8 C hr kq hkq x h) n x h
set_option maxHeartbeats 4000000 in
set_option maxRecDepth 100000 in
theorem kX1_firstWhole (ad : Nat → Nat) {X : Nat → VS} {z : (Int32 × (Nat → VS))} (h : fX1_firstWhole X = some z) : MI l D cA g yX1_firstWhole (Cond.code yX1_firstWhole cX1_firstWhole 5 (some .int) :: lw_g) rmX1_firstWhole [.ref (ad 0)] (wR cA ad X) z.1 (wR cA ad z.2) := by
  intro sz
  refine Met.ofW (cc := cX1_firstWhole) (maxL := 5) (ret := (some .int)) (by decide) rfl ?_
  intro p e s m args below meth c s₁ B hml hv
  obtain ⟨rfl, C, hr, hw⟩ := ent B hml hv
  generalize va_A (wR cA ad X) sz = A at C hw ⊢
  have hl := lv_entry ([.ref (ad 0)]) (n := 5) (Nat.le_of_ble_eq_true rfl)
  rw [lg_entry_eq]
  generalize (lg_sl ([.ref (ad 0)]) ++ List.replicate (5 - (lg_sl ([.ref (ad 0)])).length) Slot.unset).toArray = ls at hl ⊢
  have hl : lv_has ls 5 [(0, .ref (ad 0))] := hl
  have hx := C.1.1
  have hb := C.1.2.1
  have h : (lp (fX1_firstWhole_8) 5000 (X, (-9), 61, 0)) = some z := h
  refine lv_bipush (v := (-9)) hx hb dX1_firstWhole_0 (by decide) ?_
  refine lv_istore_n (lv' := [(1, .int (-9)), (0, .ref (ad 0))]) hx hb dX1_firstWhole_2 rfl hl (by decide) rfl (fun ls hl => ?_)
  refine lv_bipush (v := 61) hx hb dX1_firstWhole_3 (by decide) ?_
  refine lv_istore_n (lv' := [(2, .int 61), (1, .int (-9)), (0, .ref (ad 0))]) hx hb dX1_firstWhole_5 rfl hl (by decide) rfl (fun ls hl => ?_)
  refine lv_iconst (v := 0) hx hb dX1_firstWhole_6 (by decide) ?_
  refine lv_istore_n (lv' := [(3, .int 0), (2, .int 61), (1, .int (-9)), (0, .ref (ad 0))]) hx hb dX1_firstWhole_7 rfl hl (by decide) rfl (fun ls hl => ?_)
  exact lX1_firstWhole_8 C hr 5000 (X, (-9), 61, 0) h _ _ _ hw (lv_sub hl [3, 2, 1, 0] rfl)
abbrev rmX1_whole : Room := { frames := 6, cells := 0, slots := 0, locals := 146 }
theorem hdX1_whole : yX1_whole.cls = RX1 ∧ yX1_whole.cls ≠ "java/lang/invoke/MethodHandle" ∧ yX1_whole.cls ≠ "java/lang/invoke/VarHandle" ∧ (parseMethodDescriptor yX1_whole.desc).map (fun d => d.parameters.length) = some 1 := by decide +kernel
def fX1_whole (X : Nat → VS) (a_1 : Int32) : Option (Int32 × (Nat → VS)) := if a_1 = (-1) then cl (fX1_firstWhole X) (fun q6 => some (q6.1, q6.2)) else cl (fX0_hasReader (X 0) a_1) (fun r2 => if r2 = 0 then cl (fX1_refuse X (-1)) (fun q5 => some (q5.1, q5.2)) else cl (fX1_nightsUntilWhole X a_1) (fun q4 => some (q4.1, q4.2)))
set_option maxHeartbeats 4000000 in
set_option maxRecDepth 100000 in
theorem kX1_whole (ad : Nat → Nat) {X : Nat → VS} {a_1 : Int32} {z : (Int32 × (Nat → VS))} (h : fX1_whole X a_1 = some z) : MI l D cA g yX1_whole (Cond.code yX1_whole cX1_whole 2 (some .int) :: lw_g) rmX1_whole [.ref (ad 0), .int a_1] (wR cA ad X) z.1 (wR cA ad z.2) := by
  intro sz
  refine Met.ofW (cc := cX1_whole) (maxL := 2) (ret := (some .int)) (by decide) rfl ?_
  intro p e s m args below meth c s₁ B hml hv
  obtain ⟨rfl, C, hr, hw⟩ := ent B hml hv
  generalize va_A (wR cA ad X) sz = A at C hw ⊢
  have hl := lv_entry ([.ref (ad 0), .int a_1]) (n := 2) (Nat.le_of_ble_eq_true rfl)
  rw [lg_entry_eq]
  generalize (lg_sl ([.ref (ad 0), .int a_1]) ++ List.replicate (2 - (lg_sl ([.ref (ad 0), .int a_1])).length) Slot.unset).toArray = ls at hl ⊢
  have hl : lv_has ls 2 [(0, .ref (ad 0)), (1, .int a_1)] := hl
  have hx := C.1.1
  have hb := C.1.2.1
  have h : (if a_1 = (-1) then cl (fX1_firstWhole X) (fun q6 => some (q6.1, q6.2)) else cl (fX0_hasReader (X 0) a_1) (fun r2 => if r2 = 0 then cl (fX1_refuse X (-1)) (fun q5 => some (q5.1, q5.2)) else cl (fX1_nightsUntilWhole X a_1) (fun q4 => some (q4.1, q4.2)))) = some z := h
  refine lv_iload_n hx hb dX1_whole_0 rfl (lv_at hl 1 rfl) ?_
  refine lv_iconst (v := (-1)) hx hb dX1_whole_1 (by decide) ?_
  refine lv_icmp_ne (tgt := 10) hx hb dX1_whole_2 (by decide) (fun c1 => ?_) (fun c1 => ?_)
  · replace h := (if_neg c1).symm.trans h
    refine lv_aload_n hx hb dX1_whole_10 rfl (lv_at hl 0 rfl) ?_
    refine tGet (T := TX1) (N := 12) (ci := 1) C hw inX1 0 0 rfl (by decide) kf_RX1_10 rfl rfl rfl dX1_whole_11 ?_
    refine lv_iload_n hx hb dX1_whole_14 rfl (lv_at hl 1 rfl) ?_
    obtain ⟨r2, hr2, h⟩ := cl_some h
    refine cVi (ws2 := (wR cA ad X)) (As := [.int a_1]) (rest := []) C hw jR0r (kX0_hasReader (fun k => ad (1 + k)) hr2) kl_RX1_100 ki_yX0_hasReader ks_yX0_hasReader kn_RX0 kc_yX0_hasReader ⟨rfl, rfl⟩ hdX0_hasReader ⟨Nat.le_of_ble_eq_true rfl, Nat.le_of_ble_eq_true rfl⟩ (ci := 0) (q0 := 0) rfl rfl rfl rfl hl.1 (Nat.le_of_ble_eq_true rfl) dX1_whole_15 ⟨Nat.zero_le _, Nat.zero_le _⟩ (fun H locs hw => ?_)
    refine lv_if_ne (tgt := 27) hx hb dX1_whole_18 (by decide) (fun c3 => ?_) (fun c3 => ?_)
    · replace h := (if_neg c3).symm.trans h
      refine lv_aload_n hx hb dX1_whole_27 rfl (lv_at hl 0 rfl) ?_
      refine lv_iload_n hx hb dX1_whole_28 rfl (lv_at hl 1 rfl) ?_
      obtain ⟨q4, hq4, h⟩ := cl_some h
      refine cVi (ws2 := (wR cA ad q4.2)) (As := [.int a_1]) (rest := []) C hw jnW (kX1_nightsUntilWhole ad hq4) kl_RX1_163 ki_yX1_nightsUntilWhole ks_yX1_nightsUntilWhole kn_RX1 kc_yX1_nightsUntilWhole ⟨rfl, rfl⟩ hdX1_nightsUntilWhole ⟨Nat.le_of_ble_eq_true rfl, Nat.le_of_ble_eq_true rfl⟩ (ci := 1) (q0 := 0) rfl rfl rfl rfl hl.1 (Nat.le_of_ble_eq_true rfl) dX1_whole_29 ⟨Nat.zero_le _, Nat.zero_le _⟩ (fun H locs hw => ?_)
      obtain rfl := some_e h
      exact rtI C hr hw dX1_whole_32
    · replace h := (if_pos c3).symm.trans h
      refine lv_aload_n hx hb dX1_whole_21 rfl (lv_at hl 0 rfl) ?_
      refine lv_iconst (v := (-1)) hx hb dX1_whole_22 (by decide) ?_
      obtain ⟨q5, hq5, h⟩ := cl_some h
      refine cVi (ws2 := (wR cA ad q5.2)) (As := [.int (-1)]) (rest := []) C hw jnW (kX1_refuse ad hq5) kl_RX1_52 ki_yX1_refuse ks_yX1_refuse kn_RX1 kc_yX1_refuse ⟨rfl, rfl⟩ hdX1_refuse ⟨Nat.le_of_ble_eq_true rfl, Nat.le_of_ble_eq_true rfl⟩ (ci := 1) (q0 := 0) rfl rfl rfl rfl hl.1 (Nat.le_of_ble_eq_true rfl) dX1_whole_23 ⟨Nat.zero_le _, Nat.zero_le _⟩ (fun H locs hw => ?_)
      obtain rfl := some_e h
      exact rtI C hr hw dX1_whole_26
  · replace h := (if_pos c1).symm.trans h
    refine lv_aload_n hx hb dX1_whole_5 rfl (lv_at hl 0 rfl) ?_
    obtain ⟨q6, hq6, h⟩ := cl_some h
    refine cVi (ws2 := (wR cA ad q6.2)) (As := []) (rest := []) C hw jnW (kX1_firstWhole ad hq6) kl_RX1_159 ki_yX1_firstWhole ks_yX1_firstWhole kn_RX1 kc_yX1_firstWhole ⟨rfl, rfl⟩ hdX1_firstWhole ⟨Nat.le_of_ble_eq_true rfl, Nat.le_of_ble_eq_true rfl⟩ (ci := 1) (q0 := 0) rfl rfl rfl rfl hl.1 (Nat.le_of_ble_eq_true rfl) dX1_whole_6 ⟨Nat.zero_le _, Nat.zero_le _⟩ (fun H locs hw => ?_)
    obtain rfl := some_e h
    exact rtI C hr hw dX1_whole_9
abbrev rmX1_nightsUntilSpent : Room := { frames := 4, cells := 0, slots := 0, locals := 100 }
theorem hdX1_nightsUntilSpent : yX1_nightsUntilSpent.cls = RX1 ∧ yX1_nightsUntilSpent.cls ≠ "java/lang/invoke/MethodHandle" ∧ yX1_nightsUntilSpent.cls ≠ "java/lang/invoke/VarHandle" ∧ (parseMethodDescriptor yX1_nightsUntilSpent.desc).map (fun d => d.parameters.length) = some 0 := by decide +kernel
def GX1_nightsUntilSpent_13 (p : Program) (l : Launch) (e : Env) (s : State) (m : MethodId) (args : Array Value) (below : List Frame) (meth : Method) (c : Code) (D : va_G) (cA : ClassId) (A : Nat → Prop) (ad : Nat → Nat) (z : (Int32 × (Nat → VS))) (x : (Nat → VS) × (Int32)) : Prop := ∀ (H : Heap) (locs : List Loc) (ls : Array Slot), Wd D A s.heap (wR cA ad x.1) H locs → lv_has ls 2 [(0, .ref (ad 0)), (1, .int x.2)] → W p l e rmX1_nightsUntilSpent s m args below meth c H locs 0 0 (MQ below (QI D cA A z.1 (wR cA ad z.2)) args s 0 0 A) (F0 m 13 ls [])
def fX1_nightsUntilSpent_13 (k13 : ((Nat → VS) × (Int32)) → Option (Int32 × (Nat → VS))) : ((Nat → VS) × (Int32)) → Option (Int32 × (Nat → VS)) := fun x => match x with | (X, x_1) => if 60 < x_1 then some ((-9), X) else cl (fX0_upNext (X 1)) (fun r2 => if r2 = (-9) then some (x_1, X) else cl (fX0_passNights (X 1) 1 31) (fun w4 => bn (up X 1 w4) (fun w5 => bn (x_1 + 1) (fun x6 => k13 (w5, x6)))))
def fX1_nightsUntilSpent (X : Nat → VS) : Option (Int32 × (Nat → VS)) := cl (fX0_copyFrom (X 1) (X 0)) (fun w1 => bn (up X 1 w1) (fun w2 => lp (fX1_nightsUntilSpent_13) 5000 (w2, 0)))
set_option maxHeartbeats 4000000 in
set_option maxRecDepth 100000 in
theorem kX1_nightsUntilSpent_13 (C : Cx p s m args meth c cX1_nightsUntilSpent 2 RX1 D cA g A) (hr : meth.sig.returnType = (some .int)) {z : (Int32 × (Nat → VS))} (k13 : ((Nat → VS) × (Int32)) → Option (Int32 × (Nat → VS))) (hk13 : ∀ x, k13 x = some z → GX1_nightsUntilSpent_13 p l e s m args below meth c D cA A ad z x) (x : (Nat → VS) × (Int32)) (h : fX1_nightsUntilSpent_13 k13 x = some z) : GX1_nightsUntilSpent_13 p l e s m args below meth c D cA A ad z x := by
  obtain ⟨X, x_1⟩ := x
  intro H locs ls hw hl
  have hw : Wd D A s.heap (wR cA ad X) H locs := hw
  have hl : lv_has ls 2 [(0, .ref (ad 0)), (1, .int x_1)] := hl
  have hx := C.1.1
  have hb := C.1.2.1
  have h : (if 60 < x_1 then some ((-9), X) else cl (fX0_upNext (X 1)) (fun r2 => if r2 = (-9) then some (x_1, X) else cl (fX0_passNights (X 1) 1 31) (fun w4 => bn (up X 1 w4) (fun w5 => bn (x_1 + 1) (fun x6 => k13 (w5, x6)))))) = some z := h
  refine lv_iload_n hx hb dX1_nightsUntilSpent_13 rfl (lv_at hl 1 rfl) ?_
  refine lv_bipush (v := 60) hx hb dX1_nightsUntilSpent_14 (by decide) ?_
  refine lv_icmp_gt (tgt := 49) hx hb dX1_nightsUntilSpent_16 (by decide) (fun c1 => ?_) (fun c1 => ?_)
  · replace h := (if_pos c1).symm.trans h
    refine lv_bipush (v := (-9)) hx hb dX1_nightsUntilSpent_49 (by decide) ?_
    obtain rfl := some_e h
    exact rtI C hr hw dX1_nightsUntilSpent_51
  · replace h := (if_neg c1).symm.trans h
    refine lv_aload_n hx hb dX1_nightsUntilSpent_19 rfl (lv_at hl 0 rfl) ?_
    refine tGet (T := TX1) (N := 12) (ci := 1) C hw inX1 1 0 rfl (by decide) kf_RX1_16 rfl rfl rfl dX1_nightsUntilSpent_20 ?_
    obtain ⟨r2, hr2, h⟩ := cl_some h
    refine cVi (ws2 := (wR cA ad X)) (As := []) (rest := []) C hw jR1r (kX0_upNext (fun k => ad (8 + k)) hr2) kl_RX1_166 ki_yX0_upNext ks_yX0_upNext kn_RX0 kc_yX0_upNext ⟨rfl, rfl⟩ hdX0_upNext ⟨Nat.le_of_ble_eq_true rfl, Nat.le_of_ble_eq_true rfl⟩ (ci := 0) (q0 := 0) rfl rfl rfl rfl hl.1 (Nat.le_of_ble_eq_true rfl) dX1_nightsUntilSpent_23 ⟨Nat.zero_le _, Nat.zero_le _⟩ (fun H locs hw => ?_)
    refine lv_bipush (v := (-9)) hx hb dX1_nightsUntilSpent_26 (by decide) ?_
    refine lv_icmp_ne (tgt := 33) hx hb dX1_nightsUntilSpent_28 (by decide) (fun c3 => ?_) (fun c3 => ?_)
    · replace h := (if_neg c3).symm.trans h
      refine lv_aload_n hx hb dX1_nightsUntilSpent_33 rfl (lv_at hl 0 rfl) ?_
      refine tGet (T := TX1) (N := 12) (ci := 1) C hw inX1 1 0 rfl (by decide) kf_RX1_16 rfl rfl rfl dX1_nightsUntilSpent_34 ?_
      refine lv_iconst (v := 1) hx hb dX1_nightsUntilSpent_37 (by decide) ?_
      refine lv_bipush (v := 31) hx hb dX1_nightsUntilSpent_38 (by decide) ?_
      obtain ⟨w4, hw4, h⟩ := cl_some h
      obtain ⟨w5, ew5⟩ : ∃ y : Nat → VS, y = up X 1 w4 := ⟨_, rfl⟩
      replace h := bn_some h ew5
      refine cVv (ws2 := (wR cA ad w5)) (As := [.int 1, .int 31]) (rest := []) C hw (by rw [ew5]; exact jR1) (kX0_passNights (fun k => ad (8 + k)) hw4) kl_RX1_150 ki_yX0_passNights ks_yX0_passNights kn_RX0 kc_yX0_passNights ⟨rfl, rfl⟩ hdX0_passNights ⟨Nat.le_of_ble_eq_true rfl, Nat.le_of_ble_eq_true rfl⟩ (ci := 0) (q0 := 0) rfl rfl rfl rfl hl.1 (Nat.le_of_ble_eq_true rfl) dX1_nightsUntilSpent_40 ⟨Nat.zero_le _, Nat.zero_le _⟩ (fun H locs hw => ?_)
      obtain ⟨x6, ex6⟩ : ∃ y : Int32, y = x_1 + 1 := ⟨_, rfl⟩
      replace h := bn_some h ex6
      refine lv_iinc (v := x6) (lv' := [(1, .int x6), (0, .ref (ad 0))]) hx hb dX1_nightsUntilSpent_43 hl (k := 1) rfl (by rw [ex6]; rfl) (by decide) rfl (fun ls hl => ?_)
      refine lv_goto (tgt := 13) hx hb dX1_nightsUntilSpent_46 (by decide) ?_
      exact hk13 (w5, x6) h _ _ _ hw (lv_sub hl [1, 0] rfl)
    · replace h := (if_pos c3).symm.trans h
      refine lv_iload_n hx hb dX1_nightsUntilSpent_31 rfl (lv_at hl 1 rfl) ?_
      obtain rfl := some_e h
      exact rtI C hr hw dX1_nightsUntilSpent_32
theorem lX1_nightsUntilSpent_13 (C : Cx p s m args meth c cX1_nightsUntilSpent 2 RX1 D cA g A) (hr : meth.sig.returnType = (some .int)) {z : (Int32 × (Nat → VS))} (n : Nat) (x : (Nat → VS) × (Int32)) (h : lp (fX1_nightsUntilSpent_13) n x = some z) : GX1_nightsUntilSpent_13 p l e s m args below meth c D cA A ad z x := lp_ok (GX1_nightsUntilSpent_13 p l e s m args below meth c D cA A ad z) (fun kq hkq x h => kX1_nightsUntilSpent_13 C hr kq hkq x h) n x h
set_option maxHeartbeats 4000000 in
set_option maxRecDepth 100000 in
theorem kX1_nightsUntilSpent (ad : Nat → Nat) {X : Nat → VS} {z : (Int32 × (Nat → VS))} (h : fX1_nightsUntilSpent X = some z) : MI l D cA g yX1_nightsUntilSpent (Cond.code yX1_nightsUntilSpent cX1_nightsUntilSpent 2 (some .int) :: lw_g) rmX1_nightsUntilSpent [.ref (ad 0)] (wR cA ad X) z.1 (wR cA ad z.2) := by
  intro sz
  refine Met.ofW (cc := cX1_nightsUntilSpent) (maxL := 2) (ret := (some .int)) (by decide) rfl ?_
  intro p e s m args below meth c s₁ B hml hv
  obtain ⟨rfl, C, hr, hw⟩ := ent B hml hv
  generalize va_A (wR cA ad X) sz = A at C hw ⊢
  have hl := lv_entry ([.ref (ad 0)]) (n := 2) (Nat.le_of_ble_eq_true rfl)
  rw [lg_entry_eq]
  generalize (lg_sl ([.ref (ad 0)]) ++ List.replicate (2 - (lg_sl ([.ref (ad 0)])).length) Slot.unset).toArray = ls at hl ⊢
  have hl : lv_has ls 2 [(0, .ref (ad 0))] := hl
  have hx := C.1.1
  have hb := C.1.2.1
  have h : (cl (fX0_copyFrom (X 1) (X 0)) (fun w1 => bn (up X 1 w1) (fun w2 => lp (fX1_nightsUntilSpent_13) 5000 (w2, 0)))) = some z := h
  refine lv_aload_n hx hb dX1_nightsUntilSpent_0 rfl (lv_at hl 0 rfl) ?_
  refine tGet (T := TX1) (N := 12) (ci := 1) C hw inX1 1 0 rfl (by decide) kf_RX1_16 rfl rfl rfl dX1_nightsUntilSpent_1 ?_
  refine lv_aload_n hx hb dX1_nightsUntilSpent_4 rfl (lv_at hl 0 rfl) ?_
  refine tGet (T := TX1) (N := 12) (ci := 1) C hw inX1 0 0 rfl (by decide) kf_RX1_10 rfl rfl rfl dX1_nightsUntilSpent_5 ?_
  obtain ⟨w1, hw1, h⟩ := cl_some h
  obtain ⟨w2, ew2⟩ : ∃ y : Nat → VS, y = up X 1 w1 := ⟨_, rfl⟩
  replace h := bn_some h ew2
  refine cVv (ws2 := (wR cA ad w2)) (As := [.ref (ad 1)]) (rest := []) C hw (by rw [ew2]; exact jRR10) (kX0_copyFrom (fun k => ad (8 + k)) (fun k => ad (1 + k)) hw1) kl_RX1_59 ki_yX0_copyFrom ks_yX0_copyFrom kn_RX0 kc_yX0_copyFrom ⟨rfl, rfl⟩ hdX0_copyFrom ⟨Nat.le_of_ble_eq_true rfl, Nat.le_of_ble_eq_true rfl⟩ (ci := 0) (q0 := 0) rfl rfl rfl rfl hl.1 (Nat.le_of_ble_eq_true rfl) dX1_nightsUntilSpent_8 ⟨Nat.zero_le _, Nat.zero_le _⟩ (fun H locs hw => ?_)
  refine lv_iconst (v := 0) hx hb dX1_nightsUntilSpent_11 (by decide) ?_
  refine lv_istore_n (lv' := [(1, .int 0), (0, .ref (ad 0))]) hx hb dX1_nightsUntilSpent_12 rfl hl (by decide) rfl (fun ls hl => ?_)
  exact lX1_nightsUntilSpent_13 C hr 5000 (w2, 0) h _ _ _ hw (lv_sub hl [1, 0] rfl)
end
