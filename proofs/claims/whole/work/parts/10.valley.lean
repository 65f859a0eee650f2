section
variable {p : Program} {l : Launch} {e : Env} {s : State} {m : MethodId} {args : Array Value} {below : List Frame} {meth : Method} {c : Code} {D : va_G} {cA : ClassId} {g : Nat → Nat} {A : Nat → Prop} {ad ad2 : Nat → Nat} {a0 a1 : Nat}
abbrev rmX0_copyFrom : Room := { frames := 1, cells := 0, slots := 0, locals := 30 }
theorem hdX0_copyFrom : yX0_copyFrom.cls = RX0 ∧ yX0_copyFrom.cls ≠ "java/lang/invoke/MethodHandle" ∧ yX0_copyFrom.cls ≠ "java/lang/invoke/VarHandle" ∧ (parseMethodDescriptor yX0_copyFrom.desc).map (fun d => d.parameters.length) = some 1 := by decide +kernel
def fX0_copyFrom (v : VS) (v2 : VS) : Option VS := bn (up v 0 (fun _ => (v2 0 0))) (fun w1 => bn (up w1 1 (va_cpy (v2 1) (w1 1) 0 0 9)) (fun w2 => bn (up w2 2 (va_cpy (v2 2) (w2 2) 0 0 9)) (fun w3 => bn (up w3 3 (va_cpy (v2 3) (w3 3) 0 0 9)) (fun w4 => bn (up w4 4 (fun _ => (v2 4 0))) (fun w5 => bn (up w5 5 (fun _ => (v2 5 0))) (fun w6 => bn (up w6 6 (va_cpy (v2 6) (w6 6) 0 0 5)) (fun w7 => bn (up w7 7 (va_cpy (v2 7) (w7 7) 0 0 5)) (fun w8 => bn (up w8 8 (va_cpy (v2 8) (w8 8) 0 0 30)) (fun w9 => bn (up w9 9 (fun _ => (v2 9 0))) (fun w10 => bn (up w10 10 (fun _ => (v2 10 0))) (fun w11 => bn (up w11 11 (fun _ => (v2 11 0))) (fun w12 => some w12))))))))))))
set_option maxHeartbeats 4000000 in
set_option maxRecDepth 100000 in
theorem kX0_copyFrom (ad ad2 : Nat → Nat) {v : VS} {v2 : VS} {z : VS} (h : fX0_copyFrom v v2 = some z) : MV l D cA g yX0_copyFrom (Cond.code yX0_copyFrom cX0_copyFrom 2 none :: lw_g) rmX0_copyFrom [.ref (ad 0), .ref (ad2 0)] (wV cA ad v ++ wV cA ad2 v2) (wV cA ad z ++ wV cA ad2 v2) := by
  intro sz
  refine Met.ofW (cc := cX0_copyFrom) (maxL := 2) (ret := none) (by decide) rfl ?_
  intro p e s m args below meth c s₁ B hml hv
  obtain ⟨rfl, C, hr, hw⟩ := ent B hml hv
  generalize va_A (wV cA ad v ++ wV cA ad2 v2) sz = A at C hw ⊢
  have hl := lv_entry ([.ref (ad 0), .ref (ad2 0)]) (n := 2) (Nat.le_of_ble_eq_true rfl)
  rw [lg_entry_eq]
  generalize (lg_sl ([.ref (ad 0), .ref (ad2 0)]) ++ List.replicate (2 - (lg_sl ([.ref (ad 0), .ref (ad2 0)])).length) Slot.unset).toArray = ls at hl ⊢
  have hl : lv_has ls 2 [(0, .ref (ad 0)), (1, .ref (ad2 0))] := hl
  have hx := C.1.1
  have hb := C.1.2.1
  have h : (bn (up v 0 (fun _ => (v2 0 0))) (fun w1 => bn (up w1 1 (va_cpy (v2 1) (w1 1) 0 0 9)) (fun w2 => bn (up w2 2 (va_cpy (v2 2) (w2 2) 0 0 9)) (fun w3 => bn (up w3 3 (va_cpy (v2 3) (w3 3) 0 0 9)) (fun w4 => bn (up w4 4 (fun _ => (v2 4 0))) (fun w5 => bn (up w5 5 (fun _ => (v2 5 0))) (fun w6 => bn (up w6 6 (va_cpy (v2 6) (w6 6) 0 0 5)) (fun w7 => bn (up w7 7 (va_cpy (v2 7) (w7 7) 0 0 5)) (fun w8 => bn (up w8 8 (va_cpy (v2 8) (w8 8) 0 0 30)) (fun w9 => bn (up w9 9 (fun _ => (v2 9 0))) (fun w10 => bn (up w10 10 (fun _ => (v2 10 0))) (fun w11 => bn (up w11 11 (fun _ => (v2 11 0))) (fun w12 => some w12))))))))))))) = some z := h
  refine lv_aload_n hx hb dX0_copyFrom_0 rfl (lv_at hl 0 rfl) ?_
  refine lv_aload_n hx hb dX0_copyFrom_1 rfl (lv_at hl 1 rfl) ?_
  refine tGet (T := TX0) (N := 12) (ci := 0) C hw inX0 0 7 rfl (by decide) kf_RX0_9 rfl rfl rfl dX0_copyFrom_2 ?_
  obtain ⟨w1, ew1⟩ : ∃ y : VS, y = up v 0 (fun _ => (v2 0 0)) := ⟨_, rfl⟩
  replace h := bn_some h ew1
  refine tPut (T := TX0) (N := 12) (ci := 0) (ws2 := (wV cA ad w1 ++ wV cA ad2 v2)) C hw inX0 tyX0 tyX0_ok nmX0 0 0 rfl (by decide) kf_RX0_9 rfl rfl rfl rfl rfl (Nat.le_of_ble_eq_true rfl) (by rw [ew1]; rfl) dX0_copyFrom_5 (fun H locs hw => ?_)
  refine lv_aload_n hx hb dX0_copyFrom_8 rfl (lv_at hl 1 rfl) ?_
  refine tGet (T := TX0) (N := 12) (ci := 0) C hw inX0 1 7 rfl (by decide) kf_RX0_15 rfl rfl rfl dX0_copyFrom_9 ?_
  refine lv_iconst (v := 0) hx hb dX0_copyFrom_12 (by decide) ?_
  refine lv_aload_n hx hb dX0_copyFrom_13 rfl (lv_at hl 0 rfl) ?_
  refine tGet (T := TX0) (N := 12) (ci := 0) C hw inX0 1 0 rfl (by decide) kf_RX0_15 rfl rfl rfl dX0_copyFrom_14 ?_
  refine lv_iconst (v := 0) hx hb dX0_copyFrom_17 (by decide) ?_
  refine lv_bipush (v := 9) hx hb dX0_copyFrom_18 (by decide) ?_
  obtain ⟨w2, ew2⟩ : ∃ y : VS, y = up w1 1 (va_cpy (v2 1) (w1 1) 0 0 9) := ⟨_, rfl⟩
  replace h := bn_some h ew2
  refine tCp (ws2 := (wV cA ad w2 ++ wV cA ad2 v2)) (N := 9) C hw hl.1 kl_RX0_49 8 1 rfl rfl (by decide) (by decide) (Nat.le_of_ble_eq_true rfl) (Nat.le_of_ble_eq_true rfl) (Nat.le_of_ble_eq_true rfl) (Nat.le_of_ble_eq_true rfl) (by rw [ew2]; rfl) dX0_copyFrom_20 (fun H locs hw => ?_)
  refine lv_aload_n hx hb dX0_copyFrom_23 rfl (lv_at hl 1 rfl) ?_
  refine tGet (T := TX0) (N := 12) (ci := 0) C hw inX0 2 7 rfl (by decide) kf_RX0_19 rfl rfl rfl dX0_copyFrom_24 ?_
  refine lv_iconst (v := 0) hx hb dX0_copyFrom_27 (by decide) ?_
  refine lv_aload_n hx hb dX0_copyFrom_28 rfl (lv_at hl 0 rfl) ?_
  refine tGet (T := TX0) (N := 12) (ci := 0) C hw inX0 2 0 rfl (by decide) kf_RX0_19 rfl rfl rfl dX0_copyFrom_29 ?_
  refine lv_iconst (v := 0) hx hb dX0_copyFrom_32 (by decide) ?_
  refine lv_bipush (v := 9) hx hb dX0_copyFrom_33 (by decide) ?_
  obtain ⟨w3, ew3⟩ : ∃ y : VS, y = up w2 2 (va_cpy (v2 2) (w2 2) 0 0 9) := ⟨_, rfl⟩
  replace h := bn_some h ew3
  refine tCp (ws2 := (wV cA ad w3 ++ wV cA ad2 v2)) (N := 9) C hw hl.1 kl_RX0_49 9 2 rfl rfl (by decide) (by decide) (Nat.le_of_ble_eq_true rfl) (Nat.le_of_ble_eq_true rfl) (Nat.le_of_ble_eq_true rfl) (Nat.le_of_ble_eq_true rfl) (by rw [ew3]; rfl) dX0_copyFrom_35 (fun H locs hw => ?_)
  refine lv_aload_n hx hb dX0_copyFrom_38 rfl (lv_at hl 1 rfl) ?_
  refine tGet (T := TX0) (N := 12) (ci := 0) C hw inX0 3 7 rfl (by decide) kf_RX0_22 rfl rfl rfl dX0_copyFrom_39 ?_
  refine lv_iconst (v := 0) hx hb dX0_copyFrom_42 (by decide) ?_
  refine lv_aload_n hx hb dX0_copyFrom_43 rfl (lv_at hl 0 rfl) ?_
  refine tGet (T := TX0) (N := 12) (ci := 0) C hw inX0 3 0 rfl (by decide) kf_RX0_22 rfl rfl rfl dX0_copyFrom_44 ?_
  refine lv_iconst (v := 0) hx hb dX0_copyFrom_47 (by decide) ?_
  refine lv_bipush (v := 9) hx hb dX0_copyFrom_48 (by decide) ?_
  obtain ⟨w4, ew4⟩ : ∃ y : VS, y = up w3 3 (va_cpy (v2 3) (w3 3) 0 0 9) := ⟨_, rfl⟩
  replace h := bn_some h ew4
  refine tCp (ws2 := (wV cA ad w4 ++ wV cA ad2 v2)) (N := 9) C hw hl.1 kl_RX0_49 10 3 rfl rfl (by decide) (by decide) (Nat.le_of_ble_eq_true rfl) (Nat.le_of_ble_eq_true rfl) (Nat.le_of_ble_eq_true rfl) (Nat.le_of_ble_eq_true rfl) (by rw [ew4]; rfl) dX0_copyFrom_50 (fun H locs hw => ?_)
  refine lv_aload_n hx hb dX0_copyFrom_53 rfl (lv_at hl 0 rfl) ?_
  refine lv_aload_n hx hb dX0_copyFrom_54 rfl (lv_at hl 1 rfl) ?_
  refine tGet (T := TX0) (N := 12) (ci := 0) C hw inX0 4 7 rfl (by decide) kf_RX0_25 rfl rfl rfl dX0_copyFrom_55 ?_
  obtain ⟨w5, ew5⟩ : ∃ y : VS, y = up w4 4 (fun _ => (v2 4 0)) := ⟨_, rfl⟩
  replace h := bn_some h ew5
  refine tPut (T := TX0) (N := 12) (ci := 0) (ws2 := (wV cA ad w5 ++ wV cA ad2 v2)) C hw inX0 tyX0 tyX0_ok nmX0 4 0 rfl (by decide) kf_RX0_25 rfl rfl rfl rfl rfl (Nat.le_of_ble_eq_true rfl) (by rw [ew5]; rfl) dX0_copyFrom_58 (fun H locs hw => ?_)
  refine lv_aload_n hx hb dX0_copyFrom_61 rfl (lv_at hl 0 rfl) ?_
  refine lv_aload_n hx hb dX0_copyFrom_62 rfl (lv_at hl 1 rfl) ?_
  refine tGet (T := TX0) (N := 12) (ci := 0) C hw inX0 5 7 rfl (by decide) kf_RX0_28 rfl rfl rfl dX0_copyFrom_63 ?_
  obtain ⟨w6, ew6⟩ : ∃ y : VS, y = up w5 5 (fun _ => (v2 5 0)) := ⟨_, rfl⟩
  replace h := bn_some h ew6
  refine tPut (T := TX0) (N := 12) (ci := 0) (ws2 := (wV cA ad w6 ++ wV cA ad2 v2)) C hw inX0 tyX0 tyX0_ok nmX0 5 0 rfl (by decide) kf_RX0_28 rfl rfl rfl rfl rfl (Nat.le_of_ble_eq_true rfl) (by rw [ew6]; rfl) dX0_copyFrom_66 (fun H locs hw => ?_)
  refine lv_aload_n hx hb dX0_copyFrom_69 rfl (lv_at hl 1 rfl) ?_
  refine tGet (T := TX0) (N := 12) (ci := 0) C hw inX0 6 7 rfl (by decide) kf_RX0_31 rfl rfl rfl dX0_copyFrom_70 ?_
  refine lv_iconst (v := 0) hx hb dX0_copyFrom_73 (by decide) ?_
  refine lv_aload_n hx hb dX0_copyFrom_74 rfl (lv_at hl 0 rfl) ?_
  refine tGet (T := TX0) (N := 12) (ci := 0) C hw inX0 6 0 rfl (by decide) kf_RX0_31 rfl rfl rfl dX0_copyFrom_75 ?_
  refine lv_iconst (v := 0) hx hb dX0_copyFrom_78 (by decide) ?_
  refine lv_iconst (v := 5) hx hb dX0_copyFrom_79 (by decide) ?_
  obtain ⟨w7, ew7⟩ : ∃ y : VS, y = up w6 6 (va_cpy (v2 6) (w6 6) 0 0 5) := ⟨_, rfl⟩
  replace h := bn_some h ew7
  refine tCp (ws2 := (wV cA ad w7 ++ wV cA ad2 v2)) (N := 5) C hw hl.1 kl_RX0_49 11 4 rfl rfl (by decide) (by decide) (Nat.le_of_ble_eq_true rfl) (Nat.le_of_ble_eq_true rfl) (Nat.le_of_ble_eq_true rfl) (Nat.le_of_ble_eq_true rfl) (by rw [ew7]; rfl) dX0_copyFrom_80 (fun H locs hw => ?_)
  refine lv_aload_n hx hb dX0_copyFrom_83 rfl (lv_at hl 1 rfl) ?_
  refine tGet (T := TX0) (N := 12) (ci := 0) C hw inX0 7 7 rfl (by decide) kf_RX0_34 rfl rfl rfl dX0_copyFrom_84 ?_
  refine lv_iconst (v := 0) hx hb dX0_copyFrom_87 (by decide) ?_
  refine lv_aload_n hx hb dX0_copyFrom_88 rfl (lv_at hl 0 rfl) ?_
  refine tGet (T := TX0) (N := 12) (ci := 0) C hw inX0 7 0 rfl (by decide) kf_RX0_34 rfl rfl rfl dX0_copyFrom_89 ?_
  refine lv_iconst (v := 0) hx hb dX0_copyFrom_92 (by decide) ?_
  refine lv_iconst (v := 5) hx hb dX0_copyFrom_93 (by decide) ?_
  obtain ⟨w8, ew8⟩ : ∃ y : VS, y = up w7 7 (va_cpy (v2 7) (w7 7) 0 0 5) := ⟨_, rfl⟩
  replace h := bn_some h ew8
  refine tCp (ws2 := (wV cA ad w8 ++ wV cA ad2 v2)) (N := 5) C hw hl.1 kl_RX0_49 12 5 rfl rfl (by decide) (by decide) (Nat.le_of_ble_eq_true rfl) (Nat.le_of_ble_eq_true rfl) (Nat.le_of_ble_eq_true rfl) (Nat.le_of_ble_eq_true rfl) (by rw [ew8]; rfl) dX0_copyFrom_94 (fun H locs hw => ?_)
  refine lv_aload_n hx hb dX0_copyFrom_97 rfl (lv_at hl 1 rfl) ?_
  refine tGet (T := TX0) (N := 12) (ci := 0) C hw inX0 8 7 rfl (by decide) kf_RX0_37 rfl rfl rfl dX0_copyFrom_98 ?_
  refine lv_iconst (v := 0) hx hb dX0_copyFrom_101 (by decide) ?_
  refine lv_aload_n hx hb dX0_copyFrom_102 rfl (lv_at hl 0 rfl) ?_
  refine tGet (T := TX0) (N := 12) (ci := 0) C hw inX0 8 0 rfl (by decide) kf_RX0_37 rfl rfl rfl dX0_copyFrom_103 ?_
  refine lv_iconst (v := 0) hx hb dX0_copyFrom_106 (by decide) ?_
  refine lv_bipush (v := 30) hx hb dX0_copyFrom_107 (by decide) ?_
  obtain ⟨w9, ew9⟩ : ∃ y : VS, y = up w8 8 (va_cpy (v2 8) (w8 8) 0 0 30) := ⟨_, rfl⟩
  replace h := bn_some h ew9
  refine tCp (ws2 := (wV cA ad w9 ++ wV cA ad2 v2)) (N := 30) C hw hl.1 kl_RX0_49 13 6 rfl rfl (by decide) (by decide) (Nat.le_of_ble_eq_true rfl) (Nat.le_of_ble_eq_true rfl) (Nat.le_of_ble_eq_true rfl) (Nat.le_of_ble_eq_true rfl) (by rw [ew9]; rfl) dX0_copyFrom_109 (fun H locs hw => ?_)
  refine lv_aload_n hx hb dX0_copyFrom_112 rfl (lv_at hl 0 rfl) ?_
  refine lv_aload_n hx hb dX0_copyFrom_113 rfl (lv_at hl 1 rfl) ?_
  refine tGet (T := TX0) (N := 12) (ci := 0) C hw inX0 9 7 rfl (by decide) kf_RX0_40 rfl rfl rfl dX0_copyFrom_114 ?_
  obtain ⟨w10, ew10⟩ : ∃ y : VS, y = up w9 9 (fun _ => (v2 9 0)) := ⟨_, rfl⟩
  replace h := bn_some h ew10
  refine tPut (T := TX0) (N := 12) (ci := 0) (ws2 := (wV cA ad w10 ++ wV cA ad2 v2)) C hw inX0 tyX0 tyX0_ok nmX0 9 0 rfl (by decide) kf_RX0_40 rfl rfl rfl rfl rfl (Nat.le_of_ble_eq_true rfl) (by rw [ew10]; rfl) dX0_copyFrom_117 (fun H locs hw => ?_)
  refine lv_aload_n hx hb dX0_copyFrom_120 rfl (lv_at hl 0 rfl) ?_
  refine lv_aload_n hx hb dX0_copyFrom_121 rfl (lv_at hl 1 rfl) ?_
  refine tGet (T := TX0) (N := 12) (ci := 0) C hw inX0 10 7 rfl (by decide) kf_RX0_43 rfl rfl rfl dX0_copyFrom_122 ?_
  obtain ⟨w11, ew11⟩ : ∃ y : VS, y = up w10 10 (fun _ => (v2 10 0)) := ⟨_, rfl⟩
  replace h := bn_some h ew11
  refine tPut (T := TX0) (N := 12) (ci := 0) (ws2 := (wV cA ad w11 ++ wV cA ad2 v2)) C hw inX0 tyX0 tyX0_ok nmX0 10 0 rfl (by decide) kf_RX0_43 rfl rfl rfl rfl rfl (Nat.le_of_ble_eq_true rfl) (by rw [ew11]; rfl) dX0_copyFrom_125 (fun H locs hw => ?_)
  refine lv_aload_n hx hb dX0_copyFrom_128 rfl (lv_at hl 0 rfl) ?_
  refine lv_aload_n hx hb dX0_copyFrom_129 rfl (lv_at hl 1 rfl) ?_
  refine tGet (T := TX0) (N := 12) (ci := 0) C hw inX0 11 7 rfl (by decide) kf_RX0_46 rfl rfl rfl dX0_copyFrom_130 ?_
  obtain ⟨w12, ew12⟩ : ∃ y : VS, y = up w11 11 (fun _ => (v2 11 0)) := ⟨_, rfl⟩
  replace h := bn_some h ew12
  refine tPut (T := TX0) (N := 12) (ci := 0) (ws2 := (wV cA ad w12 ++ wV cA ad2 v2)) C hw inX0 tyX0 tyX0_ok nmX0 11 0 rfl (by decide) kf_RX0_46 rfl rfl rfl rfl rfl (Nat.le_of_ble_eq_true rfl) (by rw [ew12]; rfl) dX0_copyFrom_133 (fun H locs hw => ?_)
  obtain rfl := some_e h
  exact rtV C hr hw dX0_copyFrom_136
abbrev rmX0_hasRocket : Room := { frames := 0, cells := 0, slots := 0, locals := 0 }
theorem hdX0_hasRocket : yX0_hasRocket.cls = RX0 ∧ yX0_hasRocket.cls ≠ "java/lang/invoke/MethodHandle" ∧ yX0_hasRocket.cls ≠ "java/lang/invoke/VarHandle" ∧ (parseMethodDescriptor yX0_hasRocket.desc).map (fun d => d.parameters.length) = some 1 := by decide +kernel
def fX0_hasRocket (v : VS) (a_1 : Int32) : Option Int32 := if a_1 < 0 then some 0 else if (v 0 0) ≤ a_1 then some 0 else some 1
set_option maxHeartbeats 4000000 in
set_option maxRecDepth 100000 in
theorem kX0_hasRocket (ad : Nat → Nat) {v : VS} {a_1 : Int32} {z : Int32} (h : fX0_hasRocket v a_1 = some z) : MI l D cA g yX0_hasRocket (Cond.code yX0_hasRocket cX0_hasRocket 2 (some .boolean) :: lw_g) rmX0_hasRocket [.ref (ad 0), .int a_1] (wV cA ad v) z (wV cA ad v) := by
  intro sz
  refine Met.ofW (cc := cX0_hasRocket) (maxL := 2) (ret := (some .boolean)) (by decide) rfl ?_
  intro p e s m args below meth c s₁ B hml hv
  obtain ⟨rfl, C, hr, hw⟩ := ent B hml hv
  generalize va_A (wV cA ad v) sz = A at C hw ⊢
  have hl := lv_entry ([.ref (ad 0), .int a_1]) (n := 2) (Nat.le_of_ble_eq_true rfl)
  rw [lg_entry_eq]
  generalize (lg_sl ([.ref (ad 0), .int a_1]) ++ List.replicate (2 - (lg_sl ([.ref (ad 0), .int a_1])).length) Slot.unset).toArray = ls at hl ⊢
  have hl : lv_has ls 2 [(0, .ref (ad 0)), (1, .int a_1)] := hl
  have hx := C.1.1
  have hb := C.1.2.1
  have h : (if a_1 < 0 then some 0 else if (v 0 0) ≤ a_1 then some 0 else some 1) = some z := h
  refine lv_iload_n hx hb dX0_hasRocket_0 rfl (lv_at hl 1 rfl) ?_
  refine lv_if_lt (tgt := 16) hx hb dX0_hasRocket_1 (by decide) (fun c1 => ?_) (fun c1 => ?_)
  · replace h := (if_pos c1).symm.trans h
    refine lv_iconst (v := 0) hx hb dX0_hasRocket_16 (by decide) ?_
    obtain rfl := some_e h
    exact rtZ C hr nz0 hw dX0_hasRocket_17
  · replace h := (if_neg c1).symm.trans h
    refine lv_iload_n hx hb dX0_hasRocket_4 rfl (lv_at hl 1 rfl) ?_
    refine lv_aload_n hx hb dX0_hasRocket_5 rfl (lv_at hl 0 rfl) ?_
    refine tGet (T := TX0) (N := 12) (ci := 0) C hw inX0 0 0 rfl (by decide) kf_RX0_9 rfl rfl rfl dX0_hasRocket_6 ?_
    refine lv_icmp_ge (tgt := 16) hx hb dX0_hasRocket_9 (by decide) (fun c2 => ?_) (fun c2 => ?_)
    · replace h := (if_pos c2).symm.trans h
      refine lv_iconst (v := 0) hx hb dX0_hasRocket_16 (by decide) ?_
      obtain rfl := some_e h
      exact rtZ C hr nz0 hw dX0_hasRocket_17
    · replace h := (if_neg c2).symm.trans h
      refine lv_iconst (v := 1) hx hb dX0_hasRocket_12 (by decide) ?_
      refine lv_goto (tgt := 17) hx hb dX0_hasRocket_13 (by decide) ?_
      obtain rfl := some_e h
      exact rtZ C hr nz1 hw dX0_hasRocket_17
abbrev rmX0_hasReader : Room := { frames := 0, cells := 0, slots := 0, locals := 0 }
theorem hdX0_hasReader : yX0_hasReader.cls = RX0 ∧ yX0_hasReader.cls ≠ "java/lang/invoke/MethodHandle" ∧ yX0_hasReader.cls ≠ "java/lang/invoke/VarHandle" ∧ (parseMethodDescriptor yX0_hasReader.desc).map (fun d => d.parameters.length) = some 1 := by decide +kernel
def fX0_hasReader (v : VS) (a_1 : Int32) : Option Int32 := if a_1 < 0 then some 0 else if (v 5 0) ≤ a_1 then some 0 else some 1
set_option maxHeartbeats 4000000 in
set_option maxRecDepth 100000 in
theorem kX0_hasReader (ad : Nat → Nat) {v : VS} {a_1 : Int32} {z : Int32} (h : fX0_hasReader v a_1 = some z) : MI l D cA g yX0_hasReader (Cond.code yX0_hasReader cX0_hasReader 2 (some .boolean) :: lw_g) rmX0_hasReader [.ref (ad 0), .int a_1] (wV cA ad v) z (wV cA ad v) := by
  intro sz
  refine Met.ofW (cc := cX0_hasReader) (maxL := 2) (ret := (some .boolean)) (by decide) rfl ?_
  intro p e s m args below meth c s₁ B hml hv
  obtain ⟨rfl, C, hr, hw⟩ := ent B hml hv
  generalize va_A (wV cA ad v) sz = A at C hw ⊢
  have hl := lv_entry ([.ref (ad 0), .int a_1]) (n := 2) (Nat.le_of_ble_eq_true rfl)
  rw [lg_entry_eq]
  generalize (lg_sl ([.ref (ad 0), .int a_1]) ++ List.replicate (2 - (lg_sl ([.ref (ad 0), .int a_1])).length) Slot.unset).toArray = ls at hl ⊢
  have hl : lv_has ls 2 [(0, .ref (ad 0)), (1, .int a_1)] := hl
  have hx := C.1.1
  have hb := C.1.2.1
  have h : (if a_1 < 0 then some 0 else if (v 5 0) ≤ a_1 then some 0 else some 1) = some z := h
  refine lv_iload_n hx hb dX0_hasReader_0 rfl (lv_at hl 1 rfl) ?_
  refine lv_if_lt (tgt := 16) hx hb dX0_hasReader_1 (by decide) (fun c1 => ?_) (fun c1 => ?_)
  · replace h := (if_pos c1).symm.trans h
    refine lv_iconst (v := 0) hx hb dX0_hasReader_16 (by decide) ?_
    obtain rfl := some_e h
    exact rtZ C hr nz0 hw dX0_hasReader_17
  · replace h := (if_neg c1).symm.trans h
    refine lv_iload_n hx hb dX0_hasReader_4 rfl (lv_at hl 1 rfl) ?_
    refine lv_aload_n hx hb dX0_hasReader_5 rfl (lv_at hl 0 rfl) ?_
    refine tGet (T := TX0) (N := 12) (ci := 0) C hw inX0 5 0 rfl (by decide) kf_RX0_28 rfl rfl rfl dX0_hasReader_6 ?_
    refine lv_icmp_ge (tgt := 16) hx hb dX0_hasReader_9 (by decide) (fun c2 => ?_) (fun c2 => ?_)
    · replace h := (if_pos c2).symm.trans h
      refine lv_iconst (v := 0) hx hb dX0_hasReader_16 (by decide) ?_
      obtain rfl := some_e h
      exact rtZ C hr nz0 hw dX0_hasReader_17
    · replace h := (if_neg c2).symm.trans h
      refine lv_iconst (v := 1) hx hb dX0_hasReader_12 (by decide) ?_
      refine lv_goto (tgt := 17) hx hb dX0_hasReader_13 (by decide) ?_
      obtain rfl := some_e h
      exact rtZ C hr nz1 hw dX0_hasReader_17
abbrev rmX0_addRocket : Room := { frames := 0, cells := 0, slots := 0, locals := 0 }
theorem hdX0_addRocket : yX0_addRocket.cls = RX0 ∧ yX0_addRocket.cls ≠ "java/lang/invoke/MethodHandle" ∧ yX0_addRocket.cls ≠ "java/lang/invoke/VarHandle" ∧ (parseMethodDescriptor yX0_addRocket.desc).map (fun d => d.parameters.length) = some 3 := by decide +kernel
def GX0_addRocket_25 (p : Program) (l : Launch) (e : Env) (s : State) (m : MethodId) (args : Array Value) (below : List Frame) (meth : Method) (c : Code) (D : va_G) (cA : ClassId) (A : Nat → Prop) (ad : Nat → Nat) (z : (Int32 × VS)) (x : (VS) × (Int32) × (Int32) × (Int32) × (Int32)) : Prop := ∀ (H : Heap) (locs : List Loc) (ls : Array Slot), Wd D A s.heap (wV cA ad x.1) H locs → lv_has ls 5 [(0, .ref (ad 0)), (1, .int x.2.1), (2, .int x.2.2.1), (3, .int x.2.2.2.1)] → W p l e rmX0_addRocket s m args below meth c H locs 0 0 (MQ below (QI D cA A z.1 (wV cA ad z.2)) args s 0 0 A) (F0 m 25 ls [.int x.2.2.2.2])
def GX0_addRocket_24 (p : Program) (l : Launch) (e : Env) (s : State) (m : MethodId) (args : Array Value) (below : List Frame) (meth : Method) (c : Code) (D : va_G) (cA : ClassId) (A : Nat → Prop) (ad : Nat → Nat) (z : (Int32 × VS)) (x : (VS) × (Int32) × (Int32) × (Int32)) : Prop := ∀ (H : Heap) (locs : List Loc) (ls : Array Slot), Wd D A s.heap (wV cA ad x.1) H locs → lv_has ls 5 [(0, .ref (ad 0)), (1, .int x.2.1), (2, .int x.2.2.1), (3, .int x.2.2.2)] → W p l e rmX0_addRocket s m args below meth c H locs 0 0 (MQ below (QI D cA A z.1 (wV cA ad z.2)) args s 0 0 A) (F0 m 24 ls [])
def fX0_addRocket_25 : ((VS) × (Int32) × (Int32) × (Int32) × (Int32)) → Option (Int32 × VS) := fun x => match x with | (v, x_1, x_2, x_3, y_0) => if y_0 = 0 then some (0, v) else if (v 0 0) < 9 then ck 9 (v 0 0) (bn (up v 1 (upd (v 1) ((v 0 0) : Int32).toNatClampNeg x_1)) (fun w3 => ck 9 (w3 0 0) (bn (up w3 2 (upd (w3 2) ((w3 0 0) : Int32).toNatClampNeg x_2)) (fun w4 => ck 9 (w4 0 0) (bn (up w4 3 (upd (w4 3) ((w4 0 0) : Int32).toNatClampNeg x_3)) (fun w5 => bn (up w5 0 (fun _ => ((w5 0 0) + (1 : Int32)))) (fun w6 => some (1, w6)))))))) else some (0, v)
def fX0_addRocket_24 : ((VS) × (Int32) × (Int32) × (Int32)) → Option (Int32 × VS) := fun x => match x with | (v, x_1, x_2, x_3) => fX0_addRocket_25 (v, x_1, x_2, x_3, 0)
def fX0_addRocket (v : VS) (a_1 : Int32) (a_2 : Int32) (a_3 : Int32) : Option (Int32 × VS) := if a_1 < 0 then fX0_addRocket_24 (v, a_1, a_2, a_3) else if 6 ≤ a_1 then fX0_addRocket_24 (v, a_1, a_2, a_3) else if a_3 < 0 then fX0_addRocket_24 (v, a_1, a_2, a_3) else if 6 ≤ a_3 then fX0_addRocket_24 (v, a_1, a_2, a_3) else fX0_addRocket_25 (v, a_1, a_2, a_3, 1)
set_option maxHeartbeats 4000000 in
set_option maxRecDepth 100000 in
theorem kX0_addRocket_25 (C : Cx p s m args meth c cX0_addRocket 5 RX0 D cA g A) (hr : meth.sig.returnType = (some .boolean)) {z : (Int32 × VS)} (x : (VS) × (Int32) × (Int32) × (Int32) × (Int32)) (h : fX0_addRocket_25 x = some z) : GX0_addRocket_25 p l e s m args below meth c D cA A ad z x := by
  obtain ⟨v, x_1, x_2, x_3, y_0⟩ := x
  intro H locs ls hw hl
  have hw : Wd D A s.heap (wV cA ad v) H locs := hw
  have hl : lv_has ls 5 [(0, .ref (ad 0)), (1, .int x_1), (2, .int x_2), (3, .int x_3)] := hl
  show W p l e rmX0_addRocket s m args below meth c H locs 0 0 (MQ below (QI D cA A z.1 (wV cA ad z.2)) args s 0 0 A) (F0 m 25 ls [.int y_0])
  have hx := C.1.1
  have hb := C.1.2.1
  have h : (if y_0 = 0 then some (0, v) else if (v 0 0) < 9 then ck 9 (v 0 0) (bn (up v 1 (upd (v 1) ((v 0 0) : Int32).toNatClampNeg x_1)) (fun w3 => ck 9 (w3 0 0) (bn (up w3 2 (upd (w3 2) ((w3 0 0) : Int32).toNatClampNeg x_2)) (fun w4 => ck 9 (w4 0 0) (bn (up w4 3 (upd (w4 3) ((w4 0 0) : Int32).toNatClampNeg x_3)) (fun w5 => bn (up w5 0 (fun _ => ((w5 0 0) + (1 : Int32)))) (fun w6 => some (1, w6)))))))) else some (0, v)) = some z := h
  refine lv_istore (lv' := [(4, .int y_0), (0, .ref (ad 0)), (1, .int x_1), (2, .int x_2), (3, .int x_3)]) hx hb dX0_addRocket_25 hl (by decide) rfl (fun ls hl => ?_)
  refine lv_iload hx hb dX0_addRocket_27 (lv_at hl 0 rfl) ?_
  refine lv_if_eq (tgt := 41) hx hb dX0_addRocket_29 (by decide) (fun c1 => ?_) (fun c1 => ?_)
  · replace h := (if_pos c1).symm.trans h
    refine lv_iconst (v := 0) hx hb dX0_addRocket_41 (by decide) ?_
    obtain rfl := some_e h
    exact rtZ C hr nz0 hw dX0_addRocket_42
  · replace h := (if_neg c1).symm.trans h
    refine lv_aload_n hx hb dX0_addRocket_32 rfl (lv_at hl 1 rfl) ?_
    refine tGet (T := TX0) (N := 12) (ci := 0) C hw inX0 0 0 rfl (by decide) kf_RX0_9 rfl rfl rfl dX0_addRocket_33 ?_
    refine lv_bipush (v := 9) hx hb dX0_addRocket_36 (by decide) ?_
    refine lv_icmp_lt (tgt := 43) hx hb dX0_addRocket_38 (by decide) (fun c2 => ?_) (fun c2 => ?_)
    · replace h := (if_pos c2).symm.trans h
      refine lv_aload_n hx hb dX0_addRocket_43 rfl (lv_at hl 1 rfl) ?_
      refine tGet (T := TX0) (N := 12) (ci := 0) C hw inX0 1 0 rfl (by decide) kf_RX0_15 rfl rfl rfl dX0_addRocket_44 ?_
      refine lv_aload_n hx hb dX0_addRocket_47 rfl (lv_at hl 1 rfl) ?_
      refine tGet (T := TX0) (N := 12) (ci := 0) C hw inX0 0 0 rfl (by decide) kf_RX0_9 rfl rfl rfl dX0_addRocket_48 ?_
      refine lv_iload_n hx hb dX0_addRocket_51 rfl (lv_at hl 2 rfl) ?_
      obtain ⟨iw3, h⟩ := ck_some h
      obtain ⟨w3, ew3⟩ : ∃ y : VS, y = up v 1 (upd (v 1) ((v 0 0) : Int32).toNatClampNeg x_1) := ⟨_, rfl⟩
      replace h := bn_some h ew3
      refine tSt (ws2 := (wV cA ad w3)) C hw 1 rfl iw3 (by rw [ew3]; rfl) dX0_addRocket_52 (fun H locs hw => ?_)
      refine lv_aload_n hx hb dX0_addRocket_53 rfl (lv_at hl 1 rfl) ?_
      refine tGet (T := TX0) (N := 12) (ci := 0) C hw inX0 2 0 rfl (by decide) kf_RX0_19 rfl rfl rfl dX0_addRocket_54 ?_
      refine lv_aload_n hx hb dX0_addRocket_57 rfl (lv_at hl 1 rfl) ?_
      refine tGet (T := TX0) (N := 12) (ci := 0) C hw inX0 0 0 rfl (by decide) kf_RX0_9 rfl rfl rfl dX0_addRocket_58 ?_
      refine lv_iload_n hx hb dX0_addRocket_61 rfl (lv_at hl 3 rfl) ?_
      obtain ⟨iw4, h⟩ := ck_some h
      obtain ⟨w4, ew4⟩ : ∃ y : VS, y = up w3 2 (upd (w3 2) ((w3 0 0) : Int32).toNatClampNeg x_2) := ⟨_, rfl⟩
      replace h := bn_some h ew4
      refine tSt (ws2 := (wV cA ad w4)) C hw 2 rfl iw4 (by rw [ew4]; rfl) dX0_addRocket_62 (fun H locs hw => ?_)
      refine lv_aload_n hx hb dX0_addRocket_63 rfl (lv_at hl 1 rfl) ?_
      refine tGet (T := TX0) (N := 12) (ci := 0) C hw inX0 3 0 rfl (by decide) kf_RX0_22 rfl rfl rfl dX0_addRocket_64 ?_
      refine lv_aload_n hx hb dX0_addRocket_67 rfl (lv_at hl 1 rfl) ?_
      refine tGet (T := TX0) (N := 12) (ci := 0) C hw inX0 0 0 rfl (by decide) kf_RX0_9 rfl rfl rfl dX0_addRocket_68 ?_
      refine lv_iload_n hx hb dX0_addRocket_71 rfl (lv_at hl 4 rfl) ?_
      obtain ⟨iw5, h⟩ := ck_some h
      obtain ⟨w5, ew5⟩ : ∃ y : VS, y = up w4 3 (upd (w4 3) ((w4 0 0) : Int32).toNatClampNeg x_3) := ⟨_, rfl⟩
      replace h := bn_some h ew5
      refine tSt (ws2 := (wV cA ad w5)) C hw 3 rfl iw5 (by rw [ew5]; rfl) dX0_addRocket_72 (fun H locs hw => ?_)
      refine lv_aload_n hx hb dX0_addRocket_73 rfl (lv_at hl 1 rfl) ?_
      refine lv_dup hx hb dX0_addRocket_74 rfl ?_
      refine tGet (T := TX0) (N := 12) (ci := 0) C hw inX0 0 0 rfl (by decide) kf_RX0_9 rfl rfl rfl dX0_addRocket_75 ?_
      refine lv_iconst (v := 1) hx hb dX0_addRocket_78 (by decide) ?_
      refine lv_iadd hx hb dX0_addRocket_79 ?_
      obtain ⟨w6, ew6⟩ : ∃ y : VS, y = up w5 0 (fun _ => ((w5 0 0) + (1 : Int32))) := ⟨_, rfl⟩
      replace h := bn_some h ew6
      refine tPut (T := TX0) (N := 12) (ci := 0) (ws2 := (wV cA ad w6)) C hw inX0 tyX0 tyX0_ok nmX0 0 0 rfl (by decide) kf_RX0_9 rfl rfl rfl rfl rfl (Nat.le_of_ble_eq_true rfl) (by rw [ew6]; rfl) dX0_addRocket_80 (fun H locs hw => ?_)
      refine lv_iconst (v := 1) hx hb dX0_addRocket_83 (by decide) ?_
      obtain rfl := some_e h
      exact rtZ C hr nz1 hw dX0_addRocket_84
    · replace h := (if_neg c2).symm.trans h
      refine lv_iconst (v := 0) hx hb dX0_addRocket_41 (by decide) ?_
      obtain rfl := some_e h
      exact rtZ C hr nz0 hw dX0_addRocket_42
set_option maxHeartbeats 4000000 in
set_option maxRecDepth 100000 in
theorem kX0_addRocket_24 (C : Cx p s m args meth c cX0_addRocket 5 RX0 D cA g A) (hr : meth.sig.returnType = (some .boolean)) {z : (Int32 × VS)} (x : (VS) × (Int32) × (Int32) × (Int32)) (h : fX0_addRocket_24 x = some z) : GX0_addRocket_24 p l e s m args below meth c D cA A ad z x := by
  obtain ⟨v, x_1, x_2, x_3⟩ := x
  intro H locs ls hw hl
  have hw : Wd D A s.heap (wV cA ad v) H locs := hw
  have hl : lv_has ls 5 [(0, .ref (ad 0)), (1, .int x_1), (2, .int x_2), (3, .int x_3)] := hl
  have hx := C.1.1
  have hb := C.1.2.1
  have h : (fX0_addRocket_25 (v, x_1, x_2, x_3, 0)) = some z := h
  refine lv_iconst (v := 0) hx hb dX0_addRocket_24 (by decide) ?_
  exact kX0_addRocket_25 C hr (v, x_1, x_2, x_3, 0) h _ _ _ hw (lv_sub hl [0, 1, 2, 3] rfl)
set_option maxHeartbeats 4000000 in
set_option maxRecDepth 100000 in
theorem kX0_addRocket (ad : Nat → Nat) {v : VS} {a_1 : Int32} {a_2 : Int32} {a_3 : Int32} {z : (Int32 × VS)} (h : fX0_addRocket v a_1 a_2 a_3 = some z) : MI l D cA g yX0_addRocket (Cond.code yX0_addRocket cX0_addRocket 5 (some .boolean) :: lw_g) rmX0_addRocket [.ref (ad 0), .int a_1, .int a_2, .int a_3] (wV cA ad v) z.1 (wV cA ad z.2) := by
  intro sz
  refine Met.ofW (cc := cX0_addRocket) (maxL := 5) (ret := (some .boolean)) (by decide) rfl ?_
  intro p e s m args below meth c s₁ B hml hv
  obtain ⟨rfl, C, hr, hw⟩ := ent B hml hv
  generalize va_A (wV cA ad v) sz = A at C hw ⊢
  have hl := lv_entry ([.ref (ad 0), .int a_1, .int a_2, .int a_3]) (n := 5) (Nat.le_of_ble_eq_true rfl)
  rw [lg_entry_eq]
  generalize (lg_sl ([.ref (ad 0), .int a_1, .int a_2, .int a_3]) ++ List.replicate (5 - (lg_sl ([.ref (ad 0), .int a_1, .int a_2, .int a_3])).length) Slot.unset).toArray = ls at hl ⊢
  have hl : lv_has ls 5 [(0, .ref (ad 0)), (1, .int a_1), (2, .int a_2), (3, .int a_3)] := hl
  have hx := C.1.1
  have hb := C.1.2.1
  have h : (if a_1 < 0 then fX0_addRocket_24 (v, a_1, a_2, a_3) else if 6 ≤ a_1 then fX0_addRocket_24 (v, a_1, a_2, a_3) else if a_3 < 0 then fX0_addRocket_24 (v, a_1, a_2, a_3) else if 6 ≤ a_3 then fX0_addRocket_24 (v, a_1, a_2, a_3) else fX0_addRocket_25 (v, a_1, a_2, a_3, 1)) = some z := h
  refine lv_iload_n hx hb dX0_addRocket_0 rfl (lv_at hl 1 rfl) ?_
  refine lv_if_lt (tgt := 24) hx hb dX0_addRocket_1 (by decide) (fun c1 => ?_) (fun c1 => ?_)
  · replace h := (if_pos c1).symm.trans h
    exact kX0_addRocket_24 C hr (v, a_1, a_2, a_3) h _ _ _ hw (lv_sub hl [0, 1, 2, 3] rfl)
  · replace h := (if_neg c1).symm.trans h
    refine lv_iload_n hx hb dX0_addRocket_4 rfl (lv_at hl 1 rfl) ?_
    refine lv_bipush (v := 6) hx hb dX0_addRocket_5 (by decide) ?_
    refine lv_icmp_ge (tgt := 24) hx hb dX0_addRocket_7 (by decide) (fun c2 => ?_) (fun c2 => ?_)
    · replace h := (if_pos c2).symm.trans h
      exact kX0_addRocket_24 C hr (v, a_1, a_2, a_3) h _ _ _ hw (lv_sub hl [0, 1, 2, 3] rfl)
    · replace h := (if_neg c2).symm.trans h
      refine lv_iload_n hx hb dX0_addRocket_10 rfl (lv_at hl 3 rfl) ?_
      refine lv_if_lt (tgt := 24) hx hb dX0_addRocket_11 (by decide) (fun c3 => ?_) (fun c3 => ?_)
      · replace h := (if_pos c3).symm.trans h
        exact kX0_addRocket_24 C hr (v, a_1, a_2, a_3) h _ _ _ hw (lv_sub hl [0, 1, 2, 3] rfl)
      · replace h := (if_neg c3).symm.trans h
        refine lv_iload_n hx hb dX0_addRocket_14 rfl (lv_at hl 3 rfl) ?_
        refine lv_bipush (v := 6) hx hb dX0_addRocket_15 (by decide) ?_
        refine lv_icmp_ge (tgt := 24) hx hb dX0_addRocket_17 (by decide) (fun c4 => ?_) (fun c4 => ?_)
        · replace h := (if_pos c4).symm.trans h
          exact kX0_addRocket_24 C hr (v, a_1, a_2, a_3) h _ _ _ hw (lv_sub hl [0, 1, 2, 3] rfl)
        · replace h := (if_neg c4).symm.trans h
          refine lv_iconst (v := 1) hx hb dX0_addRocket_20 (by decide) ?_
          refine lv_goto (tgt := 25) hx hb dX0_addRocket_21 (by decide) ?_
          exact kX0_addRocket_25 C hr (v, a_1, a_2, a_3, 1) h _ _ _ hw (lv_sub hl [0, 1, 2, 3] rfl)
abbrev rmX0_addReader : Room := { frames := 0, cells := 0, slots := 0, locals := 0 }
theorem hdX0_addReader : yX0_addReader.cls = RX0 ∧ yX0_addReader.cls ≠ "java/lang/invoke/MethodHandle" ∧ yX0_addReader.cls ≠ "java/lang/invoke/VarHandle" ∧ (parseMethodDescriptor yX0_addReader.desc).map (fun d => d.parameters.length) = some 2 := by decide +kernel
def fX0_addReader (v : VS) (a_1 : Int32) (a_2 : Int32) : Option (Int32 × VS) := if a_1 < 0 then some (0, v) else if 20 ≤ a_1 then some (0, v) else if (v 5 0) < 5 then ck 5 (v 5 0) (bn (up v 6 (upd (v 6) ((v 5 0) : Int32).toNatClampNeg a_1)) (fun w4 => ck 5 (w4 5 0) (bn (up w4 7 (upd (w4 7) ((w4 5 0) : Int32).toNatClampNeg a_2)) (fun w5 => bn (up w5 5 (fun _ => ((w5 5 0) + (1 : Int32)))) (fun w6 => some (1, w6)))))) else some (0, v)
set_option maxHeartbeats 4000000 in
set_option maxRecDepth 100000 in
theorem kX0_addReader (ad : Nat → Nat) {v : VS} {a_1 : Int32} {a_2 : Int32} {z : (Int32 × VS)} (h : fX0_addReader v a_1 a_2 = some z) : MI l D cA g yX0_addReader (Cond.code yX0_addReader cX0_addReader 3 (some .boolean) :: lw_g) rmX0_addReader [.ref (ad 0), .int a_1, .int a_2] (wV cA ad v) z.1 (wV cA ad z.2) := by
  intro sz
  refine Met.ofW (cc := cX0_addReader) (maxL := 3) (ret := (some .boolean)) (by decide) rfl ?_
  intro p e s m args below meth c s₁ B hml hv
  obtain ⟨rfl, C, hr, hw⟩ := ent B hml hv
  generalize va_A (wV cA ad v) sz = A at C hw ⊢
  have hl := lv_entry ([.ref (ad 0), .int a_1, .int a_2]) (n := 3) (Nat.le_of_ble_eq_true rfl)
  rw [lg_entry_eq]
  generalize (lg_sl ([.ref (ad 0), .int a_1, .int a_2]) ++ List.replicate (3 - (lg_sl ([.ref (ad 0), .int a_1, .int a_2])).length) Slot.unset).toArray = ls at hl ⊢
  have hl : lv_has ls 3 [(0, .ref (ad 0)), (1, .int a_1), (2, .int a_2)] := hl
  have hx := C.1.1
  have hb := C.1.2.1
  have h : (if a_1 < 0 then some (0, v) else if 20 ≤ a_1 then some (0, v) else if (v 5 0) < 5 then ck 5 (v 5 0) (bn (up v 6 (upd (v 6) ((v 5 0) : Int32).toNatClampNeg a_1)) (fun w4 => ck 5 (w4 5 0) (bn (up w4 7 (upd (w4 7) ((w4 5 0) : Int32).toNatClampNeg a_2)) (fun w5 => bn (up w5 5 (fun _ => ((w5 5 0) + (1 : Int32)))) (fun w6 => some (1, w6)))))) else some (0, v)) = some z := h
  refine lv_iload_n hx hb dX0_addReader_0 rfl (lv_at hl 1 rfl) ?_
  refine lv_if_lt (tgt := 18) hx hb dX0_addReader_1 (by decide) (fun c1 => ?_) (fun c1 => ?_)
  · replace h := (if_pos c1).symm.trans h
    refine lv_iconst (v := 0) hx hb dX0_addReader_18 (by decide) ?_
    obtain rfl := some_e h
    exact rtZ C hr nz0 hw dX0_addReader_19
  · replace h := (if_neg c1).symm.trans h
    refine lv_iload_n hx hb dX0_addReader_4 rfl (lv_at hl 1 rfl) ?_
    refine lv_bipush (v := 20) hx hb dX0_addReader_5 (by decide) ?_
    refine lv_icmp_ge (tgt := 18) hx hb dX0_addReader_7 (by decide) (fun c2 => ?_) (fun c2 => ?_)
    · replace h := (if_pos c2).symm.trans h
      refine lv_iconst (v := 0) hx hb dX0_addReader_18 (by decide) ?_
      obtain rfl := some_e h
      exact rtZ C hr nz0 hw dX0_addReader_19
    · replace h := (if_neg c2).symm.trans h
      refine lv_aload_n hx hb dX0_addReader_10 rfl (lv_at hl 0 rfl) ?_
      refine tGet (T := TX0) (N := 12) (ci := 0) C hw inX0 5 0 rfl (by decide) kf_RX0_28 rfl rfl rfl dX0_addReader_11 ?_
      refine lv_iconst (v := 5) hx hb dX0_addReader_14 (by decide) ?_
      refine lv_icmp_lt (tgt := 20) hx hb dX0_addReader_15 (by decide) (fun c3 => ?_) (fun c3 => ?_)
      · replace h := (if_pos c3).symm.trans h
        refine lv_aload_n hx hb dX0_addReader_20 rfl (lv_at hl 0 rfl) ?_
        refine tGet (T := TX0) (N := 12) (ci := 0) C hw inX0 6 0 rfl (by decide) kf_RX0_31 rfl rfl rfl dX0_addReader_21 ?_
        refine lv_aload_n hx hb dX0_addReader_24 rfl (lv_at hl 0 rfl) ?_
        refine tGet (T := TX0) (N := 12) (ci := 0) C hw inX0 5 0 rfl (by decide) kf_RX0_28 rfl rfl rfl dX0_addReader_25 ?_
        refine lv_iload_n hx hb dX0_addReader_28 rfl (lv_at hl 1 rfl) ?_
        obtain ⟨iw4, h⟩ := ck_some h
        obtain ⟨w4, ew4⟩ : ∃ y : VS, y = up v 6 (upd (v 6) ((v 5 0) : Int32).toNatClampNeg a_1) := ⟨_, rfl⟩
        replace h := bn_some h ew4
        refine tSt (ws2 := (wV cA ad w4)) C hw 4 rfl iw4 (by rw [ew4]; rfl) dX0_addReader_29 (fun H locs hw => ?_)
        refine lv_aload_n hx hb dX0_addReader_30 rfl (lv_at hl 0 rfl) ?_
        refine tGet (T := TX0) (N := 12) (ci := 0) C hw inX0 7 0 rfl (by decide) kf_RX0_34 rfl rfl rfl dX0_addReader_31 ?_
        refine lv_aload_n hx hb dX0_addReader_34 rfl (lv_at hl 0 rfl) ?_
        refine tGet (T := TX0) (N := 12) (ci := 0) C hw inX0 5 0 rfl (by decide) kf_RX0_28 rfl rfl rfl dX0_addReader_35 ?_
        refine lv_iload_n hx hb dX0_addReader_38 rfl (lv_at hl 2 rfl) ?_
        obtain ⟨iw5, h⟩ := ck_some h
        obtain ⟨w5, ew5⟩ : ∃ y : VS, y = up w4 7 (upd (w4 7) ((w4 5 0) : Int32).toNatClampNeg a_2) := ⟨_, rfl⟩
        replace h := bn_some h ew5
        refine tSt (ws2 := (wV cA ad w5)) C hw 5 rfl iw5 (by rw [ew5]; rfl) dX0_addReader_39 (fun H locs hw => ?_)
        refine lv_aload_n hx hb dX0_addReader_40 rfl (lv_at hl 0 rfl) ?_
        refine lv_dup hx hb dX0_addReader_41 rfl ?_
        refine tGet (T := TX0) (N := 12) (ci := 0) C hw inX0 5 0 rfl (by decide) kf_RX0_28 rfl rfl rfl dX0_addReader_42 ?_
        refine lv_iconst (v := 1) hx hb dX0_addReader_45 (by decide) ?_
        refine lv_iadd hx hb dX0_addReader_46 ?_
        obtain ⟨w6, ew6⟩ : ∃ y : VS, y = up w5 5 (fun _ => ((w5 5 0) + (1 : Int32))) := ⟨_, rfl⟩
        replace h := bn_some h ew6
        refine tPut (T := TX0) (N := 12) (ci := 0) (ws2 := (wV cA ad w6)) C hw inX0 tyX0 tyX0_ok nmX0 5 0 rfl (by decide) kf_RX0_28 rfl rfl rfl rfl rfl (Nat.le_of_ble_eq_true rfl) (by rw [ew6]; rfl) dX0_addReader_47 (fun H locs hw => ?_)
        refine lv_iconst (v := 1) hx hb dX0_addReader_50 (by decide) ?_
        obtain rfl := some_e h
        exact rtZ C hr nz1 hw dX0_addReader_51
      · replace h := (if_neg c3).symm.trans h
        refine lv_iconst (v := 0) hx hb dX0_addReader_18 (by decide) ?_
        obtain rfl := some_e h
        exact rtZ C hr nz0 hw dX0_addReader_19
abbrev rmX0_isSent : Room := { frames := 0, cells := 0, slots := 0, locals := 0 }
theorem hdX0_isSent : yX0_isSent.cls = RX0 ∧ yX0_isSent.cls ≠ "java/lang/invoke/MethodHandle" ∧ yX0_isSent.cls ≠ "java/lang/invoke/VarHandle" ∧ (parseMethodDescriptor yX0_isSent.desc).map (fun d => d.parameters.length) = some 1 := by decide +kernel
def fX0_isSent (v : VS) (a_1 : Int32) : Option Int32 := if (((v 4 0) >>> (a_1 &&& 31)) &&& (1 : Int32)) = 1 then some 1 else some 0
set_option maxHeartbeats 4000000 in
set_option maxRecDepth 100000 in
theorem kX0_isSent (ad : Nat → Nat) {v : VS} {a_1 : Int32} {z : Int32} (h : fX0_isSent v a_1 = some z) : MI l D cA g yX0_isSent (Cond.code yX0_isSent cX0_isSent 2 (some .boolean) :: lw_g) rmX0_isSent [.ref (ad 0), .int a_1] (wV cA ad v) z (wV cA ad v) := by
  intro sz
  refine Met.ofW (cc := cX0_isSent) (maxL := 2) (ret := (some .boolean)) (by decide) rfl ?_
  intro p e s m args below meth c s₁ B hml hv
  obtain ⟨rfl, C, hr, hw⟩ := ent B hml hv
  generalize va_A (wV cA ad v) sz = A at C hw ⊢
  have hl := lv_entry ([.ref (ad 0), .int a_1]) (n := 2) (Nat.le_of_ble_eq_true rfl)
  rw [lg_entry_eq]
  generalize (lg_sl ([.ref (ad 0), .int a_1]) ++ List.replicate (2 - (lg_sl ([.ref (ad 0), .int a_1])).length) Slot.unset).toArray = ls at hl ⊢
  have hl : lv_has ls 2 [(0, .ref (ad 0)), (1, .int a_1)] := hl
  have hx := C.1.1
  have hb := C.1.2.1
  have h : (if (((v 4 0) >>> (a_1 &&& 31)) &&& (1 : Int32)) = 1 then some 1 else some 0) = some z := h
  refine lv_aload_n hx hb dX0_isSent_0 rfl (lv_at hl 0 rfl) ?_
  refine tGet (T := TX0) (N := 12) (ci := 0) C hw inX0 4 0 rfl (by decide) kf_RX0_25 rfl rfl rfl dX0_isSent_1 ?_
  refine lv_iload_n hx hb dX0_isSent_4 rfl (lv_at hl 1 rfl) ?_
  refine lv_ishr hx hb dX0_isSent_5 ?_
  refine lv_iconst (v := 1) hx hb dX0_isSent_6 (by decide) ?_
  refine lv_iand hx hb dX0_isSent_7 ?_
  refine lv_iconst (v := 1) hx hb dX0_isSent_8 (by decide) ?_
  refine lv_icmp_ne (tgt := 16) hx hb dX0_isSent_9 (by decide) (fun c1 => ?_) (fun c1 => ?_)
  · replace h := (if_neg c1).symm.trans h
    refine lv_iconst (v := 0) hx hb dX0_isSent_16 (by decide) ?_
    obtain rfl := some_e h
    exact rtZ C hr nz0 hw dX0_isSent_17
  · replace h := (if_pos c1).symm.trans h
    refine lv_iconst (v := 1) hx hb dX0_isSent_12 (by decide) ?_
    refine lv_goto (tgt := 17) hx hb dX0_isSent_13 (by decide) ?_
    obtain rfl := some_e h
    exact rtZ C hr nz1 hw dX0_isSent_17
abbrev rmX0_costOf : Room := { frames := 0, cells := 0, slots := 0, locals := 0 }
theorem hdX0_costOf : yX0_costOf.cls = RX0 ∧ yX0_costOf.cls ≠ "java/lang/invoke/MethodHandle" ∧ yX0_costOf.cls ≠ "java/lang/invoke/VarHandle" ∧ (parseMethodDescriptor yX0_costOf.desc).map (fun d => d.parameters.length) = some 1 := by decide +kernel
def fX0_costOf (v : VS) (a_1 : Int32) : Option Int32 := rd 9 (v 1) a_1 (fun r1 => rd 6 cofs r1 (fun r2 => some r2))
set_option maxHeartbeats 4000000 in
set_option maxRecDepth 100000 in
theorem kX0_costOf (ad : Nat → Nat) {v : VS} {a_1 : Int32} {z : Int32} (h : fX0_costOf v a_1 = some z) : MI l D cA g yX0_costOf (Cond.code yX0_costOf cX0_costOf 2 (some .int) :: lw_g) rmX0_costOf [.ref (ad 0), .int a_1] (wV cA ad v) z (wV cA ad v) := by
  intro sz
  refine Met.ofW (cc := cX0_costOf) (maxL := 2) (ret := (some .int)) (by decide) rfl ?_
  intro p e s m args below meth c s₁ B hml hv
  obtain ⟨rfl, C, hr, hw⟩ := ent B hml hv
  generalize va_A (wV cA ad v) sz = A at C hw ⊢
  have hl := lv_entry ([.ref (ad 0), .int a_1]) (n := 2) (Nat.le_of_ble_eq_true rfl)
  rw [lg_entry_eq]
  generalize (lg_sl ([.ref (ad 0), .int a_1]) ++ List.replicate (2 - (lg_sl ([.ref (ad 0), .int a_1])).length) Slot.unset).toArray = ls at hl ⊢
  have hl : lv_has ls 2 [(0, .ref (ad 0)), (1, .int a_1)] := hl
  have hx := C.1.1
  have hb := C.1.2.1
  have h : (rd 9 (v 1) a_1 (fun r1 => rd 6 cofs r1 (fun r2 => some r2))) = some z := h
  refine va_getsN hx hb C.2.2.2.2.1 hw.2.2 C.1.2.2.2.1 (va_Nw.use rfl C.2.2.2.2.2.2.2.2.2) (fun _ h9 => h9) dX0_costOf_0 ?_
  refine lv_aload_n hx hb dX0_costOf_3 rfl (lv_at hl 0 rfl) ?_
  refine tGet (T := TX0) (N := 12) (ci := 0) C hw inX0 1 0 rfl (by decide) kf_RX0_15 rfl rfl rfl dX0_costOf_4 ?_
  refine lv_iload_n hx hb dX0_costOf_7 rfl (lv_at hl 1 rfl) ?_
  obtain ⟨r1, ir1, er1, h⟩ := rd_some h
  refine tLd C hw 1 rfl ir1 er1 dX0_costOf_8 ?_
  obtain ⟨r2, ir2, er2, h⟩ := rd_some h
  refine va_ti hx hb C.2.2.2.2.2.1 hw.2.2 ir2 (v := .int r2) (by rw [er2]) dX0_costOf_9 ?_
  obtain rfl := some_e h
  exact rtI C hr hw dX0_costOf_10
abbrev rmX0_reachOf : Room := { frames := 0, cells := 0, slots := 0, locals := 0 }
theorem hdX0_reachOf : yX0_reachOf.cls = RX0 ∧ yX0_reachOf.cls ≠ "java/lang/invoke/MethodHandle" ∧ yX0_reachOf.cls ≠ "java/lang/invoke/VarHandle" ∧ (parseMethodDescriptor yX0_reachOf.desc).map (fun d => d.parameters.length) = some 1 := by decide +kernel
def fX0_reachOf (v : VS) (a_1 : Int32) : Option Int32 := rd 9 (v 2) a_1 (fun r1 => bn ((r1 / (2 : Int32)) + (2 : Int32)) (fun x2 => rd 9 (v 1) a_1 (fun r3 => if r3 = 1 then some (x2 / (2 : Int32)) else if r3 = 2 then some (x2 + (3 : Int32)) else if r3 = 3 then some (x2 + (3 : Int32)) else if r3 = 4 then some (x2 / (2 : Int32)) else if r3 = 5 then some ((2 : Int32) * (x2 + (3 : Int32))) else some x2)))
set_option maxHeartbeats 4000000 in
set_option maxRecDepth 100000 in
theorem kX0_reachOf (ad : Nat → Nat) {v : VS} {a_1 : Int32} {z : Int32} (h : fX0_reachOf v a_1 = some z) : MI l D cA g yX0_reachOf (Cond.code yX0_reachOf cX0_reachOf 3 (some .int) :: lw_g) rmX0_reachOf [.ref (ad 0), .int a_1] (wV cA ad v) z (wV cA ad v) := by
  intro sz
  refine Met.ofW (cc := cX0_reachOf) (maxL := 3) (ret := (some .int)) (by decide) rfl ?_
  intro p e s m args below meth c s₁ B hml hv
  obtain ⟨rfl, C, hr, hw⟩ := ent B hml hv
  generalize va_A (wV cA ad v) sz = A at C hw ⊢
  have hl := lv_entry ([.ref (ad 0), .int a_1]) (n := 3) (Nat.le_of_ble_eq_true rfl)
  rw [lg_entry_eq]
  generalize (lg_sl ([.ref (ad 0), .int a_1]) ++ List.replicate (3 - (lg_sl ([.ref (ad 0), .int a_1])).length) Slot.unset).toArray = ls at hl ⊢
  have hl : lv_has ls 3 [(0, .ref (ad 0)), (1, .int a_1)] := hl
  have hx := C.1.1
  have hb := C.1.2.1
  have h : (rd 9 (v 2) a_1 (fun r1 => bn ((r1 / (2 : Int32)) + (2 : Int32)) (fun x2 => rd 9 (v 1) a_1 (fun r3 => if r3 = 1 then some (x2 / (2 : Int32)) else if r3 = 2 then some (x2 + (3 : Int32)) else if r3 = 3 then some (x2 + (3 : Int32)) else if r3 = 4 then some (x2 / (2 : Int32)) else if r3 = 5 then some ((2 : Int32) * (x2 + (3 : Int32))) else some x2)))) = some z := h
  refine lv_aload_n hx hb dX0_reachOf_0 rfl (lv_at hl 0 rfl) ?_
  refine tGet (T := TX0) (N := 12) (ci := 0) C hw inX0 2 0 rfl (by decide) kf_RX0_19 rfl rfl rfl dX0_reachOf_1 ?_
  refine lv_iload_n hx hb dX0_reachOf_4 rfl (lv_at hl 1 rfl) ?_
  obtain ⟨r1, ir1, er1, h⟩ := rd_some h
  refine tLd C hw 2 rfl ir1 er1 dX0_reachOf_5 ?_
  refine lv_iconst (v := 2) hx hb dX0_reachOf_6 (by decide) ?_
  refine lv_idiv hx hb dX0_reachOf_7 (by decide) ?_
  refine lv_iconst (v := 2) hx hb dX0_reachOf_8 (by decide) ?_
  refine lv_iadd hx hb dX0_reachOf_9 ?_
  refine lv_topi (fun x2 ex2 => ?_)
  replace h := bn_some h ex2
  refine lv_istore_n (lv' := [(2, .int x2), (0, .ref (ad 0)), (1, .int a_1)]) hx hb dX0_reachOf_10 rfl hl (by decide) rfl (fun ls hl => ?_)
  refine lv_aload_n hx hb dX0_reachOf_11 rfl (lv_at hl 1 rfl) ?_
  refine tGet (T := TX0) (N := 12) (ci := 0) C hw inX0 1 0 rfl (by decide) kf_RX0_15 rfl rfl rfl dX0_reachOf_12 ?_
  refine lv_iload_n hx hb dX0_reachOf_15 rfl (lv_at hl 2 rfl) ?_
  obtain ⟨r3, ir3, er3, h⟩ := rd_some h
  refine tLd C hw 1 rfl ir3 er3 dX0_reachOf_16 ?_
  by_cases c4 : r3 = 1
  · replace h := (if_pos c4).symm.trans h
    refine lv_tableIn (tgt := 52) hx hb dX0_reachOf_17 (by rw [c4]; decide) (by rw [c4]; decide) (by rw [c4]; rfl) (by decide) ?_
    refine lv_iload_n hx hb dX0_reachOf_52 rfl (lv_at hl 0 rfl) ?_
    refine lv_iconst (v := 2) hx hb dX0_reachOf_53 (by decide) ?_
    refine lv_idiv hx hb dX0_reachOf_54 (by decide) ?_
    obtain rfl := some_e h
    exact rtI C hr hw dX0_reachOf_55
  replace h := (if_neg c4).symm.trans h
  by_cases c5 : r3 = 2
  · replace h := (if_pos c5).symm.trans h
    refine lv_tableIn (tgt := 60) hx hb dX0_reachOf_17 (by rw [c5]; decide) (by rw [c5]; decide) (by rw [c5]; rfl) (by decide) ?_
    refine lv_iload_n hx hb dX0_reachOf_60 rfl (lv_at hl 0 rfl) ?_
    refine lv_iconst (v := 3) hx hb dX0_reachOf_61 (by decide) ?_
    refine lv_iadd hx hb dX0_reachOf_62 ?_
    obtain rfl := some_e h
    exact rtI C hr hw dX0_reachOf_63
  replace h := (if_neg c5).symm.trans h
  by_cases c6 : r3 = 3
  · replace h := (if_pos c6).symm.trans h
    refine lv_tableIn (tgt := 64) hx hb dX0_reachOf_17 (by rw [c6]; decide) (by rw [c6]; decide) (by rw [c6]; rfl) (by decide) ?_
    refine lv_iload_n hx hb dX0_reachOf_64 rfl (lv_at hl 0 rfl) ?_
    refine lv_iconst (v := 3) hx hb dX0_reachOf_65 (by decide) ?_
    refine lv_iadd hx hb dX0_reachOf_66 ?_
    obtain rfl := some_e h
    exact rtI C hr hw dX0_reachOf_67
  replace h := (if_neg c6).symm.trans h
  by_cases c7 : r3 = 4
  · replace h := (if_pos c7).symm.trans h
    refine lv_tableIn (tgt := 56) hx hb dX0_reachOf_17 (by rw [c7]; decide) (by rw [c7]; decide) (by rw [c7]; rfl) (by decide) ?_
    refine lv_iload_n hx hb dX0_reachOf_56 rfl (lv_at hl 0 rfl) ?_
    refine lv_iconst (v := 2) hx hb dX0_reachOf_57 (by decide) ?_
    refine lv_idiv hx hb dX0_reachOf_58 (by decide) ?_
    obtain rfl := some_e h
    exact rtI C hr hw dX0_reachOf_59
  replace h := (if_neg c7).symm.trans h
  by_cases c8 : r3 = 5
  · replace h := (if_pos c8).symm.trans h
    refine lv_tableIn (tgt := 68) hx hb dX0_reachOf_17 (by rw [c8]; decide) (by rw [c8]; decide) (by rw [c8]; rfl) (by decide) ?_
    refine lv_iconst (v := 2) hx hb dX0_reachOf_68 (by decide) ?_
    refine lv_iload_n hx hb dX0_reachOf_69 rfl (lv_at hl 0 rfl) ?_
    refine lv_iconst (v := 3) hx hb dX0_reachOf_70 (by decide) ?_
    refine lv_iadd hx hb dX0_reachOf_71 ?_
    refine lv_imul hx hb dX0_reachOf_72 ?_
    obtain rfl := some_e h
    exact rtI C hr hw dX0_reachOf_73
  replace h := (if_neg c8).symm.trans h
  have hout : (r3 : Int32).toInt < 1 ∨ 5 < (r3 : Int32).toInt := sw_out (fun k h1 h2 => by
    have hk : k = 1 ∨ k = 2 ∨ k = 3 ∨ k = 4 ∨ k = 5 := by omega
    rcases hk with rfl | rfl | rfl | rfl | rfl
    · exact sw_ne c4 (by decide)
    · exact sw_ne c5 (by decide)
    · exact sw_ne c6 (by decide)
    · exact sw_ne c7 (by decide)
    · exact sw_ne c8 (by decide))
  refine lv_tableOut (tgt := 74) hx hb dX0_reachOf_17 hout (by decide) ?_
  refine lv_iload_n hx hb dX0_reachOf_74 rfl (lv_at hl 0 rfl) ?_
  obtain rfl := some_e h
  exact rtI C hr hw dX0_reachOf_75
abbrev rmX0_darkOf : Room := { frames := 0, cells := 0, slots := 0, locals := 0 }
theorem hdX0_darkOf : yX0_darkOf.cls = RX0 ∧ yX0_darkOf.cls ≠ "java/lang/invoke/MethodHandle" ∧ yX0_darkOf.cls ≠ "java/lang/invoke/VarHandle" ∧ (parseMethodDescriptor yX0_darkOf.desc).map (fun d => d.parameters.length) = some 1 := by decide +kernel
def fX0_darkOf (v : VS) (a_1 : Int32) : Option Int32 := rd 9 (v 2) a_1 (fun r1 => bn (r1 + (1 : Int32)) (fun x2 => rd 9 (v 1) a_1 (fun r3 => if r3 = 1 then some 0 else if r3 = 2 then some ((2 : Int32) * x2) else if r3 = 3 then some ((2 : Int32) * x2) else if r3 = 4 then some 9 else if r3 = 5 then some ((2 : Int32) * x2) else some x2)))
set_option maxHeartbeats 4000000 in
set_option maxRecDepth 100000 in
theorem kX0_darkOf (ad : Nat → Nat) {v : VS} {a_1 : Int32} {z : Int32} (h : fX0_darkOf v a_1 = some z) : MI l D cA g yX0_darkOf (Cond.code yX0_darkOf cX0_darkOf 3 (some .int) :: lw_g) rmX0_darkOf [.ref (ad 0), .int a_1] (wV cA ad v) z (wV cA ad v) := by
  intro sz
  refine Met.ofW (cc := cX0_darkOf) (maxL := 3) (ret := (some .int)) (by decide) rfl ?_
  intro p e s m args below meth c s₁ B hml hv
  obtain ⟨rfl, C, hr, hw⟩ := ent B hml hv
  generalize va_A (wV cA ad v) sz = A at C hw ⊢
  have hl := lv_entry ([.ref (ad 0), .int a_1]) (n := 3) (Nat.le_of_ble_eq_true rfl)
  rw [lg_entry_eq]
  generalize (lg_sl ([.ref (ad 0), .int a_1]) ++ List.replicate (3 - (lg_sl ([.ref (ad 0), .int a_1])).length) Slot.unset).toArray = ls at hl ⊢
  have hl : lv_has ls 3 [(0, .ref (ad 0)), (1, .int a_1)] := hl
  have hx := C.1.1
  have hb := C.1.2.1
  have h : (rd 9 (v 2) a_1 (fun r1 => bn (r1 + (1 : Int32)) (fun x2 => rd 9 (v 1) a_1 (fun r3 => if r3 = 1 then some 0 else if r3 = 2 then some ((2 : Int32) * x2) else if r3 = 3 then some ((2 : Int32) * x2) else if r3 = 4 then some 9 else if r3 = 5 then some ((2 : Int32) * x2) else some x2)))) = some z := h
  refine lv_aload_n hx hb dX0_darkOf_0 rfl (lv_at hl 0 rfl) ?_
  refine tGet (T := TX0) (N := 12) (ci := 0) C hw inX0 2 0 rfl (by decide) kf_RX0_19 rfl rfl rfl dX0_darkOf_1 ?_
  refine lv_iload_n hx hb dX0_darkOf_4 rfl (lv_at hl 1 rfl) ?_
  obtain ⟨r1, ir1, er1, h⟩ := rd_some h
  refine tLd C hw 2 rfl ir1 er1 dX0_darkOf_5 ?_
  refine lv_iconst (v := 1) hx hb dX0_darkOf_6 (by decide) ?_
  refine lv_iadd hx hb dX0_darkOf_7 ?_
  refine lv_topi (fun x2 ex2 => ?_)
  replace h := bn_some h ex2
  refine lv_istore_n (lv' := [(2, .int x2), (0, .ref (ad 0)), (1, .int a_1)]) hx hb dX0_darkOf_8 rfl hl (by decide) rfl (fun ls hl => ?_)
  refine lv_aload_n hx hb dX0_darkOf_9 rfl (lv_at hl 1 rfl) ?_
  refine tGet (T := TX0) (N := 12) (ci := 0) C hw inX0 1 0 rfl (by decide) kf_RX0_15 rfl rfl rfl dX0_darkOf_10 ?_
  refine lv_iload_n hx hb dX0_darkOf_13 rfl (lv_at hl 2 rfl) ?_
  obtain ⟨r3, ir3, er3, h⟩ := rd_some h
  refine tLd C hw 1 rfl ir3 er3 dX0_darkOf_14 ?_
  by_cases c4 : r3 = 1
  · replace h := (if_pos c4).symm.trans h
    refine lv_tableIn (tgt := 48) hx hb dX0_darkOf_15 (by rw [c4]; decide) (by rw [c4]; decide) (by rw [c4]; rfl) (by decide) ?_
    refine lv_iconst (v := 0) hx hb dX0_darkOf_48 (by decide) ?_
    obtain rfl := some_e h
    exact rtI C hr hw dX0_darkOf_49
  replace h := (if_neg c4).symm.trans h
  by_cases c5 : r3 = 2
  · replace h := (if_pos c5).symm.trans h
    refine lv_tableIn (tgt := 53) hx hb dX0_darkOf_15 (by rw [c5]; decide) (by rw [c5]; decide) (by rw [c5]; rfl) (by decide) ?_
    refine lv_iconst (v := 2) hx hb dX0_darkOf_53 (by decide) ?_
    refine lv_iload_n hx hb dX0_darkOf_54 rfl (lv_at hl 0 rfl) ?_
    refine lv_imul hx hb dX0_darkOf_55 ?_
    obtain rfl := some_e h
    exact rtI C hr hw dX0_darkOf_56
  replace h := (if_neg c5).symm.trans h
  by_cases c6 : r3 = 3
  · replace h := (if_pos c6).symm.trans h
    refine lv_tableIn (tgt := 57) hx hb dX0_darkOf_15 (by rw [c6]; decide) (by rw [c6]; decide) (by rw [c6]; rfl) (by decide) ?_
    refine lv_iconst (v := 2) hx hb dX0_darkOf_57 (by decide) ?_
    refine lv_iload_n hx hb dX0_darkOf_58 rfl (lv_at hl 0 rfl) ?_
    refine lv_imul hx hb dX0_darkOf_59 ?_
    obtain rfl := some_e h
    exact rtI C hr hw dX0_darkOf_60
  replace h := (if_neg c6).symm.trans h
  by_cases c7 : r3 = 4
  · replace h := (if_pos c7).symm.trans h
    refine lv_tableIn (tgt := 50) hx hb dX0_darkOf_15 (by rw [c7]; decide) (by rw [c7]; decide) (by rw [c7]; rfl) (by decide) ?_
    refine lv_bipush (v := 9) hx hb dX0_darkOf_50 (by decide) ?_
    obtain rfl := some_e h
    exact rtI C hr hw dX0_darkOf_52
  replace h := (if_neg c7).symm.trans h
  by_cases c8 : r3 = 5
  · replace h := (if_pos c8).symm.trans h
    refine lv_tableIn (tgt := 61) hx hb dX0_darkOf_15 (by rw [c8]; decide) (by rw [c8]; decide) (by rw [c8]; rfl) (by decide) ?_
    refine lv_iconst (v := 2) hx hb dX0_darkOf_61 (by decide) ?_
    refine lv_iload_n hx hb dX0_darkOf_62 rfl (lv_at hl 0 rfl) ?_
    refine lv_imul hx hb dX0_darkOf_63 ?_
    obtain rfl := some_e h
    exact rtI C hr hw dX0_darkOf_64
  replace h := (if_neg c8).symm.trans h
  have hout : (r3 : Int32).toInt < 1 ∨ 5 < (r3 : Int32).toInt := sw_out (fun k h1 h2 => by
    have hk : k = 1 ∨ k = 2 ∨ k = 3 ∨ k = 4 ∨ k = 5 := by omega
    rcases hk with rfl | rfl | rfl | rfl | rfl
    · exact sw_ne c4 (by decide)
    · exact sw_ne c5 (by decide)
    · exact sw_ne c6 (by decide)
    · exact sw_ne c7 (by decide)
    · exact sw_ne c8 (by decide))
  refine lv_tableOut (tgt := 65) hx hb dX0_darkOf_15 hout (by decide) ?_
  refine lv_iload_n hx hb dX0_darkOf_65 rfl (lv_at hl 0 rfl) ?_
  obtain rfl := some_e h
  exact rtI C hr hw dX0_darkOf_66
abbrev rmX0_burstOf : Room := { frames := 0, cells := 0, slots := 0, locals := 0 }
theorem hdX0_burstOf : yX0_burstOf.cls = RX0 ∧ yX0_burstOf.cls ≠ "java/lang/invoke/MethodHandle" ∧ yX0_burstOf.cls ≠ "java/lang/invoke/VarHandle" ∧ (parseMethodDescriptor yX0_burstOf.desc).map (fun d => d.parameters.length) = some 1 := by decide +kernel
def GX0_burstOf_46 (p : Program) (l : Launch) (e : Env) (s : State) (m : MethodId) (args : Array Value) (below : List Frame) (meth : Method) (c : Code) (D : va_G) (cA : ClassId) (A : Nat → Prop) (ad : Nat → Nat) (v : VS) (z : Int32) (x : (Int32) × (Int32)) : Prop := ∀ (H : Heap) (locs : List Loc) (ls : Array Slot), Wd D A s.heap (wV cA ad v) H locs → lv_has ls 5 [] → W p l e rmX0_burstOf s m args below meth c H locs 0 0 (MQ below (QI D cA A z (wV cA ad v)) args s 0 0 A) (F0 m 46 ls [.int x.1, .int x.2])
def GX0_burstOf_25 (p : Program) (l : Launch) (e : Env) (s : State) (m : MethodId) (args : Array Value) (below : List Frame) (meth : Method) (c : Code) (D : va_G) (cA : ClassId) (A : Nat → Prop) (ad : Nat → Nat) (v : VS) (z : Int32) (x : (Int32)) : Prop := ∀ (H : Heap) (locs : List Loc) (ls : Array Slot), Wd D A s.heap (wV cA ad v) H locs → lv_has ls 5 [(0, .ref (ad 0))] → W p l e rmX0_burstOf s m args below meth c H locs 0 0 (MQ below (QI D cA A z (wV cA ad v)) args s 0 0 A) (F0 m 25 ls [.int x])
def GX0_burstOf_20 (p : Program) (l : Launch) (e : Env) (s : State) (m : MethodId) (args : Array Value) (below : List Frame) (meth : Method) (c : Code) (D : va_G) (cA : ClassId) (A : Nat → Prop) (ad : Nat → Nat) (v : VS) (z : Int32) (x : Unit) : Prop := ∀ (H : Heap) (locs : List Loc) (ls : Array Slot), Wd D A s.heap (wV cA ad v) H locs → lv_has ls 5 [(0, .ref (ad 0))] → W p l e rmX0_burstOf s m args below meth c H locs 0 0 (MQ below (QI D cA A z (wV cA ad v)) args s 0 0 A) (F0 m 20 ls [])
def fX0_burstOf_46 (v : VS) : ((Int32) × (Int32)) → Option Int32 := fun x => match x with | (y_0, y_1) => bn (y_1 + y_0) (fun x1 => if 0 ≤ x1 then if x1 < 20 then some x1 else some 19 else some 0)
def fX0_burstOf_25 (v : VS) : ((Int32)) → Option Int32 := fun y_0 => bn ((v 10 0) - (5 : Int32)) (fun x1 => if y_0 = 0 then fX0_burstOf_46 v (x1, 10) else fX0_burstOf_46 v (((3 : Int32) * x1), 10))
def fX0_burstOf_20 (v : VS) : (Unit) → Option Int32 := fun _ => fX0_burstOf_25 v 1
def fX0_burstOf (v : VS) (a_1 : Int32) : Option Int32 := rd 9 (v 1) a_1 (fun r1 => if r1 = 3 then fX0_burstOf_20 v () else rd 9 (v 1) a_1 (fun r3 => if r3 = 5 then fX0_burstOf_20 v () else fX0_burstOf_25 v 0))
set_option maxHeartbeats 4000000 in
set_option maxRecDepth 100000 in
theorem kX0_burstOf_46 (C : Cx p s m args meth c cX0_burstOf 5 RX0 D cA g A) (hr : meth.sig.returnType = (some .int)) {z : Int32} (v : VS) (x : (Int32) × (Int32)) (h : fX0_burstOf_46 v x = some z) : GX0_burstOf_46 p l e s m args below meth c D cA A ad v z x := by
  obtain ⟨y_0, y_1⟩ := x
  intro H locs ls hw hl
  have hw : Wd D A s.heap (wV cA ad v) H locs := hw
  have hl : lv_has ls 5 [] := hl
  show W p l e rmX0_burstOf s m args below meth c H locs 0 0 (MQ below (QI D cA A z (wV cA ad v)) args s 0 0 A) (F0 m 46 ls [.int y_0, .int y_1])
  have hx := C.1.1
  have hb := C.1.2.1
  have h : (bn (y_1 + y_0) (fun x1 => if 0 ≤ x1 then if x1 < 20 then some x1 else some 19 else some 0)) = some z := h
  refine lv_iadd hx hb dX0_burstOf_46 ?_
  refine lv_topi (fun x1 ex1 => ?_)
  replace h := bn_some h ex1
  refine lv_istore (lv' := [(4, .int x1)]) hx hb dX0_burstOf_47 hl (by decide) rfl (fun ls hl => ?_)
  refine lv_iload hx hb dX0_burstOf_49 (lv_at hl 0 rfl) ?_
  refine lv_if_ge (tgt := 56) hx hb dX0_burstOf_51 (by decide) (fun c2 => ?_) (fun c2 => ?_)
  · replace h := (if_pos c2).symm.trans h
    refine lv_iload hx hb dX0_burstOf_56 (lv_at hl 0 rfl) ?_
    refine lv_bipush (v := 20) hx hb dX0_burstOf_58 (by decide) ?_
    refine lv_icmp_lt (tgt := 68) hx hb dX0_burstOf_60 (by decide) (fun c3 => ?_) (fun c3 => ?_)
    · replace h := (if_pos c3).symm.trans h
      refine lv_iload hx hb dX0_burstOf_68 (lv_at hl 0 rfl) ?_
      obtain rfl := some_e h
      exact rtI C hr hw dX0_burstOf_70
    · replace h := (if_neg c3).symm.trans h
      refine lv_bipush (v := 19) hx hb dX0_burstOf_63 (by decide) ?_
      refine lv_goto (tgt := 70) hx hb dX0_burstOf_65 (by decide) ?_
      obtain rfl := some_e h
      exact rtI C hr hw dX0_burstOf_70
  · replace h := (if_neg c2).symm.trans h
    refine lv_iconst (v := 0) hx hb dX0_burstOf_54 (by decide) ?_
    obtain rfl := some_e h
    exact rtI C hr hw dX0_burstOf_55
set_option maxHeartbeats 4000000 in
set_option maxRecDepth 100000 in
theorem kX0_burstOf_25 (C : Cx p s m args meth c cX0_burstOf 5 RX0 D cA g A) (hr : meth.sig.returnType = (some .int)) {z : Int32} (v : VS) (x : (Int32)) (h : fX0_burstOf_25 v x = some z) : GX0_burstOf_25 p l e s m args below meth c D cA A ad v z x := by
  obtain ⟨y_0, rfl⟩ : ∃ y, y = x := ⟨_, rfl⟩
  intro H locs ls hw hl
  have hw : Wd D A s.heap (wV cA ad v) H locs := hw
  have hl : lv_has ls 5 [(0, .ref (ad 0))] := hl
  show W p l e rmX0_burstOf s m args below meth c H locs 0 0 (MQ below (QI D cA A z (wV cA ad v)) args s 0 0 A) (F0 m 25 ls [.int y_0])
  have hx := C.1.1
  have hb := C.1.2.1
  have h : (bn ((v 10 0) - (5 : Int32)) (fun x1 => if y_0 = 0 then fX0_burstOf_46 v (x1, 10) else fX0_burstOf_46 v (((3 : Int32) * x1), 10))) = some z := h
  refine lv_istore_n (lv' := [(2, .int y_0), (0, .ref (ad 0))]) hx hb dX0_burstOf_25 rfl hl (by decide) rfl (fun ls hl => ?_)
  refine lv_aload_n hx hb dX0_burstOf_26 rfl (lv_at hl 1 rfl) ?_
  refine tGet (T := TX0) (N := 12) (ci := 0) C hw inX0 10 0 rfl (by decide) kf_RX0_43 rfl rfl rfl dX0_burstOf_27 ?_
  refine lv_iconst (v := 5) hx hb dX0_burstOf_30 (by decide) ?_
  refine lv_isub hx hb dX0_burstOf_31 ?_
  refine lv_topi (fun x1 ex1 => ?_)
  replace h := bn_some h ex1
  refine lv_istore_n (lv' := [(3, .int x1), (2, .int y_0), (0, .ref (ad 0))]) hx hb dX0_burstOf_32 rfl hl (by decide) rfl (fun ls hl => ?_)
  refine lv_bipush (v := 10) hx hb dX0_burstOf_33 (by decide) ?_
  refine lv_iload_n hx hb dX0_burstOf_35 rfl (lv_at hl 1 rfl) ?_
  refine lv_if_eq (tgt := 45) hx hb dX0_burstOf_36 (by decide) (fun c2 => ?_) (fun c2 => ?_)
  · replace h := (if_pos c2).symm.trans h
    refine lv_iload_n hx hb dX0_burstOf_45 rfl (lv_at hl 0 rfl) ?_
    exact kX0_burstOf_46 C hr v (x1, 10) h _ _ _ hw (lv_sub hl [] rfl)
  · replace h := (if_neg c2).symm.trans h
    refine lv_iconst (v := 3) hx hb dX0_burstOf_39 (by decide) ?_
    refine lv_iload_n hx hb dX0_burstOf_40 rfl (lv_at hl 0 rfl) ?_
    refine lv_imul hx hb dX0_burstOf_41 ?_
    refine lv_goto (tgt := 46) hx hb dX0_burstOf_42 (by decide) ?_
    exact kX0_burstOf_46 C hr v (((3 : Int32) * x1), 10) h _ _ _ hw (lv_sub hl [] rfl)
set_option maxHeartbeats 4000000 in
set_option maxRecDepth 100000 in
theorem kX0_burstOf_20 (C : Cx p s m args meth c cX0_burstOf 5 RX0 D cA g A) (hr : meth.sig.returnType = (some .int)) {z : Int32} (v : VS) (x : Unit) (h : fX0_burstOf_20 v x = some z) : GX0_burstOf_20 p l e s m args below meth c D cA A ad v z x := by
  intro H locs ls hw hl
  have hw : Wd D A s.heap (wV cA ad v) H locs := hw
  have hl : lv_has ls 5 [(0, .ref (ad 0))] := hl
  have hx := C.1.1
  have hb := C.1.2.1
  have h : (fX0_burstOf_25 v 1) = some z := h
  refine lv_iconst (v := 1) hx hb dX0_burstOf_20 (by decide) ?_
  refine lv_goto (tgt := 25) hx hb dX0_burstOf_21 (by decide) ?_
  exact kX0_burstOf_25 C hr v 1 h _ _ _ hw (lv_sub hl [0] rfl)
set_option maxHeartbeats 4000000 in
set_option maxRecDepth 100000 in
theorem kX0_burstOf (ad : Nat → Nat) {v : VS} {a_1 : Int32} {z : Int32} (h : fX0_burstOf v a_1 = some z) : MI l D cA g yX0_burstOf (Cond.code yX0_burstOf cX0_burstOf 5 (some .int) :: lw_g) rmX0_burstOf [.ref (ad 0), .int a_1] (wV cA ad v) z (wV cA ad v) := by
  intro sz
  refine Met.ofW (cc := cX0_burstOf) (maxL := 5) (ret := (some .int)) (by decide) rfl ?_
  intro p e s m args below meth c s₁ B hml hv
  obtain ⟨rfl, C, hr, hw⟩ := ent B hml hv
  generalize va_A (wV cA ad v) sz = A at C hw ⊢
  have hl := lv_entry ([.ref (ad 0), .int a_1]) (n := 5) (Nat.le_of_ble_eq_true rfl)
  rw [lg_entry_eq]
  generalize (lg_sl ([.ref (ad 0), .int a_1]) ++ List.replicate (5 - (lg_sl ([.ref (ad 0), .int a_1])).length) Slot.unset).toArray = ls at hl ⊢
  have hl : lv_has ls 5 [(0, .ref (ad 0)), (1, .int a_1)] := hl
  have hx := C.1.1
  have hb := C.1.2.1
  have h : (rd 9 (v 1) a_1 (fun r1 => if r1 = 3 then fX0_burstOf_20 v () else rd 9 (v 1) a_1 (fun r3 => if r3 = 5 then fX0_burstOf_20 v () else fX0_burstOf_25 v 0))) = some z := h
  refine lv_aload_n hx hb dX0_burstOf_0 rfl (lv_at hl 0 rfl) ?_
  refine tGet (T := TX0) (N := 12) (ci := 0) C hw inX0 1 0 rfl (by decide) kf_RX0_15 rfl rfl rfl dX0_burstOf_1 ?_
  refine lv_iload_n hx hb dX0_burstOf_4 rfl (lv_at hl 1 rfl) ?_
  obtain ⟨r1, ir1, er1, h⟩ := rd_some h
  refine tLd C hw 1 rfl ir1 er1 dX0_burstOf_5 ?_
  refine lv_iconst (v := 3) hx hb dX0_burstOf_6 (by decide) ?_
  refine lv_icmp_eq (tgt := 20) hx hb dX0_burstOf_7 (by decide) (fun c2 => ?_) (fun c2 => ?_)
  · replace h := (if_pos c2).symm.trans h
    exact kX0_burstOf_20 C hr v () h _ _ _ hw (lv_sub hl [0] rfl)
  · replace h := (if_neg c2).symm.trans h
    refine lv_aload_n hx hb dX0_burstOf_10 rfl (lv_at hl 0 rfl) ?_
    refine tGet (T := TX0) (N := 12) (ci := 0) C hw inX0 1 0 rfl (by decide) kf_RX0_15 rfl rfl rfl dX0_burstOf_11 ?_
    refine lv_iload_n hx hb dX0_burstOf_14 rfl (lv_at hl 1 rfl) ?_
    obtain ⟨r3, ir3, er3, h⟩ := rd_some h
    refine tLd C hw 1 rfl ir3 er3 dX0_burstOf_15 ?_
    refine lv_iconst (v := 5) hx hb dX0_burstOf_16 (by decide) ?_
    refine lv_icmp_ne (tgt := 24) hx hb dX0_burstOf_17 (by decide) (fun c4 => ?_) (fun c4 => ?_)
    · replace h := (if_neg c4).symm.trans h
      refine lv_iconst (v := 0) hx hb dX0_burstOf_24 (by decide) ?_
      exact kX0_burstOf_25 C hr v 0 h _ _ _ hw (lv_sub hl [0] rfl)
    · replace h := (if_pos c4).symm.trans h
      exact kX0_burstOf_20 C hr v () h _ _ _ hw (lv_sub hl [0] rfl)
abbrev rmX0_readersOf : Room := { frames := 1, cells := 0, slots := 0, locals := 24 }
theorem hdX0_readersOf : yX0_readersOf.cls = RX0 ∧ yX0_readersOf.cls ≠ "java/lang/invoke/MethodHandle" ∧ yX0_readersOf.cls ≠ "java/lang/invoke/VarHandle" ∧ (parseMethodDescriptor yX0_readersOf.desc).map (fun d => d.parameters.length) = some 1 := by decide +kernel
def GX0_readersOf_76 (p : Program) (l : Launch) (e : Env) (s : State) (m : MethodId) (args : Array Value) (below : List Frame) (meth : Method) (c : Code) (D : va_G) (cA : ClassId) (A : Nat → Prop) (ad : Nat → Nat) (v : VS) (z : Int32) (x : (Int32) × (Int32) × (Int32) × (Int32)) : Prop := ∀ (H : Heap) (locs : List Loc) (ls : Array Slot), Wd D A s.heap (wV cA ad v) H locs → lv_has ls 7 [(0, .ref (ad 0)), (2, .int x.1), (3, .int x.2.1), (4, .int x.2.2.1), (5, .int x.2.2.2)] → W p l e rmX0_readersOf s m args below meth c H locs 0 0 (MQ below (QI D cA A z (wV cA ad v)) args s 0 0 A) (F0 m 76 ls [])
def GX0_readersOf_59 (p : Program) (l : Launch) (e : Env) (s : State) (m : MethodId) (args : Array Value) (below : List Frame) (meth : Method) (c : Code) (D : va_G) (cA : ClassId) (A : Nat → Prop) (ad : Nat → Nat) (v : VS) (z : Int32) (x : (Int32) × (Int32) × (Int32) × (Int32) × (Int32)) : Prop := ∀ (H : Heap) (locs : List Loc) (ls : Array Slot), Wd D A s.heap (wV cA ad v) H locs → lv_has ls 7 [(0, .ref (ad 0)), (2, .int x.1), (3, .int x.2.1), (4, .int x.2.2.1), (5, .int x.2.2.2.1)] → W p l e rmX0_readersOf s m args below meth c H locs 0 0 (MQ below (QI D cA A z (wV cA ad v)) args s 0 0 A) (F0 m 59 ls [.int x.2.2.2.2])
def GX0_readersOf_18 (p : Program) (l : Launch) (e : Env) (s : State) (m : MethodId) (args : Array Value) (below : List Frame) (meth : Method) (c : Code) (D : va_G) (cA : ClassId) (A : Nat → Prop) (ad : Nat → Nat) (v : VS) (z : Int32) (x : (Int32) × (Int32) × (Int32) × (Int32)) : Prop := ∀ (H : Heap) (locs : List Loc) (ls : Array Slot), Wd D A s.heap (wV cA ad v) H locs → lv_has ls 7 [(0, .ref (ad 0)), (2, .int x.1), (3, .int x.2.1), (4, .int x.2.2.1), (5, .int x.2.2.2)] → W p l e rmX0_readersOf s m args below meth c H locs 0 0 (MQ below (QI D cA A z (wV cA ad v)) args s 0 0 A) (F0 m 18 ls [])
def fX0_readersOf_76 (v : VS) (k18 : ((Int32) × (Int32) × (Int32) × (Int32)) → Option Int32) : ((Int32) × (Int32) × (Int32) × (Int32)) → Option Int32 := fun x => match x with | (x_2, x_3, x_4, x_5) => bn (x_5 + 1) (fun x1 => k18 (x_2, x_3, x_4, x1))
def fX0_readersOf_59 (v : VS) (k18 : ((Int32) × (Int32) × (Int32) × (Int32)) → Option Int32) : ((Int32) × (Int32) × (Int32) × (Int32) × (Int32)) → Option Int32 := fun x => match x with | (x_2, x_3, x_4, x_5, y_0) => if x_3 < y_0 then fX0_readersOf_76 v k18 (x_2, x_3, x_4, x_5) else bn (x_4 ||| ((1 : Int32) <<< (x_5 &&& 31))) (fun x2 => fX0_readersOf_76 v k18 (x_2, x_3, x2, x_5))
def fX0_readersOf_18 (v : VS) (k18 : ((Int32) × (Int32) × (Int32) × (Int32)) → Option Int32) : ((Int32) × (Int32) × (Int32) × (Int32)) → Option Int32 := fun x => match x with | (x_2, x_3, x_4, x_5) => if (v 5 0) ≤ x_5 then some x_4 else rd 5 (v 6) x_5 (fun r2 => if x_2 ≤ r2 then rd 5 (v 6) x_5 (fun r4 => fX0_readersOf_59 v k18 (x_2, x_3, x_4, x_5, (r4 - x_2))) else rd 5 (v 6) x_5 (fun r5 => fX0_readersOf_59 v k18 (x_2, x_3, x_4, x_5, (x_2 - r5))))
def fX0_readersOf (v : VS) (a_1 : Int32) : Option Int32 := cl (fX0_burstOf v a_1) (fun r1 => cl (fX0_reachOf v a_1) (fun r2 => lp (fX0_readersOf_18 v) 5000 (r1, r2, 0, 0)))
set_option maxHeartbeats 4000000 in
set_option maxRecDepth 100000 in
theorem kX0_readersOf_76 (C : Cx p s m args meth c cX0_readersOf 7 RX0 D cA g A) (hr : meth.sig.returnType = (some .int)) {z : Int32} (v : VS) (k18 : ((Int32) × (Int32) × (Int32) × (Int32)) → Option Int32) (hk18 : ∀ x, k18 x = some z → GX0_readersOf_18 p l e s m args below meth c D cA A ad v z x) (x : (Int32) × (Int32) × (Int32) × (Int32)) (h : fX0_readersOf_76 v k18 x = some z) : GX0_readersOf_76 p l e s m args below meth c D cA A ad v z x := by
  obtain ⟨x_2, x_3, x_4, x_5⟩ := x
  intro H locs ls hw hl
  have hw : Wd D A s.heap (wV cA ad v) H locs := hw
  have hl : lv_has ls 7 [(0, .ref (ad 0)), (2, .int x_2), (3, .int x_3), (4, .int x_4), (5, .int x_5)] := hl
  have hx := C.1.1
  have hb := C.1.2.1
  have h : (bn (x_5 + 1) (fun x1 => k18 (x_2, x_3, x_4, x1))) = some z := h
  obtain ⟨x1, ex1⟩ : ∃ y : Int32, y = x_5 + 1 := ⟨_, rfl⟩
  replace h := bn_some h ex1
  refine lv_iinc (v := x1) (lv' := [(5, .int x1), (0, .ref (ad 0)), (2, .int x_2), (3, .int x_3), (4, .int x_4)]) hx hb dX0_readersOf_76 hl (k := 4) rfl (by rw [ex1]; rfl) (by decide) rfl (fun ls hl => ?_)
  refine lv_goto (tgt := 18) hx hb dX0_readersOf_79 (by decide) ?_
  exact hk18 (x_2, x_3, x_4, x1) h _ _ _ hw (lv_sub hl [1, 2, 3, 4, 0] rfl)
set_option maxHeartbeats 4000000 in
set_option maxRecDepth 100000 in
theorem kX0_readersOf_59 (C : Cx p s m args meth c cX0_readersOf 7 RX0 D cA g A) (hr : meth.sig.returnType = (some .int)) {z : Int32} (v : VS) (k18 : ((Int32) × (Int32) × (Int32) × (Int32)) → Option Int32) (hk18 : ∀ x, k18 x = some z → GX0_readersOf_18 p l e s m args below meth c D cA A ad v z x) (x : (Int32) × (Int32) × (Int32) × (Int32) × (Int32)) (h : fX0_readersOf_59 v k18 x = some z) : GX0_readersOf_59 p l e s m args below meth c D cA A ad v z x := by
  obtain ⟨x_2, x_3, x_4, x_5, y_0⟩ := x
  intro H locs ls hw hl
  have hw : Wd D A s.heap (wV cA ad v) H locs := hw
  have hl : lv_has ls 7 [(0, .ref (ad 0)), (2, .int x_2), (3, .int x_3), (4, .int x_4), (5, .int x_5)] := hl
  show W p l e rmX0_readersOf s m args below meth c H locs 0 0 (MQ below (QI D cA A z (wV cA ad v)) args s 0 0 A) (F0 m 59 ls [.int y_0])
  have hx := C.1.1
  have hb := C.1.2.1
  have h : (if x_3 < y_0 then fX0_readersOf_76 v k18 (x_2, x_3, x_4, x_5) else bn (x_4 ||| ((1 : Int32) <<< (x_5 &&& 31))) (fun x2 => fX0_readersOf_76 v k18 (x_2, x_3, x2, x_5))) = some z := h
  refine lv_istore (lv' := [(6, .int y_0), (0, .ref (ad 0)), (2, .int x_2), (3, .int x_3), (4, .int x_4), (5, .int x_5)]) hx hb dX0_readersOf_59 hl (by decide) rfl (fun ls hl => ?_)
  refine lv_iload hx hb dX0_readersOf_61 (lv_at hl 0 rfl) ?_
  refine lv_iload_n hx hb dX0_readersOf_63 rfl (lv_at hl 3 rfl) ?_
  refine lv_icmp_gt (tgt := 76) hx hb dX0_readersOf_64 (by decide) (fun c1 => ?_) (fun c1 => ?_)
  · replace h := (if_pos c1).symm.trans h
    exact kX0_readersOf_76 C hr v k18 hk18 (x_2, x_3, x_4, x_5) h _ _ _ hw (lv_sub hl [1, 2, 3, 4, 5] rfl)
  · replace h := (if_neg c1).symm.trans h
    refine lv_iload hx hb dX0_readersOf_67 (lv_at hl 4 rfl) ?_
    refine lv_iconst (v := 1) hx hb dX0_readersOf_69 (by decide) ?_
    refine lv_iload hx hb dX0_readersOf_70 (lv_at hl 5 rfl) ?_
    refine lv_ishl hx hb dX0_readersOf_72 ?_
    refine lv_ior hx hb dX0_readersOf_73 ?_
    refine lv_topi (fun x2 ex2 => ?_)
    replace h := bn_some h ex2
    refine lv_istore (lv' := [(4, .int x2), (6, .int y_0), (0, .ref (ad 0)), (2, .int x_2), (3, .int x_3), (5, .int x_5)]) hx hb dX0_readersOf_74 hl (by decide) rfl (fun ls hl => ?_)
    exact kX0_readersOf_76 C hr v k18 hk18 (x_2, x_3, x2, x_5) h _ _ _ hw (lv_sub hl [2, 3, 4, 0, 5] rfl)
set_option maxHeartbeats 4000000 in
set_option maxRecDepth 100000 in
theorem kX0_readersOf_18 (C : Cx p s m args meth c cX0_readersOf 7 RX0 D cA g A) (hr : meth.sig.returnType = (some .int)) {z : Int32} (v : VS) (k18 : ((Int32) × (Int32) × (Int32) × (Int32)) → Option Int32) (hk18 : ∀ x, k18 x = some z → GX0_readersOf_18 p l e s m args below meth c D cA A ad v z x) (x : (Int32) × (Int32) × (Int32) × (Int32)) (h : fX0_readersOf_18 v k18 x = some z) : GX0_readersOf_18 p l e s m args below meth c D cA A ad v z x := by
  obtain ⟨x_2, x_3, x_4, x_5⟩ := x
  intro H locs ls hw hl
  have hw : Wd D A s.heap (wV cA ad v) H locs := hw
  have hl : lv_has ls 7 [(0, .ref (ad 0)), (2, .int x_2), (3, .int x_3), (4, .int x_4), (5, .int x_5)] := hl
  have hx := C.1.1
  have hb := C.1.2.1
  have h : (if (v 5 0) ≤ x_5 then some x_4 else rd 5 (v 6) x_5 (fun r2 => if x_2 ≤ r2 then rd 5 (v 6) x_5 (fun r4 => fX0_readersOf_59 v k18 (x_2, x_3, x_4, x_5, (r4 - x_2))) else rd 5 (v 6) x_5 (fun r5 => fX0_readersOf_59 v k18 (x_2, x_3, x_4, x_5, (x_2 - r5))))) = some z := h
  refine lv_iload hx hb dX0_readersOf_18 (lv_at hl 4 rfl) ?_
  refine lv_aload_n hx hb dX0_readersOf_20 rfl (lv_at hl 0 rfl) ?_
  refine tGet (T := TX0) (N := 12) (ci := 0) C hw inX0 5 0 rfl (by decide) kf_RX0_28 rfl rfl rfl dX0_readersOf_21 ?_
  refine lv_icmp_ge (tgt := 82) hx hb dX0_readersOf_24 (by decide) (fun c1 => ?_) (fun c1 => ?_)
  · replace h := (if_pos c1).symm.trans h
    refine lv_iload hx hb dX0_readersOf_82 (lv_at hl 3 rfl) ?_
    obtain rfl := some_e h
    exact rtI C hr hw dX0_readersOf_84
  · replace h := (if_neg c1).symm.trans h
    refine lv_aload_n hx hb dX0_readersOf_27 rfl (lv_at hl 0 rfl) ?_
    refine tGet (T := TX0) (N := 12) (ci := 0) C hw inX0 6 0 rfl (by decide) kf_RX0_31 rfl rfl rfl dX0_readersOf_28 ?_
    refine lv_iload hx hb dX0_readersOf_31 (lv_at hl 4 rfl) ?_
    obtain ⟨r2, ir2, er2, h⟩ := rd_some h
    refine tLd C hw 4 rfl ir2 er2 dX0_readersOf_33 ?_
    refine lv_iload_n hx hb dX0_readersOf_34 rfl (lv_at hl 1 rfl) ?_
    refine lv_icmp_ge (tgt := 50) hx hb dX0_readersOf_35 (by decide) (fun c3 => ?_) (fun c3 => ?_)
    · replace h := (if_pos c3).symm.trans h
      refine lv_aload_n hx hb dX0_readersOf_50 rfl (lv_at hl 0 rfl) ?_
      refine tGet (T := TX0) (N := 12) (ci := 0) C hw inX0 6 0 rfl (by decide) kf_RX0_31 rfl rfl rfl dX0_readersOf_51 ?_
      refine lv_iload hx hb dX0_readersOf_54 (lv_at hl 4 rfl) ?_
      obtain ⟨r4, ir4, er4, h⟩ := rd_some h
      refine tLd C hw 4 rfl ir4 er4 dX0_readersOf_56 ?_
      refine lv_iload_n hx hb dX0_readersOf_57 rfl (lv_at hl 1 rfl) ?_
      refine lv_isub hx hb dX0_readersOf_58 ?_
      exact kX0_readersOf_59 C hr v k18 hk18 (x_2, x_3, x_4, x_5, (r4 - x_2)) h _ _ _ hw (lv_sub hl [0, 1, 2, 3, 4] rfl)
    · replace h := (if_neg c3).symm.trans h
      refine lv_iload_n hx hb dX0_readersOf_38 rfl (lv_at hl 1 rfl) ?_
      refine lv_aload_n hx hb dX0_readersOf_39 rfl (lv_at hl 0 rfl) ?_
      refine tGet (T := TX0) (N := 12) (ci := 0) C hw inX0 6 0 rfl (by decide) kf_RX0_31 rfl rfl rfl dX0_readersOf_40 ?_
      refine lv_iload hx hb dX0_readersOf_43 (lv_at hl 4 rfl) ?_
      obtain ⟨r5, ir5, er5, h⟩ := rd_some h
      refine tLd C hw 4 rfl ir5 er5 dX0_readersOf_45 ?_
      refine lv_isub hx hb dX0_readersOf_46 ?_
      refine lv_goto (tgt := 59) hx hb dX0_readersOf_47 (by decide) ?_
      exact kX0_readersOf_59 C hr v k18 hk18 (x_2, x_3, x_4, x_5, (x_2 - r5)) h _ _ _ hw (lv_sub hl [0, 1, 2, 3, 4] rfl)
theorem lX0_readersOf_18 (C : Cx p s m args meth c cX0_readersOf 7 RX0 D cA g A) (hr : meth.sig.returnType = (some .int)) {z : Int32} (v : VS) (n : Nat) (x : (Int32) × (Int32) × (Int32) × (Int32)) (h : lp (fX0_readersOf_18 v) n x = some z) : GX0_readersOf_18 p l e s m args below meth c D cA A ad v z x := lp_ok (GX0_readersOf_18 p l e s m args below meth c D cA A ad v z) (fun kq hkq x h => kX0_readersOf_18 C hr v kq hkq x h) n x h
set_option maxHeartbeats 4000000 in
set_option maxRecDepth 100000 in
theorem kX0_readersOf (ad : Nat → Nat) {v : VS} {a_1 : Int32} {z : Int32} (h : fX0_readersOf v a_1 = some z) : MI l D cA g yX0_readersOf (Cond.code yX0_readersOf cX0_readersOf 7 (some .int) :: lw_g) rmX0_readersOf [.ref (ad 0), .int a_1] (wV cA ad v) z (wV cA ad v) := by
  intro sz
  refine Met.ofW (cc := cX0_readersOf) (maxL := 7) (ret := (some .int)) (by decide) rfl ?_
  intro p e s m args below meth c s₁ B hml hv
  obtain ⟨rfl, C, hr, hw⟩ := ent B hml hv
  generalize va_A (wV cA ad v) sz = A at C hw ⊢
  have hl := lv_entry ([.ref (ad 0), .int a_1]) (n := 7) (Nat.le_of_ble_eq_true rfl)
  rw [lg_entry_eq]
  generalize (lg_sl ([.ref (ad 0), .int a_1]) ++ List.replicate (7 - (lg_sl ([.ref (ad 0), .int a_1])).length) Slot.unset).toArray = ls at hl ⊢
  have hl : lv_has ls 7 [(0, .ref (ad 0)), (1, .int a_1)] := hl
  have hx := C.1.1
  have hb := C.1.2.1
  have h : (cl (fX0_burstOf v a_1) (fun r1 => cl (fX0_reachOf v a_1) (fun r2 => lp (fX0_readersOf_18 v) 5000 (r1, r2, 0, 0)))) = some z := h
  refine lv_aload_n hx hb dX0_readersOf_0 rfl (lv_at hl 0 rfl) ?_
  refine lv_iload_n hx hb dX0_readersOf_1 rfl (lv_at hl 1 rfl) ?_
  obtain ⟨r1, hr1, h⟩ := cl_some h
  refine cVi (ws2 := (wV cA ad v)) (As := [.int a_1]) (rest := []) C hw jnW (kX0_burstOf ad hr1) kl_RX0_58 ki_yX0_burstOf ks_yX0_burstOf kn_RX0 kc_yX0_burstOf ⟨rfl, rfl⟩ hdX0_burstOf ⟨Nat.le_of_ble_eq_true rfl, Nat.le_of_ble_eq_true rfl⟩ (ci := 0) (q0 := 0) rfl rfl rfl rfl hl.1 (Nat.le_of_ble_eq_true rfl) dX0_readersOf_2 ⟨Nat.zero_le _, Nat.zero_le _⟩ (fun H locs hw => ?_)
  refine lv_istore_n (lv' := [(2, .int r1), (0, .ref (ad 0)), (1, .int a_1)]) hx hb dX0_readersOf_5 rfl hl (by decide) rfl (fun ls hl => ?_)
  refine lv_aload_n hx hb dX0_readersOf_6 rfl (lv_at hl 1 rfl) ?_
  refine lv_iload_n hx hb dX0_readersOf_7 rfl (lv_at hl 2 rfl) ?_
  obtain ⟨r2, hr2, h⟩ := cl_some h
  refine cVi (ws2 := (wV cA ad v)) (As := [.int a_1]) (rest := []) C hw jnW (kX0_reachOf ad hr2) kl_RX0_62 ki_yX0_reachOf ks_yX0_reachOf kn_RX0 kc_yX0_reachOf ⟨rfl, rfl⟩ hdX0_reachOf ⟨Nat.le_of_ble_eq_true rfl, Nat.le_of_ble_eq_true rfl⟩ (ci := 0) (q0 := 0) rfl rfl rfl rfl hl.1 (Nat.le_of_ble_eq_true rfl) dX0_readersOf_8 ⟨Nat.zero_le _, Nat.zero_le _⟩ (fun H locs hw => ?_)
  refine lv_istore_n (lv' := [(3, .int r2), (2, .int r1), (0, .ref (ad 0)), (1, .int a_1)]) hx hb dX0_readersOf_11 rfl hl (by decide) rfl (fun ls hl => ?_)
  refine lv_iconst (v := 0) hx hb dX0_readersOf_12 (by decide) ?_
  refine lv_istore (lv' := [(4, .int 0), (3, .int r2), (2, .int r1), (0, .ref (ad 0)), (1, .int a_1)]) hx hb dX0_readersOf_13 hl (by decide) rfl (fun ls hl => ?_)
  refine lv_iconst (v := 0) hx hb dX0_readersOf_15 (by decide) ?_
  refine lv_istore (lv' := [(5, .int 0), (4, .int 0), (3, .int r2), (2, .int r1), (0, .ref (ad 0)), (1, .int a_1)]) hx hb dX0_readersOf_16 hl (by decide) rfl (fun ls hl => ?_)
  exact lX0_readersOf_18 C hr v 5000 (r1, r2, 0, 0) h _ _ _ hw (lv_sub hl [4, 3, 2, 1, 0] rfl)
abbrev rmX0_canSend : Room := { frames := 1, cells := 0, slots := 0, locals := 21 }
theorem hdX0_canSend : yX0_canSend.cls = RX0 ∧ yX0_canSend.cls ≠ "java/lang/invoke/MethodHandle" ∧ yX0_canSend.cls ≠ "java/lang/invoke/VarHandle" ∧ (parseMethodDescriptor yX0_canSend.desc).map (fun d => d.parameters.length) = some 1 := by decide +kernel
def fX0_canSend (v : VS) (a_1 : Int32) : Option Int32 := cl (fX0_hasRocket v a_1) (fun r1 => if r1 = 0 then some 0 else cl (fX0_isSent v a_1) (fun r3 => if r3 = 0 then cl (fX0_costOf v a_1) (fun r5 => if (v 9 0) < r5 then some 0 else some 1) else some 0))
set_option maxHeartbeats 4000000 in
set_option maxRecDepth 100000 in
theorem kX0_canSend (ad : Nat → Nat) {v : VS} {a_1 : Int32} {z : Int32} (h : fX0_canSend v a_1 = some z) : MI l D cA g yX0_canSend (Cond.code yX0_canSend cX0_canSend 2 (some .boolean) :: lw_g) rmX0_canSend [.ref (ad 0), .int a_1] (wV cA ad v) z (wV cA ad v) := by
  intro sz
  refine Met.ofW (cc := cX0_canSend) (maxL := 2) (ret := (some .boolean)) (by decide) rfl ?_
  intro p e s m args below meth c s₁ B hml hv
  obtain ⟨rfl, C, hr, hw⟩ := ent B hml hv
  generalize va_A (wV cA ad v) sz = A at C hw ⊢
  have hl := lv_entry ([.ref (ad 0), .int a_1]) (n := 2) (Nat.le_of_ble_eq_true rfl)
  rw [lg_entry_eq]
  generalize (lg_sl ([.ref (ad 0), .int a_1]) ++ List.replicate (2 - (lg_sl ([.ref (ad 0), .int a_1])).length) Slot.unset).toArray = ls at hl ⊢
  have hl : lv_has ls 2 [(0, .ref (ad 0)), (1, .int a_1)] := hl
  have hx := C.1.1
  have hb := C.1.2.1
  have h : (cl (fX0_hasRocket v a_1) (fun r1 => if r1 = 0 then some 0 else cl (fX0_isSent v a_1) (fun r3 => if r3 = 0 then cl (fX0_costOf v a_1) (fun r5 => if (v 9 0) < r5 then some 0 else some 1) else some 0))) = some z := h
  refine lv_aload_n hx hb dX0_canSend_0 rfl (lv_at hl 0 rfl) ?_
  refine lv_iload_n hx hb dX0_canSend_1 rfl (lv_at hl 1 rfl) ?_
  obtain ⟨r1, hr1, h⟩ := cl_some h
  refine cVi (ws2 := (wV cA ad v)) (As := [.int a_1]) (rest := []) C hw jnW (kX0_hasRocket ad hr1) kl_RX0_65 ki_yX0_hasRocket ks_yX0_hasRocket kn_RX0 kc_yX0_hasRocket ⟨rfl, rfl⟩ hdX0_hasRocket ⟨Nat.le_of_ble_eq_true rfl, Nat.le_of_ble_eq_true rfl⟩ (ci := 0) (q0 := 0) rfl rfl rfl rfl hl.1 (Nat.le_of_ble_eq_true rfl) dX0_canSend_2 ⟨Nat.zero_le _, Nat.zero_le _⟩ (fun H locs hw => ?_)
  refine lv_if_eq (tgt := 32) hx hb dX0_canSend_5 (by decide) (fun c2 => ?_) (fun c2 => ?_)
  · replace h := (if_pos c2).symm.trans h
    refine lv_iconst (v := 0) hx hb dX0_canSend_32 (by decide) ?_
    obtain rfl := some_e h
    exact rtZ C hr nz0 hw dX0_canSend_33
  · replace h := (if_neg c2).symm.trans h
    refine lv_aload_n hx hb dX0_canSend_8 rfl (lv_at hl 0 rfl) ?_
    refine lv_iload_n hx hb dX0_canSend_9 rfl (lv_at hl 1 rfl) ?_
    obtain ⟨r3, hr3, h⟩ := cl_some h
    refine cVi (ws2 := (wV cA ad v)) (As := [.int a_1]) (rest := []) C hw jnW (kX0_isSent ad hr3) kl_RX0_69 ki_yX0_isSent ks_yX0_isSent kn_RX0 kc_yX0_isSent ⟨rfl, rfl⟩ hdX0_isSent ⟨Nat.le_of_ble_eq_true rfl, Nat.le_of_ble_eq_true rfl⟩ (ci := 0) (q0 := 0) rfl rfl rfl rfl hl.1 (Nat.le_of_ble_eq_true rfl) dX0_canSend_10 ⟨Nat.zero_le _, Nat.zero_le _⟩ (fun H locs hw => ?_)
    refine lv_if_ne (tgt := 32) hx hb dX0_canSend_13 (by decide) (fun c4 => ?_) (fun c4 => ?_)
    · replace h := (if_neg c4).symm.trans h
      refine lv_iconst (v := 0) hx hb dX0_canSend_32 (by decide) ?_
      obtain rfl := some_e h
      exact rtZ C hr nz0 hw dX0_canSend_33
    · replace h := (if_pos c4).symm.trans h
      refine lv_aload_n hx hb dX0_canSend_16 rfl (lv_at hl 0 rfl) ?_
      refine lv_iload_n hx hb dX0_canSend_17 rfl (lv_at hl 1 rfl) ?_
      obtain ⟨r5, hr5, h⟩ := cl_some h
      refine cVi (ws2 := (wV cA ad v)) (As := [.int a_1]) (rest := []) C hw jnW (kX0_costOf ad hr5) kl_RX0_72 ki_yX0_costOf ks_yX0_costOf kn_RX0 kc_yX0_costOf ⟨rfl, rfl⟩ hdX0_costOf ⟨Nat.le_of_ble_eq_true rfl, Nat.le_of_ble_eq_true rfl⟩ (ci := 0) (q0 := 0) rfl rfl rfl rfl hl.1 (Nat.le_of_ble_eq_true rfl) dX0_canSend_18 ⟨Nat.zero_le _, Nat.zero_le _⟩ (fun H locs hw => ?_)
      refine lv_aload_n hx hb dX0_canSend_21 rfl (lv_at hl 0 rfl) ?_
      refine tGet (T := TX0) (N := 12) (ci := 0) C hw inX0 9 0 rfl (by decide) kf_RX0_40 rfl rfl rfl dX0_canSend_22 ?_
      refine lv_icmp_gt (tgt := 32) hx hb dX0_canSend_25 (by decide) (fun c6 => ?_) (fun c6 => ?_)
      · replace h := (if_pos c6).symm.trans h
        refine lv_iconst (v := 0) hx hb dX0_canSend_32 (by decide) ?_
        obtain rfl := some_e h
        exact rtZ C hr nz0 hw dX0_canSend_33
      · replace h := (if_neg c6).symm.trans h
        refine lv_iconst (v := 1) hx hb dX0_canSend_28 (by decide) ?_
        refine lv_goto (tgt := 33) hx hb dX0_canSend_29 (by decide) ?_
        obtain rfl := some_e h
        exact rtZ C hr nz1 hw dX0_canSend_33
abbrev rmX0_throwAway : Room := { frames := 0, cells := 0, slots := 0, locals := 0 }
theorem hdX0_throwAway : yX0_throwAway.cls = RX0 ∧ yX0_throwAway.cls ≠ "java/lang/invoke/MethodHandle" ∧ yX0_throwAway.cls ≠ "java/lang/invoke/VarHandle" ∧ (parseMethodDescriptor yX0_throwAway.desc).map (fun d => d.parameters.length) = some 1 := by decide +kernel
def fX0_throwAway (v : VS) (a_1 : Int32) : Option VS := bn (up v 4 (fun _ => ((v 4 0) ||| ((1 : Int32) <<< (a_1 &&& 31))))) (fun w1 => some w1)
set_option maxHeartbeats 4000000 in
set_option maxRecDepth 100000 in
theorem kX0_throwAway (ad : Nat → Nat) {v : VS} {a_1 : Int32} {z : VS} (h : fX0_throwAway v a_1 = some z) : MV l D cA g yX0_throwAway (Cond.code yX0_throwAway cX0_throwAway 2 none :: lw_g) rmX0_throwAway [.ref (ad 0), .int a_1] (wV cA ad v) (wV cA ad z) := by
  intro sz
  refine Met.ofW (cc := cX0_throwAway) (maxL := 2) (ret := none) (by decide) rfl ?_
  intro p e s m args below meth c s₁ B hml hv
  obtain ⟨rfl, C, hr, hw⟩ := ent B hml hv
  generalize va_A (wV cA ad v) sz = A at C hw ⊢
  have hl := lv_entry ([.ref (ad 0), .int a_1]) (n := 2) (Nat.le_of_ble_eq_true rfl)
  rw [lg_entry_eq]
  generalize (lg_sl ([.ref (ad 0), .int a_1]) ++ List.replicate (2 - (lg_sl ([.ref (ad 0), .int a_1])).length) Slot.unset).toArray = ls at hl ⊢
  have hl : lv_has ls 2 [(0, .ref (ad 0)), (1, .int a_1)] := hl
  have hx := C.1.1
  have hb := C.1.2.1
  have h : (bn (up v 4 (fun _ => ((v 4 0) ||| ((1 : Int32) <<< (a_1 &&& 31))))) (fun w1 => some w1)) = some z := h
  refine lv_aload_n hx hb dX0_throwAway_0 rfl (lv_at hl 0 rfl) ?_
  refine lv_dup hx hb dX0_throwAway_1 rfl ?_
  refine tGet (T := TX0) (N := 12) (ci := 0) C hw inX0 4 0 rfl (by decide) kf_RX0_25 rfl rfl rfl dX0_throwAway_2 ?_
  refine lv_iconst (v := 1) hx hb dX0_throwAway_5 (by decide) ?_
  refine lv_iload_n hx hb dX0_throwAway_6 rfl (lv_at hl 1 rfl) ?_
  refine lv_ishl hx hb dX0_throwAway_7 ?_
  refine lv_ior hx hb dX0_throwAway_8 ?_
  obtain ⟨w1, ew1⟩ : ∃ y : VS, y = up v 4 (fun _ => ((v 4 0) ||| ((1 : Int32) <<< (a_1 &&& 31)))) := ⟨_, rfl⟩
  replace h := bn_some h ew1
  refine tPut (T := TX0) (N := 12) (ci := 0) (ws2 := (wV cA ad w1)) C hw inX0 tyX0 tyX0_ok nmX0 4 0 rfl (by decide) kf_RX0_25 rfl rfl rfl rfl rfl (Nat.le_of_ble_eq_true rfl) (by rw [ew1]; rfl) dX0_throwAway_9 (fun H locs hw => ?_)
  obtain rfl := some_e h
  exact rtV C hr hw dX0_throwAway_12
abbrev rmX0_sendUp : Room := { frames := 2, cells := 0, slots := 0, locals := 50 }
theorem hdX0_sendUp : yX0_sendUp.cls = RX0 ∧ yX0_sendUp.cls ≠ "java/lang/invoke/MethodHandle" ∧ yX0_sendUp.cls ≠ "java/lang/invoke/VarHandle" ∧ (parseMethodDescriptor yX0_sendUp.desc).map (fun d => d.parameters.length) = some 2 := by decide +kernel
def GX0_sendUp_110 (p : Program) (l : Launch) (e : Env) (s : State) (m : MethodId) (args : Array Value) (below : List Frame) (meth : Method) (c : Code) (D : va_G) (cA : ClassId) (A : Nat → Prop) (ad : Nat → Nat) (z : VS) (x : (VS) × (Int32) × (Int32) × (Int32)) : Prop := ∀ (H : Heap) (locs : List Loc) (ls : Array Slot), Wd D A s.heap (wV cA ad x.1) H locs → lv_has ls 7 [(0, .ref (ad 0)), (1, .int x.2.1), (3, .int x.2.2.1), (4, .int x.2.2.2)] → W p l e rmX0_sendUp s m args below meth c H locs 0 0 (MQ below (QV D cA A (wV cA ad z)) args s 0 0 A) (F0 m 110 ls [])
def GX0_sendUp_77 (p : Program) (l : Launch) (e : Env) (s : State) (m : MethodId) (args : Array Value) (below : List Frame) (meth : Method) (c : Code) (D : va_G) (cA : ClassId) (A : Nat → Prop) (ad : Nat → Nat) (z : VS) (x : (VS) × (Int32) × (Int32) × (Int32) × (Int32) × (Int32)) : Prop := ∀ (H : Heap) (locs : List Loc) (ls : Array Slot), Wd D A s.heap (wV cA ad x.1) H locs → lv_has ls 7 [(0, .ref (ad 0)), (1, .int x.2.1), (3, .int x.2.2.1), (4, .int x.2.2.2.1), (5, .int x.2.2.2.2.1)] → W p l e rmX0_sendUp s m args below meth c H locs 0 0 (MQ below (QV D cA A (wV cA ad z)) args s 0 0 A) (F0 m 77 ls [.int x.2.2.2.2.2])
def GX0_sendUp_30 (p : Program) (l : Launch) (e : Env) (s : State) (m : MethodId) (args : Array Value) (below : List Frame) (meth : Method) (c : Code) (D : va_G) (cA : ClassId) (A : Nat → Prop) (ad : Nat → Nat) (z : VS) (x : (VS) × (Int32) × (Int32) × (Int32)) : Prop := ∀ (H : Heap) (locs : List Loc) (ls : Array Slot), Wd D A s.heap (wV cA ad x.1) H locs → lv_has ls 7 [(0, .ref (ad 0)), (1, .int x.2.1), (3, .int x.2.2.1), (4, .int x.2.2.2)] → W p l e rmX0_sendUp s m args below meth c H locs 0 0 (MQ below (QV D cA A (wV cA ad z)) args s 0 0 A) (F0 m 30 ls [])
def fX0_sendUp_110 (k30 : ((VS) × (Int32) × (Int32) × (Int32)) → Option VS) : ((VS) × (Int32) × (Int32) × (Int32)) → Option VS := fun x => match x with | (v, x_1, x_3, x_4) => bn (x_4 + 1) (fun x1 => k30 (v, x_1, x_3, x1))
def fX0_sendUp_77 (k30 : ((VS) × (Int32) × (Int32) × (Int32)) → Option VS) : ((VS) × (Int32) × (Int32) × (Int32) × (Int32) × (Int32)) → Option VS := fun x => match x with | (v, x_1, x_3, x_4, x_5, y_0) => if ((x_3 >>> (x_4 &&& 31)) &&& (1 : Int32)) = 1 then rd 30 (v 8) x_5 (fun r2 => if y_0 ≤ r2 then fX0_sendUp_110 k30 (v, x_1, x_3, x_4) else ck 30 x_5 (bn (up v 8 (upd (v 8) (x_5 : Int32).toNatClampNeg y_0)) (fun w4 => fX0_sendUp_110 k30 (w4, x_1, x_3, x_4)))) else fX0_sendUp_110 k30 (v, x_1, x_3, x_4)
def fX0_sendUp_30 (k30 : ((VS) × (Int32) × (Int32) × (Int32)) → Option VS) : ((VS) × (Int32) × (Int32) × (Int32)) → Option VS := fun x => match x with | (v, x_1, x_3, x_4) => if (v 5 0) ≤ x_4 then some v else rd 9 (v 3) x_1 (fun r2 => bn ((x_4 * (6 : Int32)) + r2) (fun x3 => rd 5 (v 7) x_4 (fun r4 => if r4 = 9 then fX0_sendUp_77 k30 (v, x_1, x_3, x_4, x3, 99) else rd 5 (v 7) x_4 (fun r6 => fX0_sendUp_77 k30 (v, x_1, x_3, x_4, x3, r6)))))
def fX0_sendUp (v : VS) (a_1 : Int32) (a_2 : Int32) : Option VS := cl (fX0_costOf v a_1) (fun r1 => bn (up v 9 (fun _ => ((v 9 0) - r1))) (fun w2 => cl (fX0_throwAway w2 a_1) (fun w3 => cl (fX0_readersOf w3 a_1) (fun r4 => bn (r4 &&& a_2) (fun x5 => lp (fX0_sendUp_30) 5000 (w3, a_1, x5, 0))))))
set_option maxHeartbeats 4000000 in
set_option maxRecDepth 100000 in
theorem kX0_sendUp_110 (C : Cx p s m args meth c cX0_sendUp 7 RX0 D cA g A) (hr : meth.sig.returnType = none) {z : VS} (k30 : ((VS) × (Int32) × (Int32) × (Int32)) → Option VS) (hk30 : ∀ x, k30 x = some z → GX0_sendUp_30 p l e s m args below meth c D cA A ad z x) (x : (VS) × (Int32) × (Int32) × (Int32)) (h : fX0_sendUp_110 k30 x = some z) : GX0_sendUp_110 p l e s m args below meth c D cA A ad z x := by
  obtain ⟨v, x_1, x_3, x_4⟩ := x
  intro H locs ls hw hl
  have hw : Wd D A s.heap (wV cA ad v) H locs := hw
  have hl : lv_has ls 7 [(0, .ref (ad 0)), (1, .int x_1), (3, .int x_3), (4, .int x_4)] := hl
  have hx := C.1.1
  have hb := C.1.2.1
  have h : (bn (x_4 + 1) (fun x1 => k30 (v, x_1, x_3, x1))) = some z := h
  obtain ⟨x1, ex1⟩ : ∃ y : Int32, y = x_4 + 1 := ⟨_, rfl⟩
  replace h := bn_some h ex1
  refine lv_iinc (v := x1) (lv' := [(4, .int x1), (0, .ref (ad 0)), (1, .int x_1), (3, .int x_3)]) hx hb dX0_sendUp_110 hl (k := 3) rfl (by rw [ex1]; rfl) (by decide) rfl (fun ls hl => ?_)
  refine lv_goto (tgt := 30) hx hb dX0_sendUp_113 (by decide) ?_
  exact hk30 (v, x_1, x_3, x1) h _ _ _ hw (lv_sub hl [1, 2, 3, 0] rfl)
set_option maxHeartbeats 4000000 in
set_option maxRecDepth 100000 in
theorem kX0_sendUp_77 (C : Cx p s m args meth c cX0_sendUp 7 RX0 D cA g A) (hr : meth.sig.returnType = none) {z : VS} (k30 : ((VS) × (Int32) × (Int32) × (Int32)) → Option VS) (hk30 : ∀ x, k30 x = some z → GX0_sendUp_30 p l e s m args below meth c D cA A ad z x) (x : (VS) × (Int32) × (Int32) × (Int32) × (Int32) × (Int32)) (h : fX0_sendUp_77 k30 x = some z) : GX0_sendUp_77 p l e s m args below meth c D cA A ad z x := by
  obtain ⟨v, x_1, x_3, x_4, x_5, y_0⟩ := x
  intro H locs ls hw hl
  have hw : Wd D A s.heap (wV cA ad v) H locs := hw
  have hl : lv_has ls 7 [(0, .ref (ad 0)), (1, .int x_1), (3, .int x_3), (4, .int x_4), (5, .int x_5)] := hl
  show W p l e rmX0_sendUp s m args below meth c H locs 0 0 (MQ below (QV D cA A (wV cA ad z)) args s 0 0 A) (F0 m 77 ls [.int y_0])
  have hx := C.1.1
  have hb := C.1.2.1
  have h : (if ((x_3 >>> (x_4 &&& 31)) &&& (1 : Int32)) = 1 then rd 30 (v 8) x_5 (fun r2 => if y_0 ≤ r2 then fX0_sendUp_110 k30 (v, x_1, x_3, x_4) else ck 30 x_5 (bn (up v 8 (upd (v 8) (x_5 : Int32).toNatClampNeg y_0)) (fun w4 => fX0_sendUp_110 k30 (w4, x_1, x_3, x_4)))) else fX0_sendUp_110 k30 (v, x_1, x_3, x_4)) = some z := h
  refine lv_istore (lv' := [(6, .int y_0), (0, .ref (ad 0)), (1, .int x_1), (3, .int x_3), (4, .int x_4), (5, .int x_5)]) hx hb dX0_sendUp_77 hl (by decide) rfl (fun ls hl => ?_)
  refine lv_iload_n hx hb dX0_sendUp_79 rfl (lv_at hl 3 rfl) ?_
  refine lv_iload hx hb dX0_sendUp_80 (lv_at hl 4 rfl) ?_
  refine lv_ishr hx hb dX0_sendUp_82 ?_
  refine lv_iconst (v := 1) hx hb dX0_sendUp_83 (by decide) ?_
  refine lv_iand hx hb dX0_sendUp_84 ?_
  refine lv_iconst (v := 1) hx hb dX0_sendUp_85 (by decide) ?_
  refine lv_icmp_ne (tgt := 110) hx hb dX0_sendUp_86 (by decide) (fun c1 => ?_) (fun c1 => ?_)
  · replace h := (if_neg c1).symm.trans h
    exact kX0_sendUp_110 C hr k30 hk30 (v, x_1, x_3, x_4) h _ _ _ hw (lv_sub hl [1, 2, 3, 4] rfl)
  · replace h := (if_pos c1).symm.trans h
    refine lv_iload hx hb dX0_sendUp_89 (lv_at hl 0 rfl) ?_
    refine lv_aload_n hx hb dX0_sendUp_91 rfl (lv_at hl 1 rfl) ?_
    refine tGet (T := TX0) (N := 12) (ci := 0) C hw inX0 8 0 rfl (by decide) kf_RX0_37 rfl rfl rfl dX0_sendUp_92 ?_
    refine lv_iload hx hb dX0_sendUp_95 (lv_at hl 5 rfl) ?_
    obtain ⟨r2, ir2, er2, h⟩ := rd_some h
    refine tLd C hw 6 rfl ir2 er2 dX0_sendUp_97 ?_
    refine lv_icmp_le (tgt := 110) hx hb dX0_sendUp_98 (by decide) (fun c3 => ?_) (fun c3 => ?_)
    · replace h := (if_pos c3).symm.trans h
      exact kX0_sendUp_110 C hr k30 hk30 (v, x_1, x_3, x_4) h _ _ _ hw (lv_sub hl [1, 2, 3, 4] rfl)
    · replace h := (if_neg c3).symm.trans h
      refine lv_aload_n hx hb dX0_sendUp_101 rfl (lv_at hl 1 rfl) ?_
      refine tGet (T := TX0) (N := 12) (ci := 0) C hw inX0 8 0 rfl (by decide) kf_RX0_37 rfl rfl rfl dX0_sendUp_102 ?_
      refine lv_iload hx hb dX0_sendUp_105 (lv_at hl 5 rfl) ?_
      refine lv_iload hx hb dX0_sendUp_107 (lv_at hl 0 rfl) ?_
      obtain ⟨iw4, h⟩ := ck_some h
      obtain ⟨w4, ew4⟩ : ∃ y : VS, y = up v 8 (upd (v 8) (x_5 : Int32).toNatClampNeg y_0) := ⟨_, rfl⟩
      replace h := bn_some h ew4
      refine tSt (ws2 := (wV cA ad w4)) C hw 6 rfl iw4 (by rw [ew4]; rfl) dX0_sendUp_109 (fun H locs hw => ?_)
      exact kX0_sendUp_110 C hr k30 hk30 (w4, x_1, x_3, x_4) h _ _ _ hw (lv_sub hl [1, 2, 3, 4] rfl)
set_option maxHeartbeats 4000000 in
set_option maxRecDepth 100000 in
theorem kX0_sendUp_30 (C : Cx p s m args meth c cX0_sendUp 7 RX0 D cA g A) (hr : meth.sig.returnType = none) {z : VS} (k30 : ((VS) × (Int32) × (Int32) × (Int32)) → Option VS) (hk30 : ∀ x, k30 x = some z → GX0_sendUp_30 p l e s m args below meth c D cA A ad z x) (x : (VS) × (Int32) × (Int32) × (Int32)) (h : fX0_sendUp_30 k30 x = some z) : GX0_sendUp_30 p l e s m args below meth c D cA A ad z x := by
  obtain ⟨v, x_1, x_3, x_4⟩ := x
  intro H locs ls hw hl
  have hw : Wd D A s.heap (wV cA ad v) H locs := hw
  have hl : lv_has ls 7 [(0, .ref (ad 0)), (1, .int x_1), (3, .int x_3), (4, .int x_4)] := hl
  have hx := C.1.1
  have hb := C.1.2.1
  have h : (if (v 5 0) ≤ x_4 then some v else rd 9 (v 3) x_1 (fun r2 => bn ((x_4 * (6 : Int32)) + r2) (fun x3 => rd 5 (v 7) x_4 (fun r4 => if r4 = 9 then fX0_sendUp_77 k30 (v, x_1, x_3, x_4, x3, 99) else rd 5 (v 7) x_4 (fun r6 => fX0_sendUp_77 k30 (v, x_1, x_3, x_4, x3, r6)))))) = some z := h
  refine lv_iload hx hb dX0_sendUp_30 (lv_at hl 3 rfl) ?_
  refine lv_aload_n hx hb dX0_sendUp_32 rfl (lv_at hl 0 rfl) ?_
  refine tGet (T := TX0) (N := 12) (ci := 0) C hw inX0 5 0 rfl (by decide) kf_RX0_28 rfl rfl rfl dX0_sendUp_33 ?_
  refine lv_icmp_ge (tgt := 116) hx hb dX0_sendUp_36 (by decide) (fun c1 => ?_) (fun c1 => ?_)
  · replace h := (if_pos c1).symm.trans h
    obtain rfl := some_e h
    exact rtV C hr hw dX0_sendUp_116
  · replace h := (if_neg c1).symm.trans h
    refine lv_iload hx hb dX0_sendUp_39 (lv_at hl 3 rfl) ?_
    refine lv_bipush (v := 6) hx hb dX0_sendUp_41 (by decide) ?_
    refine lv_imul hx hb dX0_sendUp_43 ?_
    refine lv_aload_n hx hb dX0_sendUp_44 rfl (lv_at hl 0 rfl) ?_
    refine tGet (T := TX0) (N := 12) (ci := 0) C hw inX0 3 0 rfl (by decide) kf_RX0_22 rfl rfl rfl dX0_sendUp_45 ?_
    refine lv_iload_n hx hb dX0_sendUp_48 rfl (lv_at hl 1 rfl) ?_
    obtain ⟨r2, ir2, er2, h⟩ := rd_some h
    refine tLd C hw 3 rfl ir2 er2 dX0_sendUp_49 ?_
    refine lv_iadd hx hb dX0_sendUp_50 ?_
    refine lv_topi (fun x3 ex3 => ?_)
    replace h := bn_some h ex3
    refine lv_istore (lv' := [(5, .int x3), (0, .ref (ad 0)), (1, .int x_1), (3, .int x_3), (4, .int x_4)]) hx hb dX0_sendUp_51 hl (by decide) rfl (fun ls hl => ?_)
    refine lv_aload_n hx hb dX0_sendUp_53 rfl (lv_at hl 1 rfl) ?_
    refine tGet (T := TX0) (N := 12) (ci := 0) C hw inX0 7 0 rfl (by decide) kf_RX0_34 rfl rfl rfl dX0_sendUp_54 ?_
    refine lv_iload hx hb dX0_sendUp_57 (lv_at hl 4 rfl) ?_
    obtain ⟨r4, ir4, er4, h⟩ := rd_some h
    refine tLd C hw 5 rfl ir4 er4 dX0_sendUp_59 ?_
    refine lv_bipush (v := 9) hx hb dX0_sendUp_60 (by decide) ?_
    refine lv_icmp_ne (tgt := 70) hx hb dX0_sendUp_62 (by decide) (fun c5 => ?_) (fun c5 => ?_)
    · replace h := (if_neg c5).symm.trans h
      refine lv_aload_n hx hb dX0_sendUp_70 rfl (lv_at hl 1 rfl) ?_
      refine tGet (T := TX0) (N := 12) (ci := 0) C hw inX0 7 0 rfl (by decide) kf_RX0_34 rfl rfl rfl dX0_sendUp_71 ?_
      refine lv_iload hx hb dX0_sendUp_74 (lv_at hl 4 rfl) ?_
      obtain ⟨r6, ir6, er6, h⟩ := rd_some h
      refine tLd C hw 5 rfl ir6 er6 dX0_sendUp_76 ?_
      exact kX0_sendUp_77 C hr k30 hk30 (v, x_1, x_3, x_4, x3, r6) h _ _ _ hw (lv_sub hl [1, 2, 3, 4, 0] rfl)
    · replace h := (if_pos c5).symm.trans h
      refine lv_bipush (v := 99) hx hb dX0_sendUp_65 (by decide) ?_
      refine lv_goto (tgt := 77) hx hb dX0_sendUp_67 (by decide) ?_
      exact kX0_sendUp_77 C hr k30 hk30 (v, x_1, x_3, x_4, x3, 99) h _ _ _ hw (lv_sub hl [1, 2, 3, 4, 0] rfl)
theorem lX0_sendUp_30 (C : Cx p s m args meth c cX0_sendUp 7 RX0 D cA g A) (hr : meth.sig.returnType = none) {z : VS} (n : Nat) (x : (VS) × (Int32) × (Int32) × (Int32)) (h : lp (fX0_sendUp_30) n x = some z) : GX0_sendUp_30 p l e s m args below meth c D cA A ad z x := lp_ok (GX0_sendUp_30 p l e s m args below meth c D cA A ad z) (fun kq hkq x h => kX0_sendUp_30 C hr kq hkq x h) n x h
set_option maxHeartbeats 4000000 in
set_option maxRecDepth 100000 in
theorem kX0_sendUp (ad : Nat → Nat) {v : VS} {a_1 : Int32} {a_2 : Int32} {z : VS} (h : fX0_sendUp v a_1 a_2 = some z) : MV l D cA g yX0_sendUp (Cond.code yX0_sendUp cX0_sendUp 7 none :: lw_g) rmX0_sendUp [.ref (ad 0), .int a_1, .int a_2] (wV cA ad v) (wV cA ad z) := by
  intro sz
  refine Met.ofW (cc := cX0_sendUp) (maxL := 7) (ret := none) (by decide) rfl ?_
  intro p e s m args below meth c s₁ B hml hv
  obtain ⟨rfl, C, hr, hw⟩ := ent B hml hv
  generalize va_A (wV cA ad v) sz = A at C hw ⊢
  have hl := lv_entry ([.ref (ad 0), .int a_1, .int a_2]) (n := 7) (Nat.le_of_ble_eq_true rfl)
  rw [lg_entry_eq]
  generalize (lg_sl ([.ref (ad 0), .int a_1, .int a_2]) ++ List.replicate (7 - (lg_sl ([.ref (ad 0), .int a_1, .int a_2])).length) Slot.unset).toArray = ls at hl ⊢
  have hl : lv_has ls 7 [(0, .ref (ad 0)), (1, .int a_1), (2, .int a_2)] := hl
  have hx := C.1.1
  have hb := C.1.2.1
  have h : (cl (fX0_costOf v a_1) (fun r1 => bn (up v 9 (fun _ => ((v 9 0) - r1))) (fun w2 => cl (fX0_throwAway w2 a_1) (fun w3 => cl (fX0_readersOf w3 a_1) (fun r4 => bn (r4 &&& a_2) (fun x5 => lp (fX0_sendUp_30) 5000 (w3, a_1, x5, 0))))))) = some z := h
  refine lv_aload_n hx hb dX0_sendUp_0 rfl (lv_at hl 0 rfl) ?_
  refine lv_dup hx hb dX0_sendUp_1 rfl ?_
  refine tGet (T := TX0) (N := 12) (ci := 0) C hw inX0 9 0 rfl (by decide) kf_RX0_40 rfl rfl rfl dX0_sendUp_2 ?_
  refine lv_aload_n hx hb dX0_sendUp_5 rfl (lv_at hl 0 rfl) ?_
  refine lv_iload_n hx hb dX0_sendUp_6 rfl (lv_at hl 1 rfl) ?_
  obtain ⟨r1, hr1, h⟩ := cl_some h
  refine cVi (ws2 := (wV cA ad v)) (As := [.int a_1]) (rest := [.int (v 9 0), .ref (ad 0)]) C hw jnW (kX0_costOf ad hr1) kl_RX0_72 ki_yX0_costOf ks_yX0_costOf kn_RX0 kc_yX0_costOf ⟨rfl, rfl⟩ hdX0_costOf ⟨Nat.le_of_ble_eq_true rfl, Nat.le_of_ble_eq_true rfl⟩ (ci := 0) (q0 := 0) rfl rfl rfl rfl hl.1 (Nat.le_of_ble_eq_true rfl) dX0_sendUp_7 ⟨Nat.zero_le _, Nat.zero_le _⟩ (fun H locs hw => ?_)
  refine lv_isub hx hb dX0_sendUp_10 ?_
  obtain ⟨w2, ew2⟩ : ∃ y : VS, y = up v 9 (fun _ => ((v 9 0) - r1)) := ⟨_, rfl⟩
  replace h := bn_some h ew2
  refine tPut (T := TX0) (N := 12) (ci := 0) (ws2 := (wV cA ad w2)) C hw inX0 tyX0 tyX0_ok nmX0 9 0 rfl (by decide) kf_RX0_40 rfl rfl rfl rfl rfl (Nat.le_of_ble_eq_true rfl) (by rw [ew2]; rfl) dX0_sendUp_11 (fun H locs hw => ?_)
  refine lv_aload_n hx hb dX0_sendUp_14 rfl (lv_at hl 0 rfl) ?_
  refine lv_iload_n hx hb dX0_sendUp_15 rfl (lv_at hl 1 rfl) ?_
  obtain ⟨w3, hw3, h⟩ := cl_some h
  refine cVv (ws2 := (wV cA ad w3)) (As := [.int a_1]) (rest := []) C hw jnW (kX0_throwAway ad hw3) kl_RX0_75 ki_yX0_throwAway ks_yX0_throwAway kn_RX0 kc_yX0_throwAway ⟨rfl, rfl⟩ hdX0_throwAway ⟨Nat.le_of_ble_eq_true rfl, Nat.le_of_ble_eq_true rfl⟩ (ci := 0) (q0 := 0) rfl rfl rfl rfl hl.1 (Nat.le_of_ble_eq_true rfl) dX0_sendUp_16 ⟨Nat.zero_le _, Nat.zero_le _⟩ (fun H locs hw => ?_)
  refine lv_aload_n hx hb dX0_sendUp_19 rfl (lv_at hl 0 rfl) ?_
  refine lv_iload_n hx hb dX0_sendUp_20 rfl (lv_at hl 1 rfl) ?_
  obtain ⟨r4, hr4, h⟩ := cl_some h
  refine cVi (ws2 := (wV cA ad w3)) (As := [.int a_1]) (rest := []) C hw jnW (kX0_readersOf ad hr4) kl_RX0_79 ki_yX0_readersOf ks_yX0_readersOf kn_RX0 kc_yX0_readersOf ⟨rfl, rfl⟩ hdX0_readersOf ⟨Nat.le_of_ble_eq_true rfl, Nat.le_of_ble_eq_true rfl⟩ (ci := 0) (q0 := 0) rfl rfl rfl rfl hl.1 (Nat.le_of_ble_eq_true rfl) dX0_sendUp_21 ⟨Nat.zero_le _, Nat.zero_le _⟩ (fun H locs hw => ?_)
  refine lv_iload_n hx hb dX0_sendUp_24 rfl (lv_at hl 2 rfl) ?_
  refine lv_iand hx hb dX0_sendUp_25 ?_
  refine lv_topi (fun x5 ex5 => ?_)
  replace h := bn_some h ex5
  refine lv_istore_n (lv' := [(3, .int x5), (0, .ref (ad 0)), (1, .int a_1), (2, .int a_2)]) hx hb dX0_sendUp_26 rfl hl (by decide) rfl (fun ls hl => ?_)
  refine lv_iconst (v := 0) hx hb dX0_sendUp_27 (by decide) ?_
  refine lv_istore (lv' := [(4, .int 0), (3, .int x5), (0, .ref (ad 0)), (1, .int a_1), (2, .int a_2)]) hx hb dX0_sendUp_28 hl (by decide) rfl (fun ls hl => ?_)
  exact lX0_sendUp_30 C hr 5000 (w3, a_1, x5, 0) h _ _ _ hw (lv_sub hl [2, 3, 1, 0] rfl)
abbrev rmX0_putBack : Room := { frames := 0, cells := 0, slots := 0, locals := 0 }
theorem hdX0_putBack : yX0_putBack.cls = RX0 ∧ yX0_putBack.cls ≠ "java/lang/invoke/MethodHandle" ∧ yX0_putBack.cls ≠ "java/lang/invoke/VarHandle" ∧ (parseMethodDescriptor yX0_putBack.desc).map (fun d => d.parameters.length) = some 1 := by decide +kernel
def fX0_putBack (v : VS) (a_1 : Int32) : Option VS := bn (up v 4 (fun _ => ((v 4 0) &&& (((1 : Int32) <<< (a_1 &&& 31)) ^^^ (-1 : Int32))))) (fun w1 => some w1)
set_option maxHeartbeats 4000000 in
set_option maxRecDepth 100000 in
theorem kX0_putBack (ad : Nat → Nat) {v : VS} {a_1 : Int32} {z : VS} (h : fX0_putBack v a_1 = some z) : MV l D cA g yX0_putBack (Cond.code yX0_putBack cX0_putBack 2 none :: lw_g) rmX0_putBack [.ref (ad 0), .int a_1] (wV cA ad v) (wV cA ad z) := by
  intro sz
  refine Met.ofW (cc := cX0_putBack) (maxL := 2) (ret := none) (by decide) rfl ?_
  intro p e s m args below meth c s₁ B hml hv
  obtain ⟨rfl, C, hr, hw⟩ := ent B hml hv
  generalize va_A (wV cA ad v) sz = A at C hw ⊢
  have hl := lv_entry ([.ref (ad 0), .int a_1]) (n := 2) (Nat.le_of_ble_eq_true rfl)
  rw [lg_entry_eq]
  generalize (lg_sl ([.ref (ad 0), .int a_1]) ++ List.replicate (2 - (lg_sl ([.ref (ad 0), .int a_1])).length) Slot.unset).toArray = ls at hl ⊢
  have hl : lv_has ls 2 [(0, .ref (ad 0)), (1, .int a_1)] := hl
  have hx := C.1.1
  have hb := C.1.2.1
  have h : (bn (up v 4 (fun _ => ((v 4 0) &&& (((1 : Int32) <<< (a_1 &&& 31)) ^^^ (-1 : Int32))))) (fun w1 => some w1)) = some z := h
  refine lv_aload_n hx hb dX0_putBack_0 rfl (lv_at hl 0 rfl) ?_
  refine lv_dup hx hb dX0_putBack_1 rfl ?_
  refine tGet (T := TX0) (N := 12) (ci := 0) C hw inX0 4 0 rfl (by decide) kf_RX0_25 rfl rfl rfl dX0_putBack_2 ?_
  refine lv_iconst (v := 1) hx hb dX0_putBack_5 (by decide) ?_
  refine lv_iload_n hx hb dX0_putBack_6 rfl (lv_at hl 1 rfl) ?_
  refine lv_ishl hx hb dX0_putBack_7 ?_
  refine lv_iconst (v := (-1)) hx hb dX0_putBack_8 (by decide) ?_
  refine lv_ixor hx hb dX0_putBack_9 ?_
  refine lv_iand hx hb dX0_putBack_10 ?_
  obtain ⟨w1, ew1⟩ : ∃ y : VS, y = up v 4 (fun _ => ((v 4 0) &&& (((1 : Int32) <<< (a_1 &&& 31)) ^^^ (-1 : Int32)))) := ⟨_, rfl⟩
  replace h := bn_some h ew1
  refine tPut (T := TX0) (N := 12) (ci := 0) (ws2 := (wV cA ad w1)) C hw inX0 tyX0 tyX0_ok nmX0 4 0 rfl (by decide) kf_RX0_25 rfl rfl rfl rfl rfl (Nat.le_of_ble_eq_true rfl) (by rw [ew1]; rfl) dX0_putBack_11 (fun H locs hw => ?_)
  obtain rfl := some_e h
  exact rtV C hr hw dX0_putBack_14
abbrev rmX0_upNext : Room := { frames := 2, cells := 0, slots := 0, locals := 42 }
theorem hdX0_upNext : yX0_upNext.cls = RX0 ∧ yX0_upNext.cls ≠ "java/lang/invoke/MethodHandle" ∧ yX0_upNext.cls ≠ "java/lang/invoke/VarHandle" ∧ (parseMethodDescriptor yX0_upNext.desc).map (fun d => d.parameters.length) = some 0 := by decide +kernel
def GX0_upNext_2 (p : Program) (l : Launch) (e : Env) (s : State) (m : MethodId) (args : Array Value) (below : List Frame) (meth : Method) (c : Code) (D : va_G) (cA : ClassId) (A : Nat → Prop) (ad : Nat → Nat) (v : VS) (z : Int32) (x : (Int32)) : Prop := ∀ (H : Heap) (locs : List Loc) (ls : Array Slot), Wd D A s.heap (wV cA ad v) H locs → lv_has ls 2 [(0, .ref (ad 0)), (1, .int x)] → W p l e rmX0_upNext s m args below meth c H locs 0 0 (MQ below (QI D cA A z (wV cA ad v)) args s 0 0 A) (F0 m 2 ls [])
def fX0_upNext_2 (v : VS) (k2 : ((Int32)) → Option Int32) : ((Int32)) → Option Int32 := fun x_1 => if (v 0 0) ≤ x_1 then some (-9) else cl (fX0_canSend v x_1) (fun r2 => if r2 = 0 then bn (x_1 + 1) (fun x4 => k2 x4) else some x_1)
def fX0_upNext (v : VS) : Option Int32 := lp (fX0_upNext_2 v) 5000 0
set_option maxHeartbeats 4000000 in
set_option maxRecDepth 100000 in
theorem kX0_upNext_2 (C : Cx p s m args meth c cX0_upNext 2 RX0 D cA g A) (hr : meth.sig.returnType = (some .int)) {z : Int32} (v : VS) (k2 : ((Int32)) → Option Int32) (hk2 : ∀ x, k2 x = some z → GX0_upNext_2 p l e s m args below meth c D cA A ad v z x) (x : (Int32)) (h : fX0_upNext_2 v k2 x = some z) : GX0_upNext_2 p l e s m args below meth c D cA A ad v z x := by
  obtain ⟨x_1, rfl⟩ : ∃ y, y = x := ⟨_, rfl⟩
  intro H locs ls hw hl
  have hw : Wd D A s.heap (wV cA ad v) H locs := hw
  have hl : lv_has ls 2 [(0, .ref (ad 0)), (1, .int x_1)] := hl
  have hx := C.1.1
  have hb := C.1.2.1
  have h : (if (v 0 0) ≤ x_1 then some (-9) else cl (fX0_canSend v x_1) (fun r2 => if r2 = 0 then bn (x_1 + 1) (fun x4 => k2 x4) else some x_1)) = some z := h
  refine lv_iload_n hx hb dX0_upNext_2 rfl (lv_at hl 1 rfl) ?_
  refine lv_aload_n hx hb dX0_upNext_3 rfl (lv_at hl 0 rfl) ?_
  refine tGet (T := TX0) (N := 12) (ci := 0) C hw inX0 0 0 rfl (by decide) kf_RX0_9 rfl rfl rfl dX0_upNext_4 ?_
  refine lv_icmp_ge (tgt := 26) hx hb dX0_upNext_7 (by decide) (fun c1 => ?_) (fun c1 => ?_)
  · replace h := (if_pos c1).symm.trans h
    refine lv_bipush (v := (-9)) hx hb dX0_upNext_26 (by decide) ?_
    obtain rfl := some_e h
    exact rtI C hr hw dX0_upNext_28
  · replace h := (if_neg c1).symm.trans h
    refine lv_aload_n hx hb dX0_upNext_10 rfl (lv_at hl 0 rfl) ?_
    refine lv_iload_n hx hb dX0_upNext_11 rfl (lv_at hl 1 rfl) ?_
    obtain ⟨r2, hr2, h⟩ := cl_some h
    refine cVi (ws2 := (wV cA ad v)) (As := [.int x_1]) (rest := []) C hw jnW (kX0_canSend ad hr2) kl_RX0_82 ki_yX0_canSend ks_yX0_canSend kn_RX0 kc_yX0_canSend ⟨rfl, rfl⟩ hdX0_canSend ⟨Nat.le_of_ble_eq_true rfl, Nat.le_of_ble_eq_true rfl⟩ (ci := 0) (q0 := 0) rfl rfl rfl rfl hl.1 (Nat.le_of_ble_eq_true rfl) dX0_upNext_12 ⟨Nat.zero_le _, Nat.zero_le _⟩ (fun H locs hw => ?_)
    refine lv_if_eq (tgt := 20) hx hb dX0_upNext_15 (by decide) (fun c3 => ?_) (fun c3 => ?_)
    · replace h := (if_pos c3).symm.trans h
      obtain ⟨x4, ex4⟩ : ∃ y : Int32, y = x_1 + 1 := ⟨_, rfl⟩
      replace h := bn_some h ex4
      refine lv_iinc (v := x4) (lv' := [(1, .int x4), (0, .ref (ad 0))]) hx hb dX0_upNext_20 hl (k := 1) rfl (by rw [ex4]; rfl) (by decide) rfl (fun ls hl => ?_)
      refine lv_goto (tgt := 2) hx hb dX0_upNext_23 (by decide) ?_
      exact hk2 x4 h _ _ _ hw (lv_sub hl [1, 0] rfl)
    · replace h := (if_neg c3).symm.trans h
      refine lv_iload_n hx hb dX0_upNext_18 rfl (lv_at hl 1 rfl) ?_
      obtain rfl := some_e h
      exact rtI C hr hw dX0_upNext_19
theorem lX0_upNext_2 (C : Cx p s m args meth c cX0_upNext 2 RX0 D cA g A) (hr : meth.sig.returnType = (some .int)) {z : Int32} (v : VS) (n : Nat) (x : (Int32)) (h : lp (fX0_upNext_2 v) n x = some z) : GX0_upNext_2 p l e s m args below meth c D cA A ad v z x := lp_ok (GX0_upNext_2 p l e s m args below meth c D cA A ad v z) (fun kq hkq x h => kX0_upNext_2 C hr v kq hkq x h) n x h
set_option maxHeartbeats 4000000 in
set_option maxRecDepth 100000 in
theorem kX0_upNext (ad : Nat → Nat) {v : VS} {z : Int32} (h : fX0_upNext v = some z) : MI l D cA g yX0_upNext (Cond.code yX0_upNext cX0_upNext 2 (some .int) :: lw_g) rmX0_upNext [.ref (ad 0)] (wV cA ad v) z (wV cA ad v) := by
  intro sz
  refine Met.ofW (cc := cX0_upNext) (maxL := 2) (ret := (some .int)) (by decide) rfl ?_
  intro p e s m args below meth c s₁ B hml hv
  obtain ⟨rfl, C, hr, hw⟩ := ent B hml hv
  generalize va_A (wV cA ad v) sz = A at C hw ⊢
  have hl := lv_entry ([.ref (ad 0)]) (n := 2) (Nat.le_of_ble_eq_true rfl)
  rw [lg_entry_eq]
  generalize (lg_sl ([.ref (ad 0)]) ++ List.replicate (2 - (lg_sl ([.ref (ad 0)])).length) Slot.unset).toArray = ls at hl ⊢
  have hl : lv_has ls 2 [(0, .ref (ad 0))] := hl
  have hx := C.1.1
  have hb := C.1.2.1
  have h : (lp (fX0_upNext_2 v) 5000 0) = some z := h
  refine lv_iconst (v := 0) hx hb dX0_upNext_0 (by decide) ?_
  refine lv_istore_n (lv' := [(1, .int 0), (0, .ref (ad 0))]) hx hb dX0_upNext_1 rfl hl (by decide) rfl (fun ls hl => ?_)
  exact lX0_upNext_2 C hr v 5000 0 h _ _ _ hw (lv_sub hl [1, 0] rfl)
abbrev rmX0_forget : Room := { frames := 0, cells := 0, slots := 0, locals := 0 }
theorem hdX0_forget : yX0_forget.cls = RX0 ∧ yX0_forget.cls ≠ "java/lang/invoke/MethodHandle" ∧ yX0_forget.cls ≠ "java/lang/invoke/VarHandle" ∧ (parseMethodDescriptor yX0_forget.desc).map (fun d => d.parameters.length) = some 0 := by decide +kernel
def GX0_forget_43 (p : Program) (l : Launch) (e : Env) (s : State) (m : MethodId) (args : Array Value) (below : List Frame) (meth : Method) (c : Code) (D : va_G) (cA : ClassId) (A : Nat → Prop) (ad : Nat → Nat) (z : VS) (x : (VS) × (Int32)) : Prop := ∀ (H : Heap) (locs : List Loc) (ls : Array Slot), Wd D A s.heap (wV cA ad x.1) H locs → lv_has ls 2 [(0, .ref (ad 0)), (1, .int x.2)] → W p l e rmX0_forget s m args below meth c H locs 0 0 (MQ below (QV D cA A (wV cA ad z)) args s 0 0 A) (F0 m 43 ls [])
def GX0_forget_2 (p : Program) (l : Launch) (e : Env) (s : State) (m : MethodId) (args : Array Value) (below : List Frame) (meth : Method) (c : Code) (D : va_G) (cA : ClassId) (A : Nat → Prop) (ad : Nat → Nat) (z : VS) (x : (VS) × (Int32)) : Prop := ∀ (H : Heap) (locs : List Loc) (ls : Array Slot), Wd D A s.heap (wV cA ad x.1) H locs → lv_has ls 2 [(0, .ref (ad 0)), (1, .int x.2)] → W p l e rmX0_forget s m args below meth c H locs 0 0 (MQ below (QV D cA A (wV cA ad z)) args s 0 0 A) (F0 m 2 ls [])
def fX0_forget_43 (k2 : ((VS) × (Int32)) → Option VS) : ((VS) × (Int32)) → Option VS := fun x => match x with | (v, x_1) => bn (x_1 + 1) (fun x1 => k2 (v, x1))
def fX0_forget_2 (k2 : ((VS) × (Int32)) → Option VS) : ((VS) × (Int32)) → Option VS := fun x => match x with | (v, x_1) => if ((v 5 0) * (6 : Int32)) ≤ x_1 then some v else rd 30 (v 8) x_1 (fun r2 => if r2 ≤ 0 then fX0_forget_43 k2 (v, x_1) else rd 30 (v 8) x_1 (fun r4 => if r4 = 99 then fX0_forget_43 k2 (v, x_1) else rd 30 (v 8) x_1 (fun r6 => ck 30 x_1 (bn (up v 8 (upd (v 8) (x_1 : Int32).toNatClampNeg (r6 - (1 : Int32)))) (fun w7 => fX0_forget_43 k2 (w7, x_1))))))
def fX0_forget (v : VS) : Option VS := lp (fX0_forget_2) 5000 (v, 0)
set_option maxHeartbeats 4000000 in
set_option maxRecDepth 100000 in
theorem kX0_forget_43 (C : Cx p s m args meth c cX0_forget 2 RX0 D cA g A) (hr : meth.sig.returnType = none) {z : VS} (k2 : ((VS) × (Int32)) → Option VS) (hk2 : ∀ x, k2 x = some z → GX0_forget_2 p l e s m args below meth c D cA A ad z x) (x : (VS) × (Int32)) (h : fX0_forget_43 k2 x = some z) : GX0_forget_43 p l e s m args below meth c D cA A ad z x := by
  obtain ⟨v, x_1⟩ := x
  intro H locs ls hw hl
  have hw : Wd D A s.heap (wV cA ad v) H locs := hw
  have hl : lv_has ls 2 [(0, .ref (ad 0)), (1, .int x_1)] := hl
  have hx := C.1.1
  have hb := C.1.2.1
  have h : (bn (x_1 + 1) (fun x1 => k2 (v, x1))) = some z := h
  obtain ⟨x1, ex1⟩ : ∃ y : Int32, y = x_1 + 1 := ⟨_, rfl⟩
  replace h := bn_some h ex1
  refine lv_iinc (v := x1) (lv' := [(1, .int x1), (0, .ref (ad 0))]) hx hb dX0_forget_43 hl (k := 1) rfl (by rw [ex1]; rfl) (by decide) rfl (fun ls hl => ?_)
  refine lv_goto (tgt := 2) hx hb dX0_forget_46 (by decide) ?_
  exact hk2 (v, x1) h _ _ _ hw (lv_sub hl [1, 0] rfl)
set_option maxHeartbeats 4000000 in
set_option maxRecDepth 100000 in
theorem kX0_forget_2 (C : Cx p s m args meth c cX0_forget 2 RX0 D cA g A) (hr : meth.sig.returnType = none) {z : VS} (k2 : ((VS) × (Int32)) → Option VS) (hk2 : ∀ x, k2 x = some z → GX0_forget_2 p l e s m args below meth c D cA A ad z x) (x : (VS) × (Int32)) (h : fX0_forget_2 k2 x = some z) : GX0_forget_2 p l e s m args below meth c D cA A ad z x := by
  obtain ⟨v, x_1⟩ := x
  intro H locs ls hw hl
  have hw : Wd D A s.heap (wV cA ad v) H locs := hw
  have hl : lv_has ls 2 [(0, .ref (ad 0)), (1, .int x_1)] := hl
  have hx := C.1.1
  have hb := C.1.2.1
  have h : (if ((v 5 0) * (6 : Int32)) ≤ x_1 then some v else rd 30 (v 8) x_1 (fun r2 => if r2 ≤ 0 then fX0_forget_43 k2 (v, x_1) else rd 30 (v 8) x_1 (fun r4 => if r4 = 99 then fX0_forget_43 k2 (v, x_1) else rd 30 (v 8) x_1 (fun r6 => ck 30 x_1 (bn (up v 8 (upd (v 8) (x_1 : Int32).toNatClampNeg (r6 - (1 : Int32)))) (fun w7 => fX0_forget_43 k2 (w7, x_1))))))) = some z := h
  refine lv_iload_n hx hb dX0_forget_2 rfl (lv_at hl 1 rfl) ?_
  refine lv_aload_n hx hb dX0_forget_3 rfl (lv_at hl 0 rfl) ?_
  refine tGet (T := TX0) (N := 12) (ci := 0) C hw inX0 5 0 rfl (by decide) kf_RX0_28 rfl rfl rfl dX0_forget_4 ?_
  refine lv_bipush (v := 6) hx hb dX0_forget_7 (by decide) ?_
  refine lv_imul hx hb dX0_forget_9 ?_
  refine lv_icmp_ge (tgt := 49) hx hb dX0_forget_10 (by decide) (fun c1 => ?_) (fun c1 => ?_)
  · replace h := (if_pos c1).symm.trans h
    obtain rfl := some_e h
    exact rtV C hr hw dX0_forget_49
  · replace h := (if_neg c1).symm.trans h
    refine lv_aload_n hx hb dX0_forget_13 rfl (lv_at hl 0 rfl) ?_
    refine tGet (T := TX0) (N := 12) (ci := 0) C hw inX0 8 0 rfl (by decide) kf_RX0_37 rfl rfl rfl dX0_forget_14 ?_
    refine lv_iload_n hx hb dX0_forget_17 rfl (lv_at hl 1 rfl) ?_
    obtain ⟨r2, ir2, er2, h⟩ := rd_some h
    refine tLd C hw 6 rfl ir2 er2 dX0_forget_18 ?_
    refine lv_if_le (tgt := 43) hx hb dX0_forget_19 (by decide) (fun c3 => ?_) (fun c3 => ?_)
    · replace h := (if_pos c3).symm.trans h
      exact kX0_forget_43 C hr k2 hk2 (v, x_1) h _ _ _ hw (lv_sub hl [0, 1] rfl)
    · replace h := (if_neg c3).symm.trans h
      refine lv_aload_n hx hb dX0_forget_22 rfl (lv_at hl 0 rfl) ?_
      refine tGet (T := TX0) (N := 12) (ci := 0) C hw inX0 8 0 rfl (by decide) kf_RX0_37 rfl rfl rfl dX0_forget_23 ?_
      refine lv_iload_n hx hb dX0_forget_26 rfl (lv_at hl 1 rfl) ?_
      obtain ⟨r4, ir4, er4, h⟩ := rd_some h
      refine tLd C hw 6 rfl ir4 er4 dX0_forget_27 ?_
      refine lv_bipush (v := 99) hx hb dX0_forget_28 (by decide) ?_
      refine lv_icmp_eq (tgt := 43) hx hb dX0_forget_30 (by decide) (fun c5 => ?_) (fun c5 => ?_)
      · replace h := (if_pos c5).symm.trans h
        exact kX0_forget_43 C hr k2 hk2 (v, x_1) h _ _ _ hw (lv_sub hl [0, 1] rfl)
      · replace h := (if_neg c5).symm.trans h
        refine lv_aload_n hx hb dX0_forget_33 rfl (lv_at hl 0 rfl) ?_
        refine tGet (T := TX0) (N := 12) (ci := 0) C hw inX0 8 0 rfl (by decide) kf_RX0_37 rfl rfl rfl dX0_forget_34 ?_
        refine lv_iload_n hx hb dX0_forget_37 rfl (lv_at hl 1 rfl) ?_
        refine lv_dup2_11 hx hb dX0_forget_38 rfl rfl ?_
        obtain ⟨r6, ir6, er6, h⟩ := rd_some h
        refine tLd C hw 6 rfl ir6 er6 dX0_forget_39 ?_
        refine lv_iconst (v := 1) hx hb dX0_forget_40 (by decide) ?_
        refine lv_isub hx hb dX0_forget_41 ?_
        obtain ⟨iw7, h⟩ := ck_some h
        obtain ⟨w7, ew7⟩ : ∃ y : VS, y = up v 8 (upd (v 8) (x_1 : Int32).toNatClampNeg (r6 - (1 : Int32))) := ⟨_, rfl⟩
        replace h := bn_some h ew7
        refine tSt (ws2 := (wV cA ad w7)) C hw 6 rfl iw7 (by rw [ew7]; rfl) dX0_forget_42 (fun H locs hw => ?_)
        exact kX0_forget_43 C hr k2 hk2 (w7, x_1) h _ _ _ hw (lv_sub hl [0, 1] rfl)
theorem lX0_forget_2 (C : Cx p s m args meth c cX0_forget 2 RX0 D cA g A) (hr : meth.sig.returnType = none) {z : VS} (n : Nat) (x : (VS) × (Int32)) (h : lp (fX0_forget_2) n x = some z) : GX0_forget_2 p l e s m args below meth c D cA A ad z x := lp_ok (GX0_forget_2 p l e s m args below meth c D cA A ad z) (fun kq hkq x h => kX0_forget_2 C hr kq hkq x h) n x h
set_option maxHeartbeats 4000000 in
set_option maxRecDepth 100000 in
theorem kX0_forget (ad : Nat → Nat) {v : VS} {z : VS} (h : fX0_forget v = some z) : MV l D cA g yX0_forget (Cond.code yX0_forget cX0_forget 2 none :: lw_g) rmX0_forget [.ref (ad 0)] (wV cA ad v) (wV cA ad z) := by
  intro sz
  refine Met.ofW (cc := cX0_forget) (maxL := 2) (ret := none) (by decide) rfl ?_
  intro p e s m args below meth c s₁ B hml hv
  obtain ⟨rfl, C, hr, hw⟩ := ent B hml hv
  generalize va_A (wV cA ad v) sz = A at C hw ⊢
  have hl := lv_entry ([.ref (ad 0)]) (n := 2) (Nat.le_of_ble_eq_true rfl)
  rw [lg_entry_eq]
  generalize (lg_sl ([.ref (ad 0)]) ++ List.replicate (2 - (lg_sl ([.ref (ad 0)])).length) Slot.unset).toArray = ls at hl ⊢
  have hl : lv_has ls 2 [(0, .ref (ad 0))] := hl
  have hx := C.1.1
  have hb := C.1.2.1
  have h : (lp (fX0_forget_2) 5000 (v, 0)) = some z := h
  refine lv_iconst (v := 0) hx hb dX0_forget_0 (by decide) ?_
  refine lv_istore_n (lv' := [(1, .int 0), (0, .ref (ad 0))]) hx hb dX0_forget_1 rfl hl (by decide) rfl (fun ls hl => ?_)
  exact lX0_forget_2 C hr 5000 (v, 0) h _ _ _ hw (lv_sub hl [1, 0] rfl)
abbrev rmX0_passNights : Room := { frames := 3, cells := 0, slots := 0, locals := 76 }
theorem hdX0_passNights : yX0_passNights.cls = RX0 ∧ yX0_passNights.cls ≠ "java/lang/invoke/MethodHandle" ∧ yX0_passNights.cls ≠ "java/lang/invoke/VarHandle" ∧ (parseMethodDescriptor yX0_passNights.desc).map (fun d => d.parameters.length) = some 2 := by decide +kernel
def GX0_passNights_41 (p : Program) (l : Launch) (e : Env) (s : State) (m : MethodId) (args : Array Value) (below : List Frame) (meth : Method) (c : Code) (D : va_G) (cA : ClassId) (A : Nat → Prop) (ad : Nat → Nat) (z : VS) (x : (VS) × (Int32) × (Int32) × (Int32)) : Prop := ∀ (H : Heap) (locs : List Loc) (ls : Array Slot), Wd D A s.heap (wV cA ad x.1) H locs → lv_has ls 5 [(0, .ref (ad 0)), (1, .int x.2.1), (2, .int x.2.2.1), (3, .int x.2.2.2)] → W p l e rmX0_passNights s m args below meth c H locs 0 0 (MQ below (QV D cA A (wV cA ad z)) args s 0 0 A) (F0 m 41 ls [])
def GX0_passNights_2 (p : Program) (l : Launch) (e : Env) (s : State) (m : MethodId) (args : Array Value) (below : List Frame) (meth : Method) (c : Code) (D : va_G) (cA : ClassId) (A : Nat → Prop) (ad : Nat → Nat) (z : VS) (x : (VS) × (Int32) × (Int32) × (Int32)) : Prop := ∀ (H : Heap) (locs : List Loc) (ls : Array Slot), Wd D A s.heap (wV cA ad x.1) H locs → lv_has ls 5 [(0, .ref (ad 0)), (1, .int x.2.1), (2, .int x.2.2.1), (3, .int x.2.2.2)] → W p l e rmX0_passNights s m args below meth c H locs 0 0 (MQ below (QV D cA A (wV cA ad z)) args s 0 0 A) (F0 m 2 ls [])
def fX0_passNights_41 (k2 : ((VS) × (Int32) × (Int32) × (Int32)) → Option VS) : ((VS) × (Int32) × (Int32) × (Int32)) → Option VS := fun x => match x with | (v, x_1, x_2, x_3) => bn (x_3 + 1) (fun x1 => k2 (v, x_1, x_2, x1))
def fX0_passNights_2 (k2 : ((VS) × (Int32) × (Int32) × (Int32)) → Option VS) : ((VS) × (Int32) × (Int32) × (Int32)) → Option VS := fun x => match x with | (v, x_1, x_2, x_3) => if x_1 ≤ x_3 then some v else bn (up v 11 (fun _ => ((v 11 0) + (1 : Int32)))) (fun w2 => cl (fX0_forget w2) (fun w3 => cl (fX0_upNext w3) (fun r4 => if r4 = (-9) then fX0_passNights_41 k2 (w3, x_1, x_2, x_3) else cl (fX0_sendUp w3 r4 x_2) (fun w6 => fX0_passNights_41 k2 (w6, x_1, x_2, x_3)))))
def fX0_passNights (v : VS) (a_1 : Int32) (a_2 : Int32) : Option VS := lp (fX0_passNights_2) 5000 (v, a_1, a_2, 0)
set_option maxHeartbeats 4000000 in
set_option maxRecDepth 100000 in
theorem kX0_passNights_41 (C : Cx p s m args meth c cX0_passNights 5 RX0 D cA g A) (hr : meth.sig.returnType = none) {z : VS} (k2 : ((VS) × (Int32) × (Int32) × (Int32)) → Option VS) (hk2 : ∀ x, k2 x = some z → GX0_passNights_2 p l e s m args below meth c D cA A ad z x) (x : (VS) × (Int32) × (Int32) × (Int32)) (h : fX0_passNights_41 k2 x = some z) : GX0_passNights_41 p l e s m args below meth c D cA A ad z x := by
  obtain ⟨v, x_1, x_2, x_3⟩ := x
  intro H locs ls hw hl
  have hw : Wd D A s.heap (wV cA ad v) H locs := hw
  have hl : lv_has ls 5 [(0, .ref (ad 0)), (1, .int x_1), (2, .int x_2), (3, .int x_3)] := hl
  have hx := C.1.1
  have hb := C.1.2.1
  have h : (bn (x_3 + 1) (fun x1 => k2 (v, x_1, x_2, x1))) = some z := h
  obtain ⟨x1, ex1⟩ : ∃ y : Int32, y = x_3 + 1 := ⟨_, rfl⟩
  replace h := bn_some h ex1
  refine lv_iinc (v := x1) (lv' := [(3, .int x1), (0, .ref (ad 0)), (1, .int x_1), (2, .int x_2)]) hx hb dX0_passNights_41 hl (k := 3) rfl (by rw [ex1]; rfl) (by decide) rfl (fun ls hl => ?_)
  refine lv_goto (tgt := 2) hx hb dX0_passNights_44 (by decide) ?_
  exact hk2 (v, x_1, x_2, x1) h _ _ _ hw (lv_sub hl [1, 2, 3, 0] rfl)
set_option maxHeartbeats 4000000 in
set_option maxRecDepth 100000 in
theorem kX0_passNights_2 (C : Cx p s m args meth c cX0_passNights 5 RX0 D cA g A) (hr : meth.sig.returnType = none) {z : VS} (k2 : ((VS) × (Int32) × (Int32) × (Int32)) → Option VS) (hk2 : ∀ x, k2 x = some z → GX0_passNights_2 p l e s m args below meth c D cA A ad z x) (x : (VS) × (Int32) × (Int32) × (Int32)) (h : fX0_passNights_2 k2 x = some z) : GX0_passNights_2 p l e s m args below meth c D cA A ad z x := by
  obtain ⟨v, x_1, x_2, x_3⟩ := x
  intro H locs ls hw hl
  have hw : Wd D A s.heap (wV cA ad v) H locs := hw
  have hl : lv_has ls 5 [(0, .ref (ad 0)), (1, .int x_1), (2, .int x_2), (3, .int x_3)] := hl
  have hx := C.1.1
  have hb := C.1.2.1
  have h : (if x_1 ≤ x_3 then some v else bn (up v 11 (fun _ => ((v 11 0) + (1 : Int32)))) (fun w2 => cl (fX0_forget w2) (fun w3 => cl (fX0_upNext w3) (fun r4 => if r4 = (-9) then fX0_passNights_41 k2 (w3, x_1, x_2, x_3) else cl (fX0_sendUp w3 r4 x_2) (fun w6 => fX0_passNights_41 k2 (w6, x_1, x_2, x_3)))))) = some z := h
  refine lv_iload_n hx hb dX0_passNights_2 rfl (lv_at hl 3 rfl) ?_
  refine lv_iload_n hx hb dX0_passNights_3 rfl (lv_at hl 1 rfl) ?_
  refine lv_icmp_ge (tgt := 47) hx hb dX0_passNights_4 (by decide) (fun c1 => ?_) (fun c1 => ?_)
  · replace h := (if_pos c1).symm.trans h
    obtain rfl := some_e h
    exact rtV C hr hw dX0_passNights_47
  · replace h := (if_neg c1).symm.trans h
    refine lv_aload_n hx hb dX0_passNights_7 rfl (lv_at hl 0 rfl) ?_
    refine lv_dup hx hb dX0_passNights_8 rfl ?_
    refine tGet (T := TX0) (N := 12) (ci := 0) C hw inX0 11 0 rfl (by decide) kf_RX0_46 rfl rfl rfl dX0_passNights_9 ?_
    refine lv_iconst (v := 1) hx hb dX0_passNights_12 (by decide) ?_
    refine lv_iadd hx hb dX0_passNights_13 ?_
    obtain ⟨w2, ew2⟩ : ∃ y : VS, y = up v 11 (fun _ => ((v 11 0) + (1 : Int32))) := ⟨_, rfl⟩
    replace h := bn_some h ew2
    refine tPut (T := TX0) (N := 12) (ci := 0) (ws2 := (wV cA ad w2)) C hw inX0 tyX0 tyX0_ok nmX0 11 0 rfl (by decide) kf_RX0_46 rfl rfl rfl rfl rfl (Nat.le_of_ble_eq_true rfl) (by rw [ew2]; rfl) dX0_passNights_14 (fun H locs hw => ?_)
    refine lv_aload_n hx hb dX0_passNights_17 rfl (lv_at hl 0 rfl) ?_
    obtain ⟨w3, hw3, h⟩ := cl_some h
    refine cVv (ws2 := (wV cA ad w3)) (As := []) (rest := []) C hw jnW (kX0_forget ad hw3) kl_RX0_85 ki_yX0_forget ks_yX0_forget kn_RX0 kc_yX0_forget ⟨rfl, rfl⟩ hdX0_forget ⟨Nat.le_of_ble_eq_true rfl, Nat.le_of_ble_eq_true rfl⟩ (ci := 0) (q0 := 0) rfl rfl rfl rfl hl.1 (Nat.le_of_ble_eq_true rfl) dX0_passNights_18 ⟨Nat.zero_le _, Nat.zero_le _⟩ (fun H locs hw => ?_)
    refine lv_aload_n hx hb dX0_passNights_21 rfl (lv_at hl 0 rfl) ?_
    obtain ⟨r4, hr4, h⟩ := cl_some h
    refine cVi (ws2 := (wV cA ad w3)) (As := []) (rest := []) C hw jnW (kX0_upNext ad hr4) kl_RX0_88 ki_yX0_upNext ks_yX0_upNext kn_RX0 kc_yX0_upNext ⟨rfl, rfl⟩ hdX0_upNext ⟨Nat.le_of_ble_eq_true rfl, Nat.le_of_ble_eq_true rfl⟩ (ci := 0) (q0 := 0) rfl rfl rfl rfl hl.1 (Nat.le_of_ble_eq_true rfl) dX0_passNights_22 ⟨Nat.zero_le _, Nat.zero_le _⟩ (fun H locs hw => ?_)
    refine lv_istore (lv' := [(4, .int r4), (0, .ref (ad 0)), (1, .int x_1), (2, .int x_2), (3, .int x_3)]) hx hb dX0_passNights_25 hl (by decide) rfl (fun ls hl => ?_)
    refine lv_iload hx hb dX0_passNights_27 (lv_at hl 0 rfl) ?_
    refine lv_bipush (v := (-9)) hx hb dX0_passNights_29 (by decide) ?_
    refine lv_icmp_eq (tgt := 41) hx hb dX0_passNights_31 (by decide) (fun c5 => ?_) (fun c5 => ?_)
    · replace h := (if_pos c5).symm.trans h
      exact kX0_passNights_41 C hr k2 hk2 (w3, x_1, x_2, x_3) h _ _ _ hw (lv_sub hl [1, 2, 3, 4] rfl)
    · replace h := (if_neg c5).symm.trans h
      refine lv_aload_n hx hb dX0_passNights_34 rfl (lv_at hl 1 rfl) ?_
      refine lv_iload hx hb dX0_passNights_35 (lv_at hl 0 rfl) ?_
      refine lv_iload_n hx hb dX0_passNights_37 rfl (lv_at hl 3 rfl) ?_
      obtain ⟨w6, hw6, h⟩ := cl_some h
      refine cVv (ws2 := (wV cA ad w6)) (As := [.int r4, .int x_2]) (rest := []) C hw jnW (kX0_sendUp ad hw6) kl_RX0_92 ki_yX0_sendUp ks_yX0_sendUp kn_RX0 kc_yX0_sendUp ⟨rfl, rfl⟩ hdX0_sendUp ⟨Nat.le_of_ble_eq_true rfl, Nat.le_of_ble_eq_true rfl⟩ (ci := 0) (q0 := 0) rfl rfl rfl rfl hl.1 (Nat.le_of_ble_eq_true rfl) dX0_passNights_38 ⟨Nat.zero_le _, Nat.zero_le _⟩ (fun H locs hw => ?_)
      exact kX0_passNights_41 C hr k2 hk2 (w6, x_1, x_2, x_3) h _ _ _ hw (lv_sub hl [1, 2, 3, 4] rfl)
theorem lX0_passNights_2 (C : Cx p s m args meth c cX0_passNights 5 RX0 D cA g A) (hr : meth.sig.returnType = none) {z : VS} (n : Nat) (x : (VS) × (Int32) × (Int32) × (Int32)) (h : lp (fX0_passNights_2) n x = some z) : GX0_passNights_2 p l e s m args below meth c D cA A ad z x := lp_ok (GX0_passNights_2 p l e s m args below meth c D cA A ad z) (fun kq hkq x h => kX0_passNights_2 C hr kq hkq x h) n x h
set_option maxHeartbeats 4000000 in
set_option maxRecDepth 100000 in
theorem kX0_passNights (ad : Nat → Nat) {v : VS} {a_1 : Int32} {a_2 : Int32} {z : VS} (h : fX0_passNights v a_1 a_2 = some z) : MV l D cA g yX0_passNights (Cond.code yX0_passNights cX0_passNights 5 none :: lw_g) rmX0_passNights [.ref (ad 0), .int a_1, .int a_2] (wV cA ad v) (wV cA ad z) := by
  intro sz
  refine Met.ofW (cc := cX0_passNights) (maxL := 5) (ret := none) (by decide) rfl ?_
  intro p e s m args below meth c s₁ B hml hv
  obtain ⟨rfl, C, hr, hw⟩ := ent B hml hv
  generalize va_A (wV cA ad v) sz = A at C hw ⊢
  have hl := lv_entry ([.ref (ad 0), .int a_1, .int a_2]) (n := 5) (Nat.le_of_ble_eq_true rfl)
  rw [lg_entry_eq]
  generalize (lg_sl ([.ref (ad 0), .int a_1, .int a_2]) ++ List.replicate (5 - (lg_sl ([.ref (ad 0), .int a_1, .int a_2])).length) Slot.unset).toArray = ls at hl ⊢
  have hl : lv_has ls 5 [(0, .ref (ad 0)), (1, .int a_1), (2, .int a_2)] := hl
  have hx := C.1.1
  have hb := C.1.2.1
  have h : (lp (fX0_passNights_2) 5000 (v, a_1, a_2, 0)) = some z := h
  refine lv_iconst (v := 0) hx hb dX0_passNights_0 (by decide) ?_
  refine lv_istore_n (lv' := [(3, .int 0), (0, .ref (ad 0)), (1, .int a_1), (2, .int a_2)]) hx hb dX0_passNights_1 rfl hl (by decide) rfl (fun ls hl => ?_)
  exact lX0_passNights_2 C hr 5000 (v, a_1, a_2, 0) h _ _ _ hw (lv_sub hl [1, 2, 3, 0] rfl)
abbrev rmX0_wordsOf : Room := { frames := 0, cells := 0, slots := 0, locals := 0 }
theorem hdX0_wordsOf : yX0_wordsOf.cls = RX0 ∧ yX0_wordsOf.cls ≠ "java/lang/invoke/MethodHandle" ∧ yX0_wordsOf.cls ≠ "java/lang/invoke/VarHandle" ∧ (parseMethodDescriptor yX0_wordsOf.desc).map (fun d => d.parameters.length) = some 1 := by decide +kernel
def GX0_wordsOf_30 (p : Program) (l : Launch) (e : Env) (s : State) (m : MethodId) (args : Array Value) (below : List Frame) (meth : Method) (c : Code) (D : va_G) (cA : ClassId) (A : Nat → Prop) (ad : Nat → Nat) (v : VS) (z : Int32) (x : (Int32) × (Int32) × (Int32)) : Prop := ∀ (H : Heap) (locs : List Loc) (ls : Array Slot), Wd D A s.heap (wV cA ad v) H locs → lv_has ls 4 [(0, .ref (ad 0)), (1, .int x.1), (2, .int x.2.1), (3, .int x.2.2)] → W p l e rmX0_wordsOf s m args below meth c H locs 0 0 (MQ below (QI D cA A z (wV cA ad v)) args s 0 0 A) (F0 m 30 ls [])
def GX0_wordsOf_4 (p : Program) (l : Launch) (e : Env) (s : State) (m : MethodId) (args : Array Value) (below : List Frame) (meth : Method) (c : Code) (D : va_G) (cA : ClassId) (A : Nat → Prop) (ad : Nat → Nat) (v : VS) (z : Int32) (x : (Int32) × (Int32) × (Int32)) : Prop := ∀ (H : Heap) (locs : List Loc) (ls : Array Slot), Wd D A s.heap (wV cA ad v) H locs → lv_has ls 4 [(0, .ref (ad 0)), (1, .int x.1), (2, .int x.2.1), (3, .int x.2.2)] → W p l e rmX0_wordsOf s m args below meth c H locs 0 0 (MQ below (QI D cA A z (wV cA ad v)) args s 0 0 A) (F0 m 4 ls [])
def fX0_wordsOf_30 (v : VS) (k4 : ((Int32) × (Int32) × (Int32)) → Option Int32) : ((Int32) × (Int32) × (Int32)) → Option Int32 := fun x => match x with | (x_1, x_2, x_3) => bn (x_3 + 1) (fun x1 => k4 (x_1, x_2, x1))
def fX0_wordsOf_4 (v : VS) (k4 : ((Int32) × (Int32) × (Int32)) → Option Int32) : ((Int32) × (Int32) × (Int32)) → Option Int32 := fun x => match x with | (x_1, x_2, x_3) => if 6 ≤ x_3 then some x_2 else rd 30 (v 8) ((x_1 * (6 : Int32)) + x_3) (fun r2 => if r2 ≤ 0 then fX0_wordsOf_30 v k4 (x_1, x_2, x_3) else bn (x_2 ||| ((1 : Int32) <<< (x_3 &&& 31))) (fun x4 => fX0_wordsOf_30 v k4 (x_1, x4, x_3)))
def fX0_wordsOf (v : VS) (a_1 : Int32) : Option Int32 := lp (fX0_wordsOf_4 v) 5000 (a_1, 0, 0)
set_option maxHeartbeats 4000000 in
set_option maxRecDepth 100000 in
theorem kX0_wordsOf_30 (C : Cx p s m args meth c cX0_wordsOf 4 RX0 D cA g A) (hr : meth.sig.returnType = (some .int)) {z : Int32} (v : VS) (k4 : ((Int32) × (Int32) × (Int32)) → Option Int32) (hk4 : ∀ x, k4 x = some z → GX0_wordsOf_4 p l e s m args below meth c D cA A ad v z x) (x : (Int32) × (Int32) × (Int32)) (h : fX0_wordsOf_30 v k4 x = some z) : GX0_wordsOf_30 p l e s m args below meth c D cA A ad v z x := by
  obtain ⟨x_1, x_2, x_3⟩ := x
  intro H locs ls hw hl
  have hw : Wd D A s.heap (wV cA ad v) H locs := hw
  have hl : lv_has ls 4 [(0, .ref (ad 0)), (1, .int x_1), (2, .int x_2), (3, .int x_3)] := hl
  have hx := C.1.1
  have hb := C.1.2.1
  have h : (bn (x_3 + 1) (fun x1 => k4 (x_1, x_2, x1))) = some z := h
  obtain ⟨x1, ex1⟩ : ∃ y : Int32, y = x_3 + 1 := ⟨_, rfl⟩
  replace h := bn_some h ex1
  refine lv_iinc (v := x1) (lv' := [(3, .int x1), (0, .ref (ad 0)), (1, .int x_1), (2, .int x_2)]) hx hb dX0_wordsOf_30 hl (k := 3) rfl (by rw [ex1]; rfl) (by decide) rfl (fun ls hl => ?_)
  refine lv_goto (tgt := 4) hx hb dX0_wordsOf_33 (by decide) ?_
  exact hk4 (x_1, x_2, x1) h _ _ _ hw (lv_sub hl [1, 2, 3, 0] rfl)
set_option maxHeartbeats 4000000 in
set_option maxRecDepth 100000 in
theorem kX0_wordsOf_4 (C : Cx p s m args meth c cX0_wordsOf 4 RX0 D cA g A) (hr : meth.sig.returnType = (some .int)) {z : Int32} (v : VS) (k4 : ((Int32) × (Int32) × (Int32)) → Option Int32) (hk4 : ∀ x, k4 x = some z → GX0_wordsOf_4 p l e s m args below meth c D cA A ad v z x) (x : (Int32) × (Int32) × (Int32)) (h : fX0_wordsOf_4 v k4 x = some z) : GX0_wordsOf_4 p l e s m args below meth c D cA A ad v z x := by
  obtain ⟨x_1, x_2, x_3⟩ := x
  intro H locs ls hw hl
  have hw : Wd D A s.heap (wV cA ad v) H locs := hw
  have hl : lv_has ls 4 [(0, .ref (ad 0)), (1, .int x_1), (2, .int x_2), (3, .int x_3)] := hl
  have hx := C.1.1
  have hb := C.1.2.1
  have h : (if 6 ≤ x_3 then some x_2 else rd 30 (v 8) ((x_1 * (6 : Int32)) + x_3) (fun r2 => if r2 ≤ 0 then fX0_wordsOf_30 v k4 (x_1, x_2, x_3) else bn (x_2 ||| ((1 : Int32) <<< (x_3 &&& 31))) (fun x4 => fX0_wordsOf_30 v k4 (x_1, x4, x_3)))) = some z := h
  refine lv_iload_n hx hb dX0_wordsOf_4 rfl (lv_at hl 3 rfl) ?_
  refine lv_bipush (v := 6) hx hb dX0_wordsOf_5 (by decide) ?_
  refine lv_icmp_ge (tgt := 36) hx hb dX0_wordsOf_7 (by decide) (fun c1 => ?_) (fun c1 => ?_)
  · replace h := (if_pos c1).symm.trans h
    refine lv_iload_n hx hb dX0_wordsOf_36 rfl (lv_at hl 2 rfl) ?_
    obtain rfl := some_e h
    exact rtI C hr hw dX0_wordsOf_37
  · replace h := (if_neg c1).symm.trans h
    refine lv_aload_n hx hb dX0_wordsOf_10 rfl (lv_at hl 0 rfl) ?_
    refine tGet (T := TX0) (N := 12) (ci := 0) C hw inX0 8 0 rfl (by decide) kf_RX0_37 rfl rfl rfl dX0_wordsOf_11 ?_
    refine lv_iload_n hx hb dX0_wordsOf_14 rfl (lv_at hl 1 rfl) ?_
    refine lv_bipush (v := 6) hx hb dX0_wordsOf_15 (by decide) ?_
    refine lv_imul hx hb dX0_wordsOf_17 ?_
    refine lv_iload_n hx hb dX0_wordsOf_18 rfl (lv_at hl 3 rfl) ?_
    refine lv_iadd hx hb dX0_wordsOf_19 ?_
    obtain ⟨r2, ir2, er2, h⟩ := rd_some h
    refine tLd C hw 6 rfl ir2 er2 dX0_wordsOf_20 ?_
    refine lv_if_le (tgt := 30) hx hb dX0_wordsOf_21 (by decide) (fun c3 => ?_) (fun c3 => ?_)
    · replace h := (if_pos c3).symm.trans h
      exact kX0_wordsOf_30 C hr v k4 hk4 (x_1, x_2, x_3) h _ _ _ hw (lv_sub hl [0, 1, 2, 3] rfl)
    · replace h := (if_neg c3).symm.trans h
      refine lv_iload_n hx hb dX0_wordsOf_24 rfl (lv_at hl 2 rfl) ?_
      refine lv_iconst (v := 1) hx hb dX0_wordsOf_25 (by decide) ?_
      refine lv_iload_n hx hb dX0_wordsOf_26 rfl (lv_at hl 3 rfl) ?_
      refine lv_ishl hx hb dX0_wordsOf_27 ?_
      refine lv_ior hx hb dX0_wordsOf_28 ?_
      refine lv_topi (fun x4 ex4 => ?_)
      replace h := bn_some h ex4
      refine lv_istore_n (lv' := [(2, .int x4), (0, .ref (ad 0)), (1, .int x_1), (3, .int x_3)]) hx hb dX0_wordsOf_29 rfl hl (by decide) rfl (fun ls hl => ?_)
      exact kX0_wordsOf_30 C hr v k4 hk4 (x_1, x4, x_3) h _ _ _ hw (lv_sub hl [1, 2, 0, 3] rfl)
theorem lX0_wordsOf_4 (C : Cx p s m args meth c cX0_wordsOf 4 RX0 D cA g A) (hr : meth.sig.returnType = (some .int)) {z : Int32} (v : VS) (n : Nat) (x : (Int32) × (Int32) × (Int32)) (h : lp (fX0_wordsOf_4 v) n x = some z) : GX0_wordsOf_4 p l e s m args below meth c D cA A ad v z x := lp_ok (GX0_wordsOf_4 p l e s m args below meth c D cA A ad v z) (fun kq hkq x h => kX0_wordsOf_4 C hr v kq hkq x h) n x h
set_option maxHeartbeats 4000000 in
set_option maxRecDepth 100000 in
theorem kX0_wordsOf (ad : Nat → Nat) {v : VS} {a_1 : Int32} {z : Int32} (h : fX0_wordsOf v a_1 = some z) : MI l D cA g yX0_wordsOf (Cond.code yX0_wordsOf cX0_wordsOf 4 (some .int) :: lw_g) rmX0_wordsOf [.ref (ad 0), .int a_1] (wV cA ad v) z (wV cA ad v) := by
  intro sz
  refine Met.ofW (cc := cX0_wordsOf) (maxL := 4) (ret := (some .int)) (by decide) rfl ?_
  intro p e s m args below meth c s₁ B hml hv
  obtain ⟨rfl, C, hr, hw⟩ := ent B hml hv
  generalize va_A (wV cA ad v) sz = A at C hw ⊢
  have hl := lv_entry ([.ref (ad 0), .int a_1]) (n := 4) (Nat.le_of_ble_eq_true rfl)
  rw [lg_entry_eq]
  generalize (lg_sl ([.ref (ad 0), .int a_1]) ++ List.replicate (4 - (lg_sl ([.ref (ad 0), .int a_1])).length) Slot.unset).toArray = ls at hl ⊢
  have hl : lv_has ls 4 [(0, .ref (ad 0)), (1, .int a_1)] := hl
  have hx := C.1.1
  have hb := C.1.2.1
  have h : (lp (fX0_wordsOf_4 v) 5000 (a_1, 0, 0)) = some z := h
  refine lv_iconst (v := 0) hx hb dX0_wordsOf_0 (by decide) ?_
  refine lv_istore_n (lv' := [(2, .int 0), (0, .ref (ad 0)), (1, .int a_1)]) hx hb dX0_wordsOf_1 rfl hl (by decide) rfl (fun ls hl => ?_)
  refine lv_iconst (v := 0) hx hb dX0_wordsOf_2 (by decide) ?_
  refine lv_istore_n (lv' := [(3, .int 0), (2, .int 0), (0, .ref (ad 0)), (1, .int a_1)]) hx hb dX0_wordsOf_3 rfl hl (by decide) rfl (fun ls hl => ?_)
  exact lX0_wordsOf_4 C hr v 5000 (a_1, 0, 0) h _ _ _ hw (lv_sub hl [2, 3, 1, 0] rfl)
abbrev rmX0_isWhole : Room := { frames := 1, cells := 0, slots := 0, locals := 23 }
theorem hdX0_isWhole : yX0_isWhole.cls = RX0 ∧ yX0_isWhole.cls ≠ "java/lang/invoke/MethodHandle" ∧ yX0_isWhole.cls ≠ "java/lang/invoke/VarHandle" ∧ (parseMethodDescriptor yX0_isWhole.desc).map (fun d => d.parameters.length) = some 1 := by decide +kernel
def fX0_isWhole (v : VS) (a_1 : Int32) : Option Int32 := cl (fX0_wordsOf v a_1) (fun r1 => if r1 = 63 then some 1 else some 0)
set_option maxHeartbeats 4000000 in
set_option maxRecDepth 100000 in
theorem kX0_isWhole (ad : Nat → Nat) {v : VS} {a_1 : Int32} {z : Int32} (h : fX0_isWhole v a_1 = some z) : MI l D cA g yX0_isWhole (Cond.code yX0_isWhole cX0_isWhole 2 (some .boolean) :: lw_g) rmX0_isWhole [.ref (ad 0), .int a_1] (wV cA ad v) z (wV cA ad v) := by
  intro sz
  refine Met.ofW (cc := cX0_isWhole) (maxL := 2) (ret := (some .boolean)) (by decide) rfl ?_
  intro p e s m args below meth c s₁ B hml hv
  obtain ⟨rfl, C, hr, hw⟩ := ent B hml hv
  generalize va_A (wV cA ad v) sz = A at C hw ⊢
  have hl := lv_entry ([.ref (ad 0), .int a_1]) (n := 2) (Nat.le_of_ble_eq_true rfl)
  rw [lg_entry_eq]
  generalize (lg_sl ([.ref (ad 0), .int a_1]) ++ List.replicate (2 - (lg_sl ([.ref (ad 0), .int a_1])).length) Slot.unset).toArray = ls at hl ⊢
  have hl : lv_has ls 2 [(0, .ref (ad 0)), (1, .int a_1)] := hl
  have hx := C.1.1
  have hb := C.1.2.1
  have h : (cl (fX0_wordsOf v a_1) (fun r1 => if r1 = 63 then some 1 else some 0)) = some z := h
  refine lv_aload_n hx hb dX0_isWhole_0 rfl (lv_at hl 0 rfl) ?_
  refine lv_iload_n hx hb dX0_isWhole_1 rfl (lv_at hl 1 rfl) ?_
  obtain ⟨r1, hr1, h⟩ := cl_some h
  refine cVi (ws2 := (wV cA ad v)) (As := [.int a_1]) (rest := []) C hw jnW (kX0_wordsOf ad hr1) kl_RX0_96 ki_yX0_wordsOf ks_yX0_wordsOf kn_RX0 kc_yX0_wordsOf ⟨rfl, rfl⟩ hdX0_wordsOf ⟨Nat.le_of_ble_eq_true rfl, Nat.le_of_ble_eq_true rfl⟩ (ci := 0) (q0 := 0) rfl rfl rfl rfl hl.1 (Nat.le_of_ble_eq_true rfl) dX0_isWhole_2 ⟨Nat.zero_le _, Nat.zero_le _⟩ (fun H locs hw => ?_)
  refine lv_bipush (v := 63) hx hb dX0_isWhole_5 (by decide) ?_
  refine lv_icmp_ne (tgt := 14) hx hb dX0_isWhole_7 (by decide) (fun c2 => ?_) (fun c2 => ?_)
  · replace h := (if_neg c2).symm.trans h
    refine lv_iconst (v := 0) hx hb dX0_isWhole_14 (by decide) ?_
    obtain rfl := some_e h
    exact rtZ C hr nz0 hw dX0_isWhole_15
  · replace h := (if_pos c2).symm.trans h
    refine lv_iconst (v := 1) hx hb dX0_isWhole_10 (by decide) ?_
    refine lv_goto (tgt := 15) hx hb dX0_isWhole_11 (by decide) ?_
    obtain rfl := some_e h
    exact rtZ C hr nz1 hw dX0_isWhole_15
abbrev rmX0_countWhole : Room := { frames := 2, cells := 0, slots := 0, locals := 44 }
theorem hdX0_countWhole : yX0_countWhole.cls = RX0 ∧ yX0_countWhole.cls ≠ "java/lang/invoke/MethodHandle" ∧ yX0_countWhole.cls ≠ "java/lang/invoke/VarHandle" ∧ (parseMethodDescriptor yX0_countWhole.desc).map (fun d => d.parameters.length) = some 0 := by decide +kernel
def GX0_countWhole_26 (p : Program) (l : Launch) (e : Env) (s : State) (m : MethodId) (args : Array Value) (below : List Frame) (meth : Method) (c : Code) (D : va_G) (cA : ClassId) (A : Nat → Prop) (ad : Nat → Nat) (v : VS) (z : Int32) (x : (Int32) × (Int32) × (Int32)) : Prop := ∀ (H : Heap) (locs : List Loc) (ls : Array Slot), Wd D A s.heap (wV cA ad v) H locs → lv_has ls 3 [(0, .ref (ad 0)), (2, .int x.1)] → W p l e rmX0_countWhole s m args below meth c H locs 0 0 (MQ below (QI D cA A z (wV cA ad v)) args s 0 0 A) (F0 m 26 ls [.int x.2.1, .int x.2.2])
def GX0_countWhole_4 (p : Program) (l : Launch) (e : Env) (s : State) (m : MethodId) (args : Array Value) (below : List Frame) (meth : Method) (c : Code) (D : va_G) (cA : ClassId) (A : Nat → Prop) (ad : Nat → Nat) (v : VS) (z : Int32) (x : (Int32) × (Int32)) : Prop := ∀ (H : Heap) (locs : List Loc) (ls : Array Slot), Wd D A s.heap (wV cA ad v) H locs → lv_has ls 3 [(0, .ref (ad 0)), (1, .int x.1), (2, .int x.2)] → W p l e rmX0_countWhole s m args below meth c H locs 0 0 (MQ below (QI D cA A z (wV cA ad v)) args s 0 0 A) (F0 m 4 ls [])
def fX0_countWhole_26 (v : VS) (k4 : ((Int32) × (Int32)) → Option Int32) : ((Int32) × (Int32) × (Int32)) → Option Int32 := fun x => match x with | (x_2, y_0, y_1) => bn (y_1 + y_0) (fun x1 => bn (x_2 + 1) (fun x2 => k4 (x1, x2)))
def fX0_countWhole_4 (v : VS) (k4 : ((Int32) × (Int32)) → Option Int32) : ((Int32) × (Int32)) → Option Int32 := fun x => match x with | (x_1, x_2) => if (v 5 0) ≤ x_2 then some x_1 else cl (fX0_isWhole v x_2) (fun r2 => if r2 = 0 then fX0_countWhole_26 v k4 (x_2, 0, x_1) else fX0_countWhole_26 v k4 (x_2, 1, x_1))
def fX0_countWhole (v : VS) : Option Int32 := lp (fX0_countWhole_4 v) 5000 (0, 0)
set_option maxHeartbeats 4000000 in
set_option maxRecDepth 100000 in
theorem kX0_countWhole_26 (C : Cx p s m args meth c cX0_countWhole 3 RX0 D cA g A) (hr : meth.sig.returnType = (some .int)) {z : Int32} (v : VS) (k4 : ((Int32) × (Int32)) → Option Int32) (hk4 : ∀ x, k4 x = some z → GX0_countWhole_4 p l e s m args below meth c D cA A ad v z x) (x : (Int32) × (Int32) × (Int32)) (h : fX0_countWhole_26 v k4 x = some z) : GX0_countWhole_26 p l e s m args below meth c D cA A ad v z x := by
  obtain ⟨x_2, y_0, y_1⟩ := x
  intro H locs ls hw hl
  have hw : Wd D A s.heap (wV cA ad v) H locs := hw
  have hl : lv_has ls 3 [(0, .ref (ad 0)), (2, .int x_2)] := hl
  show W p l e rmX0_countWhole s m args below meth c H locs 0 0 (MQ below (QI D cA A z (wV cA ad v)) args s 0 0 A) (F0 m 26 ls [.int y_0, .int y_1])
  have hx := C.1.1
  have hb := C.1.2.1
  have h : (bn (y_1 + y_0) (fun x1 => bn (x_2 + 1) (fun x2 => k4 (x1, x2)))) = some z := h
  refine lv_iadd hx hb dX0_countWhole_26 ?_
  refine lv_topi (fun x1 ex1 => ?_)
  replace h := bn_some h ex1
  refine lv_istore_n (lv' := [(1, .int x1), (0, .ref (ad 0)), (2, .int x_2)]) hx hb dX0_countWhole_27 rfl hl (by decide) rfl (fun ls hl => ?_)
  obtain ⟨x2, ex2⟩ : ∃ y : Int32, y = x_2 + 1 := ⟨_, rfl⟩
  replace h := bn_some h ex2
  refine lv_iinc (v := x2) (lv' := [(2, .int x2), (1, .int x1), (0, .ref (ad 0))]) hx hb dX0_countWhole_28 hl (k := 2) rfl (by rw [ex2]; rfl) (by decide) rfl (fun ls hl => ?_)
  refine lv_goto (tgt := 4) hx hb dX0_countWhole_31 (by decide) ?_
  exact hk4 (x1, x2) h _ _ _ hw (lv_sub hl [2, 1, 0] rfl)
set_option maxHeartbeats 4000000 in
set_option maxRecDepth 100000 in
theorem kX0_countWhole_4 (C : Cx p s m args meth c cX0_countWhole 3 RX0 D cA g A) (hr : meth.sig.returnType = (some .int)) {z : Int32} (v : VS) (k4 : ((Int32) × (Int32)) → Option Int32) (hk4 : ∀ x, k4 x = some z → GX0_countWhole_4 p l e s m args below meth c D cA A ad v z x) (x : (Int32) × (Int32)) (h : fX0_countWhole_4 v k4 x = some z) : GX0_countWhole_4 p l e s m args below meth c D cA A ad v z x := by
  obtain ⟨x_1, x_2⟩ := x
  intro H locs ls hw hl
  have hw : Wd D A s.heap (wV cA ad v) H locs := hw
  have hl : lv_has ls 3 [(0, .ref (ad 0)), (1, .int x_1), (2, .int x_2)] := hl
  have hx := C.1.1
  have hb := C.1.2.1
  have h : (if (v 5 0) ≤ x_2 then some x_1 else cl (fX0_isWhole v x_2) (fun r2 => if r2 = 0 then fX0_countWhole_26 v k4 (x_2, 0, x_1) else fX0_countWhole_26 v k4 (x_2, 1, x_1))) = some z := h
  refine lv_iload_n hx hb dX0_countWhole_4 rfl (lv_at hl 2 rfl) ?_
  refine lv_aload_n hx hb dX0_countWhole_5 rfl (lv_at hl 0 rfl) ?_
  refine tGet (T := TX0) (N := 12) (ci := 0) C hw inX0 5 0 rfl (by decide) kf_RX0_28 rfl rfl rfl dX0_countWhole_6 ?_
  refine lv_icmp_ge (tgt := 34) hx hb dX0_countWhole_9 (by decide) (fun c1 => ?_) (fun c1 => ?_)
  · replace h := (if_pos c1).symm.trans h
    refine lv_iload_n hx hb dX0_countWhole_34 rfl (lv_at hl 1 rfl) ?_
    obtain rfl := some_e h
    exact rtI C hr hw dX0_countWhole_35
  · replace h := (if_neg c1).symm.trans h
    refine lv_iload_n hx hb dX0_countWhole_12 rfl (lv_at hl 1 rfl) ?_
    refine lv_aload_n hx hb dX0_countWhole_13 rfl (lv_at hl 0 rfl) ?_
    refine lv_iload_n hx hb dX0_countWhole_14 rfl (lv_at hl 2 rfl) ?_
    obtain ⟨r2, hr2, h⟩ := cl_some h
    refine cVi (ws2 := (wV cA ad v)) (As := [.int x_2]) (rest := [.int x_1]) C hw jnW (kX0_isWhole ad hr2) kl_RX0_99 ki_yX0_isWhole ks_yX0_isWhole kn_RX0 kc_yX0_isWhole ⟨rfl, rfl⟩ hdX0_isWhole ⟨Nat.le_of_ble_eq_true rfl, Nat.le_of_ble_eq_true rfl⟩ (ci := 0) (q0 := 0) rfl rfl rfl rfl hl.1 (Nat.le_of_ble_eq_true rfl) dX0_countWhole_15 ⟨Nat.zero_le _, Nat.zero_le _⟩ (fun H locs hw => ?_)
    refine lv_if_eq (tgt := 25) hx hb dX0_countWhole_18 (by decide) (fun c3 => ?_) (fun c3 => ?_)
    · replace h := (if_pos c3).symm.trans h
      refine lv_iconst (v := 0) hx hb dX0_countWhole_25 (by decide) ?_
      exact kX0_countWhole_26 C hr v k4 hk4 (x_2, 0, x_1) h _ _ _ hw (lv_sub hl [0, 2] rfl)
    · replace h := (if_neg c3).symm.trans h
      refine lv_iconst (v := 1) hx hb dX0_countWhole_21 (by decide) ?_
      refine lv_goto (tgt := 26) hx hb dX0_countWhole_22 (by decide) ?_
      exact kX0_countWhole_26 C hr v k4 hk4 (x_2, 1, x_1) h _ _ _ hw (lv_sub hl [0, 2] rfl)
theorem lX0_countWhole_4 (C : Cx p s m args meth c cX0_countWhole 3 RX0 D cA g A) (hr : meth.sig.returnType = (some .int)) {z : Int32} (v : VS) (n : Nat) (x : (Int32) × (Int32)) (h : lp (fX0_countWhole_4 v) n x = some z) : GX0_countWhole_4 p l e s m args below meth c D cA A ad v z x := lp_ok (GX0_countWhole_4 p l e s m args below meth c D cA A ad v z) (fun kq hkq x h => kX0_countWhole_4 C hr v kq hkq x h) n x h
set_option maxHeartbeats 4000000 in
set_option maxRecDepth 100000 in
theorem kX0_countWhole (ad : Nat → Nat) {v : VS} {z : Int32} (h : fX0_countWhole v = some z) : MI l D cA g yX0_countWhole (Cond.code yX0_countWhole cX0_countWhole 3 (some .int) :: lw_g) rmX0_countWhole [.ref (ad 0)] (wV cA ad v) z (wV cA ad v) := by
  intro sz
  refine Met.ofW (cc := cX0_countWhole) (maxL := 3) (ret := (some .int)) (by decide) rfl ?_
  intro p e s m args below meth c s₁ B hml hv
  obtain ⟨rfl, C, hr, hw⟩ := ent B hml hv
  generalize va_A (wV cA ad v) sz = A at C hw ⊢
  have hl := lv_entry ([.ref (ad 0)]) (n := 3) (Nat.le_of_ble_eq_true rfl)
  rw [lg_entry_eq]
  generalize (lg_sl ([.ref (ad 0)]) ++ List.replicate (3 - (lg_sl ([.ref (ad 0)])).length) Slot.unset).toArray = ls at hl ⊢
  have hl : lv_has ls 3 [(0, .ref (ad 0))] := hl
  have hx := C.1.1
  have hb := C.1.2.1
  have h : (lp (fX0_countWhole_4 v) 5000 (0, 0)) = some z := h
  refine lv_iconst (v := 0) hx hb dX0_countWhole_0 (by decide) ?_
  refine lv_istore_n (lv' := [(1, .int 0), (0, .ref (ad 0))]) hx hb dX0_countWhole_1 rfl hl (by decide) rfl (fun ls hl => ?_)
  refine lv_iconst (v := 0) hx hb dX0_countWhole_2 (by decide) ?_
  refine lv_istore_n (lv' := [(2, .int 0), (1, .int 0), (0, .ref (ad 0))]) hx hb dX0_countWhole_3 rfl hl (by decide) rfl (fun ls hl => ?_)
  exact lX0_countWhole_4 C hr v 5000 (0, 0) h _ _ _ hw (lv_sub hl [2, 1, 0] rfl)
abbrev rmJ6_bitCount_0f7a4 : Room := { frames := 0, cells := 0, slots := 0, locals := 0 }
theorem hdJ6_bitCount_0f7a4 : yJ6_bitCount_0f7a4.cls ≠ "java/lang/invoke/MethodHandle" ∧ yJ6_bitCount_0f7a4.cls ≠ "java/lang/invoke/VarHandle" ∧ (parseMethodDescriptor yJ6_bitCount_0f7a4.desc).map (fun d => d.parameters.length) = some 1 := by decide +kernel
def fJ6_bitCount_0f7a4 (a_0 : Int32) : Option Int32 := bn (a_0 - ((a_0.toUInt32 >>> ((1 : Int32).toUInt32 &&& Int32.toUInt32 31)).toInt32 &&& (1431655765 : Int32))) (fun x1 => bn ((x1 &&& (858993459 : Int32)) + ((x1.toUInt32 >>> ((2 : Int32).toUInt32 &&& Int32.toUInt32 31)).toInt32 &&& (858993459 : Int32))) (fun x2 => bn ((x2 + (x2.toUInt32 >>> ((4 : Int32).toUInt32 &&& Int32.toUInt32 31)).toInt32) &&& (252645135 : Int32)) (fun x3 => bn (x3 + (x3.toUInt32 >>> ((8 : Int32).toUInt32 &&& Int32.toUInt32 31)).toInt32) (fun x4 => bn (x4 + (x4.toUInt32 >>> ((16 : Int32).toUInt32 &&& Int32.toUInt32 31)).toInt32) (fun x5 => some (x5 &&& (63 : Int32)))))))
set_option maxHeartbeats 4000000 in
set_option maxRecDepth 100000 in
theorem kJ6_bitCount_0f7a4  {a_0 : Int32} {z : Int32} (h : fJ6_bitCount_0f7a4 a_0 = some z) : MI l D cA g yJ6_bitCount_0f7a4 (Cond.code yJ6_bitCount_0f7a4 cJ6_bitCount_0f7a4 1 (some .int) :: lw_g) rmJ6_bitCount_0f7a4 [.int a_0] ([] : va_W) z ([] : va_W) := by
  intro sz
  refine Met.ofW (cc := cJ6_bitCount_0f7a4) (maxL := 1) (ret := (some .int)) (by decide) rfl ?_
  intro p e s m args below meth c s₁ B hml hv
  obtain ⟨rfl, C, hr, hw⟩ := ent B hml hv
  generalize va_A ([] : va_W) sz = A at C hw ⊢
  have hl := lv_entry ([.int a_0]) (n := 1) (Nat.le_of_ble_eq_true rfl)
  rw [lg_entry_eq]
  generalize (lg_sl ([.int a_0]) ++ List.replicate (1 - (lg_sl ([.int a_0])).length) Slot.unset).toArray = ls at hl ⊢
  have hl : lv_has ls 1 [(0, .int a_0)] := hl
  have hx := C.1.1
  have hb := C.1.2.1
  have h : (bn (a_0 - ((a_0.toUInt32 >>> ((1 : Int32).toUInt32 &&& Int32.toUInt32 31)).toInt32 &&& (1431655765 : Int32))) (fun x1 => bn ((x1 &&& (858993459 : Int32)) + ((x1.toUInt32 >>> ((2 : Int32).toUInt32 &&& Int32.toUInt32 31)).toInt32 &&& (858993459 : Int32))) (fun x2 => bn ((x2 + (x2.toUInt32 >>> ((4 : Int32).toUInt32 &&& Int32.toUInt32 31)).toInt32) &&& (252645135 : Int32)) (fun x3 => bn (x3 + (x3.toUInt32 >>> ((8 : Int32).toUInt32 &&& Int32.toUInt32 31)).toInt32) (fun x4 => bn (x4 + (x4.toUInt32 >>> ((16 : Int32).toUInt32 &&& Int32.toUInt32 31)).toInt32) (fun x5 => some (x5 &&& (63 : Int32)))))))) = some z := h
  refine lv_iload_n hx hb dJ6_bitCount_0f7a4_0 rfl (lv_at hl 0 rfl) ?_
  refine lv_iload_n hx hb dJ6_bitCount_0f7a4_1 rfl (lv_at hl 0 rfl) ?_
  refine lv_iconst (v := 1) hx hb dJ6_bitCount_0f7a4_2 (by decide) ?_
  refine lv_iushr (v := (a_0.toUInt32 >>> ((1 : Int32).toUInt32 &&& Int32.toUInt32 31)).toInt32) hx hb dJ6_bitCount_0f7a4_3 rfl ?_
  refine lv_ldcw (v := 1431655765) hx hb C.1.2.2.2.1 (C.1.2.2.2.2 _ kk_RJ6_265) dJ6_bitCount_0f7a4_4 ?_
  refine lv_iand hx hb dJ6_bitCount_0f7a4_7 ?_
  refine lv_isub hx hb dJ6_bitCount_0f7a4_8 ?_
  refine lv_topi (fun x1 ex1 => ?_)
  replace h := bn_some h ex1
  refine lv_istore_n (lv' := [(0, .int x1)]) hx hb dJ6_bitCount_0f7a4_9 rfl hl (by decide) rfl (fun ls hl => ?_)
  refine lv_iload_n hx hb dJ6_bitCount_0f7a4_10 rfl (lv_at hl 0 rfl) ?_
  refine lv_ldcw (v := 858993459) hx hb C.1.2.2.2.1 (C.1.2.2.2.2 _ kk_RJ6_266) dJ6_bitCount_0f7a4_11 ?_
  refine lv_iand hx hb dJ6_bitCount_0f7a4_14 ?_
  refine lv_iload_n hx hb dJ6_bitCount_0f7a4_15 rfl (lv_at hl 0 rfl) ?_
  refine lv_iconst (v := 2) hx hb dJ6_bitCount_0f7a4_16 (by decide) ?_
  refine lv_iushr (v := (x1.toUInt32 >>> ((2 : Int32).toUInt32 &&& Int32.toUInt32 31)).toInt32) hx hb dJ6_bitCount_0f7a4_17 rfl ?_
  refine lv_ldcw (v := 858993459) hx hb C.1.2.2.2.1 (C.1.2.2.2.2 _ kk_RJ6_266) dJ6_bitCount_0f7a4_18 ?_
  refine lv_iand hx hb dJ6_bitCount_0f7a4_21 ?_
  refine lv_iadd hx hb dJ6_bitCount_0f7a4_22 ?_
  refine lv_topi (fun x2 ex2 => ?_)
  replace h := bn_some h ex2
  refine lv_istore_n (lv' := [(0, .int x2)]) hx hb dJ6_bitCount_0f7a4_23 rfl hl (by decide) rfl (fun ls hl => ?_)
  refine lv_iload_n hx hb dJ6_bitCount_0f7a4_24 rfl (lv_at hl 0 rfl) ?_
  refine lv_iload_n hx hb dJ6_bitCount_0f7a4_25 rfl (lv_at hl 0 rfl) ?_
  refine lv_iconst (v := 4) hx hb dJ6_bitCount_0f7a4_26 (by decide) ?_
  refine lv_iushr (v := (x2.toUInt32 >>> ((4 : Int32).toUInt32 &&& Int32.toUInt32 31)).toInt32) hx hb dJ6_bitCount_0f7a4_27 rfl ?_
  refine lv_iadd hx hb dJ6_bitCount_0f7a4_28 ?_
  refine lv_ldcw (v := 252645135) hx hb C.1.2.2.2.1 (C.1.2.2.2.2 _ kk_RJ6_267) dJ6_bitCount_0f7a4_29 ?_
  refine lv_iand hx hb dJ6_bitCount_0f7a4_32 ?_
  refine lv_topi (fun x3 ex3 => ?_)
  replace h := bn_some h ex3
  refine lv_istore_n (lv' := [(0, .int x3)]) hx hb dJ6_bitCount_0f7a4_33 rfl hl (by decide) rfl (fun ls hl => ?_)
  refine lv_iload_n hx hb dJ6_bitCount_0f7a4_34 rfl (lv_at hl 0 rfl) ?_
  refine lv_iload_n hx hb dJ6_bitCount_0f7a4_35 rfl (lv_at hl 0 rfl) ?_
  refine lv_bipush (v := 8) hx hb dJ6_bitCount_0f7a4_36 (by decide) ?_
  refine lv_iushr (v := (x3.toUInt32 >>> ((8 : Int32).toUInt32 &&& Int32.toUInt32 31)).toInt32) hx hb dJ6_bitCount_0f7a4_38 rfl ?_
  refine lv_iadd hx hb dJ6_bitCount_0f7a4_39 ?_
  refine lv_topi (fun x4 ex4 => ?_)
  replace h := bn_some h ex4
  refine lv_istore_n (lv' := [(0, .int x4)]) hx hb dJ6_bitCount_0f7a4_40 rfl hl (by decide) rfl (fun ls hl => ?_)
  refine lv_iload_n hx hb dJ6_bitCount_0f7a4_41 rfl (lv_at hl 0 rfl) ?_
  refine lv_iload_n hx hb dJ6_bitCount_0f7a4_42 rfl (lv_at hl 0 rfl) ?_
  refine lv_bipush (v := 16) hx hb dJ6_bitCount_0f7a4_43 (by decide) ?_
  refine lv_iushr (v := (x4.toUInt32 >>> ((16 : Int32).toUInt32 &&& Int32.toUInt32 31)).toInt32) hx hb dJ6_bitCount_0f7a4_45 rfl ?_
  refine lv_iadd hx hb dJ6_bitCount_0f7a4_46 ?_
  refine lv_topi (fun x5 ex5 => ?_)
  replace h := bn_some h ex5
  refine lv_istore_n (lv' := [(0, .int x5)]) hx hb dJ6_bitCount_0f7a4_47 rfl hl (by decide) rfl (fun ls hl => ?_)
  refine lv_iload_n hx hb dJ6_bitCount_0f7a4_48 rfl (lv_at hl 0 rfl) ?_
  refine lv_bipush (v := 63) hx hb dJ6_bitCount_0f7a4_49 (by decide) ?_
  refine lv_iand hx hb dJ6_bitCount_0f7a4_51 ?_
  obtain rfl := some_e h
  exact rtI C hr hw dJ6_bitCount_0f7a4_52
abbrev rmX0_countWords : Room := { frames := 1, cells := 0, slots := 0, locals := 23 }
theorem hdX0_countWords : yX0_countWords.cls = RX0 ∧ yX0_countWords.cls ≠ "java/lang/invoke/MethodHandle" ∧ yX0_countWords.cls ≠ "java/lang/invoke/VarHandle" ∧ (parseMethodDescriptor yX0_countWords.desc).map (fun d => d.parameters.length) = some 0 := by decide +kernel
def GX0_countWords_4 (p : Program) (l : Launch) (e : Env) (s : State) (m : MethodId) (args : Array Value) (below : List Frame) (meth : Method) (c : Code) (D : va_G) (cA : ClassId) (A : Nat → Prop) (ad : Nat → Nat) (v : VS) (z : Int32) (x : (Int32) × (Int32)) : Prop := ∀ (H : Heap) (locs : List Loc) (ls : Array Slot), Wd D A s.heap (wV cA ad v) H locs → lv_has ls 3 [(0, .ref (ad 0)), (1, .int x.1), (2, .int x.2)] → W p l e rmX0_countWords s m args below meth c H locs 0 0 (MQ below (QI D cA A z (wV cA ad v)) args s 0 0 A) (F0 m 4 ls [])
def fX0_countWords_4 (v : VS) (k4 : ((Int32) × (Int32)) → Option Int32) : ((Int32) × (Int32)) → Option Int32 := fun x => match x with | (x_1, x_2) => if (v 5 0) ≤ x_2 then some x_1 else cl (fX0_wordsOf v x_2) (fun r2 => cl (fJ6_bitCount_0f7a4 r2) (fun r3 => bn (x_1 + r3) (fun x4 => bn (x_2 + 1) (fun x5 => k4 (x4, x5)))))
def fX0_countWords (v : VS) : Option Int32 := lp (fX0_countWords_4 v) 5000 (0, 0)
set_option maxHeartbeats 4000000 in
set_option maxRecDepth 100000 in
theorem kX0_countWords_4 (C : Cx p s m args meth c cX0_countWords 3 RX0 D cA g A) (hr : meth.sig.returnType = (some .int)) {z : Int32} (v : VS) (k4 : ((Int32) × (Int32)) → Option Int32) (hk4 : ∀ x, k4 x = some z → GX0_countWords_4 p l e s m args below meth c D cA A ad v z x) (x : (Int32) × (Int32)) (h : fX0_countWords_4 v k4 x = some z) : GX0_countWords_4 p l e s m args below meth c D cA A ad v z x := by
  obtain ⟨x_1, x_2⟩ := x
  intro H locs ls hw hl
  have hw : Wd D A s.heap (wV cA ad v) H locs := hw
  have hl : lv_has ls 3 [(0, .ref (ad 0)), (1, .int x_1), (2, .int x_2)] := hl
  have hx := C.1.1
  have hb := C.1.2.1
  have h : (if (v 5 0) ≤ x_2 then some x_1 else cl (fX0_wordsOf v x_2) (fun r2 => cl (fJ6_bitCount_0f7a4 r2) (fun r3 => bn (x_1 + r3) (fun x4 => bn (x_2 + 1) (fun x5 => k4 (x4, x5)))))) = some z := h
  refine lv_iload_n hx hb dX0_countWords_4 rfl (lv_at hl 2 rfl) ?_
  refine lv_aload_n hx hb dX0_countWords_5 rfl (lv_at hl 0 rfl) ?_
  refine tGet (T := TX0) (N := 12) (ci := 0) C hw inX0 5 0 rfl (by decide) kf_RX0_28 rfl rfl rfl dX0_countWords_6 ?_
  refine lv_icmp_ge (tgt := 29) hx hb dX0_countWords_9 (by decide) (fun c1 => ?_) (fun c1 => ?_)
  · replace h := (if_pos c1).symm.trans h
    refine lv_iload_n hx hb dX0_countWords_29 rfl (lv_at hl 1 rfl) ?_
    obtain rfl := some_e h
    exact rtI C hr hw dX0_countWords_30
  · replace h := (if_neg c1).symm.trans h
    refine lv_iload_n hx hb dX0_countWords_12 rfl (lv_at hl 1 rfl) ?_
    refine lv_aload_n hx hb dX0_countWords_13 rfl (lv_at hl 0 rfl) ?_
    refine lv_iload_n hx hb dX0_countWords_14 rfl (lv_at hl 2 rfl) ?_
    obtain ⟨r2, hr2, h⟩ := cl_some h
    refine cVi (ws2 := (wV cA ad v)) (As := [.int x_2]) (rest := [.int x_1]) C hw jnW (kX0_wordsOf ad hr2) kl_RX0_96 ki_yX0_wordsOf ks_yX0_wordsOf kn_RX0 kc_yX0_wordsOf ⟨rfl, rfl⟩ hdX0_wordsOf ⟨Nat.le_of_ble_eq_true rfl, Nat.le_of_ble_eq_true rfl⟩ (ci := 0) (q0 := 0) rfl rfl rfl rfl hl.1 (Nat.le_of_ble_eq_true rfl) dX0_countWords_15 ⟨Nat.zero_le _, Nat.zero_le _⟩ (fun H locs hw => ?_)
    obtain ⟨r3, hr3, h⟩ := cl_some h
    refine cSi (ws2 := (wV cA ad v)) (As := [.int r2]) (rest := [.int x_1]) C hw jnE (kJ6_bitCount_0f7a4 hr3) kl_RX0_102 kt_yJ6_bitCount_0f7a4 kn_RJ6 kc_yJ6_bitCount_0f7a4 ⟨rfl, rfl⟩ hdJ6_bitCount_0f7a4 ⟨Nat.le_of_ble_eq_true rfl, Nat.le_of_ble_eq_true rfl⟩ rfl hl.1 (Nat.le_of_ble_eq_true rfl) dX0_countWords_18 ⟨Nat.zero_le _, Nat.zero_le _⟩ (fun H locs hw => ?_)
    refine lv_iadd hx hb dX0_countWords_21 ?_
    refine lv_topi (fun x4 ex4 => ?_)
    replace h := bn_some h ex4
    refine lv_istore_n (lv' := [(1, .int x4), (0, .ref (ad 0)), (2, .int x_2)]) hx hb dX0_countWords_22 rfl hl (by decide) rfl (fun ls hl => ?_)
    obtain ⟨x5, ex5⟩ : ∃ y : Int32, y = x_2 + 1 := ⟨_, rfl⟩
    replace h := bn_some h ex5
    refine lv_iinc (v := x5) (lv' := [(2, .int x5), (1, .int x4), (0, .ref (ad 0))]) hx hb dX0_countWords_23 hl (k := 2) rfl (by rw [ex5]; rfl) (by decide) rfl (fun ls hl => ?_)
    refine lv_goto (tgt := 4) hx hb dX0_countWords_26 (by decide) ?_
    exact hk4 (x4, x5) h _ _ _ hw (lv_sub hl [2, 1, 0] rfl)
theorem lX0_countWords_4 (C : Cx p s m args meth c cX0_countWords 3 RX0 D cA g A) (hr : meth.sig.returnType = (some .int)) {z : Int32} (v : VS) (n : Nat) (x : (Int32) × (Int32)) (h : lp (fX0_countWords_4 v) n x = some z) : GX0_countWords_4 p l e s m args below meth c D cA A ad v z x := lp_ok (GX0_countWords_4 p l e s m args below meth c D cA A ad v z) (fun kq hkq x h => kX0_countWords_4 C hr v kq hkq x h) n x h
set_option maxHeartbeats 4000000 in
set_option maxRecDepth 100000 in
theorem kX0_countWords (ad : Nat → Nat) {v : VS} {z : Int32} (h : fX0_countWords v = some z) : MI l D cA g yX0_countWords (Cond.code yX0_countWords cX0_countWords 3 (some .int) :: lw_g) rmX0_countWords [.ref (ad 0)] (wV cA ad v) z (wV cA ad v) := by
  intro sz
  refine Met.ofW (cc := cX0_countWords) (maxL := 3) (ret := (some .int)) (by decide) rfl ?_
  intro p e s m args below meth c s₁ B hml hv
  obtain ⟨rfl, C, hr, hw⟩ := ent B hml hv
  generalize va_A (wV cA ad v) sz = A at C hw ⊢
  have hl := lv_entry ([.ref (ad 0)]) (n := 3) (Nat.le_of_ble_eq_true rfl)
  rw [lg_entry_eq]
  generalize (lg_sl ([.ref (ad 0)]) ++ List.replicate (3 - (lg_sl ([.ref (ad 0)])).length) Slot.unset).toArray = ls at hl ⊢
  have hl : lv_has ls 3 [(0, .ref (ad 0))] := hl
  have hx := C.1.1
  have hb := C.1.2.1
  have h : (lp (fX0_countWords_4 v) 5000 (0, 0)) = some z := h
  refine lv_iconst (v := 0) hx hb dX0_countWords_0 (by decide) ?_
  refine lv_istore_n (lv' := [(1, .int 0), (0, .ref (ad 0))]) hx hb dX0_countWords_1 rfl hl (by decide) rfl (fun ls hl => ?_)
  refine lv_iconst (v := 0) hx hb dX0_countWords_2 (by decide) ?_
  refine lv_istore_n (lv' := [(2, .int 0), (1, .int 0), (0, .ref (ad 0))]) hx hb dX0_countWords_3 rfl hl (by decide) rfl (fun ls hl => ?_)
  exact lX0_countWords_4 C hr v 5000 (0, 0) h _ _ _ hw (lv_sub hl [2, 1, 0] rfl)
abbrev rmJ7_fill_53178 : Room := { frames := 0, cells := 0, slots := 0, locals := 0 }
theorem hdJ7_fill_53178 : yJ7_fill_53178.cls ≠ "java/lang/invoke/MethodHandle" ∧ yJ7_fill_53178.cls ≠ "java/lang/invoke/VarHandle" ∧ (parseMethodDescriptor yJ7_fill_53178.desc).map (fun d => d.parameters.length) = some 2 := by decide +kernel
def GJ7_fill_53178_5 (p : Program) (l : Launch) (e : Env) (s : State) (m : MethodId) (args : Array Value) (below : List Frame) (meth : Method) (c : Code) (D : va_G) (cA : ClassId) (A : Nat → Prop) (a0 : Nat) (z : (Nat → Int32)) (x : (Nat → Int32) × (Int32) × (Int32) × (Int32)) : Prop := ∀ (H : Heap) (locs : List Loc) (ls : Array Slot), Wd D A s.heap (wA cA 9 a0 x.1) H locs → lv_has ls 4 [(0, .ref a0), (1, .int x.2.1), (2, .int x.2.2.1), (3, .int x.2.2.2)] → W p l e rmJ7_fill_53178 s m args below meth c H locs 0 0 (MQ below (QV D cA A (wA cA 9 a0 z)) args s 0 0 A) (F0 m 5 ls [])
def fJ7_fill_53178_5 (k5 : ((Nat → Int32) × (Int32) × (Int32) × (Int32)) → Option (Nat → Int32)) : ((Nat → Int32) × (Int32) × (Int32) × (Int32)) → Option (Nat → Int32) := fun x => match x with | (f0, x_1, x_2, x_3) => if x_3 ≤ x_2 then some f0 else ck 9 x_2 (bn (upd f0 (x_2 : Int32).toNatClampNeg x_1) (fun w2 => bn (x_2 + 1) (fun x3 => k5 (w2, x_1, x3, x_3))))
def fJ7_fill_53178 (f0 : Nat → Int32) (a_1 : Int32) : Option (Nat → Int32) := lp (fJ7_fill_53178_5) 5000 (f0, a_1, 0, 9)
set_option maxHeartbeats 4000000 in
set_option maxRecDepth 100000 in
theorem kJ7_fill_53178_5 (C : Cx p s m args meth c cJ7_fill_53178 4 RJ7 D cA g A) (hr : meth.sig.returnType = none) {z : (Nat → Int32)} (k5 : ((Nat → Int32) × (Int32) × (Int32) × (Int32)) → Option (Nat → Int32)) (hk5 : ∀ x, k5 x = some z → GJ7_fill_53178_5 p l e s m args below meth c D cA A a0 z x) (x : (Nat → Int32) × (Int32) × (Int32) × (Int32)) (h : fJ7_fill_53178_5 k5 x = some z) : GJ7_fill_53178_5 p l e s m args below meth c D cA A a0 z x := by
  obtain ⟨f0, x_1, x_2, x_3⟩ := x
  intro H locs ls hw hl
  have hw : Wd D A s.heap (wA cA 9 a0 f0) H locs := hw
  have hl : lv_has ls 4 [(0, .ref a0), (1, .int x_1), (2, .int x_2), (3, .int x_3)] := hl
  have hx := C.1.1
  have hb := C.1.2.1
  have h : (if x_3 ≤ x_2 then some f0 else ck 9 x_2 (bn (upd f0 (x_2 : Int32).toNatClampNeg x_1) (fun w2 => bn (x_2 + 1) (fun x3 => k5 (w2, x_1, x3, x_3))))) = some z := h
  refine lv_iload_n hx hb dJ7_fill_53178_5 rfl (lv_at hl 2 rfl) ?_
  refine lv_iload_n hx hb dJ7_fill_53178_6 rfl (lv_at hl 3 rfl) ?_
  refine lv_icmp_ge (tgt := 20) hx hb dJ7_fill_53178_7 (by decide) (fun c1 => ?_) (fun c1 => ?_)
  · replace h := (if_pos c1).symm.trans h
    obtain rfl := some_e h
    exact rtV C hr hw dJ7_fill_53178_20
  · replace h := (if_neg c1).symm.trans h
    refine lv_aload_n hx hb dJ7_fill_53178_10 rfl (lv_at hl 0 rfl) ?_
    refine lv_iload_n hx hb dJ7_fill_53178_11 rfl (lv_at hl 2 rfl) ?_
    refine lv_iload_n hx hb dJ7_fill_53178_12 rfl (lv_at hl 1 rfl) ?_
    obtain ⟨iw2, h⟩ := ck_some h
    obtain ⟨w2, ew2⟩ : ∃ y : Nat → Int32, y = upd f0 (x_2 : Int32).toNatClampNeg x_1 := ⟨_, rfl⟩
    replace h := bn_some h ew2
    refine tSt (ws2 := (wA cA 9 a0 w2)) C hw 0 rfl iw2 (by rw [ew2]; rfl) dJ7_fill_53178_13 (fun H locs hw => ?_)
    obtain ⟨x3, ex3⟩ : ∃ y : Int32, y = x_2 + 1 := ⟨_, rfl⟩
    replace h := bn_some h ex3
    refine lv_iinc (v := x3) (lv' := [(2, .int x3), (0, .ref a0), (1, .int x_1), (3, .int x_3)]) hx hb dJ7_fill_53178_14 hl (k := 2) rfl (by rw [ex3]; rfl) (by decide) rfl (fun ls hl => ?_)
    refine lv_goto (tgt := 5) hx hb dJ7_fill_53178_17 (by decide) ?_
    exact hk5 (w2, x_1, x3, x_3) h _ _ _ hw (lv_sub hl [1, 2, 0, 3] rfl)
theorem lJ7_fill_53178_5 (C : Cx p s m args meth c cJ7_fill_53178 4 RJ7 D cA g A) (hr : meth.sig.returnType = none) {z : (Nat → Int32)} (n : Nat) (x : (Nat → Int32) × (Int32) × (Int32) × (Int32)) (h : lp (fJ7_fill_53178_5) n x = some z) : GJ7_fill_53178_5 p l e s m args below meth c D cA A a0 z x := lp_ok (GJ7_fill_53178_5 p l e s m args below meth c D cA A a0 z) (fun kq hkq x h => kJ7_fill_53178_5 C hr kq hkq x h) n x h
set_option maxHeartbeats 4000000 in
set_option maxRecDepth 100000 in
theorem kJ7_fill_53178 (a0 : Nat) {f0 : Nat → Int32} {a_1 : Int32} {z : (Nat → Int32)} (h : fJ7_fill_53178 f0 a_1 = some z) : MV l D cA g yJ7_fill_53178 (Cond.code yJ7_fill_53178 cJ7_fill_53178 4 none :: lw_g) rmJ7_fill_53178 [.ref a0, .int a_1] (wA cA 9 a0 f0) (wA cA 9 a0 z) := by
  intro sz
  refine Met.ofW (cc := cJ7_fill_53178) (maxL := 4) (ret := none) (by decide) rfl ?_
  intro p e s m args below meth c s₁ B hml hv
  obtain ⟨rfl, C, hr, hw⟩ := ent B hml hv
  generalize va_A (wA cA 9 a0 f0) sz = A at C hw ⊢
  have hl := lv_entry ([.ref a0, .int a_1]) (n := 4) (Nat.le_of_ble_eq_true rfl)
  rw [lg_entry_eq]
  generalize (lg_sl ([.ref a0, .int a_1]) ++ List.replicate (4 - (lg_sl ([.ref a0, .int a_1])).length) Slot.unset).toArray = ls at hl ⊢
  have hl : lv_has ls 4 [(0, .ref a0), (1, .int a_1)] := hl
  have hx := C.1.1
  have hb := C.1.2.1
  have h : (lp (fJ7_fill_53178_5) 5000 (f0, a_1, 0, 9)) = some z := h
  refine lv_iconst (v := 0) hx hb dJ7_fill_53178_0 (by decide) ?_
  refine lv_istore_n (lv' := [(2, .int 0), (0, .ref a0), (1, .int a_1)]) hx hb dJ7_fill_53178_1 rfl hl (by decide) rfl (fun ls hl => ?_)
  refine lv_aload_n hx hb dJ7_fill_53178_2 rfl (lv_at hl 1 rfl) ?_
  refine va_alen (v := 9) hx hb C.2.2.1 hw.1 0 0 rfl rfl rfl dJ7_fill_53178_3 ?_
  refine lv_istore_n (lv' := [(3, .int 9), (2, .int 0), (0, .ref a0), (1, .int a_1)]) hx hb dJ7_fill_53178_4 rfl hl (by decide) rfl (fun ls hl => ?_)
  exact lJ7_fill_53178_5 C hr 5000 (f0, a_1, 0, 9) h _ _ _ hw (lv_sub hl [2, 3, 1, 0] rfl)
end
