section
variable {p : Program} {l : Launch} {e : Env} {s : State} {m : MethodId} {args : Array Value} {below : List Frame} {meth : Method} {c : Code} {D : va_G} {cA : ClassId} {g : Nat → Nat} {A : Nat → Prop} {ad ad2 : Nat → Nat} {a0 a1 : Nat}
abbrev rmX1_next : Room := { frames := 5, cells := 0, slots := 0, locals := 121 }
theorem hdX1_next : yX1_next.cls = RX1 ∧ yX1_next.cls ≠ "java/lang/invoke/MethodHandle" ∧ yX1_next.cls ≠ "java/lang/invoke/VarHandle" ∧ (parseMethodDescriptor yX1_next.desc).map (fun d => d.parameters.length) = some 1 := by decide +kernel
def fX1_next (X : Nat → VS) (a_1 : Int32) : Option (Int32 × (Nat → VS)) := cl (fX1_isOneOfTwo a_1) (fun r1 => if r1 = 0 then cl (fX1_refuse X (-2)) (fun q6 => some (q6.1, q6.2)) else if a_1 = 0 then cl (fX0_upNext (X 0)) (fun r5 => some (r5, X)) else cl (fX1_nightsUntilSpent X) (fun q4 => some (q4.1, q4.2)))
set_option maxHeartbeats 4000000 in
set_option maxRecDepth 100000 in
theorem kX1_next (ad : Nat → Nat) {X : Nat → VS} {a_1 : Int32} {z : (Int32 × (Nat → VS))} (h : fX1_next X a_1 = some z) : MI l D cA g yX1_next (Cond.code yX1_next cX1_next 2 (some .int) :: lw_g) rmX1_next [.ref (ad 0), .int a_1] (wR cA ad X) z.1 (wR cA ad z.2) := by
  intro sz
  refine Met.ofW (cc := cX1_next) (maxL := 2) (ret := (some .int)) (by decide) rfl ?_
  intro p e s m args below meth c s₁ B hml hv
  obtain ⟨rfl, C, hr, hw⟩ := ent B hml hv
  generalize va_A (wR cA ad X) sz = A at C hw ⊢
  have hl := lv_entry ([.ref (ad 0), .int a_1]) (n := 2) (Nat.le_of_ble_eq_true rfl)
  rw [lg_entry_eq]
  generalize (lg_sl ([.ref (ad 0), .int a_1]) ++ List.replicate (2 - (lg_sl ([.ref (ad 0), .int a_1])).length) Slot.unset).toArray = ls at hl ⊢
  have hl : lv_has ls 2 [(0, .ref (ad 0)), (1, .int a_1)] := hl
  have hx := C.1.1
  have hb := C.1.2.1
  have h : (cl (fX1_isOneOfTwo a_1) (fun r1 => if r1 = 0 then cl (fX1_refuse X (-2)) (fun q6 => some (q6.1, q6.2)) else if a_1 = 0 then cl (fX0_upNext (X 0)) (fun r5 => some (r5, X)) else cl (fX1_nightsUntilSpent X) (fun q4 => some (q4.1, q4.2)))) = some z := h
  refine lv_iload_n hx hb dX1_next_0 rfl (lv_at hl 1 rfl) ?_
  obtain ⟨r1, hr1, h⟩ := cl_some h
  refine cSi (ws2 := (wR cA ad X)) (As := [.int a_1]) (rest := []) C hw jnE (kX1_isOneOfTwo hr1) kl_RX1_156 kt_yX1_isOneOfTwo kn_RX1 kc_yX1_isOneOfTwo ⟨rfl, rfl⟩ hdX1_isOneOfTwo ⟨Nat.le_of_ble_eq_true rfl, Nat.le_of_ble_eq_true rfl⟩ rfl hl.1 (Nat.le_of_ble_eq_true rfl) dX1_next_1 ⟨Nat.zero_le _, Nat.zero_le _⟩ (fun H locs hw => ?_)
  refine lv_if_ne (tgt := 14) hx hb dX1_next_4 (by decide) (fun c2 => ?_) (fun c2 => ?_)
  · replace h := (if_neg c2).symm.trans h
    refine lv_iload_n hx hb dX1_next_14 rfl (lv_at hl 1 rfl) ?_
    refine lv_if_ne (tgt := 28) hx hb dX1_next_15 (by decide) (fun c3 => ?_) (fun c3 => ?_)
    · replace h := (if_neg c3).symm.trans h
      refine lv_aload_n hx hb dX1_next_28 rfl (lv_at hl 0 rfl) ?_
      obtain ⟨q4, hq4, h⟩ := cl_some h
      refine cVi (ws2 := (wR cA ad q4.2)) (As := []) (rest := []) C hw jnW (kX1_nightsUntilSpent ad hq4) kl_RX1_169 ki_yX1_nightsUntilSpent ks_yX1_nightsUntilSpent kn_RX1 kc_yX1_nightsUntilSpent ⟨rfl, rfl⟩ hdX1_nightsUntilSpent ⟨Nat.le_of_ble_eq_true rfl, Nat.le_of_ble_eq_true rfl⟩ (ci := 1) (q0 := 0) rfl rfl rfl rfl hl.1 (Nat.le_of_ble_eq_true rfl) dX1_next_29 ⟨Nat.zero_le _, Nat.zero_le _⟩ (fun H locs hw => ?_)
      obtain rfl := some_e h
      exact rtI C hr hw dX1_next_32
    · replace h := (if_pos c3).symm.trans h
      refine lv_aload_n hx hb dX1_next_18 rfl (lv_at hl 0 rfl) ?_
      refine tGet (T := TX1) (N := 12) (ci := 1) C hw inX1 0 0 rfl (by decide) kf_RX1_10 rfl rfl rfl dX1_next_19 ?_
      obtain ⟨r5, hr5, h⟩ := cl_some h
      refine cVi (ws2 := (wR cA ad X)) (As := []) (rest := []) C hw jR0r (kX0_upNext (fun k => ad (1 + k)) hr5) kl_RX1_166 ki_yX0_upNext ks_yX0_upNext kn_RX0 kc_yX0_upNext ⟨rfl, rfl⟩ hdX0_upNext ⟨Nat.le_of_ble_eq_true rfl, Nat.le_of_ble_eq_true rfl⟩ (ci := 0) (q0 := 0) rfl rfl rfl rfl hl.1 (Nat.le_of_ble_eq_true rfl) dX1_next_22 ⟨Nat.zero_le _, Nat.zero_le _⟩ (fun H locs hw => ?_)
      refine lv_goto (tgt := 32) hx hb dX1_next_25 (by decide) ?_
      obtain rfl := some_e h
      exact rtI C hr hw dX1_next_32
  · replace h := (if_pos c2).symm.trans h
    refine lv_aload_n hx hb dX1_next_7 rfl (lv_at hl 0 rfl) ?_
    refine lv_bipush (v := (-2)) hx hb dX1_next_8 (by decide) ?_
    obtain ⟨q6, hq6, h⟩ := cl_some h
    refine cVi (ws2 := (wR cA ad q6.2)) (As := [.int (-2)]) (rest := []) C hw jnW (kX1_refuse ad hq6) kl_RX1_52 ki_yX1_refuse ks_yX1_refuse kn_RX1 kc_yX1_refuse ⟨rfl, rfl⟩ hdX1_refuse ⟨Nat.le_of_ble_eq_true rfl, Nat.le_of_ble_eq_true rfl⟩ (ci := 1) (q0 := 0) rfl rfl rfl rfl hl.1 (Nat.le_of_ble_eq_true rfl) dX1_next_10 ⟨Nat.zero_le _, Nat.zero_le _⟩ (fun H locs hw => ?_)
    obtain rfl := some_e h
    exact rtI C hr hw dX1_next_13
abbrev rmX1_noteWhatIsBrought : Room := { frames := 2, cells := 0, slots := 0, locals := 50 }
theorem hdX1_noteWhatIsBrought : yX1_noteWhatIsBrought.cls = RX1 ∧ yX1_noteWhatIsBrought.cls ≠ "java/lang/invoke/MethodHandle" ∧ yX1_noteWhatIsBrought.cls ≠ "java/lang/invoke/VarHandle" ∧ (parseMethodDescriptor yX1_noteWhatIsBrought.desc).map (fun d => d.parameters.length) = some 1 := by decide +kernel
def GX1_noteWhatIsBrought_87 (p : Program) (l : Launch) (e : Env) (s : State) (m : MethodId) (args : Array Value) (below : List Frame) (meth : Method) (c : Code) (D : va_G) (cA : ClassId) (A : Nat → Prop) (ad : Nat → Nat) (z : (Nat → VS)) (x : (Nat → VS) × (Int32) × (Int32)) : Prop := ∀ (H : Heap) (locs : List Loc) (ls : Array Slot), Wd D A s.heap (wR cA ad x.1) H locs → lv_has ls 4 [(0, .ref (ad 0)), (1, .int x.2.1), (2, .int x.2.2)] → W p l e rmX1_noteWhatIsBrought s m args below meth c H locs 0 0 (MQ below (QV D cA A (wR cA ad z)) args s 0 0 A) (F0 m 87 ls [])
def GX1_noteWhatIsBrought_42 (p : Program) (l : Launch) (e : Env) (s : State) (m : MethodId) (args : Array Value) (below : List Frame) (meth : Method) (c : Code) (D : va_G) (cA : ClassId) (A : Nat → Prop) (ad : Nat → Nat) (z : (Nat → VS)) (x : (Nat → VS) × (Int32) × (Int32) × (Int32)) : Prop := ∀ (H : Heap) (locs : List Loc) (ls : Array Slot), Wd D A s.heap (wR cA ad x.1) H locs → lv_has ls 4 [(0, .ref (ad 0)), (1, .int x.2.1), (2, .int x.2.2.1)] → W p l e rmX1_noteWhatIsBrought s m args below meth c H locs 0 0 (MQ below (QV D cA A (wR cA ad z)) args s 0 0 A) (F0 m 42 ls [.int x.2.2.2])
def GX1_noteWhatIsBrought_10 (p : Program) (l : Launch) (e : Env) (s : State) (m : MethodId) (args : Array Value) (below : List Frame) (meth : Method) (c : Code) (D : va_G) (cA : ClassId) (A : Nat → Prop) (ad : Nat → Nat) (z : (Nat → VS)) (x : (Nat → VS) × (Int32) × (Int32)) : Prop := ∀ (H : Heap) (locs : List Loc) (ls : Array Slot), Wd D A s.heap (wR cA ad x.1) H locs → lv_has ls 4 [(0, .ref (ad 0)), (1, .int x.2.1), (2, .int x.2.2)] → W p l e rmX1_noteWhatIsBrought s m args below meth c H locs 0 0 (MQ below (QV D cA A (wR cA ad z)) args s 0 0 A) (F0 m 10 ls [])
def fX1_noteWhatIsBrought_87 (k10 : ((Nat → VS) × (Int32) × (Int32)) → Option (Nat → VS)) : ((Nat → VS) × (Int32) × (Int32)) → Option (Nat → VS) := fun x => match x with | (X, x_1, x_2) => bn (x_2 + 1) (fun x1 => k10 (X, x_1, x1))
def fX1_noteWhatIsBrought_42 (k10 : ((Nat → VS) × (Int32) × (Int32)) → Option (Nat → VS)) : ((Nat → VS) × (Int32) × (Int32) × (Int32)) → Option (Nat → VS) := fun x => match x with | (X, x_1, x_2, y_0) => cl (fX0_isSent (X 0) x_2) (fun r1 => if r1 = 0 then if y_0 = 0 then fX1_noteWhatIsBrought_87 k10 (X, x_1, x_2) else rd 5 (X 0 7) x_1 (fun r4 => if r4 ≤ 0 then fX1_noteWhatIsBrought_87 k10 (X, x_1, x_2) else rd 9 (X 0 3) x_2 (fun r6 => ck 9 x_2 (bn (up X 3 (up (X 3) 9 (upd (X 3 9) (x_2 : Int32).toNatClampNeg ((1 : Int32) <<< (r6 &&& 31))))) (fun w7 => fX1_noteWhatIsBrought_87 k10 (w7, x_1, x_2))))) else fX1_noteWhatIsBrought_87 k10 (X, x_1, x_2))
def fX1_noteWhatIsBrought_10 (k10 : ((Nat → VS) × (Int32) × (Int32)) → Option (Nat → VS)) : ((Nat → VS) × (Int32) × (Int32)) → Option (Nat → VS) := fun x => match x with | (X, x_1, x_2) => if (X 0 0 0) ≤ x_2 then some X else cl (fX0_readersOf (X 0) x_2) (fun r2 => if ((r2 >>> (x_1 &&& 31)) &&& (1 : Int32)) = 1 then fX1_noteWhatIsBrought_42 k10 (X, x_1, x_2, 1) else fX1_noteWhatIsBrought_42 k10 (X, x_1, x_2, 0))
def fX1_noteWhatIsBrought (X : Nat → VS) (a_1 : Int32) : Option (Nat → VS) := cl (fJ7_fill_53178 (X 3 9) 0) (fun w1 => bn (up X 3 (up (X 3) 9 w1)) (fun w2 => lp (fX1_noteWhatIsBrought_10) 5000 (w2, a_1, 0)))
set_option maxHeartbeats 4000000 in
set_option maxRecDepth 100000 in
theorem kX1_noteWhatIsBrought_87 (C : Cx p s m args meth c cX1_noteWhatIsBrought 4 RX1 D cA g A) (hr : meth.sig.returnType = none) {z : (Nat → VS)} (k10 : ((Nat → VS) × (Int32) × (Int32)) → Option (Nat → VS)) (hk10 : ∀ x, k10 x = some z → GX1_noteWhatIsBrought_10 p l e s m args below meth c D cA A ad z x) (x : (Nat → VS) × (Int32) × (Int32)) (h : fX1_noteWhatIsBrought_87 k10 x = some z) : GX1_noteWhatIsBrought_87 p l e s m args below meth c D cA A ad z x := by
  obtain ⟨X, x_1, x_2⟩ := x
  intro H locs ls hw hl
  have hw : Wd D A s.heap (wR cA ad X) H locs := hw
  have hl : lv_has ls 4 [(0, .ref (ad 0)), (1, .int x_1), (2, .int x_2)] := hl
  have hx := C.1.1
  have hb := C.1.2.1
  have h : (bn (x_2 + 1) (fun x1 => k10 (X, x_1, x1))) = some z := h
  obtain ⟨x1, ex1⟩ : ∃ y : Int32, y = x_2 + 1 := ⟨_, rfl⟩
  replace h := bn_some h ex1
  refine lv_iinc (v := x1) (lv' := [(2, .int x1), (0, .ref (ad 0)), (1, .int x_1)]) hx hb dX1_noteWhatIsBrought_87 hl (k := 2) rfl (by rw [ex1]; rfl) (by decide) rfl (fun ls hl => ?_)
  refine lv_goto (tgt := 10) hx hb dX1_noteWhatIsBrought_90 (by decide) ?_
  exact hk10 (X, x_1, x1) h _ _ _ hw (lv_sub hl [1, 2, 0] rfl)
set_option maxHeartbeats 4000000 in
set_option maxRecDepth 100000 in
theorem kX1_noteWhatIsBrought_42 (C : Cx p s m args meth c cX1_noteWhatIsBrought 4 RX1 D cA g A) (hr : meth.sig.returnType = none) {z : (Nat → VS)} (k10 : ((Nat → VS) × (Int32) × (Int32)) → Option (Nat → VS)) (hk10 : ∀ x, k10 x = some z → GX1_noteWhatIsBrought_10 p l e s m args below meth c D cA A ad z x) (x : (Nat → VS) × (Int32) × (Int32) × (Int32)) (h : fX1_noteWhatIsBrought_42 k10 x = some z) : GX1_noteWhatIsBrought_42 p l e s m args below meth c D cA A ad z x := by
  obtain ⟨X, x_1, x_2, y_0⟩ := x
  intro H locs ls hw hl
  have hw : Wd D A s.heap (wR cA ad X) H locs := hw
  have hl : lv_has ls 4 [(0, .ref (ad 0)), (1, .int x_1), (2, .int x_2)] := hl
  show W p l e rmX1_noteWhatIsBrought s m args below meth c H locs 0 0 (MQ below (QV D cA A (wR cA ad z)) args s 0 0 A) (F0 m 42 ls [.int y_0])
  have hx := C.1.1
  have hb := C.1.2.1
  have h : (cl (fX0_isSent (X 0) x_2) (fun r1 => if r1 = 0 then if y_0 = 0 then fX1_noteWhatIsBrought_87 k10 (X, x_1, x_2) else rd 5 (X 0 7) x_1 (fun r4 => if r4 ≤ 0 then fX1_noteWhatIsBrought_87 k10 (X, x_1, x_2) else rd 9 (X 0 3) x_2 (fun r6 => ck 9 x_2 (bn (up X 3 (up (X 3) 9 (upd (X 3 9) (x_2 : Int32).toNatClampNeg ((1 : Int32) <<< (r6 &&& 31))))) (fun w7 => fX1_noteWhatIsBrought_87 k10 (w7, x_1, x_2))))) else fX1_noteWhatIsBrought_87 k10 (X, x_1, x_2))) = some z := h
  refine lv_istore_n (lv' := [(3, .int y_0), (0, .ref (ad 0)), (1, .int x_1), (2, .int x_2)]) hx hb dX1_noteWhatIsBrought_42 rfl hl (by decide) rfl (fun ls hl => ?_)
  refine lv_aload_n hx hb dX1_noteWhatIsBrought_43 rfl (lv_at hl 1 rfl) ?_
  refine tGet (T := TX1) (N := 12) (ci := 1) C hw inX1 0 0 rfl (by decide) kf_RX1_10 rfl rfl rfl dX1_noteWhatIsBrought_44 ?_
  refine lv_iload_n hx hb dX1_noteWhatIsBrought_47 rfl (lv_at hl 3 rfl) ?_
  obtain ⟨r1, hr1, h⟩ := cl_some h
  refine cVi (ws2 := (wR cA ad X)) (As := [.int x_2]) (rest := []) C hw jR0r (kX0_isSent (fun k => ad (1 + k)) hr1) kl_RX1_82 ki_yX0_isSent ks_yX0_isSent kn_RX0 kc_yX0_isSent ⟨rfl, rfl⟩ hdX0_isSent ⟨Nat.le_of_ble_eq_true rfl, Nat.le_of_ble_eq_true rfl⟩ (ci := 0) (q0 := 0) rfl rfl rfl rfl hl.1 (Nat.le_of_ble_eq_true rfl) dX1_noteWhatIsBrought_48 ⟨Nat.zero_le _, Nat.zero_le _⟩ (fun H locs hw => ?_)
  refine lv_if_ne (tgt := 87) hx hb dX1_noteWhatIsBrought_51 (by decide) (fun c2 => ?_) (fun c2 => ?_)
  · replace h := (if_neg c2).symm.trans h
    exact kX1_noteWhatIsBrought_87 C hr k10 hk10 (X, x_1, x_2) h _ _ _ hw (lv_sub hl [1, 2, 3] rfl)
  · replace h := (if_pos c2).symm.trans h
    refine lv_iload_n hx hb dX1_noteWhatIsBrought_54 rfl (lv_at hl 0 rfl) ?_
    refine lv_if_eq (tgt := 87) hx hb dX1_noteWhatIsBrought_55 (by decide) (fun c3 => ?_) (fun c3 => ?_)
    · replace h := (if_pos c3).symm.trans h
      exact kX1_noteWhatIsBrought_87 C hr k10 hk10 (X, x_1, x_2) h _ _ _ hw (lv_sub hl [1, 2, 3] rfl)
    · replace h := (if_neg c3).symm.trans h
      refine lv_aload_n hx hb dX1_noteWhatIsBrought_58 rfl (lv_at hl 1 rfl) ?_
      refine tGet (T := TX1) (N := 12) (ci := 1) C hw inX1 0 0 rfl (by decide) kf_RX1_10 rfl rfl rfl dX1_noteWhatIsBrought_59 ?_
      refine tGet (T := TX0) (N := 12) (ci := 0) C hw inX0 7 1 rfl (by decide) kf_RX1_106 rfl rfl rfl dX1_noteWhatIsBrought_62 ?_
      refine lv_iload_n hx hb dX1_noteWhatIsBrought_65 rfl (lv_at hl 2 rfl) ?_
      obtain ⟨r4, ir4, er4, h⟩ := rd_some h
      refine tLd C hw 6 rfl ir4 er4 dX1_noteWhatIsBrought_66 ?_
      refine lv_if_le (tgt := 87) hx hb dX1_noteWhatIsBrought_67 (by decide) (fun c5 => ?_) (fun c5 => ?_)
      · replace h := (if_pos c5).symm.trans h
        exact kX1_noteWhatIsBrought_87 C hr k10 hk10 (X, x_1, x_2) h _ _ _ hw (lv_sub hl [1, 2, 3] rfl)
      · replace h := (if_neg c5).symm.trans h
        refine lv_aload_n hx hb dX1_noteWhatIsBrought_70 rfl (lv_at hl 1 rfl) ?_
        refine tGet (T := TX1) (N := 12) (ci := 1) C hw inX1 9 0 rfl (by decide) kf_RX1_43 rfl rfl rfl dX1_noteWhatIsBrought_71 ?_
        refine lv_iload_n hx hb dX1_noteWhatIsBrought_74 rfl (lv_at hl 3 rfl) ?_
        refine lv_iconst (v := 1) hx hb dX1_noteWhatIsBrought_75 (by decide) ?_
        refine lv_aload_n hx hb dX1_noteWhatIsBrought_76 rfl (lv_at hl 1 rfl) ?_
        refine tGet (T := TX1) (N := 12) (ci := 1) C hw inX1 0 0 rfl (by decide) kf_RX1_10 rfl rfl rfl dX1_noteWhatIsBrought_77 ?_
        refine tGet (T := TX0) (N := 12) (ci := 0) C hw inX0 3 1 rfl (by decide) kf_RX1_79 rfl rfl rfl dX1_noteWhatIsBrought_80 ?_
        refine lv_iload_n hx hb dX1_noteWhatIsBrought_83 rfl (lv_at hl 3 rfl) ?_
        obtain ⟨r6, ir6, er6, h⟩ := rd_some h
        refine tLd C hw 4 rfl ir6 er6 dX1_noteWhatIsBrought_84 ?_
        refine lv_ishl hx hb dX1_noteWhatIsBrought_85 ?_
        obtain ⟨iw7, h⟩ := ck_some h
        obtain ⟨w7, ew7⟩ : ∃ y : Nat → VS, y = up X 3 (up (X 3) 9 (upd (X 3 9) (x_2 : Int32).toNatClampNeg ((1 : Int32) <<< (r6 &&& 31)))) := ⟨_, rfl⟩
        replace h := bn_some h ew7
        refine tSt (ws2 := (wR cA ad w7)) C hw 25 rfl iw7 (by rw [ew7]; rfl) dX1_noteWhatIsBrought_86 (fun H locs hw => ?_)
        exact kX1_noteWhatIsBrought_87 C hr k10 hk10 (w7, x_1, x_2) h _ _ _ hw (lv_sub hl [1, 2, 3] rfl)
set_option maxHeartbeats 4000000 in
set_option maxRecDepth 100000 in
theorem kX1_noteWhatIsBrought_10 (C : Cx p s m args meth c cX1_noteWhatIsBrought 4 RX1 D cA g A) (hr : meth.sig.returnType = none) {z : (Nat → VS)} (k10 : ((Nat → VS) × (Int32) × (Int32)) → Option (Nat → VS)) (hk10 : ∀ x, k10 x = some z → GX1_noteWhatIsBrought_10 p l e s m args below meth c D cA A ad z x) (x : (Nat → VS) × (Int32) × (Int32)) (h : fX1_noteWhatIsBrought_10 k10 x = some z) : GX1_noteWhatIsBrought_10 p l e s m args below meth c D cA A ad z x := by
  obtain ⟨X, x_1, x_2⟩ := x
  intro H locs ls hw hl
  have hw : Wd D A s.heap (wR cA ad X) H locs := hw
  have hl : lv_has ls 4 [(0, .ref (ad 0)), (1, .int x_1), (2, .int x_2)] := hl
  have hx := C.1.1
  have hb := C.1.2.1
  have h : (if (X 0 0 0) ≤ x_2 then some X else cl (fX0_readersOf (X 0) x_2) (fun r2 => if ((r2 >>> (x_1 &&& 31)) &&& (1 : Int32)) = 1 then fX1_noteWhatIsBrought_42 k10 (X, x_1, x_2, 1) else fX1_noteWhatIsBrought_42 k10 (X, x_1, x_2, 0))) = some z := h
  refine lv_iload_n hx hb dX1_noteWhatIsBrought_10 rfl (lv_at hl 2 rfl) ?_
  refine lv_aload_n hx hb dX1_noteWhatIsBrought_11 rfl (lv_at hl 0 rfl) ?_
  refine tGet (T := TX1) (N := 12) (ci := 1) C hw inX1 0 0 rfl (by decide) kf_RX1_10 rfl rfl rfl dX1_noteWhatIsBrought_12 ?_
  refine tGet (T := TX0) (N := 12) (ci := 0) C hw inX0 0 1 rfl (by decide) kf_RX1_129 rfl rfl rfl dX1_noteWhatIsBrought_15 ?_
  refine lv_icmp_ge (tgt := 93) hx hb dX1_noteWhatIsBrought_18 (by decide) (fun c1 => ?_) (fun c1 => ?_)
  · replace h := (if_pos c1).symm.trans h
    obtain rfl := some_e h
    exact rtV C hr hw dX1_noteWhatIsBrought_93
  · replace h := (if_neg c1).symm.trans h
    refine lv_aload_n hx hb dX1_noteWhatIsBrought_21 rfl (lv_at hl 0 rfl) ?_
    refine tGet (T := TX1) (N := 12) (ci := 1) C hw inX1 0 0 rfl (by decide) kf_RX1_10 rfl rfl rfl dX1_noteWhatIsBrought_22 ?_
    refine lv_iload_n hx hb dX1_noteWhatIsBrought_25 rfl (lv_at hl 2 rfl) ?_
    obtain ⟨r2, hr2, h⟩ := cl_some h
    refine cVi (ws2 := (wR cA ad X)) (As := [.int x_2]) (rest := []) C hw jR0r (kX0_readersOf (fun k => ad (1 + k)) hr2) kl_RX1_97 ki_yX0_readersOf ks_yX0_readersOf kn_RX0 kc_yX0_readersOf ⟨rfl, rfl⟩ hdX0_readersOf ⟨Nat.le_of_ble_eq_true rfl, Nat.le_of_ble_eq_true rfl⟩ (ci := 0) (q0 := 0) rfl rfl rfl rfl hl.1 (Nat.le_of_ble_eq_true rfl) dX1_noteWhatIsBrought_26 ⟨Nat.zero_le _, Nat.zero_le _⟩ (fun H locs hw => ?_)
    refine lv_iload_n hx hb dX1_noteWhatIsBrought_29 rfl (lv_at hl 1 rfl) ?_
    refine lv_ishr hx hb dX1_noteWhatIsBrought_30 ?_
    refine lv_iconst (v := 1) hx hb dX1_noteWhatIsBrought_31 (by decide) ?_
    refine lv_iand hx hb dX1_noteWhatIsBrought_32 ?_
    refine lv_iconst (v := 1) hx hb dX1_noteWhatIsBrought_33 (by decide) ?_
    refine lv_icmp_ne (tgt := 41) hx hb dX1_noteWhatIsBrought_34 (by decide) (fun c3 => ?_) (fun c3 => ?_)
    · replace h := (if_neg c3).symm.trans h
      refine lv_iconst (v := 0) hx hb dX1_noteWhatIsBrought_41 (by decide) ?_
      exact kX1_noteWhatIsBrought_42 C hr k10 hk10 (X, x_1, x_2, 0) h _ _ _ hw (lv_sub hl [0, 1, 2] rfl)
    · replace h := (if_pos c3).symm.trans h
      refine lv_iconst (v := 1) hx hb dX1_noteWhatIsBrought_37 (by decide) ?_
      refine lv_goto (tgt := 42) hx hb dX1_noteWhatIsBrought_38 (by decide) ?_
      exact kX1_noteWhatIsBrought_42 C hr k10 hk10 (X, x_1, x_2, 1) h _ _ _ hw (lv_sub hl [0, 1, 2] rfl)
theorem lX1_noteWhatIsBrought_10 (C : Cx p s m args meth c cX1_noteWhatIsBrought 4 RX1 D cA g A) (hr : meth.sig.returnType = none) {z : (Nat → VS)} (n : Nat) (x : (Nat → VS) × (Int32) × (Int32)) (h : lp (fX1_noteWhatIsBrought_10) n x = some z) : GX1_noteWhatIsBrought_10 p l e s m args below meth c D cA A ad z x := lp_ok (GX1_noteWhatIsBrought_10 p l e s m args below meth c D cA A ad z) (fun kq hkq x h => kX1_noteWhatIsBrought_10 C hr kq hkq x h) n x h
set_option maxHeartbeats 4000000 in
set_option maxRecDepth 100000 in
theorem kX1_noteWhatIsBrought (ad : Nat → Nat) {X : Nat → VS} {a_1 : Int32} {z : (Nat → VS)} (h : fX1_noteWhatIsBrought X a_1 = some z) : MV l D cA g yX1_noteWhatIsBrought (Cond.code yX1_noteWhatIsBrought cX1_noteWhatIsBrought 4 none :: lw_g) rmX1_noteWhatIsBrought [.ref (ad 0), .int a_1] (wR cA ad X) (wR cA ad z) := by
  intro sz
  refine Met.ofW (cc := cX1_noteWhatIsBrought) (maxL := 4) (ret := none) (by decide) rfl ?_
  intro p e s m args below meth c s₁ B hml hv
  obtain ⟨rfl, C, hr, hw⟩ := ent B hml hv
  generalize va_A (wR cA ad X) sz = A at C hw ⊢
  have hl := lv_entry ([.ref (ad 0), .int a_1]) (n := 4) (Nat.le_of_ble_eq_true rfl)
  rw [lg_entry_eq]
  generalize (lg_sl ([.ref (ad 0), .int a_1]) ++ List.replicate (4 - (lg_sl ([.ref (ad 0), .int a_1])).length) Slot.unset).toArray = ls at hl ⊢
  have hl : lv_has ls 4 [(0, .ref (ad 0)), (1, .int a_1)] := hl
  have hx := C.1.1
  have hb := C.1.2.1
  have h : (cl (fJ7_fill_53178 (X 3 9) 0) (fun w1 => bn (up X 3 (up (X 3) 9 w1)) (fun w2 => lp (fX1_noteWhatIsBrought_10) 5000 (w2, a_1, 0)))) = some z := h
  refine lv_aload_n hx hb dX1_noteWhatIsBrought_0 rfl (lv_at hl 0 rfl) ?_
  refine tGet (T := TX1) (N := 12) (ci := 1) C hw inX1 9 0 rfl (by decide) kf_RX1_43 rfl rfl rfl dX1_noteWhatIsBrought_1 ?_
  refine lv_iconst (v := 0) hx hb dX1_noteWhatIsBrought_4 (by decide) ?_
  obtain ⟨w1, hw1, h⟩ := cl_some h
  obtain ⟨w2, ew2⟩ : ∃ y : Nat → VS, y = up X 3 (up (X 3) 9 w1) := ⟨_, rfl⟩
  replace h := bn_some h ew2
  refine cSv (ws2 := (wR cA ad w2)) (As := [.ref (ad 25), .int 0]) (rest := []) C hw (by rw [ew2]; exact jRb) (kJ7_fill_53178 (ad 25) hw1) kl_RX1_291 kt_yJ7_fill_53178 kn_RJ7 kc_yJ7_fill_53178 ⟨rfl, rfl⟩ hdJ7_fill_53178 ⟨Nat.le_of_ble_eq_true rfl, Nat.le_of_ble_eq_true rfl⟩ rfl hl.1 (Nat.le_of_ble_eq_true rfl) dX1_noteWhatIsBrought_5 ⟨Nat.zero_le _, Nat.zero_le _⟩ (fun H locs hw => ?_)
  refine lv_iconst (v := 0) hx hb dX1_noteWhatIsBrought_8 (by decide) ?_
  refine lv_istore_n (lv' := [(2, .int 0), (0, .ref (ad 0)), (1, .int a_1)]) hx hb dX1_noteWhatIsBrought_9 rfl hl (by decide) rfl (fun ls hl => ?_)
  exact lX1_noteWhatIsBrought_10 C hr 5000 (w2, a_1, 0) h _ _ _ hw (lv_sub hl [1, 2, 0] rfl)
abbrev rmX1_makesWhole : Room := { frames := 1, cells := 0, slots := 0, locals := 23 }
theorem hdX1_makesWhole : yX1_makesWhole.cls = RX1 ∧ yX1_makesWhole.cls ≠ "java/lang/invoke/MethodHandle" ∧ yX1_makesWhole.cls ≠ "java/lang/invoke/VarHandle" ∧ (parseMethodDescriptor yX1_makesWhole.desc).map (fun d => d.parameters.length) = some 2 := by decide +kernel
def GX1_makesWhole_44 (p : Program) (l : Launch) (e : Env) (s : State) (m : MethodId) (args : Array Value) (below : List Frame) (meth : Method) (c : Code) (D : va_G) (cA : ClassId) (A : Nat → Prop) (ad : Nat → Nat) (X : Nat → VS) (z : Int32) (x : (Int32) × (Int32) × (Int32)) : Prop := ∀ (H : Heap) (locs : List Loc) (ls : Array Slot), Wd D A s.heap (wR cA ad X) H locs → lv_has ls 5 [(0, .ref (ad 0)), (2, .int x.1), (3, .int x.2.1), (4, .int x.2.2)] → W p l e rmX1_makesWhole s m args below meth c H locs 0 0 (MQ below (QI D cA A z (wR cA ad X)) args s 0 0 A) (F0 m 44 ls [])
def GX1_makesWhole_12 (p : Program) (l : Launch) (e : Env) (s : State) (m : MethodId) (args : Array Value) (below : List Frame) (meth : Method) (c : Code) (D : va_G) (cA : ClassId) (A : Nat → Prop) (ad : Nat → Nat) (X : Nat → VS) (z : Int32) (x : (Int32) × (Int32) × (Int32)) : Prop := ∀ (H : Heap) (locs : List Loc) (ls : Array Slot), Wd D A s.heap (wR cA ad X) H locs → lv_has ls 5 [(0, .ref (ad 0)), (2, .int x.1), (3, .int x.2.1), (4, .int x.2.2)] → W p l e rmX1_makesWhole s m args below meth c H locs 0 0 (MQ below (QI D cA A z (wR cA ad X)) args s 0 0 A) (F0 m 12 ls [])
def fX1_makesWhole_44 (X : Nat → VS) (k12 : ((Int32) × (Int32) × (Int32)) → Option Int32) : ((Int32) × (Int32) × (Int32)) → Option Int32 := fun x => match x with | (x_2, x_3, x_4) => bn (x_4 + 1) (fun x1 => k12 (x_2, x_3, x1))
def fX1_makesWhole_12 (X : Nat → VS) (k12 : ((Int32) × (Int32) × (Int32)) → Option Int32) : ((Int32) × (Int32) × (Int32)) → Option Int32 := fun x => match x with | (x_2, x_3, x_4) => if (X 0 0 0) ≤ x_4 then if x_3 = 63 then some 1 else some 0 else if ((x_2 >>> (x_4 &&& 31)) &&& (1 : Int32)) = 1 then rd 9 (X 3 9) x_4 (fun r4 => bn (x_3 ||| r4) (fun x5 => fX1_makesWhole_44 X k12 (x_2, x5, x_4))) else fX1_makesWhole_44 X k12 (x_2, x_3, x_4)
def fX1_makesWhole (X : Nat → VS) (a_1 : Int32) (a_2 : Int32) : Option Int32 := cl (fX0_wordsOf (X 0) a_1) (fun r1 => lp (fX1_makesWhole_12 X) 5000 (a_2, r1, 0))
set_option maxHeartbeats 4000000 in
set_option maxRecDepth 100000 in
theorem kX1_makesWhole_44 (C : Cx p s m args meth c cX1_makesWhole 5 RX1 D cA g A) (hr : meth.sig.returnType = (some .boolean)) {z : Int32} (X : Nat → VS) (k12 : ((Int32) × (Int32) × (Int32)) → Option Int32) (hk12 : ∀ x, k12 x = some z → GX1_makesWhole_12 p l e s m args below meth c D cA A ad X z x) (x : (Int32) × (Int32) × (Int32)) (h : fX1_makesWhole_44 X k12 x = some z) : GX1_makesWhole_44 p l e s m args below meth c D cA A ad X z x := by
  obtain ⟨x_2, x_3, x_4⟩ := x
  intro H locs ls hw hl
  have hw : Wd D A s.heap (wR cA ad X) H locs := hw
  have hl : lv_has ls 5 [(0, .ref (ad 0)), (2, .int x_2), (3, .int x_3), (4, .int x_4)] := hl
  have hx := C.1.1
  have hb := C.1.2.1
  have h : (bn (x_4 + 1) (fun x1 => k12 (x_2, x_3, x1))) = some z := h
  obtain ⟨x1, ex1⟩ : ∃ y : Int32, y = x_4 + 1 := ⟨_, rfl⟩
  replace h := bn_some h ex1
  refine lv_iinc (v := x1) (lv' := [(4, .int x1), (0, .ref (ad 0)), (2, .int x_2), (3, .int x_3)]) hx hb dX1_makesWhole_44 hl (k := 3) rfl (by rw [ex1]; rfl) (by decide) rfl (fun ls hl => ?_)
  refine lv_goto (tgt := 12) hx hb dX1_makesWhole_47 (by decide) ?_
  exact hk12 (x_2, x_3, x1) h _ _ _ hw (lv_sub hl [1, 2, 3, 0] rfl)
set_option maxHeartbeats 4000000 in
set_option maxRecDepth 100000 in
theorem kX1_makesWhole_12 (C : Cx p s m args meth c cX1_makesWhole 5 RX1 D cA g A) (hr : meth.sig.returnType = (some .boolean)) {z : Int32} (X : Nat → VS) (k12 : ((Int32) × (Int32) × (Int32)) → Option Int32) (hk12 : ∀ x, k12 x = some z → GX1_makesWhole_12 p l e s m args below meth c D cA A ad X z x) (x : (Int32) × (Int32) × (Int32)) (h : fX1_makesWhole_12 X k12 x = some z) : GX1_makesWhole_12 p l e s m args below meth c D cA A ad X z x := by
  obtain ⟨x_2, x_3, x_4⟩ := x
  intro H locs ls hw hl
  have hw : Wd D A s.heap (wR cA ad X) H locs := hw
  have hl : lv_has ls 5 [(0, .ref (ad 0)), (2, .int x_2), (3, .int x_3), (4, .int x_4)] := hl
  have hx := C.1.1
  have hb := C.1.2.1
  have h : (if (X 0 0 0) ≤ x_4 then if x_3 = 63 then some 1 else some 0 else if ((x_2 >>> (x_4 &&& 31)) &&& (1 : Int32)) = 1 then rd 9 (X 3 9) x_4 (fun r4 => bn (x_3 ||| r4) (fun x5 => fX1_makesWhole_44 X k12 (x_2, x5, x_4))) else fX1_makesWhole_44 X k12 (x_2, x_3, x_4)) = some z := h
  refine lv_iload hx hb dX1_makesWhole_12 (lv_at hl 3 rfl) ?_
  refine lv_aload_n hx hb dX1_makesWhole_14 rfl (lv_at hl 0 rfl) ?_
  refine tGet (T := TX1) (N := 12) (ci := 1) C hw inX1 0 0 rfl (by decide) kf_RX1_10 rfl rfl rfl dX1_makesWhole_15 ?_
  refine tGet (T := TX0) (N := 12) (ci := 0) C hw inX0 0 1 rfl (by decide) kf_RX1_129 rfl rfl rfl dX1_makesWhole_18 ?_
  refine lv_icmp_ge (tgt := 50) hx hb dX1_makesWhole_21 (by decide) (fun c1 => ?_) (fun c1 => ?_)
  · replace h := (if_pos c1).symm.trans h
    refine lv_iload_n hx hb dX1_makesWhole_50 rfl (lv_at hl 2 rfl) ?_
    refine lv_bipush (v := 63) hx hb dX1_makesWhole_51 (by decide) ?_
    refine lv_icmp_ne (tgt := 60) hx hb dX1_makesWhole_53 (by decide) (fun c2 => ?_) (fun c2 => ?_)
    · replace h := (if_neg c2).symm.trans h
      refine lv_iconst (v := 0) hx hb dX1_makesWhole_60 (by decide) ?_
      obtain rfl := some_e h
      exact rtZ C hr nz0 hw dX1_makesWhole_61
    · replace h := (if_pos c2).symm.trans h
      refine lv_iconst (v := 1) hx hb dX1_makesWhole_56 (by decide) ?_
      refine lv_goto (tgt := 61) hx hb dX1_makesWhole_57 (by decide) ?_
      obtain rfl := some_e h
      exact rtZ C hr nz1 hw dX1_makesWhole_61
  · replace h := (if_neg c1).symm.trans h
    refine lv_iload_n hx hb dX1_makesWhole_24 rfl (lv_at hl 1 rfl) ?_
    refine lv_iload hx hb dX1_makesWhole_25 (lv_at hl 3 rfl) ?_
    refine lv_ishr hx hb dX1_makesWhole_27 ?_
    refine lv_iconst (v := 1) hx hb dX1_makesWhole_28 (by decide) ?_
    refine lv_iand hx hb dX1_makesWhole_29 ?_
    refine lv_iconst (v := 1) hx hb dX1_makesWhole_30 (by decide) ?_
    refine lv_icmp_ne (tgt := 44) hx hb dX1_makesWhole_31 (by decide) (fun c3 => ?_) (fun c3 => ?_)
    · replace h := (if_neg c3).symm.trans h
      exact kX1_makesWhole_44 C hr X k12 hk12 (x_2, x_3, x_4) h _ _ _ hw (lv_sub hl [0, 1, 2, 3] rfl)
    · replace h := (if_pos c3).symm.trans h
      refine lv_iload_n hx hb dX1_makesWhole_34 rfl (lv_at hl 2 rfl) ?_
      refine lv_aload_n hx hb dX1_makesWhole_35 rfl (lv_at hl 0 rfl) ?_
      refine tGet (T := TX1) (N := 12) (ci := 1) C hw inX1 9 0 rfl (by decide) kf_RX1_43 rfl rfl rfl dX1_makesWhole_36 ?_
      refine lv_iload hx hb dX1_makesWhole_39 (lv_at hl 3 rfl) ?_
      obtain ⟨r4, ir4, er4, h⟩ := rd_some h
      refine tLd C hw 25 rfl ir4 er4 dX1_makesWhole_41 ?_
      refine lv_ior hx hb dX1_makesWhole_42 ?_
      refine lv_topi (fun x5 ex5 => ?_)
      replace h := bn_some h ex5
      refine lv_istore_n (lv' := [(3, .int x5), (0, .ref (ad 0)), (2, .int x_2), (4, .int x_4)]) hx hb dX1_makesWhole_43 rfl hl (by decide) rfl (fun ls hl => ?_)
      exact kX1_makesWhole_44 C hr X k12 hk12 (x_2, x5, x_4) h _ _ _ hw (lv_sub hl [1, 2, 0, 3] rfl)
theorem lX1_makesWhole_12 (C : Cx p s m args meth c cX1_makesWhole 5 RX1 D cA g A) (hr : meth.sig.returnType = (some .boolean)) {z : Int32} (X : Nat → VS) (n : Nat) (x : (Int32) × (Int32) × (Int32)) (h : lp (fX1_makesWhole_12 X) n x = some z) : GX1_makesWhole_12 p l e s m args below meth c D cA A ad X z x := lp_ok (GX1_makesWhole_12 p l e s m args below meth c D cA A ad X z) (fun kq hkq x h => kX1_makesWhole_12 C hr X kq hkq x h) n x h
set_option maxHeartbeats 4000000 in
set_option maxRecDepth 100000 in
theorem kX1_makesWhole (ad : Nat → Nat) {X : Nat → VS} {a_1 : Int32} {a_2 : Int32} {z : Int32} (h : fX1_makesWhole X a_1 a_2 = some z) : MI l D cA g yX1_makesWhole (Cond.code yX1_makesWhole cX1_makesWhole 5 (some .boolean) :: lw_g) rmX1_makesWhole [.ref (ad 0), .int a_1, .int a_2] (wR cA ad X) z (wR cA ad X) := by
  intro sz
  refine Met.ofW (cc := cX1_makesWhole) (maxL := 5) (ret := (some .boolean)) (by decide) rfl ?_
  intro p e s m args below meth c s₁ B hml hv
  obtain ⟨rfl, C, hr, hw⟩ := ent B hml hv
  generalize va_A (wR cA ad X) sz = A at C hw ⊢
  have hl := lv_entry ([.ref (ad 0), .int a_1, .int a_2]) (n := 5) (Nat.le_of_ble_eq_true rfl)
  rw [lg_entry_eq]
  generalize (lg_sl ([.ref (ad 0), .int a_1, .int a_2]) ++ List.replicate (5 - (lg_sl ([.ref (ad 0), .int a_1, .int a_2])).length) Slot.unset).toArray = ls at hl ⊢
  have hl : lv_has ls 5 [(0, .ref (ad 0)), (1, .int a_1), (2, .int a_2)] := hl
  have hx := C.1.1
  have hb := C.1.2.1
  have h : (cl (fX0_wordsOf (X 0) a_1) (fun r1 => lp (fX1_makesWhole_12 X) 5000 (a_2, r1, 0))) = some z := h
  refine lv_aload_n hx hb dX1_makesWhole_0 rfl (lv_at hl 0 rfl) ?_
  refine tGet (T := TX1) (N := 12) (ci := 1) C hw inX1 0 0 rfl (by decide) kf_RX1_10 rfl rfl rfl dX1_makesWhole_1 ?_
  refine lv_iload_n hx hb dX1_makesWhole_4 rfl (lv_at hl 1 rfl) ?_
  obtain ⟨r1, hr1, h⟩ := cl_some h
  refine cVi (ws2 := (wR cA ad X)) (As := [.int a_1]) (rest := []) C hw jR0r (kX0_wordsOf (fun k => ad (1 + k)) hr1) kl_RX1_109 ki_yX0_wordsOf ks_yX0_wordsOf kn_RX0 kc_yX0_wordsOf ⟨rfl, rfl⟩ hdX0_wordsOf ⟨Nat.le_of_ble_eq_true rfl, Nat.le_of_ble_eq_true rfl⟩ (ci := 0) (q0 := 0) rfl rfl rfl rfl hl.1 (Nat.le_of_ble_eq_true rfl) dX1_makesWhole_5 ⟨Nat.zero_le _, Nat.zero_le _⟩ (fun H locs hw => ?_)
  refine lv_istore_n (lv' := [(3, .int r1), (0, .ref (ad 0)), (1, .int a_1), (2, .int a_2)]) hx hb dX1_makesWhole_8 rfl hl (by decide) rfl (fun ls hl => ?_)
  refine lv_iconst (v := 0) hx hb dX1_makesWhole_9 (by decide) ?_
  refine lv_istore (lv' := [(4, .int 0), (3, .int r1), (0, .ref (ad 0)), (1, .int a_1), (2, .int a_2)]) hx hb dX1_makesWhole_10 hl (by decide) rfl (fun ls hl => ?_)
  exact lX1_makesWhole_12 C hr X 5000 (a_2, r1, 0) h _ _ _ hw (lv_sub hl [2, 4, 1, 0] rfl)
abbrev rmX1_fewestRockets : Room := { frames := 2, cells := 0, slots := 0, locals := 47 }
theorem hdX1_fewestRockets : yX1_fewestRockets.cls = RX1 ∧ yX1_fewestRockets.cls ≠ "java/lang/invoke/MethodHandle" ∧ yX1_fewestRockets.cls ≠ "java/lang/invoke/VarHandle" ∧ (parseMethodDescriptor yX1_fewestRockets.desc).map (fun d => d.parameters.length) = some 1 := by decide +kernel
def GX1_fewestRockets_76 (p : Program) (l : Launch) (e : Env) (s : State) (m : MethodId) (args : Array Value) (below : List Frame) (meth : Method) (c : Code) (D : va_G) (cA : ClassId) (A : Nat → Prop) (ad : Nat → Nat) (X : Nat → VS) (z : Int32) (x : (Int32) × (Int32) × (Int32) × (Int32)) : Prop := ∀ (H : Heap) (locs : List Loc) (ls : Array Slot), Wd D A s.heap (wR cA ad X) H locs → lv_has ls 6 [(0, .ref (ad 0)), (1, .int x.1), (2, .int x.2.1), (3, .int x.2.2.1), (4, .int x.2.2.2)] → W p l e rmX1_fewestRockets s m args below meth c H locs 0 0 (MQ below (QI D cA A z (wR cA ad X)) args s 0 0 A) (F0 m 76 ls [])
def GX1_fewestRockets_37 (p : Program) (l : Launch) (e : Env) (s : State) (m : MethodId) (args : Array Value) (below : List Frame) (meth : Method) (c : Code) (D : va_G) (cA : ClassId) (A : Nat → Prop) (ad : Nat → Nat) (X : Nat → VS) (z : Int32) (x : (Int32) × (Int32) × (Int32) × (Int32) × (Int32)) : Prop := ∀ (H : Heap) (locs : List Loc) (ls : Array Slot), Wd D A s.heap (wR cA ad X) H locs → lv_has ls 6 [(0, .ref (ad 0)), (1, .int x.1), (2, .int x.2.1), (3, .int x.2.2.1), (4, .int x.2.2.2.1)] → W p l e rmX1_fewestRockets s m args below meth c H locs 0 0 (MQ below (QI D cA A z (wR cA ad X)) args s 0 0 A) (F0 m 37 ls [.int x.2.2.2.2])
def GX1_fewestRockets_9 (p : Program) (l : Launch) (e : Env) (s : State) (m : MethodId) (args : Array Value) (below : List Frame) (meth : Method) (c : Code) (D : va_G) (cA : ClassId) (A : Nat → Prop) (ad : Nat → Nat) (X : Nat → VS) (z : Int32) (x : (Int32) × (Int32) × (Int32) × (Int32)) : Prop := ∀ (H : Heap) (locs : List Loc) (ls : Array Slot), Wd D A s.heap (wR cA ad X) H locs → lv_has ls 6 [(0, .ref (ad 0)), (1, .int x.1), (2, .int x.2.1), (3, .int x.2.2.1), (4, .int x.2.2.2)] → W p l e rmX1_fewestRockets s m args below meth c H locs 0 0 (MQ below (QI D cA A z (wR cA ad X)) args s 0 0 A) (F0 m 9 ls [])
def fX1_fewestRockets_76 (X : Nat → VS) (k9 : ((Int32) × (Int32) × (Int32) × (Int32)) → Option Int32) : ((Int32) × (Int32) × (Int32) × (Int32)) → Option Int32 := fun x => match x with | (x_1, x_2, x_3, x_4) => bn (x_4 + 1) (fun x1 => k9 (x_1, x_2, x_3, x1))
def fX1_fewestRockets_37 (X : Nat → VS) (k9 : ((Int32) × (Int32) × (Int32) × (Int32)) → Option Int32) : ((Int32) × (Int32) × (Int32) × (Int32) × (Int32)) → Option Int32 := fun x => match x with | (x_1, x_2, x_3, x_4, y_0) => if y_0 = 0 then fX1_fewestRockets_76 X k9 (x_1, x_2, x_3, x_4) else if (x_4 &&& (X 0 4 0)) = 0 then cl (fX1_makesWhole X x_1 x_4) (fun r3 => if r3 = 0 then fX1_fewestRockets_76 X k9 (x_1, x_2, x_3, x_4) else cl (fJ6_bitCount_0f7a4 x_4) (fun r5 => fX1_fewestRockets_76 X k9 (x_1, x_4, r5, x_4))) else fX1_fewestRockets_76 X k9 (x_1, x_2, x_3, x_4)
def fX1_fewestRockets_9 (X : Nat → VS) (k9 : ((Int32) × (Int32) × (Int32) × (Int32)) → Option Int32) : ((Int32) × (Int32) × (Int32) × (Int32)) → Option Int32 := fun x => match x with | (x_1, x_2, x_3, x_4) => if ((1 : Int32) <<< ((X 0 0 0) &&& 31)) ≤ x_4 then some x_2 else cl (fJ6_bitCount_0f7a4 x_4) (fun r2 => if x_3 ≤ r2 then fX1_fewestRockets_37 X k9 (x_1, x_2, x_3, x_4, 0) else fX1_fewestRockets_37 X k9 (x_1, x_2, x_3, x_4, 1))
def fX1_fewestRockets (X : Nat → VS) (a_1 : Int32) : Option Int32 := lp (fX1_fewestRockets_9 X) 5000 (a_1, (-9), 10, 0)
set_option maxHeartbeats 4000000 in
set_option maxRecDepth 100000 in
theorem kX1_fewestRockets_76 (C : Cx p s m args meth c cX1_fewestRockets 6 RX1 D cA g A) (hr : meth.sig.returnType = (some .int)) {z : Int32} (X : Nat → VS) (k9 : ((Int32) × (Int32) × (Int32) × (Int32)) → Option Int32) (hk9 : ∀ x, k9 x = some z → GX1_fewestRockets_9 p l e s m args below meth c D cA A ad X z x) (x : (Int32) × (Int32) × (Int32) × (Int32)) (h : fX1_fewestRockets_76 X k9 x = some z) : GX1_fewestRockets_76 p l e s m args below meth c D cA A ad X z x := by
  obtain ⟨x_1, x_2, x_3, x_4⟩ := x
  intro H locs ls hw hl
  have hw : Wd D A s.heap (wR cA ad X) H locs := hw
  have hl : lv_has ls 6 [(0, .ref (ad 0)), (1, .int x_1), (2, .int x_2), (3, .int x_3), (4, .int x_4)] := hl
  have hx := C.1.1
  have hb := C.1.2.1
  have h : (bn (x_4 + 1) (fun x1 => k9 (x_1, x_2, x_3, x1))) = some z := h
  obtain ⟨x1, ex1⟩ : ∃ y : Int32, y = x_4 + 1 := ⟨_, rfl⟩
  replace h := bn_some h ex1
  refine lv_iinc (v := x1) (lv' := [(4, .int x1), (0, .ref (ad 0)), (1, .int x_1), (2, .int x_2), (3, .int x_3)]) hx hb dX1_fewestRockets_76 hl (k := 4) rfl (by rw [ex1]; rfl) (by decide) rfl (fun ls hl => ?_)
  refine lv_goto (tgt := 9) hx hb dX1_fewestRockets_79 (by decide) ?_
  exact hk9 (x_1, x_2, x_3, x1) h _ _ _ hw (lv_sub hl [1, 2, 3, 4, 0] rfl)
set_option maxHeartbeats 4000000 in
set_option maxRecDepth 100000 in
theorem kX1_fewestRockets_37 (C : Cx p s m args meth c cX1_fewestRockets 6 RX1 D cA g A) (hr : meth.sig.returnType = (some .int)) {z : Int32} (X : Nat → VS) (k9 : ((Int32) × (Int32) × (Int32) × (Int32)) → Option Int32) (hk9 : ∀ x, k9 x = some z → GX1_fewestRockets_9 p l e s m args below meth c D cA A ad X z x) (x : (Int32) × (Int32) × (Int32) × (Int32) × (Int32)) (h : fX1_fewestRockets_37 X k9 x = some z) : GX1_fewestRockets_37 p l e s m args below meth c D cA A ad X z x := by
  obtain ⟨x_1, x_2, x_3, x_4, y_0⟩ := x
  intro H locs ls hw hl
  have hw : Wd D A s.heap (wR cA ad X) H locs := hw
  have hl : lv_has ls 6 [(0, .ref (ad 0)), (1, .int x_1), (2, .int x_2), (3, .int x_3), (4, .int x_4)] := hl
  show W p l e rmX1_fewestRockets s m args below meth c H locs 0 0 (MQ below (QI D cA A z (wR cA ad X)) args s 0 0 A) (F0 m 37 ls [.int y_0])
  have hx := C.1.1
  have hb := C.1.2.1
  have h : (if y_0 = 0 then fX1_fewestRockets_76 X k9 (x_1, x_2, x_3, x_4) else if (x_4 &&& (X 0 4 0)) = 0 then cl (fX1_makesWhole X x_1 x_4) (fun r3 => if r3 = 0 then fX1_fewestRockets_76 X k9 (x_1, x_2, x_3, x_4) else cl (fJ6_bitCount_0f7a4 x_4) (fun r5 => fX1_fewestRockets_76 X k9 (x_1, x_4, r5, x_4))) else fX1_fewestRockets_76 X k9 (x_1, x_2, x_3, x_4)) = some z := h
  refine lv_istore (lv' := [(5, .int y_0), (0, .ref (ad 0)), (1, .int x_1), (2, .int x_2), (3, .int x_3), (4, .int x_4)]) hx hb dX1_fewestRockets_37 hl (by decide) rfl (fun ls hl => ?_)
  refine lv_iload hx hb dX1_fewestRockets_39 (lv_at hl 0 rfl) ?_
  refine lv_if_eq (tgt := 76) hx hb dX1_fewestRockets_41 (by decide) (fun c1 => ?_) (fun c1 => ?_)
  · replace h := (if_pos c1).symm.trans h
    exact kX1_fewestRockets_76 C hr X k9 hk9 (x_1, x_2, x_3, x_4) h _ _ _ hw (lv_sub hl [1, 2, 3, 4, 5] rfl)
  · replace h := (if_neg c1).symm.trans h
    refine lv_iload hx hb dX1_fewestRockets_44 (lv_at hl 5 rfl) ?_
    refine lv_aload_n hx hb dX1_fewestRockets_46 rfl (lv_at hl 1 rfl) ?_
    refine tGet (T := TX1) (N := 12) (ci := 1) C hw inX1 0 0 rfl (by decide) kf_RX1_10 rfl rfl rfl dX1_fewestRockets_47 ?_
    refine tGet (T := TX0) (N := 12) (ci := 0) C hw inX0 4 1 rfl (by decide) kf_RX1_132 rfl rfl rfl dX1_fewestRockets_50 ?_
    refine lv_iand hx hb dX1_fewestRockets_53 ?_
    refine lv_if_ne (tgt := 76) hx hb dX1_fewestRockets_54 (by decide) (fun c2 => ?_) (fun c2 => ?_)
    · replace h := (if_neg c2).symm.trans h
      exact kX1_fewestRockets_76 C hr X k9 hk9 (x_1, x_2, x_3, x_4) h _ _ _ hw (lv_sub hl [1, 2, 3, 4, 5] rfl)
    · replace h := (if_pos c2).symm.trans h
      refine lv_aload_n hx hb dX1_fewestRockets_57 rfl (lv_at hl 1 rfl) ?_
      refine lv_iload_n hx hb dX1_fewestRockets_58 rfl (lv_at hl 2 rfl) ?_
      refine lv_iload hx hb dX1_fewestRockets_59 (lv_at hl 5 rfl) ?_
      obtain ⟨r3, hr3, h⟩ := cl_some h
      refine cVi (ws2 := (wR cA ad X)) (As := [.int x_1, .int x_4]) (rest := []) C hw jnW (kX1_makesWhole ad hr3) kl_RX1_297 ki_yX1_makesWhole ks_yX1_makesWhole kn_RX1 kc_yX1_makesWhole ⟨rfl, rfl⟩ hdX1_makesWhole ⟨Nat.le_of_ble_eq_true rfl, Nat.le_of_ble_eq_true rfl⟩ (ci := 1) (q0 := 0) rfl rfl rfl rfl hl.1 (Nat.le_of_ble_eq_true rfl) dX1_fewestRockets_61 ⟨Nat.zero_le _, Nat.zero_le _⟩ (fun H locs hw => ?_)
      refine lv_if_eq (tgt := 76) hx hb dX1_fewestRockets_64 (by decide) (fun c4 => ?_) (fun c4 => ?_)
      · replace h := (if_pos c4).symm.trans h
        exact kX1_fewestRockets_76 C hr X k9 hk9 (x_1, x_2, x_3, x_4) h _ _ _ hw (lv_sub hl [1, 2, 3, 4, 5] rfl)
      · replace h := (if_neg c4).symm.trans h
        refine lv_iload hx hb dX1_fewestRockets_67 (lv_at hl 5 rfl) ?_
        obtain ⟨r5, hr5, h⟩ := cl_some h
        refine cSi (ws2 := (wR cA ad X)) (As := [.int x_4]) (rest := []) C hw jnE (kJ6_bitCount_0f7a4 hr5) kl_RX1_135 kt_yJ6_bitCount_0f7a4 kn_RJ6 kc_yJ6_bitCount_0f7a4 ⟨rfl, rfl⟩ hdJ6_bitCount_0f7a4 ⟨Nat.le_of_ble_eq_true rfl, Nat.le_of_ble_eq_true rfl⟩ rfl hl.1 (Nat.le_of_ble_eq_true rfl) dX1_fewestRockets_69 ⟨Nat.zero_le _, Nat.zero_le _⟩ (fun H locs hw => ?_)
        refine lv_istore_n (lv' := [(3, .int r5), (5, .int y_0), (0, .ref (ad 0)), (1, .int x_1), (2, .int x_2), (4, .int x_4)]) hx hb dX1_fewestRockets_72 rfl hl (by decide) rfl (fun ls hl => ?_)
        refine lv_iload hx hb dX1_fewestRockets_73 (lv_at hl 5 rfl) ?_
        refine lv_istore_n (lv' := [(2, .int x_4), (3, .int r5), (5, .int y_0), (0, .ref (ad 0)), (1, .int x_1), (4, .int x_4)]) hx hb dX1_fewestRockets_75 rfl hl (by decide) rfl (fun ls hl => ?_)
        exact kX1_fewestRockets_76 C hr X k9 hk9 (x_1, x_4, r5, x_4) h _ _ _ hw (lv_sub hl [3, 4, 0, 1, 5] rfl)
set_option maxHeartbeats 4000000 in
set_option maxRecDepth 100000 in
theorem kX1_fewestRockets_9 (C : Cx p s m args meth c cX1_fewestRockets 6 RX1 D cA g A) (hr : meth.sig.returnType = (some .int)) {z : Int32} (X : Nat → VS) (k9 : ((Int32) × (Int32) × (Int32) × (Int32)) → Option Int32) (hk9 : ∀ x, k9 x = some z → GX1_fewestRockets_9 p l e s m args below meth c D cA A ad X z x) (x : (Int32) × (Int32) × (Int32) × (Int32)) (h : fX1_fewestRockets_9 X k9 x = some z) : GX1_fewestRockets_9 p l e s m args below meth c D cA A ad X z x := by
  obtain ⟨x_1, x_2, x_3, x_4⟩ := x
  intro H locs ls hw hl
  have hw : Wd D A s.heap (wR cA ad X) H locs := hw
  have hl : lv_has ls 6 [(0, .ref (ad 0)), (1, .int x_1), (2, .int x_2), (3, .int x_3), (4, .int x_4)] := hl
  have hx := C.1.1
  have hb := C.1.2.1
  have h : (if ((1 : Int32) <<< ((X 0 0 0) &&& 31)) ≤ x_4 then some x_2 else cl (fJ6_bitCount_0f7a4 x_4) (fun r2 => if x_3 ≤ r2 then fX1_fewestRockets_37 X k9 (x_1, x_2, x_3, x_4, 0) else fX1_fewestRockets_37 X k9 (x_1, x_2, x_3, x_4, 1))) = some z := h
  refine lv_iload hx hb dX1_fewestRockets_9 (lv_at hl 4 rfl) ?_
  refine lv_iconst (v := 1) hx hb dX1_fewestRockets_11 (by decide) ?_
  refine lv_aload_n hx hb dX1_fewestRockets_12 rfl (lv_at hl 0 rfl) ?_
  refine tGet (T := TX1) (N := 12) (ci := 1) C hw inX1 0 0 rfl (by decide) kf_RX1_10 rfl rfl rfl dX1_fewestRockets_13 ?_
  refine tGet (T := TX0) (N := 12) (ci := 0) C hw inX0 0 1 rfl (by decide) kf_RX1_129 rfl rfl rfl dX1_fewestRockets_16 ?_
  refine lv_ishl hx hb dX1_fewestRockets_19 ?_
  refine lv_icmp_ge (tgt := 82) hx hb dX1_fewestRockets_20 (by decide) (fun c1 => ?_) (fun c1 => ?_)
  · replace h := (if_pos c1).symm.trans h
    refine lv_iload_n hx hb dX1_fewestRockets_82 rfl (lv_at hl 2 rfl) ?_
    obtain rfl := some_e h
    exact rtI C hr hw dX1_fewestRockets_83
  · replace h := (if_neg c1).symm.trans h
    refine lv_iload hx hb dX1_fewestRockets_23 (lv_at hl 4 rfl) ?_
    obtain ⟨r2, hr2, h⟩ := cl_some h
    refine cSi (ws2 := (wR cA ad X)) (As := [.int x_4]) (rest := []) C hw jnE (kJ6_bitCount_0f7a4 hr2) kl_RX1_135 kt_yJ6_bitCount_0f7a4 kn_RJ6 kc_yJ6_bitCount_0f7a4 ⟨rfl, rfl⟩ hdJ6_bitCount_0f7a4 ⟨Nat.le_of_ble_eq_true rfl, Nat.le_of_ble_eq_true rfl⟩ rfl hl.1 (Nat.le_of_ble_eq_true rfl) dX1_fewestRockets_25 ⟨Nat.zero_le _, Nat.zero_le _⟩ (fun H locs hw => ?_)
    refine lv_iload_n hx hb dX1_fewestRockets_28 rfl (lv_at hl 3 rfl) ?_
    refine lv_icmp_ge (tgt := 36) hx hb dX1_fewestRockets_29 (by decide) (fun c3 => ?_) (fun c3 => ?_)
    · replace h := (if_pos c3).symm.trans h
      refine lv_iconst (v := 0) hx hb dX1_fewestRockets_36 (by decide) ?_
      exact kX1_fewestRockets_37 C hr X k9 hk9 (x_1, x_2, x_3, x_4, 0) h _ _ _ hw (lv_sub hl [0, 1, 2, 3, 4] rfl)
    · replace h := (if_neg c3).symm.trans h
      refine lv_iconst (v := 1) hx hb dX1_fewestRockets_32 (by decide) ?_
      refine lv_goto (tgt := 37) hx hb dX1_fewestRockets_33 (by decide) ?_
      exact kX1_fewestRockets_37 C hr X k9 hk9 (x_1, x_2, x_3, x_4, 1) h _ _ _ hw (lv_sub hl [0, 1, 2, 3, 4] rfl)
theorem lX1_fewestRockets_9 (C : Cx p s m args meth c cX1_fewestRockets 6 RX1 D cA g A) (hr : meth.sig.returnType = (some .int)) {z : Int32} (X : Nat → VS) (n : Nat) (x : (Int32) × (Int32) × (Int32) × (Int32)) (h : lp (fX1_fewestRockets_9 X) n x = some z) : GX1_fewestRockets_9 p l e s m args below meth c D cA A ad X z x := lp_ok (GX1_fewestRockets_9 p l e s m args below meth c D cA A ad X z) (fun kq hkq x h => kX1_fewestRockets_9 C hr X kq hkq x h) n x h
set_option maxHeartbeats 4000000 in
set_option maxRecDepth 100000 in
theorem kX1_fewestRockets (ad : Nat → Nat) {X : Nat → VS} {a_1 : Int32} {z : Int32} (h : fX1_fewestRockets X a_1 = some z) : MI l D cA g yX1_fewestRockets (Cond.code yX1_fewestRockets cX1_fewestRockets 6 (some .int) :: lw_g) rmX1_fewestRockets [.ref (ad 0), .int a_1] (wR cA ad X) z (wR cA ad X) := by
  intro sz
  refine Met.ofW (cc := cX1_fewestRockets) (maxL := 6) (ret := (some .int)) (by decide) rfl ?_
  intro p e s m args below meth c s₁ B hml hv
  obtain ⟨rfl, C, hr, hw⟩ := ent B hml hv
  generalize va_A (wR cA ad X) sz = A at C hw ⊢
  have hl := lv_entry ([.ref (ad 0), .int a_1]) (n := 6) (Nat.le_of_ble_eq_true rfl)
  rw [lg_entry_eq]
  generalize (lg_sl ([.ref (ad 0), .int a_1]) ++ List.replicate (6 - (lg_sl ([.ref (ad 0), .int a_1])).length) Slot.unset).toArray = ls at hl ⊢
  have hl : lv_has ls 6 [(0, .ref (ad 0)), (1, .int a_1)] := hl
  have hx := C.1.1
  have hb := C.1.2.1
  have h : (lp (fX1_fewestRockets_9 X) 5000 (a_1, (-9), 10, 0)) = some z := h
  refine lv_bipush (v := (-9)) hx hb dX1_fewestRockets_0 (by decide) ?_
  refine lv_istore_n (lv' := [(2, .int (-9)), (0, .ref (ad 0)), (1, .int a_1)]) hx hb dX1_fewestRockets_2 rfl hl (by decide) rfl (fun ls hl => ?_)
  refine lv_bipush (v := 10) hx hb dX1_fewestRockets_3 (by decide) ?_
  refine lv_istore_n (lv' := [(3, .int 10), (2, .int (-9)), (0, .ref (ad 0)), (1, .int a_1)]) hx hb dX1_fewestRockets_5 rfl hl (by decide) rfl (fun ls hl => ?_)
  refine lv_iconst (v := 0) hx hb dX1_fewestRockets_6 (by decide) ?_
  refine lv_istore (lv' := [(4, .int 0), (3, .int 10), (2, .int (-9)), (0, .ref (ad 0)), (1, .int a_1)]) hx hb dX1_fewestRockets_7 hl (by decide) rfl (fun ls hl => ?_)
  exact lX1_fewestRockets_9 C hr X 5000 (a_1, (-9), 10, 0) h _ _ _ hw (lv_sub hl [3, 4, 2, 1, 0] rfl)
abbrev rmX1_costOfChosen : Room := { frames := 1, cells := 0, slots := 0, locals := 21 }
theorem hdX1_costOfChosen : yX1_costOfChosen.cls = RX1 ∧ yX1_costOfChosen.cls ≠ "java/lang/invoke/MethodHandle" ∧ yX1_costOfChosen.cls ≠ "java/lang/invoke/VarHandle" ∧ (parseMethodDescriptor yX1_costOfChosen.desc).map (fun d => d.parameters.length) = some 1 := by decide +kernel
def GX1_costOfChosen_35 (p : Program) (l : Launch) (e : Env) (s : State) (m : MethodId) (args : Array Value) (below : List Frame) (meth : Method) (c : Code) (D : va_G) (cA : ClassId) (A : Nat → Prop) (ad : Nat → Nat) (X : Nat → VS) (z : Int32) (x : (Int32) × (Int32) × (Int32)) : Prop := ∀ (H : Heap) (locs : List Loc) (ls : Array Slot), Wd D A s.heap (wR cA ad X) H locs → lv_has ls 4 [(0, .ref (ad 0)), (1, .int x.1), (2, .int x.2.1), (3, .int x.2.2)] → W p l e rmX1_costOfChosen s m args below meth c H locs 0 0 (MQ below (QI D cA A z (wR cA ad X)) args s 0 0 A) (F0 m 35 ls [])
def GX1_costOfChosen_4 (p : Program) (l : Launch) (e : Env) (s : State) (m : MethodId) (args : Array Value) (below : List Frame) (meth : Method) (c : Code) (D : va_G) (cA : ClassId) (A : Nat → Prop) (ad : Nat → Nat) (X : Nat → VS) (z : Int32) (x : (Int32) × (Int32) × (Int32)) : Prop := ∀ (H : Heap) (locs : List Loc) (ls : Array Slot), Wd D A s.heap (wR cA ad X) H locs → lv_has ls 4 [(0, .ref (ad 0)), (1, .int x.1), (2, .int x.2.1), (3, .int x.2.2)] → W p l e rmX1_costOfChosen s m args below meth c H locs 0 0 (MQ below (QI D cA A z (wR cA ad X)) args s 0 0 A) (F0 m 4 ls [])
def fX1_costOfChosen_35 (X : Nat → VS) (k4 : ((Int32) × (Int32) × (Int32)) → Option Int32) : ((Int32) × (Int32) × (Int32)) → Option Int32 := fun x => match x with | (x_1, x_2, x_3) => bn (x_3 + 1) (fun x1 => k4 (x_1, x_2, x1))
def fX1_costOfChosen_4 (X : Nat → VS) (k4 : ((Int32) × (Int32) × (Int32)) → Option Int32) : ((Int32) × (Int32) × (Int32)) → Option Int32 := fun x => match x with | (x_1, x_2, x_3) => if (X 0 0 0) ≤ x_3 then some x_2 else if ((x_1 >>> (x_3 &&& 31)) &&& (1 : Int32)) = 1 then cl (fX0_costOf (X 0) x_3) (fun r3 => bn (x_2 + r3) (fun x4 => fX1_costOfChosen_35 X k4 (x_1, x4, x_3))) else fX1_costOfChosen_35 X k4 (x_1, x_2, x_3)
def fX1_costOfChosen (X : Nat → VS) (a_1 : Int32) : Option Int32 := lp (fX1_costOfChosen_4 X) 5000 (a_1, 0, 0)
set_option maxHeartbeats 4000000 in
set_option maxRecDepth 100000 in
theorem kX1_costOfChosen_35 (C : Cx p s m args meth c cX1_costOfChosen 4 RX1 D cA g A) (hr : meth.sig.returnType = (some .int)) {z : Int32} (X : Nat → VS) (k4 : ((Int32) × (Int32) × (Int32)) → Option Int32) (hk4 : ∀ x, k4 x = some z → GX1_costOfChosen_4 p l e s m args below meth c D cA A ad X z x) (x : (Int32) × (Int32) × (Int32)) (h : fX1_costOfChosen_35 X k4 x = some z) : GX1_costOfChosen_35 p l e s m args below meth c D cA A ad X z x := by
  obtain ⟨x_1, x_2, x_3⟩ := x
  intro H locs ls hw hl
  have hw : Wd D A s.heap (wR cA ad X) H locs := hw
  have hl : lv_has ls 4 [(0, .ref (ad 0)), (1, .int x_1), (2, .int x_2), (3, .int x_3)] := hl
  have hx := C.1.1
  have hb := C.1.2.1
  have h : (bn (x_3 + 1) (fun x1 => k4 (x_1, x_2, x1))) = some z := h
  obtain ⟨x1, ex1⟩ : ∃ y : Int32, y = x_3 + 1 := ⟨_, rfl⟩
  replace h := bn_some h ex1
  refine lv_iinc (v := x1) (lv' := [(3, .int x1), (0, .ref (ad 0)), (1, .int x_1), (2, .int x_2)]) hx hb dX1_costOfChosen_35 hl (k := 3) rfl (by rw [ex1]; rfl) (by decide) rfl (fun ls hl => ?_)
  refine lv_goto (tgt := 4) hx hb dX1_costOfChosen_38 (by decide) ?_
  exact hk4 (x_1, x_2, x1) h _ _ _ hw (lv_sub hl [1, 2, 3, 0] rfl)
set_option maxHeartbeats 4000000 in
set_option maxRecDepth 100000 in
theorem kX1_costOfChosen_4 (C : Cx p s m args meth c cX1_costOfChosen 4 RX1 D cA g A) (hr : meth.sig.returnType = (some .int)) {z : Int32} (X : Nat → VS) (k4 : ((Int32) × (Int32) × (Int32)) → Option Int32) (hk4 : ∀ x, k4 x = some z → GX1_costOfChosen_4 p l e s m args below meth c D cA A ad X z x) (x : (Int32) × (Int32) × (Int32)) (h : fX1_costOfChosen_4 X k4 x = some z) : GX1_costOfChosen_4 p l e s m args below meth c D cA A ad X z x := by
  obtain ⟨x_1, x_2, x_3⟩ := x
  intro H locs ls hw hl
  have hw : Wd D A s.heap (wR cA ad X) H locs := hw
  have hl : lv_has ls 4 [(0, .ref (ad 0)), (1, .int x_1), (2, .int x_2), (3, .int x_3)] := hl
  have hx := C.1.1
  have hb := C.1.2.1
  have h : (if (X 0 0 0) ≤ x_3 then some x_2 else if ((x_1 >>> (x_3 &&& 31)) &&& (1 : Int32)) = 1 then cl (fX0_costOf (X 0) x_3) (fun r3 => bn (x_2 + r3) (fun x4 => fX1_costOfChosen_35 X k4 (x_1, x4, x_3))) else fX1_costOfChosen_35 X k4 (x_1, x_2, x_3)) = some z := h
  refine lv_iload_n hx hb dX1_costOfChosen_4 rfl (lv_at hl 3 rfl) ?_
  refine lv_aload_n hx hb dX1_costOfChosen_5 rfl (lv_at hl 0 rfl) ?_
  refine tGet (T := TX1) (N := 12) (ci := 1) C hw inX1 0 0 rfl (by decide) kf_RX1_10 rfl rfl rfl dX1_costOfChosen_6 ?_
  refine tGet (T := TX0) (N := 12) (ci := 0) C hw inX0 0 1 rfl (by decide) kf_RX1_129 rfl rfl rfl dX1_costOfChosen_9 ?_
  refine lv_icmp_ge (tgt := 41) hx hb dX1_costOfChosen_12 (by decide) (fun c1 => ?_) (fun c1 => ?_)
  · replace h := (if_pos c1).symm.trans h
    refine lv_iload_n hx hb dX1_costOfChosen_41 rfl (lv_at hl 2 rfl) ?_
    obtain rfl := some_e h
    exact rtI C hr hw dX1_costOfChosen_42
  · replace h := (if_neg c1).symm.trans h
    refine lv_iload_n hx hb dX1_costOfChosen_15 rfl (lv_at hl 1 rfl) ?_
    refine lv_iload_n hx hb dX1_costOfChosen_16 rfl (lv_at hl 3 rfl) ?_
    refine lv_ishr hx hb dX1_costOfChosen_17 ?_
    refine lv_iconst (v := 1) hx hb dX1_costOfChosen_18 (by decide) ?_
    refine lv_iand hx hb dX1_costOfChosen_19 ?_
    refine lv_iconst (v := 1) hx hb dX1_costOfChosen_20 (by decide) ?_
    refine lv_icmp_ne (tgt := 35) hx hb dX1_costOfChosen_21 (by decide) (fun c2 => ?_) (fun c2 => ?_)
    · replace h := (if_neg c2).symm.trans h
      exact kX1_costOfChosen_35 C hr X k4 hk4 (x_1, x_2, x_3) h _ _ _ hw (lv_sub hl [0, 1, 2, 3] rfl)
    · replace h := (if_pos c2).symm.trans h
      refine lv_iload_n hx hb dX1_costOfChosen_24 rfl (lv_at hl 2 rfl) ?_
      refine lv_aload_n hx hb dX1_costOfChosen_25 rfl (lv_at hl 0 rfl) ?_
      refine tGet (T := TX1) (N := 12) (ci := 1) C hw inX1 0 0 rfl (by decide) kf_RX1_10 rfl rfl rfl dX1_costOfChosen_26 ?_
      refine lv_iload_n hx hb dX1_costOfChosen_29 rfl (lv_at hl 3 rfl) ?_
      obtain ⟨r3, hr3, h⟩ := cl_some h
      refine cVi (ws2 := (wR cA ad X)) (As := [.int x_3]) (rest := [.int x_2]) C hw jR0r (kX0_costOf (fun k => ad (1 + k)) hr3) kl_RX1_85 ki_yX0_costOf ks_yX0_costOf kn_RX0 kc_yX0_costOf ⟨rfl, rfl⟩ hdX0_costOf ⟨Nat.le_of_ble_eq_true rfl, Nat.le_of_ble_eq_true rfl⟩ (ci := 0) (q0 := 0) rfl rfl rfl rfl hl.1 (Nat.le_of_ble_eq_true rfl) dX1_costOfChosen_30 ⟨Nat.zero_le _, Nat.zero_le _⟩ (fun H locs hw => ?_)
      refine lv_iadd hx hb dX1_costOfChosen_33 ?_
      refine lv_topi (fun x4 ex4 => ?_)
      replace h := bn_some h ex4
      refine lv_istore_n (lv' := [(2, .int x4), (0, .ref (ad 0)), (1, .int x_1), (3, .int x_3)]) hx hb dX1_costOfChosen_34 rfl hl (by decide) rfl (fun ls hl => ?_)
      exact kX1_costOfChosen_35 C hr X k4 hk4 (x_1, x4, x_3) h _ _ _ hw (lv_sub hl [1, 2, 0, 3] rfl)
theorem lX1_costOfChosen_4 (C : Cx p s m args meth c cX1_costOfChosen 4 RX1 D cA g A) (hr : meth.sig.returnType = (some .int)) {z : Int32} (X : Nat → VS) (n : Nat) (x : (Int32) × (Int32) × (Int32)) (h : lp (fX1_costOfChosen_4 X) n x = some z) : GX1_costOfChosen_4 p l e s m args below meth c D cA A ad X z x := lp_ok (GX1_costOfChosen_4 p l e s m args below meth c D cA A ad X z) (fun kq hkq x h => kX1_costOfChosen_4 C hr X kq hkq x h) n x h
set_option maxHeartbeats 4000000 in
set_option maxRecDepth 100000 in
theorem kX1_costOfChosen (ad : Nat → Nat) {X : Nat → VS} {a_1 : Int32} {z : Int32} (h : fX1_costOfChosen X a_1 = some z) : MI l D cA g yX1_costOfChosen (Cond.code yX1_costOfChosen cX1_costOfChosen 4 (some .int) :: lw_g) rmX1_costOfChosen [.ref (ad 0), .int a_1] (wR cA ad X) z (wR cA ad X) := by
  intro sz
  refine Met.ofW (cc := cX1_costOfChosen) (maxL := 4) (ret := (some .int)) (by decide) rfl ?_
  intro p e s m args below meth c s₁ B hml hv
  obtain ⟨rfl, C, hr, hw⟩ := ent B hml hv
  generalize va_A (wR cA ad X) sz = A at C hw ⊢
  have hl := lv_entry ([.ref (ad 0), .int a_1]) (n := 4) (Nat.le_of_ble_eq_true rfl)
  rw [lg_entry_eq]
  generalize (lg_sl ([.ref (ad 0), .int a_1]) ++ List.replicate (4 - (lg_sl ([.ref (ad 0), .int a_1])).length) Slot.unset).toArray = ls at hl ⊢
  have hl : lv_has ls 4 [(0, .ref (ad 0)), (1, .int a_1)] := hl
  have hx := C.1.1
  have hb := C.1.2.1
  have h : (lp (fX1_costOfChosen_4 X) 5000 (a_1, 0, 0)) = some z := h
  refine lv_iconst (v := 0) hx hb dX1_costOfChosen_0 (by decide) ?_
  refine lv_istore_n (lv' := [(2, .int 0), (0, .ref (ad 0)), (1, .int a_1)]) hx hb dX1_costOfChosen_1 rfl hl (by decide) rfl (fun ls hl => ?_)
  refine lv_iconst (v := 0) hx hb dX1_costOfChosen_2 (by decide) ?_
  refine lv_istore_n (lv' := [(3, .int 0), (2, .int 0), (0, .ref (ad 0)), (1, .int a_1)]) hx hb dX1_costOfChosen_3 rfl hl (by decide) rfl (fun ls hl => ?_)
  exact lX1_costOfChosen_4 C hr X 5000 (a_1, 0, 0) h _ _ _ hw (lv_sub hl [2, 3, 1, 0] rfl)
abbrev rmX1_leastCost : Room := { frames := 2, cells := 0, slots := 0, locals := 47 }
theorem hdX1_leastCost : yX1_leastCost.cls = RX1 ∧ yX1_leastCost.cls ≠ "java/lang/invoke/MethodHandle" ∧ yX1_leastCost.cls ≠ "java/lang/invoke/VarHandle" ∧ (parseMethodDescriptor yX1_leastCost.desc).map (fun d => d.parameters.length) = some 1 := by decide +kernel
def GX1_leastCost_61 (p : Program) (l : Launch) (e : Env) (s : State) (m : MethodId) (args : Array Value) (below : List Frame) (meth : Method) (c : Code) (D : va_G) (cA : ClassId) (A : Nat → Prop) (ad : Nat → Nat) (X : Nat → VS) (z : Int32) (x : (Int32) × (Int32) × (Int32)) : Prop := ∀ (H : Heap) (locs : List Loc) (ls : Array Slot), Wd D A s.heap (wR cA ad X) H locs → lv_has ls 5 [(0, .ref (ad 0)), (1, .int x.1), (2, .int x.2.1), (3, .int x.2.2)] → W p l e rmX1_leastCost s m args below meth c H locs 0 0 (MQ below (QI D cA A z (wR cA ad X)) args s 0 0 A) (F0 m 61 ls [])
def GX1_leastCost_58 (p : Program) (l : Launch) (e : Env) (s : State) (m : MethodId) (args : Array Value) (below : List Frame) (meth : Method) (c : Code) (D : va_G) (cA : ClassId) (A : Nat → Prop) (ad : Nat → Nat) (X : Nat → VS) (z : Int32) (x : (Int32) × (Int32) × (Int32)) : Prop := ∀ (H : Heap) (locs : List Loc) (ls : Array Slot), Wd D A s.heap (wR cA ad X) H locs → lv_has ls 5 [(0, .ref (ad 0)), (1, .int x.1), (3, .int x.2.1), (4, .int x.2.2)] → W p l e rmX1_leastCost s m args below meth c H locs 0 0 (MQ below (QI D cA A z (wR cA ad X)) args s 0 0 A) (F0 m 58 ls [])
def GX1_leastCost_5 (p : Program) (l : Launch) (e : Env) (s : State) (m : MethodId) (args : Array Value) (below : List Frame) (meth : Method) (c : Code) (D : va_G) (cA : ClassId) (A : Nat → Prop) (ad : Nat → Nat) (X : Nat → VS) (z : Int32) (x : (Int32) × (Int32) × (Int32)) : Prop := ∀ (H : Heap) (locs : List Loc) (ls : Array Slot), Wd D A s.heap (wR cA ad X) H locs → lv_has ls 5 [(0, .ref (ad 0)), (1, .int x.1), (2, .int x.2.1), (3, .int x.2.2)] → W p l e rmX1_leastCost s m args below meth c H locs 0 0 (MQ below (QI D cA A z (wR cA ad X)) args s 0 0 A) (F0 m 5 ls [])
def fX1_leastCost_61 (X : Nat → VS) (k5 : ((Int32) × (Int32) × (Int32)) → Option Int32) : ((Int32) × (Int32) × (Int32)) → Option Int32 := fun x => match x with | (x_1, x_2, x_3) => bn (x_3 + 1) (fun x1 => k5 (x_1, x_2, x1))
def fX1_leastCost_58 (X : Nat → VS) (k5 : ((Int32) × (Int32) × (Int32)) → Option Int32) : ((Int32) × (Int32) × (Int32)) → Option Int32 := fun x => match x with | (x_1, x_3, x_4) => fX1_leastCost_61 X k5 (x_1, x_4, x_3)
def fX1_leastCost_5 (X : Nat → VS) (k5 : ((Int32) × (Int32) × (Int32)) → Option Int32) : ((Int32) × (Int32) × (Int32)) → Option Int32 := fun x => match x with | (x_1, x_2, x_3) => if ((1 : Int32) <<< ((X 0 0 0) &&& 31)) ≤ x_3 then some x_2 else if (x_3 &&& (X 0 4 0)) = 0 then cl (fX1_makesWhole X x_1 x_3) (fun r3 => if r3 = 0 then fX1_leastCost_61 X k5 (x_1, x_2, x_3) else cl (fX1_costOfChosen X x_3) (fun r5 => if x_2 = (-9) then fX1_leastCost_58 X k5 (x_1, x_3, r5) else if x_2 ≤ r5 then fX1_leastCost_61 X k5 (x_1, x_2, x_3) else fX1_leastCost_58 X k5 (x_1, x_3, r5))) else fX1_leastCost_61 X k5 (x_1, x_2, x_3)
def fX1_leastCost (X : Nat → VS) (a_1 : Int32) : Option Int32 := lp (fX1_leastCost_5 X) 5000 (a_1, (-9), 0)
set_option maxHeartbeats 4000000 in
set_option maxRecDepth 100000 in
theorem kX1_leastCost_61 (C : Cx p s m args meth c cX1_leastCost 5 RX1 D cA g A) (hr : meth.sig.returnType = (some .int)) {z : Int32} (X : Nat → VS) (k5 : ((Int32) × (Int32) × (Int32)) → Option Int32) (hk5 : ∀ x, k5 x = some z → GX1_leastCost_5 p l e s m args below meth c D cA A ad X z x) (x : (Int32) × (Int32) × (Int32)) (h : fX1_leastCost_61 X k5 x = some z) : GX1_leastCost_61 p l e s m args below meth c D cA A ad X z x := by
  obtain ⟨x_1, x_2, x_3⟩ := x
  intro H locs ls hw hl
  have hw : Wd D A s.heap (wR cA ad X) H locs := hw
  have hl : lv_has ls 5 [(0, .ref (ad 0)), (1, .int x_1), (2, .int x_2), (3, .int x_3)] := hl
  have hx := C.1.1
  have hb := C.1.2.1
  have h : (bn (x_3 + 1) (fun x1 => k5 (x_1, x_2, x1))) = some z := h
  obtain ⟨x1, ex1⟩ : ∃ y : Int32, y = x_3 + 1 := ⟨_, rfl⟩
  replace h := bn_some h ex1
  refine lv_iinc (v := x1) (lv' := [(3, .int x1), (0, .ref (ad 0)), (1, .int x_1), (2, .int x_2)]) hx hb dX1_leastCost_61 hl (k := 3) rfl (by rw [ex1]; rfl) (by decide) rfl (fun ls hl => ?_)
  refine lv_goto (tgt := 5) hx hb dX1_leastCost_64 (by decide) ?_
  exact hk5 (x_1, x_2, x1) h _ _ _ hw (lv_sub hl [1, 2, 3, 0] rfl)
set_option maxHeartbeats 4000000 in
set_option maxRecDepth 100000 in
theorem kX1_leastCost_58 (C : Cx p s m args meth c cX1_leastCost 5 RX1 D cA g A) (hr : meth.sig.returnType = (some .int)) {z : Int32} (X : Nat → VS) (k5 : ((Int32) × (Int32) × (Int32)) → Option Int32) (hk5 : ∀ x, k5 x = some z → GX1_leastCost_5 p l e s m args below meth c D cA A ad X z x) (x : (Int32) × (Int32) × (Int32)) (h : fX1_leastCost_58 X k5 x = some z) : GX1_leastCost_58 p l e s m args below meth c D cA A ad X z x := by
  obtain ⟨x_1, x_3, x_4⟩ := x
  intro H locs ls hw hl
  have hw : Wd D A s.heap (wR cA ad X) H locs := hw
  have hl : lv_has ls 5 [(0, .ref (ad 0)), (1, .int x_1), (3, .int x_3), (4, .int x_4)] := hl
  have hx := C.1.1
  have hb := C.1.2.1
  have h : (fX1_leastCost_61 X k5 (x_1, x_4, x_3)) = some z := h
  refine lv_iload hx hb dX1_leastCost_58 (lv_at hl 3 rfl) ?_
  refine lv_istore_n (lv' := [(2, .int x_4), (0, .ref (ad 0)), (1, .int x_1), (3, .int x_3), (4, .int x_4)]) hx hb dX1_leastCost_60 rfl hl (by decide) rfl (fun ls hl => ?_)
  exact kX1_leastCost_61 C hr X k5 hk5 (x_1, x_4, x_3) h _ _ _ hw (lv_sub hl [1, 2, 0, 3] rfl)
set_option maxHeartbeats 4000000 in
set_option maxRecDepth 100000 in
theorem kX1_leastCost_5 (C : Cx p s m args meth c cX1_leastCost 5 RX1 D cA g A) (hr : meth.sig.returnType = (some .int)) {z : Int32} (X : Nat → VS) (k5 : ((Int32) × (Int32) × (Int32)) → Option Int32) (hk5 : ∀ x, k5 x = some z → GX1_leastCost_5 p l e s m args below meth c D cA A ad X z x) (x : (Int32) × (Int32) × (Int32)) (h : fX1_leastCost_5 X k5 x = some z) : GX1_leastCost_5 p l e s m args below meth c D cA A ad X z x := by
  obtain ⟨x_1, x_2, x_3⟩ := x
  intro H locs ls hw hl
  have hw : Wd D A s.heap (wR cA ad X) H locs := hw
  have hl : lv_has ls 5 [(0, .ref (ad 0)), (1, .int x_1), (2, .int x_2), (3, .int x_3)] := hl
  have hx := C.1.1
  have hb := C.1.2.1
  have h : (if ((1 : Int32) <<< ((X 0 0 0) &&& 31)) ≤ x_3 then some x_2 else if (x_3 &&& (X 0 4 0)) = 0 then cl (fX1_makesWhole X x_1 x_3) (fun r3 => if r3 = 0 then fX1_leastCost_61 X k5 (x_1, x_2, x_3) else cl (fX1_costOfChosen X x_3) (fun r5 => if x_2 = (-9) then fX1_leastCost_58 X k5 (x_1, x_3, r5) else if x_2 ≤ r5 then fX1_leastCost_61 X k5 (x_1, x_2, x_3) else fX1_leastCost_58 X k5 (x_1, x_3, r5))) else fX1_leastCost_61 X k5 (x_1, x_2, x_3)) = some z := h
  refine lv_iload_n hx hb dX1_leastCost_5 rfl (lv_at hl 3 rfl) ?_
  refine lv_iconst (v := 1) hx hb dX1_leastCost_6 (by decide) ?_
  refine lv_aload_n hx hb dX1_leastCost_7 rfl (lv_at hl 0 rfl) ?_
  refine tGet (T := TX1) (N := 12) (ci := 1) C hw inX1 0 0 rfl (by decide) kf_RX1_10 rfl rfl rfl dX1_leastCost_8 ?_
  refine tGet (T := TX0) (N := 12) (ci := 0) C hw inX0 0 1 rfl (by decide) kf_RX1_129 rfl rfl rfl dX1_leastCost_11 ?_
  refine lv_ishl hx hb dX1_leastCost_14 ?_
  refine lv_icmp_ge (tgt := 67) hx hb dX1_leastCost_15 (by decide) (fun c1 => ?_) (fun c1 => ?_)
  · replace h := (if_pos c1).symm.trans h
    refine lv_iload_n hx hb dX1_leastCost_67 rfl (lv_at hl 2 rfl) ?_
    obtain rfl := some_e h
    exact rtI C hr hw dX1_leastCost_68
  · replace h := (if_neg c1).symm.trans h
    refine lv_iload_n hx hb dX1_leastCost_18 rfl (lv_at hl 3 rfl) ?_
    refine lv_aload_n hx hb dX1_leastCost_19 rfl (lv_at hl 0 rfl) ?_
    refine tGet (T := TX1) (N := 12) (ci := 1) C hw inX1 0 0 rfl (by decide) kf_RX1_10 rfl rfl rfl dX1_leastCost_20 ?_
    refine tGet (T := TX0) (N := 12) (ci := 0) C hw inX0 4 1 rfl (by decide) kf_RX1_132 rfl rfl rfl dX1_leastCost_23 ?_
    refine lv_iand hx hb dX1_leastCost_26 ?_
    refine lv_if_ne (tgt := 61) hx hb dX1_leastCost_27 (by decide) (fun c2 => ?_) (fun c2 => ?_)
    · replace h := (if_neg c2).symm.trans h
      exact kX1_leastCost_61 C hr X k5 hk5 (x_1, x_2, x_3) h _ _ _ hw (lv_sub hl [0, 1, 2, 3] rfl)
    · replace h := (if_pos c2).symm.trans h
      refine lv_aload_n hx hb dX1_leastCost_30 rfl (lv_at hl 0 rfl) ?_
      refine lv_iload_n hx hb dX1_leastCost_31 rfl (lv_at hl 1 rfl) ?_
      refine lv_iload_n hx hb dX1_leastCost_32 rfl (lv_at hl 3 rfl) ?_
      obtain ⟨r3, hr3, h⟩ := cl_some h
      refine cVi (ws2 := (wR cA ad X)) (As := [.int x_1, .int x_3]) (rest := []) C hw jnW (kX1_makesWhole ad hr3) kl_RX1_297 ki_yX1_makesWhole ks_yX1_makesWhole kn_RX1 kc_yX1_makesWhole ⟨rfl, rfl⟩ hdX1_makesWhole ⟨Nat.le_of_ble_eq_true rfl, Nat.le_of_ble_eq_true rfl⟩ (ci := 1) (q0 := 0) rfl rfl rfl rfl hl.1 (Nat.le_of_ble_eq_true rfl) dX1_leastCost_33 ⟨Nat.zero_le _, Nat.zero_le _⟩ (fun H locs hw => ?_)
      refine lv_if_eq (tgt := 61) hx hb dX1_leastCost_36 (by decide) (fun c4 => ?_) (fun c4 => ?_)
      · replace h := (if_pos c4).symm.trans h
        exact kX1_leastCost_61 C hr X k5 hk5 (x_1, x_2, x_3) h _ _ _ hw (lv_sub hl [0, 1, 2, 3] rfl)
      · replace h := (if_neg c4).symm.trans h
        refine lv_aload_n hx hb dX1_leastCost_39 rfl (lv_at hl 0 rfl) ?_
        refine lv_iload_n hx hb dX1_leastCost_40 rfl (lv_at hl 3 rfl) ?_
        obtain ⟨r5, hr5, h⟩ := cl_some h
        refine cVi (ws2 := (wR cA ad X)) (As := [.int x_3]) (rest := []) C hw jnW (kX1_costOfChosen ad hr5) kl_RX1_300 ki_yX1_costOfChosen ks_yX1_costOfChosen kn_RX1 kc_yX1_costOfChosen ⟨rfl, rfl⟩ hdX1_costOfChosen ⟨Nat.le_of_ble_eq_true rfl, Nat.le_of_ble_eq_true rfl⟩ (ci := 1) (q0 := 0) rfl rfl rfl rfl hl.1 (Nat.le_of_ble_eq_true rfl) dX1_leastCost_41 ⟨Nat.zero_le _, Nat.zero_le _⟩ (fun H locs hw => ?_)
        refine lv_istore (lv' := [(4, .int r5), (0, .ref (ad 0)), (1, .int x_1), (2, .int x_2), (3, .int x_3)]) hx hb dX1_leastCost_44 hl (by decide) rfl (fun ls hl => ?_)
        refine lv_iload_n hx hb dX1_leastCost_46 rfl (lv_at hl 3 rfl) ?_
        refine lv_bipush (v := (-9)) hx hb dX1_leastCost_47 (by decide) ?_
        refine lv_icmp_eq (tgt := 58) hx hb dX1_leastCost_49 (by decide) (fun c6 => ?_) (fun c6 => ?_)
        · replace h := (if_pos c6).symm.trans h
          exact kX1_leastCost_58 C hr X k5 hk5 (x_1, x_3, r5) h _ _ _ hw (lv_sub hl [1, 2, 4, 0] rfl)
        · replace h := (if_neg c6).symm.trans h
          refine lv_iload hx hb dX1_leastCost_52 (lv_at hl 0 rfl) ?_
          refine lv_iload_n hx hb dX1_leastCost_54 rfl (lv_at hl 3 rfl) ?_
          refine lv_icmp_ge (tgt := 61) hx hb dX1_leastCost_55 (by decide) (fun c7 => ?_) (fun c7 => ?_)
          · replace h := (if_pos c7).symm.trans h
            exact kX1_leastCost_61 C hr X k5 hk5 (x_1, x_2, x_3) h _ _ _ hw (lv_sub hl [1, 2, 3, 4] rfl)
          · replace h := (if_neg c7).symm.trans h
            exact kX1_leastCost_58 C hr X k5 hk5 (x_1, x_3, r5) h _ _ _ hw (lv_sub hl [1, 2, 4, 0] rfl)
theorem lX1_leastCost_5 (C : Cx p s m args meth c cX1_leastCost 5 RX1 D cA g A) (hr : meth.sig.returnType = (some .int)) {z : Int32} (X : Nat → VS) (n : Nat) (x : (Int32) × (Int32) × (Int32)) (h : lp (fX1_leastCost_5 X) n x = some z) : GX1_leastCost_5 p l e s m args below meth c D cA A ad X z x := lp_ok (GX1_leastCost_5 p l e s m args below meth c D cA A ad X z) (fun kq hkq x h => kX1_leastCost_5 C hr X kq hkq x h) n x h
set_option maxHeartbeats 4000000 in
set_option maxRecDepth 100000 in
theorem kX1_leastCost (ad : Nat → Nat) {X : Nat → VS} {a_1 : Int32} {z : Int32} (h : fX1_leastCost X a_1 = some z) : MI l D cA g yX1_leastCost (Cond.code yX1_leastCost cX1_leastCost 5 (some .int) :: lw_g) rmX1_leastCost [.ref (ad 0), .int a_1] (wR cA ad X) z (wR cA ad X) := by
  intro sz
  refine Met.ofW (cc := cX1_leastCost) (maxL := 5) (ret := (some .int)) (by decide) rfl ?_
  intro p e s m args below meth c s₁ B hml hv
  obtain ⟨rfl, C, hr, hw⟩ := ent B hml hv
  generalize va_A (wR cA ad X) sz = A at C hw ⊢
  have hl := lv_entry ([.ref (ad 0), .int a_1]) (n := 5) (Nat.le_of_ble_eq_true rfl)
  rw [lg_entry_eq]
  generalize (lg_sl ([.ref (ad 0), .int a_1]) ++ List.replicate (5 - (lg_sl ([.ref (ad 0), .int a_1])).length) Slot.unset).toArray = ls at hl ⊢
  have hl : lv_has ls 5 [(0, .ref (ad 0)), (1, .int a_1)] := hl
  have hx := C.1.1
  have hb := C.1.2.1
  have h : (lp (fX1_leastCost_5 X) 5000 (a_1, (-9), 0)) = some z := h
  refine lv_bipush (v := (-9)) hx hb dX1_leastCost_0 (by decide) ?_
  refine lv_istore_n (lv' := [(2, .int (-9)), (0, .ref (ad 0)), (1, .int a_1)]) hx hb dX1_leastCost_2 rfl hl (by decide) rfl (fun ls hl => ?_)
  refine lv_iconst (v := 0) hx hb dX1_leastCost_3 (by decide) ?_
  refine lv_istore_n (lv' := [(3, .int 0), (2, .int (-9)), (0, .ref (ad 0)), (1, .int a_1)]) hx hb dX1_leastCost_4 rfl hl (by decide) rfl (fun ls hl => ?_)
  exact lX1_leastCost_5 C hr X 5000 (a_1, (-9), 0) h _ _ _ hw (lv_sub hl [2, 3, 1, 0] rfl)
abbrev rmX1_fewest : Room := { frames := 3, cells := 0, slots := 0, locals := 73 }
theorem hdX1_fewest : yX1_fewest.cls = RX1 ∧ yX1_fewest.cls ≠ "java/lang/invoke/MethodHandle" ∧ yX1_fewest.cls ≠ "java/lang/invoke/VarHandle" ∧ (parseMethodDescriptor yX1_fewest.desc).map (fun d => d.parameters.length) = some 2 := by decide +kernel
def fX1_fewest (X : Nat → VS) (a_1 : Int32) (a_2 : Int32) : Option (Int32 × (Nat → VS)) := cl (fX0_hasReader (X 0) a_1) (fun r1 => if r1 = 0 then cl (fX1_refuse X (-1)) (fun q10 => some (q10.1, q10.2)) else cl (fX1_isOneOfTwo a_2) (fun r3 => if r3 = 0 then cl (fX1_refuse X (-2)) (fun q9 => some (q9.1, q9.2)) else cl (fX1_noteWhatIsBrought X a_1) (fun w5 => if a_2 = 0 then cl (fX1_fewestRockets w5 a_1) (fun r8 => some (r8, w5)) else cl (fX1_leastCost w5 a_1) (fun r7 => some (r7, w5)))))
set_option maxHeartbeats 4000000 in
set_option maxRecDepth 100000 in
theorem kX1_fewest (ad : Nat → Nat) {X : Nat → VS} {a_1 : Int32} {a_2 : Int32} {z : (Int32 × (Nat → VS))} (h : fX1_fewest X a_1 a_2 = some z) : MI l D cA g yX1_fewest (Cond.code yX1_fewest cX1_fewest 3 (some .int) :: lw_g) rmX1_fewest [.ref (ad 0), .int a_1, .int a_2] (wR cA ad X) z.1 (wR cA ad z.2) := by
  intro sz
  refine Met.ofW (cc := cX1_fewest) (maxL := 3) (ret := (some .int)) (by decide) rfl ?_
  intro p e s m args below meth c s₁ B hml hv
  obtain ⟨rfl, C, hr, hw⟩ := ent B hml hv
  generalize va_A (wR cA ad X) sz = A at C hw ⊢
  have hl := lv_entry ([.ref (ad 0), .int a_1, .int a_2]) (n := 3) (Nat.le_of_ble_eq_true rfl)
  rw [lg_entry_eq]
  generalize (lg_sl ([.ref (ad 0), .int a_1, .int a_2]) ++ List.replicate (3 - (lg_sl ([.ref (ad 0), .int a_1, .int a_2])).length) Slot.unset).toArray = ls at hl ⊢
  have hl : lv_has ls 3 [(0, .ref (ad 0)), (1, .int a_1), (2, .int a_2)] := hl
  have hx := C.1.1
  have hb := C.1.2.1
  have h : (cl (fX0_hasReader (X 0) a_1) (fun r1 => if r1 = 0 then cl (fX1_refuse X (-1)) (fun q10 => some (q10.1, q10.2)) else cl (fX1_isOneOfTwo a_2) (fun r3 => if r3 = 0 then cl (fX1_refuse X (-2)) (fun q9 => some (q9.1, q9.2)) else cl (fX1_noteWhatIsBrought X a_1) (fun w5 => if a_2 = 0 then cl (fX1_fewestRockets w5 a_1) (fun r8 => some (r8, w5)) else cl (fX1_leastCost w5 a_1) (fun r7 => some (r7, w5)))))) = some z := h
  refine lv_aload_n hx hb dX1_fewest_0 rfl (lv_at hl 0 rfl) ?_
  refine tGet (T := TX1) (N := 12) (ci := 1) C hw inX1 0 0 rfl (by decide) kf_RX1_10 rfl rfl rfl dX1_fewest_1 ?_
  refine lv_iload_n hx hb dX1_fewest_4 rfl (lv_at hl 1 rfl) ?_
  obtain ⟨r1, hr1, h⟩ := cl_some h
  refine cVi (ws2 := (wR cA ad X)) (As := [.int a_1]) (rest := []) C hw jR0r (kX0_hasReader (fun k => ad (1 + k)) hr1) kl_RX1_100 ki_yX0_hasReader ks_yX0_hasReader kn_RX0 kc_yX0_hasReader ⟨rfl, rfl⟩ hdX0_hasReader ⟨Nat.le_of_ble_eq_true rfl, Nat.le_of_ble_eq_true rfl⟩ (ci := 0) (q0 := 0) rfl rfl rfl rfl hl.1 (Nat.le_of_ble_eq_true rfl) dX1_fewest_5 ⟨Nat.zero_le _, Nat.zero_le _⟩ (fun H locs hw => ?_)
  refine lv_if_ne (tgt := 17) hx hb dX1_fewest_8 (by decide) (fun c2 => ?_) (fun c2 => ?_)
  · replace h := (if_neg c2).symm.trans h
    refine lv_iload_n hx hb dX1_fewest_17 rfl (lv_at hl 2 rfl) ?_
    obtain ⟨r3, hr3, h⟩ := cl_some h
    refine cSi (ws2 := (wR cA ad X)) (As := [.int a_2]) (rest := []) C hw jnE (kX1_isOneOfTwo hr3) kl_RX1_156 kt_yX1_isOneOfTwo kn_RX1 kc_yX1_isOneOfTwo ⟨rfl, rfl⟩ hdX1_isOneOfTwo ⟨Nat.le_of_ble_eq_true rfl, Nat.le_of_ble_eq_true rfl⟩ rfl hl.1 (Nat.le_of_ble_eq_true rfl) dX1_fewest_18 ⟨Nat.zero_le _, Nat.zero_le _⟩ (fun H locs hw => ?_)
    refine lv_if_ne (tgt := 31) hx hb dX1_fewest_21 (by decide) (fun c4 => ?_) (fun c4 => ?_)
    · replace h := (if_neg c4).symm.trans h
      refine lv_aload_n hx hb dX1_fewest_31 rfl (lv_at hl 0 rfl) ?_
      refine lv_iload_n hx hb dX1_fewest_32 rfl (lv_at hl 1 rfl) ?_
      obtain ⟨w5, hw5, h⟩ := cl_some h
      refine cVv (ws2 := (wR cA ad w5)) (As := [.int a_1]) (rest := []) C hw jnW (kX1_noteWhatIsBrought ad hw5) kl_RX1_172 ki_yX1_noteWhatIsBrought ks_yX1_noteWhatIsBrought kn_RX1 kc_yX1_noteWhatIsBrought ⟨rfl, rfl⟩ hdX1_noteWhatIsBrought ⟨Nat.le_of_ble_eq_true rfl, Nat.le_of_ble_eq_true rfl⟩ (ci := 1) (q0 := 0) rfl rfl rfl rfl hl.1 (Nat.le_of_ble_eq_true rfl) dX1_fewest_33 ⟨Nat.zero_le _, Nat.zero_le _⟩ (fun H locs hw => ?_)
      refine lv_iload_n hx hb dX1_fewest_36 rfl (lv_at hl 2 rfl) ?_
      refine lv_if_ne (tgt := 48) hx hb dX1_fewest_37 (by decide) (fun c6 => ?_) (fun c6 => ?_)
      · replace h := (if_neg c6).symm.trans h
        refine lv_aload_n hx hb dX1_fewest_48 rfl (lv_at hl 0 rfl) ?_
        refine lv_iload_n hx hb dX1_fewest_49 rfl (lv_at hl 1 rfl) ?_
        obtain ⟨r7, hr7, h⟩ := cl_some h
        refine cVi (ws2 := (wR cA ad w5)) (As := [.int a_1]) (rest := []) C hw jnW (kX1_leastCost ad hr7) kl_RX1_178 ki_yX1_leastCost ks_yX1_leastCost kn_RX1 kc_yX1_leastCost ⟨rfl, rfl⟩ hdX1_leastCost ⟨Nat.le_of_ble_eq_true rfl, Nat.le_of_ble_eq_true rfl⟩ (ci := 1) (q0 := 0) rfl rfl rfl rfl hl.1 (Nat.le_of_ble_eq_true rfl) dX1_fewest_50 ⟨Nat.zero_le _, Nat.zero_le _⟩ (fun H locs hw => ?_)
        obtain rfl := some_e h
        exact rtI C hr hw dX1_fewest_53
      · replace h := (if_pos c6).symm.trans h
        refine lv_aload_n hx hb dX1_fewest_40 rfl (lv_at hl 0 rfl) ?_
        refine lv_iload_n hx hb dX1_fewest_41 rfl (lv_at hl 1 rfl) ?_
        obtain ⟨r8, hr8, h⟩ := cl_some h
        refine cVi (ws2 := (wR cA ad w5)) (As := [.int a_1]) (rest := []) C hw jnW (kX1_fewestRockets ad hr8) kl_RX1_175 ki_yX1_fewestRockets ks_yX1_fewestRockets kn_RX1 kc_yX1_fewestRockets ⟨rfl, rfl⟩ hdX1_fewestRockets ⟨Nat.le_of_ble_eq_true rfl, Nat.le_of_ble_eq_true rfl⟩ (ci := 1) (q0 := 0) rfl rfl rfl rfl hl.1 (Nat.le_of_ble_eq_true rfl) dX1_fewest_42 ⟨Nat.zero_le _, Nat.zero_le _⟩ (fun H locs hw => ?_)
        refine lv_goto (tgt := 53) hx hb dX1_fewest_45 (by decide) ?_
        obtain rfl := some_e h
        exact rtI C hr hw dX1_fewest_53
    · replace h := (if_pos c4).symm.trans h
      refine lv_aload_n hx hb dX1_fewest_24 rfl (lv_at hl 0 rfl) ?_
      refine lv_bipush (v := (-2)) hx hb dX1_fewest_25 (by decide) ?_
      obtain ⟨q9, hq9, h⟩ := cl_some h
      refine cVi (ws2 := (wR cA ad q9.2)) (As := [.int (-2)]) (rest := []) C hw jnW (kX1_refuse ad hq9) kl_RX1_52 ki_yX1_refuse ks_yX1_refuse kn_RX1 kc_yX1_refuse ⟨rfl, rfl⟩ hdX1_refuse ⟨Nat.le_of_ble_eq_true rfl, Nat.le_of_ble_eq_true rfl⟩ (ci := 1) (q0 := 0) rfl rfl rfl rfl hl.1 (Nat.le_of_ble_eq_true rfl) dX1_fewest_27 ⟨Nat.zero_le _, Nat.zero_le _⟩ (fun H locs hw => ?_)
      obtain rfl := some_e h
      exact rtI C hr hw dX1_fewest_30
  · replace h := (if_pos c2).symm.trans h
    refine lv_aload_n hx hb dX1_fewest_11 rfl (lv_at hl 0 rfl) ?_
    refine lv_iconst (v := (-1)) hx hb dX1_fewest_12 (by decide) ?_
    obtain ⟨q10, hq10, h⟩ := cl_some h
    refine cVi (ws2 := (wR cA ad q10.2)) (As := [.int (-1)]) (rest := []) C hw jnW (kX1_refuse ad hq10) kl_RX1_52 ki_yX1_refuse ks_yX1_refuse kn_RX1 kc_yX1_refuse ⟨rfl, rfl⟩ hdX1_refuse ⟨Nat.le_of_ble_eq_true rfl, Nat.le_of_ble_eq_true rfl⟩ (ci := 1) (q0 := 0) rfl rfl rfl rfl hl.1 (Nat.le_of_ble_eq_true rfl) dX1_fewest_13 ⟨Nat.zero_le _, Nat.zero_le _⟩ (fun H locs hw => ?_)
    obtain rfl := some_e h
    exact rtI C hr hw dX1_fewest_16
abbrev rmX1_windBest : Room := { frames := 4, cells := 0, slots := 0, locals := 100 }
theorem hdX1_windBest : yX1_windBest.cls = RX1 ∧ yX1_windBest.cls ≠ "java/lang/invoke/MethodHandle" ∧ yX1_windBest.cls ≠ "java/lang/invoke/VarHandle" ∧ (parseMethodDescriptor yX1_windBest.desc).map (fun d => d.parameters.length) = some 2 := by decide +kernel
def GX1_windBest_102 (p : Program) (l : Launch) (e : Env) (s : State) (m : MethodId) (args : Array Value) (below : List Frame) (meth : Method) (c : Code) (D : va_G) (cA : ClassId) (A : Nat → Prop) (ad : Nat → Nat) (z : (Int32 × (Nat → VS))) (x : (Nat → VS) × (Int32) × (Int32) × (Int32) × (Int32) × (Int32)) : Prop := ∀ (H : Heap) (locs : List Loc) (ls : Array Slot), Wd D A s.heap (wR cA ad x.1) H locs → lv_has ls 8 [(0, .ref (ad 0)), (1, .int x.2.1), (2, .int x.2.2.1), (4, .int x.2.2.2.1), (5, .int x.2.2.2.2.1), (6, .int x.2.2.2.2.2)] → W p l e rmX1_windBest s m args below meth c H locs 0 0 (MQ below (QI D cA A z.1 (wR cA ad z.2)) args s 0 0 A) (F0 m 102 ls [])
def GX1_windBest_41 (p : Program) (l : Launch) (e : Env) (s : State) (m : MethodId) (args : Array Value) (below : List Frame) (meth : Method) (c : Code) (D : va_G) (cA : ClassId) (A : Nat → Prop) (ad : Nat → Nat) (z : (Int32 × (Nat → VS))) (x : (Nat → VS) × (Int32) × (Int32) × (Int32) × (Int32) × (Int32)) : Prop := ∀ (H : Heap) (locs : List Loc) (ls : Array Slot), Wd D A s.heap (wR cA ad x.1) H locs → lv_has ls 8 [(0, .ref (ad 0)), (1, .int x.2.1), (2, .int x.2.2.1), (4, .int x.2.2.2.1), (5, .int x.2.2.2.2.1), (6, .int x.2.2.2.2.2)] → W p l e rmX1_windBest s m args below meth c H locs 0 0 (MQ below (QI D cA A z.1 (wR cA ad z.2)) args s 0 0 A) (F0 m 41 ls [])
def fX1_windBest_102 (k41 : ((Nat → VS) × (Int32) × (Int32) × (Int32) × (Int32) × (Int32)) → Option (Int32 × (Nat → VS))) : ((Nat → VS) × (Int32) × (Int32) × (Int32) × (Int32) × (Int32)) → Option (Int32 × (Nat → VS)) := fun x => match x with | (X, x_1, x_2, x_4, x_5, x_6) => bn (x_6 + 1) (fun x1 => k41 (X, x_1, x_2, x_4, x_5, x1))
def fX1_windBest_41 (k41 : ((Nat → VS) × (Int32) × (Int32) × (Int32) × (Int32) × (Int32)) → Option (Int32 × (Nat → VS))) : ((Nat → VS) × (Int32) × (Int32) × (Int32) × (Int32) × (Int32)) → Option (Int32 × (Nat → VS)) := fun x => match x with | (X, x_1, x_2, x_4, x_5, x_6) => if 10 ≤ x_6 then if x_2 = 0 then some (x_4, X) else some (x_5, X) else cl (fX0_copyFrom (X 1) (X 0)) (fun w3 => bn (up X 1 w3) (fun w4 => bn (up w4 1 (up (w4 1) 10 (fun _ => x_6))) (fun w5 => cl (fX0_passNights (w5 1) x_1 31) (fun w6 => bn (up w5 1 w6) (fun w7 => cl (fX0_countWhole (w7 1)) (fun r8 => if r8 ≤ x_5 then fX1_windBest_102 k41 (w7, x_1, x_2, x_4, x_5, x_6) else fX1_windBest_102 k41 (w7, x_1, x_2, x_6, r8, x_6)))))))
def fX1_windBest (X : Nat → VS) (a_1 : Int32) (a_2 : Int32) : Option (Int32 × (Nat → VS)) := cl (fX1_outside a_1 0 30) (fun r1 => if r1 = 0 then cl (fX1_isOneOfTwo a_2) (fun r3 => if r3 = 0 then cl (fX1_refuse X (-2)) (fun q5 => some (q5.1, q5.2)) else lp (fX1_windBest_41) 5000 (X, a_1, a_2, 0, (-1), 0)) else cl (fX1_refuse X r1) (fun q6 => some (q6.1, q6.2)))
set_option maxHeartbeats 4000000 in
set_option maxRecDepth 100000 in
theorem kX1_windBest_102 (C : Cx p s m args meth c cX1_windBest 8 RX1 D cA g A) (hr : meth.sig.returnType = (some .int)) {z : (Int32 × (Nat → VS))} (k41 : ((Nat → VS) × (Int32) × (Int32) × (Int32) × (Int32) × (Int32)) → Option (Int32 × (Nat → VS))) (hk41 : ∀ x, k41 x = some z → GX1_windBest_41 p l e s m args below meth c D cA A ad z x) (x : (Nat → VS) × (Int32) × (Int32) × (Int32) × (Int32) × (Int32)) (h : fX1_windBest_102 k41 x = some z) : GX1_windBest_102 p l e s m args below meth c D cA A ad z x := by
  obtain ⟨X, x_1, x_2, x_4, x_5, x_6⟩ := x
  intro H locs ls hw hl
  have hw : Wd D A s.heap (wR cA ad X) H locs := hw
  have hl : lv_has ls 8 [(0, .ref (ad 0)), (1, .int x_1), (2, .int x_2), (4, .int x_4), (5, .int x_5), (6, .int x_6)] := hl
  have hx := C.1.1
  have hb := C.1.2.1
  have h : (bn (x_6 + 1) (fun x1 => k41 (X, x_1, x_2, x_4, x_5, x1))) = some z := h
  obtain ⟨x1, ex1⟩ : ∃ y : Int32, y = x_6 + 1 := ⟨_, rfl⟩
  replace h := bn_some h ex1
  refine lv_iinc (v := x1) (lv' := [(6, .int x1), (0, .ref (ad 0)), (1, .int x_1), (2, .int x_2), (4, .int x_4), (5, .int x_5)]) hx hb dX1_windBest_102 hl (k := 5) rfl (by rw [ex1]; rfl) (by decide) rfl (fun ls hl => ?_)
  refine lv_goto (tgt := 41) hx hb dX1_windBest_105 (by decide) ?_
  exact hk41 (X, x_1, x_2, x_4, x_5, x1) h _ _ _ hw (lv_sub hl [1, 2, 3, 4, 5, 0] rfl)
set_option maxHeartbeats 4000000 in
set_option maxRecDepth 100000 in
theorem kX1_windBest_41 (C : Cx p s m args meth c cX1_windBest 8 RX1 D cA g A) (hr : meth.sig.returnType = (some .int)) {z : (Int32 × (Nat → VS))} (k41 : ((Nat → VS) × (Int32) × (Int32) × (Int32) × (Int32) × (Int32)) → Option (Int32 × (Nat → VS))) (hk41 : ∀ x, k41 x = some z → GX1_windBest_41 p l e s m args below meth c D cA A ad z x) (x : (Nat → VS) × (Int32) × (Int32) × (Int32) × (Int32) × (Int32)) (h : fX1_windBest_41 k41 x = some z) : GX1_windBest_41 p l e s m args below meth c D cA A ad z x := by
  obtain ⟨X, x_1, x_2, x_4, x_5, x_6⟩ := x
  intro H locs ls hw hl
  have hw : Wd D A s.heap (wR cA ad X) H locs := hw
  have hl : lv_has ls 8 [(0, .ref (ad 0)), (1, .int x_1), (2, .int x_2), (4, .int x_4), (5, .int x_5), (6, .int x_6)] := hl
  have hx := C.1.1
  have hb := C.1.2.1
  have h : (if 10 ≤ x_6 then if x_2 = 0 then some (x_4, X) else some (x_5, X) else cl (fX0_copyFrom (X 1) (X 0)) (fun w3 => bn (up X 1 w3) (fun w4 => bn (up w4 1 (up (w4 1) 10 (fun _ => x_6))) (fun w5 => cl (fX0_passNights (w5 1) x_1 31) (fun w6 => bn (up w5 1 w6) (fun w7 => cl (fX0_countWhole (w7 1)) (fun r8 => if r8 ≤ x_5 then fX1_windBest_102 k41 (w7, x_1, x_2, x_4, x_5, x_6) else fX1_windBest_102 k41 (w7, x_1, x_2, x_6, r8, x_6)))))))) = some z := h
  refine lv_iload hx hb dX1_windBest_41 (lv_at hl 5 rfl) ?_
  refine lv_bipush (v := 10) hx hb dX1_windBest_43 (by decide) ?_
  refine lv_icmp_ge (tgt := 108) hx hb dX1_windBest_45 (by decide) (fun c1 => ?_) (fun c1 => ?_)
  · replace h := (if_pos c1).symm.trans h
    refine lv_iload_n hx hb dX1_windBest_108 rfl (lv_at hl 2 rfl) ?_
    refine lv_if_ne (tgt := 117) hx hb dX1_windBest_109 (by decide) (fun c2 => ?_) (fun c2 => ?_)
    · replace h := (if_neg c2).symm.trans h
      refine lv_iload hx hb dX1_windBest_117 (lv_at hl 4 rfl) ?_
      obtain rfl := some_e h
      exact rtI C hr hw dX1_windBest_119
    · replace h := (if_pos c2).symm.trans h
      refine lv_iload hx hb dX1_windBest_112 (lv_at hl 3 rfl) ?_
      refine lv_goto (tgt := 119) hx hb dX1_windBest_114 (by decide) ?_
      obtain rfl := some_e h
      exact rtI C hr hw dX1_windBest_119
  · replace h := (if_neg c1).symm.trans h
    refine lv_aload_n hx hb dX1_windBest_48 rfl (lv_at hl 0 rfl) ?_
    refine tGet (T := TX1) (N := 12) (ci := 1) C hw inX1 1 0 rfl (by decide) kf_RX1_16 rfl rfl rfl dX1_windBest_49 ?_
    refine lv_aload_n hx hb dX1_windBest_52 rfl (lv_at hl 0 rfl) ?_
    refine tGet (T := TX1) (N := 12) (ci := 1) C hw inX1 0 0 rfl (by decide) kf_RX1_10 rfl rfl rfl dX1_windBest_53 ?_
    obtain ⟨w3, hw3, h⟩ := cl_some h
    obtain ⟨w4, ew4⟩ : ∃ y : Nat → VS, y = up X 1 w3 := ⟨_, rfl⟩
    replace h := bn_some h ew4
    refine cVv (ws2 := (wR cA ad w4)) (As := [.ref (ad 1)]) (rest := []) C hw (by rw [ew4]; exact jRR10) (kX0_copyFrom (fun k => ad (8 + k)) (fun k => ad (1 + k)) hw3) kl_RX1_59 ki_yX0_copyFrom ks_yX0_copyFrom kn_RX0 kc_yX0_copyFrom ⟨rfl, rfl⟩ hdX0_copyFrom ⟨Nat.le_of_ble_eq_true rfl, Nat.le_of_ble_eq_true rfl⟩ (ci := 0) (q0 := 0) rfl rfl rfl rfl hl.1 (Nat.le_of_ble_eq_true rfl) dX1_windBest_56 ⟨Nat.zero_le _, Nat.zero_le _⟩ (fun H locs hw => ?_)
    refine lv_aload_n hx hb dX1_windBest_59 rfl (lv_at hl 0 rfl) ?_
    refine tGet (T := TX1) (N := 12) (ci := 1) C hw inX1 1 0 rfl (by decide) kf_RX1_16 rfl rfl rfl dX1_windBest_60 ?_
    refine lv_iload hx hb dX1_windBest_63 (lv_at hl 5 rfl) ?_
    obtain ⟨w5, ew5⟩ : ∃ y : Nat → VS, y = up w4 1 (up (w4 1) 10 (fun _ => x_6)) := ⟨_, rfl⟩
    replace h := bn_some h ew5
    refine tPut (T := TX0) (N := 12) (ci := 0) (ws2 := (wR cA ad w5)) C hw inX0 tyX0 tyX0_ok nmX0 10 8 rfl (by decide) kf_RX1_144 rfl rfl rfl rfl rfl (Nat.le_of_ble_eq_true rfl) (by rw [ew5]; rfl) dX1_windBest_65 (fun H locs hw => ?_)
    refine lv_aload_n hx hb dX1_windBest_68 rfl (lv_at hl 0 rfl) ?_
    refine tGet (T := TX1) (N := 12) (ci := 1) C hw inX1 1 0 rfl (by decide) kf_RX1_16 rfl rfl rfl dX1_windBest_69 ?_
    refine lv_iload_n hx hb dX1_windBest_72 rfl (lv_at hl 1 rfl) ?_
    refine lv_bipush (v := 31) hx hb dX1_windBest_73 (by decide) ?_
    obtain ⟨w6, hw6, h⟩ := cl_some h
    obtain ⟨w7, ew7⟩ : ∃ y : Nat → VS, y = up w5 1 w6 := ⟨_, rfl⟩
    replace h := bn_some h ew7
    refine cVv (ws2 := (wR cA ad w7)) (As := [.int x_1, .int 31]) (rest := []) C hw (by rw [ew7]; exact jR1) (kX0_passNights (fun k => ad (8 + k)) hw6) kl_RX1_150 ki_yX0_passNights ks_yX0_passNights kn_RX0 kc_yX0_passNights ⟨rfl, rfl⟩ hdX0_passNights ⟨Nat.le_of_ble_eq_true rfl, Nat.le_of_ble_eq_true rfl⟩ (ci := 0) (q0 := 0) rfl rfl rfl rfl hl.1 (Nat.le_of_ble_eq_true rfl) dX1_windBest_75 ⟨Nat.zero_le _, Nat.zero_le _⟩ (fun H locs hw => ?_)
    refine lv_aload_n hx hb dX1_windBest_78 rfl (lv_at hl 0 rfl) ?_
    refine tGet (T := TX1) (N := 12) (ci := 1) C hw inX1 1 0 rfl (by decide) kf_RX1_16 rfl rfl rfl dX1_windBest_79 ?_
    obtain ⟨r8, hr8, h⟩ := cl_some h
    refine cVi (ws2 := (wR cA ad w7)) (As := []) (rest := []) C hw jR1r (kX0_countWhole (fun k => ad (8 + k)) hr8) kl_RX1_181 ki_yX0_countWhole ks_yX0_countWhole kn_RX0 kc_yX0_countWhole ⟨rfl, rfl⟩ hdX0_countWhole ⟨Nat.le_of_ble_eq_true rfl, Nat.le_of_ble_eq_true rfl⟩ (ci := 0) (q0 := 0) rfl rfl rfl rfl hl.1 (Nat.le_of_ble_eq_true rfl) dX1_windBest_82 ⟨Nat.zero_le _, Nat.zero_le _⟩ (fun H locs hw => ?_)
    refine lv_istore (lv' := [(7, .int r8), (0, .ref (ad 0)), (1, .int x_1), (2, .int x_2), (4, .int x_4), (5, .int x_5), (6, .int x_6)]) hx hb dX1_windBest_85 hl (by decide) rfl (fun ls hl => ?_)
    refine lv_iload hx hb dX1_windBest_87 (lv_at hl 0 rfl) ?_
    refine lv_iload hx hb dX1_windBest_89 (lv_at hl 5 rfl) ?_
    refine lv_icmp_le (tgt := 102) hx hb dX1_windBest_91 (by decide) (fun c9 => ?_) (fun c9 => ?_)
    · replace h := (if_pos c9).symm.trans h
      exact kX1_windBest_102 C hr k41 hk41 (w7, x_1, x_2, x_4, x_5, x_6) h _ _ _ hw (lv_sub hl [1, 2, 3, 4, 5, 6] rfl)
    · replace h := (if_neg c9).symm.trans h
      refine lv_iload hx hb dX1_windBest_94 (lv_at hl 0 rfl) ?_
      refine lv_istore (lv' := [(5, .int r8), (7, .int r8), (0, .ref (ad 0)), (1, .int x_1), (2, .int x_2), (4, .int x_4), (6, .int x_6)]) hx hb dX1_windBest_96 hl (by decide) rfl (fun ls hl => ?_)
      refine lv_iload hx hb dX1_windBest_98 (lv_at hl 6 rfl) ?_
      refine lv_istore (lv' := [(4, .int x_6), (5, .int r8), (7, .int r8), (0, .ref (ad 0)), (1, .int x_1), (2, .int x_2), (6, .int x_6)]) hx hb dX1_windBest_100 hl (by decide) rfl (fun ls hl => ?_)
      exact kX1_windBest_102 C hr k41 hk41 (w7, x_1, x_2, x_6, r8, x_6) h _ _ _ hw (lv_sub hl [3, 4, 5, 0, 1, 6] rfl)
theorem lX1_windBest_41 (C : Cx p s m args meth c cX1_windBest 8 RX1 D cA g A) (hr : meth.sig.returnType = (some .int)) {z : (Int32 × (Nat → VS))} (n : Nat) (x : (Nat → VS) × (Int32) × (Int32) × (Int32) × (Int32) × (Int32)) (h : lp (fX1_windBest_41) n x = some z) : GX1_windBest_41 p l e s m args below meth c D cA A ad z x := lp_ok (GX1_windBest_41 p l e s m args below meth c D cA A ad z) (fun kq hkq x h => kX1_windBest_41 C hr kq hkq x h) n x h
set_option maxHeartbeats 4000000 in
set_option maxRecDepth 100000 in
theorem kX1_windBest (ad : Nat → Nat) {X : Nat → VS} {a_1 : Int32} {a_2 : Int32} {z : (Int32 × (Nat → VS))} (h : fX1_windBest X a_1 a_2 = some z) : MI l D cA g yX1_windBest (Cond.code yX1_windBest cX1_windBest 8 (some .int) :: lw_g) rmX1_windBest [.ref (ad 0), .int a_1, .int a_2] (wR cA ad X) z.1 (wR cA ad z.2) := by
  intro sz
  refine Met.ofW (cc := cX1_windBest) (maxL := 8) (ret := (some .int)) (by decide) rfl ?_
  intro p e s m args below meth c s₁ B hml hv
  obtain ⟨rfl, C, hr, hw⟩ := ent B hml hv
  generalize va_A (wR cA ad X) sz = A at C hw ⊢
  have hl := lv_entry ([.ref (ad 0), .int a_1, .int a_2]) (n := 8) (Nat.le_of_ble_eq_true rfl)
  rw [lg_entry_eq]
  generalize (lg_sl ([.ref (ad 0), .int a_1, .int a_2]) ++ List.replicate (8 - (lg_sl ([.ref (ad 0), .int a_1, .int a_2])).length) Slot.unset).toArray = ls at hl ⊢
  have hl : lv_has ls 8 [(0, .ref (ad 0)), (1, .int a_1), (2, .int a_2)] := hl
  have hx := C.1.1
  have hb := C.1.2.1
  have h : (cl (fX1_outside a_1 0 30) (fun r1 => if r1 = 0 then cl (fX1_isOneOfTwo a_2) (fun r3 => if r3 = 0 then cl (fX1_refuse X (-2)) (fun q5 => some (q5.1, q5.2)) else lp (fX1_windBest_41) 5000 (X, a_1, a_2, 0, (-1), 0)) else cl (fX1_refuse X r1) (fun q6 => some (q6.1, q6.2)))) = some z := h
  refine lv_iload_n hx hb dX1_windBest_0 rfl (lv_at hl 1 rfl) ?_
  refine lv_iconst (v := 0) hx hb dX1_windBest_1 (by decide) ?_
  refine lv_bipush (v := 30) hx hb dX1_windBest_2 (by decide) ?_
  obtain ⟨r1, hr1, h⟩ := cl_some h
  refine cSi (ws2 := (wR cA ad X)) (As := [.int a_1, .int 0, .int 30]) (rest := []) C hw jnE (kX1_outside hr1) kl_RX1_140 kt_yX1_outside kn_RX1 kc_yX1_outside ⟨rfl, rfl⟩ hdX1_outside ⟨Nat.le_of_ble_eq_true rfl, Nat.le_of_ble_eq_true rfl⟩ rfl hl.1 (Nat.le_of_ble_eq_true rfl) dX1_windBest_4 ⟨Nat.zero_le _, Nat.zero_le _⟩ (fun H locs hw => ?_)
  refine lv_istore_n (lv' := [(3, .int r1), (0, .ref (ad 0)), (1, .int a_1), (2, .int a_2)]) hx hb dX1_windBest_7 rfl hl (by decide) rfl (fun ls hl => ?_)
  refine lv_iload_n hx hb dX1_windBest_8 rfl (lv_at hl 0 rfl) ?_
  refine lv_if_eq (tgt := 18) hx hb dX1_windBest_9 (by decide) (fun c2 => ?_) (fun c2 => ?_)
  · replace h := (if_pos c2).symm.trans h
    refine lv_iload_n hx hb dX1_windBest_18 rfl (lv_at hl 3 rfl) ?_
    obtain ⟨r3, hr3, h⟩ := cl_some h
    refine cSi (ws2 := (wR cA ad X)) (As := [.int a_2]) (rest := []) C hw jnE (kX1_isOneOfTwo hr3) kl_RX1_156 kt_yX1_isOneOfTwo kn_RX1 kc_yX1_isOneOfTwo ⟨rfl, rfl⟩ hdX1_isOneOfTwo ⟨Nat.le_of_ble_eq_true rfl, Nat.le_of_ble_eq_true rfl⟩ rfl hl.1 (Nat.le_of_ble_eq_true rfl) dX1_windBest_19 ⟨Nat.zero_le _, Nat.zero_le _⟩ (fun H locs hw => ?_)
    refine lv_if_ne (tgt := 32) hx hb dX1_windBest_22 (by decide) (fun c4 => ?_) (fun c4 => ?_)
    · replace h := (if_neg c4).symm.trans h
      refine lv_iconst (v := 0) hx hb dX1_windBest_32 (by decide) ?_
      refine lv_istore (lv' := [(4, .int 0), (3, .int r1), (0, .ref (ad 0)), (1, .int a_1), (2, .int a_2)]) hx hb dX1_windBest_33 hl (by decide) rfl (fun ls hl => ?_)
      refine lv_iconst (v := (-1)) hx hb dX1_windBest_35 (by decide) ?_
      refine lv_istore (lv' := [(5, .int (-1)), (4, .int 0), (3, .int r1), (0, .ref (ad 0)), (1, .int a_1), (2, .int a_2)]) hx hb dX1_windBest_36 hl (by decide) rfl (fun ls hl => ?_)
      refine lv_iconst (v := 0) hx hb dX1_windBest_38 (by decide) ?_
      refine lv_istore (lv' := [(6, .int 0), (5, .int (-1)), (4, .int 0), (3, .int r1), (0, .ref (ad 0)), (1, .int a_1), (2, .int a_2)]) hx hb dX1_windBest_39 hl (by decide) rfl (fun ls hl => ?_)
      exact lX1_windBest_41 C hr 5000 (X, a_1, a_2, 0, (-1), 0) h _ _ _ hw (lv_sub hl [4, 5, 6, 2, 1, 0] rfl)
    · replace h := (if_pos c4).symm.trans h
      refine lv_aload_n hx hb dX1_windBest_25 rfl (lv_at hl 1 rfl) ?_
      refine lv_bipush (v := (-2)) hx hb dX1_windBest_26 (by decide) ?_
      obtain ⟨q5, hq5, h⟩ := cl_some h
      refine cVi (ws2 := (wR cA ad q5.2)) (As := [.int (-2)]) (rest := []) C hw jnW (kX1_refuse ad hq5) kl_RX1_52 ki_yX1_refuse ks_yX1_refuse kn_RX1 kc_yX1_refuse ⟨rfl, rfl⟩ hdX1_refuse ⟨Nat.le_of_ble_eq_true rfl, Nat.le_of_ble_eq_true rfl⟩ (ci := 1) (q0 := 0) rfl rfl rfl rfl hl.1 (Nat.le_of_ble_eq_true rfl) dX1_windBest_28 ⟨Nat.zero_le _, Nat.zero_le _⟩ (fun H locs hw => ?_)
      obtain rfl := some_e h
      exact rtI C hr hw dX1_windBest_31
  · replace h := (if_neg c2).symm.trans h
    refine lv_aload_n hx hb dX1_windBest_12 rfl (lv_at hl 1 rfl) ?_
    refine lv_iload_n hx hb dX1_windBest_13 rfl (lv_at hl 0 rfl) ?_
    obtain ⟨q6, hq6, h⟩ := cl_some h
    refine cVi (ws2 := (wR cA ad q6.2)) (As := [.int r1]) (rest := []) C hw jnW (kX1_refuse ad hq6) kl_RX1_52 ki_yX1_refuse ks_yX1_refuse kn_RX1 kc_yX1_refuse ⟨rfl, rfl⟩ hdX1_refuse ⟨Nat.le_of_ble_eq_true rfl, Nat.le_of_ble_eq_true rfl⟩ (ci := 1) (q0 := 0) rfl rfl rfl rfl hl.1 (Nat.le_of_ble_eq_true rfl) dX1_windBest_14 ⟨Nat.zero_le _, Nat.zero_le _⟩ (fun H locs hw => ?_)
    obtain rfl := some_e h
    exact rtI C hr hw dX1_windBest_17
abbrev rmX1_move : Room := { frames := 4, cells := 0, slots := 0, locals := 100 }
theorem hdX1_move : yX1_move.cls = RX1 ∧ yX1_move.cls ≠ "java/lang/invoke/MethodHandle" ∧ yX1_move.cls ≠ "java/lang/invoke/VarHandle" ∧ (parseMethodDescriptor yX1_move.desc).map (fun d => d.parameters.length) = some 3 := by decide +kernel
def GX1_move_128 (p : Program) (l : Launch) (e : Env) (s : State) (m : MethodId) (args : Array Value) (below : List Frame) (meth : Method) (c : Code) (D : va_G) (cA : ClassId) (A : Nat → Prop) (ad : Nat → Nat) (z : (Int32 × (Nat → VS))) (x : (Nat → VS) × (Int32) × (Int32) × (Int32) × (Int32) × (Int32) × (Int32)) : Prop := ∀ (H : Heap) (locs : List Loc) (ls : Array Slot), Wd D A s.heap (wR cA ad x.1) H locs → lv_has ls 9 [(0, .ref (ad 0)), (1, .int x.2.1), (2, .int x.2.2.1), (3, .int x.2.2.2.1), (5, .int x.2.2.2.2.1), (6, .int x.2.2.2.2.2.1), (7, .int x.2.2.2.2.2.2)] → W p l e rmX1_move s m args below meth c H locs 0 0 (MQ below (QI D cA A z.1 (wR cA ad z.2)) args s 0 0 A) (F0 m 128 ls [])
def GX1_move_61 (p : Program) (l : Launch) (e : Env) (s : State) (m : MethodId) (args : Array Value) (below : List Frame) (meth : Method) (c : Code) (D : va_G) (cA : ClassId) (A : Nat → Prop) (ad : Nat → Nat) (z : (Int32 × (Nat → VS))) (x : (Nat → VS) × (Int32) × (Int32) × (Int32) × (Int32) × (Int32) × (Int32)) : Prop := ∀ (H : Heap) (locs : List Loc) (ls : Array Slot), Wd D A s.heap (wR cA ad x.1) H locs → lv_has ls 9 [(0, .ref (ad 0)), (1, .int x.2.1), (2, .int x.2.2.1), (3, .int x.2.2.2.1), (5, .int x.2.2.2.2.1), (6, .int x.2.2.2.2.2.1), (7, .int x.2.2.2.2.2.2)] → W p l e rmX1_move s m args below meth c H locs 0 0 (MQ below (QI D cA A z.1 (wR cA ad z.2)) args s 0 0 A) (F0 m 61 ls [])
def fX1_move_128 (k61 : ((Nat → VS) × (Int32) × (Int32) × (Int32) × (Int32) × (Int32) × (Int32)) → Option (Int32 × (Nat → VS))) : ((Nat → VS) × (Int32) × (Int32) × (Int32) × (Int32) × (Int32) × (Int32)) → Option (Int32 × (Nat → VS)) := fun x => match x with | (X, x_1, x_2, x_3, x_5, x_6, x_7) => bn (x_7 + 1) (fun x1 => k61 (X, x_1, x_2, x_3, x_5, x_6, x1))
def fX1_move_61 (k61 : ((Nat → VS) × (Int32) × (Int32) × (Int32) × (Int32) × (Int32) × (Int32)) → Option (Int32 × (Nat → VS))) : ((Nat → VS) × (Int32) × (Int32) × (Int32) × (Int32) × (Int32) × (Int32)) → Option (Int32 × (Nat → VS)) := fun x => match x with | (X, x_1, x_2, x_3, x_5, x_6, x_7) => if 20 ≤ x_7 then if x_3 = 0 then some (x_5, X) else some (x_6, X) else cl (fX0_copyFrom (X 1) (X 0)) (fun w3 => bn (up X 1 w3) (fun w4 => ck 5 x_1 (bn (up w4 1 (up (w4 1) 6 (upd (w4 1 6) (x_1 : Int32).toNatClampNeg x_7))) (fun w5 => cl (fX0_passNights (w5 1) x_2 31) (fun w6 => bn (up w5 1 w6) (fun w7 => cl (fX0_wordsOf (w7 1) x_1) (fun r8 => cl (fJ6_bitCount_0f7a4 r8) (fun r9 => if r9 ≤ x_6 then fX1_move_128 k61 (w7, x_1, x_2, x_3, x_5, x_6, x_7) else fX1_move_128 k61 (w7, x_1, x_2, x_3, x_7, r9, x_7)))))))))
def fX1_move (X : Nat → VS) (a_1 : Int32) (a_2 : Int32) (a_3 : Int32) : Option (Int32 × (Nat → VS)) := cl (fX0_hasReader (X 0) a_1) (fun r1 => if r1 = 0 then cl (fX1_refuse X (-1)) (fun q9 => some (q9.1, q9.2)) else cl (fX1_outside a_2 0 30) (fun r3 => if r3 = 0 then cl (fX1_isOneOfTwo a_3) (fun r5 => if r5 = 0 then cl (fX1_refuse X (-2)) (fun q7 => some (q7.1, q7.2)) else lp (fX1_move_61) 5000 (X, a_1, a_2, a_3, 0, (-1), 0)) else cl (fX1_refuse X r3) (fun q8 => some (q8.1, q8.2))))
set_option maxHeartbeats 4000000 in
set_option maxRecDepth 100000 in
theorem kX1_move_128 (C : Cx p s m args meth c cX1_move 9 RX1 D cA g A) (hr : meth.sig.returnType = (some .int)) {z : (Int32 × (Nat → VS))} (k61 : ((Nat → VS) × (Int32) × (Int32) × (Int32) × (Int32) × (Int32) × (Int32)) → Option (Int32 × (Nat → VS))) (hk61 : ∀ x, k61 x = some z → GX1_move_61 p l e s m args below meth c D cA A ad z x) (x : (Nat → VS) × (Int32) × (Int32) × (Int32) × (Int32) × (Int32) × (Int32)) (h : fX1_move_128 k61 x = some z) : GX1_move_128 p l e s m args below meth c D cA A ad z x := by
  obtain ⟨X, x_1, x_2, x_3, x_5, x_6, x_7⟩ := x
  intro H locs ls hw hl
  have hw : Wd D A s.heap (wR cA ad X) H locs := hw
  have hl : lv_has ls 9 [(0, .ref (ad 0)), (1, .int x_1), (2, .int x_2), (3, .int x_3), (5, .int x_5), (6, .int x_6), (7, .int x_7)] := hl
  have hx := C.1.1
  have hb := C.1.2.1
  have h : (bn (x_7 + 1) (fun x1 => k61 (X, x_1, x_2, x_3, x_5, x_6, x1))) = some z := h
  obtain ⟨x1, ex1⟩ : ∃ y : Int32, y = x_7 + 1 := ⟨_, rfl⟩
  replace h := bn_some h ex1
  refine lv_iinc (v := x1) (lv' := [(7, .int x1), (0, .ref (ad 0)), (1, .int x_1), (2, .int x_2), (3, .int x_3), (5, .int x_5), (6, .int x_6)]) hx hb dX1_move_128 hl (k := 6) rfl (by rw [ex1]; rfl) (by decide) rfl (fun ls hl => ?_)
  refine lv_goto (tgt := 61) hx hb dX1_move_131 (by decide) ?_
  exact hk61 (X, x_1, x_2, x_3, x_5, x_6, x1) h _ _ _ hw (lv_sub hl [1, 2, 3, 4, 5, 6, 0] rfl)
set_option maxHeartbeats 4000000 in
set_option maxRecDepth 100000 in
theorem kX1_move_61 (C : Cx p s m args meth c cX1_move 9 RX1 D cA g A) (hr : meth.sig.returnType = (some .int)) {z : (Int32 × (Nat → VS))} (k61 : ((Nat → VS) × (Int32) × (Int32) × (Int32) × (Int32) × (Int32) × (Int32)) → Option (Int32 × (Nat → VS))) (hk61 : ∀ x, k61 x = some z → GX1_move_61 p l e s m args below meth c D cA A ad z x) (x : (Nat → VS) × (Int32) × (Int32) × (Int32) × (Int32) × (Int32) × (Int32)) (h : fX1_move_61 k61 x = some z) : GX1_move_61 p l e s m args below meth c D cA A ad z x := by
  obtain ⟨X, x_1, x_2, x_3, x_5, x_6, x_7⟩ := x
  intro H locs ls hw hl
  have hw : Wd D A s.heap (wR cA ad X) H locs := hw
  have hl : lv_has ls 9 [(0, .ref (ad 0)), (1, .int x_1), (2, .int x_2), (3, .int x_3), (5, .int x_5), (6, .int x_6), (7, .int x_7)] := hl
  have hx := C.1.1
  have hb := C.1.2.1
  have h : (if 20 ≤ x_7 then if x_3 = 0 then some (x_5, X) else some (x_6, X) else cl (fX0_copyFrom (X 1) (X 0)) (fun w3 => bn (up X 1 w3) (fun w4 => ck 5 x_1 (bn (up w4 1 (up (w4 1) 6 (upd (w4 1 6) (x_1 : Int32).toNatClampNeg x_7))) (fun w5 => cl (fX0_passNights (w5 1) x_2 31) (fun w6 => bn (up w5 1 w6) (fun w7 => cl (fX0_wordsOf (w7 1) x_1) (fun r8 => cl (fJ6_bitCount_0f7a4 r8) (fun r9 => if r9 ≤ x_6 then fX1_move_128 k61 (w7, x_1, x_2, x_3, x_5, x_6, x_7) else fX1_move_128 k61 (w7, x_1, x_2, x_3, x_7, r9, x_7)))))))))) = some z := h
  refine lv_iload hx hb dX1_move_61 (lv_at hl 6 rfl) ?_
  refine lv_bipush (v := 20) hx hb dX1_move_63 (by decide) ?_
  refine lv_icmp_ge (tgt := 134) hx hb dX1_move_65 (by decide) (fun c1 => ?_) (fun c1 => ?_)
  · replace h := (if_pos c1).symm.trans h
    refine lv_iload_n hx hb dX1_move_134 rfl (lv_at hl 3 rfl) ?_
    refine lv_if_ne (tgt := 143) hx hb dX1_move_135 (by decide) (fun c2 => ?_) (fun c2 => ?_)
    · replace h := (if_neg c2).symm.trans h
      refine lv_iload hx hb dX1_move_143 (lv_at hl 5 rfl) ?_
      obtain rfl := some_e h
      exact rtI C hr hw dX1_move_145
    · replace h := (if_pos c2).symm.trans h
      refine lv_iload hx hb dX1_move_138 (lv_at hl 4 rfl) ?_
      refine lv_goto (tgt := 145) hx hb dX1_move_140 (by decide) ?_
      obtain rfl := some_e h
      exact rtI C hr hw dX1_move_145
  · replace h := (if_neg c1).symm.trans h
    refine lv_aload_n hx hb dX1_move_68 rfl (lv_at hl 0 rfl) ?_
    refine tGet (T := TX1) (N := 12) (ci := 1) C hw inX1 1 0 rfl (by decide) kf_RX1_16 rfl rfl rfl dX1_move_69 ?_
    refine lv_aload_n hx hb dX1_move_72 rfl (lv_at hl 0 rfl) ?_
    refine tGet (T := TX1) (N := 12) (ci := 1) C hw inX1 0 0 rfl (by decide) kf_RX1_10 rfl rfl rfl dX1_move_73 ?_
    obtain ⟨w3, hw3, h⟩ := cl_some h
    obtain ⟨w4, ew4⟩ : ∃ y : Nat → VS, y = up X 1 w3 := ⟨_, rfl⟩
    replace h := bn_some h ew4
    refine cVv (ws2 := (wR cA ad w4)) (As := [.ref (ad 1)]) (rest := []) C hw (by rw [ew4]; exact jRR10) (kX0_copyFrom (fun k => ad (8 + k)) (fun k => ad (1 + k)) hw3) kl_RX1_59 ki_yX0_copyFrom ks_yX0_copyFrom kn_RX0 kc_yX0_copyFrom ⟨rfl, rfl⟩ hdX0_copyFrom ⟨Nat.le_of_ble_eq_true rfl, Nat.le_of_ble_eq_true rfl⟩ (ci := 0) (q0 := 0) rfl rfl rfl rfl hl.1 (Nat.le_of_ble_eq_true rfl) dX1_move_76 ⟨Nat.zero_le _, Nat.zero_le _⟩ (fun H locs hw => ?_)
    refine lv_aload_n hx hb dX1_move_79 rfl (lv_at hl 0 rfl) ?_
    refine tGet (T := TX1) (N := 12) (ci := 1) C hw inX1 1 0 rfl (by decide) kf_RX1_16 rfl rfl rfl dX1_move_80 ?_
    refine tGet (T := TX0) (N := 12) (ci := 0) C hw inX0 6 8 rfl (by decide) kf_RX1_103 rfl rfl rfl dX1_move_83 ?_
    refine lv_iload_n hx hb dX1_move_86 rfl (lv_at hl 1 rfl) ?_
    refine lv_iload hx hb dX1_move_87 (lv_at hl 6 rfl) ?_
    obtain ⟨iw5, h⟩ := ck_some h
    obtain ⟨w5, ew5⟩ : ∃ y : Nat → VS, y = up w4 1 (up (w4 1) 6 (upd (w4 1 6) (x_1 : Int32).toNatClampNeg x_7)) := ⟨_, rfl⟩
    replace h := bn_some h ew5
    refine tSt (ws2 := (wR cA ad w5)) C hw 12 rfl iw5 (by rw [ew5]; rfl) dX1_move_89 (fun H locs hw => ?_)
    refine lv_aload_n hx hb dX1_move_90 rfl (lv_at hl 0 rfl) ?_
    refine tGet (T := TX1) (N := 12) (ci := 1) C hw inX1 1 0 rfl (by decide) kf_RX1_16 rfl rfl rfl dX1_move_91 ?_
    refine lv_iload_n hx hb dX1_move_94 rfl (lv_at hl 2 rfl) ?_
    refine lv_bipush (v := 31) hx hb dX1_move_95 (by decide) ?_
    obtain ⟨w6, hw6, h⟩ := cl_some h
    obtain ⟨w7, ew7⟩ : ∃ y : Nat → VS, y = up w5 1 w6 := ⟨_, rfl⟩
    replace h := bn_some h ew7
    refine cVv (ws2 := (wR cA ad w7)) (As := [.int x_2, .int 31]) (rest := []) C hw (by rw [ew7]; exact jR1) (kX0_passNights (fun k => ad (8 + k)) hw6) kl_RX1_150 ki_yX0_passNights ks_yX0_passNights kn_RX0 kc_yX0_passNights ⟨rfl, rfl⟩ hdX0_passNights ⟨Nat.le_of_ble_eq_true rfl, Nat.le_of_ble_eq_true rfl⟩ (ci := 0) (q0 := 0) rfl rfl rfl rfl hl.1 (Nat.le_of_ble_eq_true rfl) dX1_move_97 ⟨Nat.zero_le _, Nat.zero_le _⟩ (fun H locs hw => ?_)
    refine lv_aload_n hx hb dX1_move_100 rfl (lv_at hl 0 rfl) ?_
    refine tGet (T := TX1) (N := 12) (ci := 1) C hw inX1 1 0 rfl (by decide) kf_RX1_16 rfl rfl rfl dX1_move_101 ?_
    refine lv_iload_n hx hb dX1_move_104 rfl (lv_at hl 1 rfl) ?_
    obtain ⟨r8, hr8, h⟩ := cl_some h
    refine cVi (ws2 := (wR cA ad w7)) (As := [.int x_1]) (rest := []) C hw jR1r (kX0_wordsOf (fun k => ad (8 + k)) hr8) kl_RX1_109 ki_yX0_wordsOf ks_yX0_wordsOf kn_RX0 kc_yX0_wordsOf ⟨rfl, rfl⟩ hdX0_wordsOf ⟨Nat.le_of_ble_eq_true rfl, Nat.le_of_ble_eq_true rfl⟩ (ci := 0) (q0 := 0) rfl rfl rfl rfl hl.1 (Nat.le_of_ble_eq_true rfl) dX1_move_105 ⟨Nat.zero_le _, Nat.zero_le _⟩ (fun H locs hw => ?_)
    obtain ⟨r9, hr9, h⟩ := cl_some h
    refine cSi (ws2 := (wR cA ad w7)) (As := [.int r8]) (rest := []) C hw jnE (kJ6_bitCount_0f7a4 hr9) kl_RX1_135 kt_yJ6_bitCount_0f7a4 kn_RJ6 kc_yJ6_bitCount_0f7a4 ⟨rfl, rfl⟩ hdJ6_bitCount_0f7a4 ⟨Nat.le_of_ble_eq_true rfl, Nat.le_of_ble_eq_true rfl⟩ rfl hl.1 (Nat.le_of_ble_eq_true rfl) dX1_move_108 ⟨Nat.zero_le _, Nat.zero_le _⟩ (fun H locs hw => ?_)
    refine lv_istore (lv' := [(8, .int r9), (0, .ref (ad 0)), (1, .int x_1), (2, .int x_2), (3, .int x_3), (5, .int x_5), (6, .int x_6), (7, .int x_7)]) hx hb dX1_move_111 hl (by decide) rfl (fun ls hl => ?_)
    refine lv_iload hx hb dX1_move_113 (lv_at hl 0 rfl) ?_
    refine lv_iload hx hb dX1_move_115 (lv_at hl 6 rfl) ?_
    refine lv_icmp_le (tgt := 128) hx hb dX1_move_117 (by decide) (fun c10 => ?_) (fun c10 => ?_)
    · replace h := (if_pos c10).symm.trans h
      exact kX1_move_128 C hr k61 hk61 (w7, x_1, x_2, x_3, x_5, x_6, x_7) h _ _ _ hw (lv_sub hl [1, 2, 3, 4, 5, 6, 7] rfl)
    · replace h := (if_neg c10).symm.trans h
      refine lv_iload hx hb dX1_move_120 (lv_at hl 0 rfl) ?_
      refine lv_istore (lv' := [(6, .int r9), (8, .int r9), (0, .ref (ad 0)), (1, .int x_1), (2, .int x_2), (3, .int x_3), (5, .int x_5), (7, .int x_7)]) hx hb dX1_move_122 hl (by decide) rfl (fun ls hl => ?_)
      refine lv_iload hx hb dX1_move_124 (lv_at hl 7 rfl) ?_
      refine lv_istore (lv' := [(5, .int x_7), (6, .int r9), (8, .int r9), (0, .ref (ad 0)), (1, .int x_1), (2, .int x_2), (3, .int x_3), (7, .int x_7)]) hx hb dX1_move_126 hl (by decide) rfl (fun ls hl => ?_)
      exact kX1_move_128 C hr k61 hk61 (w7, x_1, x_2, x_3, x_7, r9, x_7) h _ _ _ hw (lv_sub hl [3, 4, 5, 6, 0, 1, 7] rfl)
theorem lX1_move_61 (C : Cx p s m args meth c cX1_move 9 RX1 D cA g A) (hr : meth.sig.returnType = (some .int)) {z : (Int32 × (Nat → VS))} (n : Nat) (x : (Nat → VS) × (Int32) × (Int32) × (Int32) × (Int32) × (Int32) × (Int32)) (h : lp (fX1_move_61) n x = some z) : GX1_move_61 p l e s m args below meth c D cA A ad z x := lp_ok (GX1_move_61 p l e s m args below meth c D cA A ad z) (fun kq hkq x h => kX1_move_61 C hr kq hkq x h) n x h
set_option maxHeartbeats 4000000 in
set_option maxRecDepth 100000 in
theorem kX1_move (ad : Nat → Nat) {X : Nat → VS} {a_1 : Int32} {a_2 : Int32} {a_3 : Int32} {z : (Int32 × (Nat → VS))} (h : fX1_move X a_1 a_2 a_3 = some z) : MI l D cA g yX1_move (Cond.code yX1_move cX1_move 9 (some .int) :: lw_g) rmX1_move [.ref (ad 0), .int a_1, .int a_2, .int a_3] (wR cA ad X) z.1 (wR cA ad z.2) := by
  intro sz
  refine Met.ofW (cc := cX1_move) (maxL := 9) (ret := (some .int)) (by decide) rfl ?_
  intro p e s m args below meth c s₁ B hml hv
  obtain ⟨rfl, C, hr, hw⟩ := ent B hml hv
  generalize va_A (wR cA ad X) sz = A at C hw ⊢
  have hl := lv_entry ([.ref (ad 0), .int a_1, .int a_2, .int a_3]) (n := 9) (Nat.le_of_ble_eq_true rfl)
  rw [lg_entry_eq]
  generalize (lg_sl ([.ref (ad 0), .int a_1, .int a_2, .int a_3]) ++ List.replicate (9 - (lg_sl ([.ref (ad 0), .int a_1, .int a_2, .int a_3])).length) Slot.unset).toArray = ls at hl ⊢
  have hl : lv_has ls 9 [(0, .ref (ad 0)), (1, .int a_1), (2, .int a_2), (3, .int a_3)] := hl
  have hx := C.1.1
  have hb := C.1.2.1
  have h : (cl (fX0_hasReader (X 0) a_1) (fun r1 => if r1 = 0 then cl (fX1_refuse X (-1)) (fun q9 => some (q9.1, q9.2)) else cl (fX1_outside a_2 0 30) (fun r3 => if r3 = 0 then cl (fX1_isOneOfTwo a_3) (fun r5 => if r5 = 0 then cl (fX1_refuse X (-2)) (fun q7 => some (q7.1, q7.2)) else lp (fX1_move_61) 5000 (X, a_1, a_2, a_3, 0, (-1), 0)) else cl (fX1_refuse X r3) (fun q8 => some (q8.1, q8.2))))) = some z := h
  refine lv_aload_n hx hb dX1_move_0 rfl (lv_at hl 0 rfl) ?_
  refine tGet (T := TX1) (N := 12) (ci := 1) C hw inX1 0 0 rfl (by decide) kf_RX1_10 rfl rfl rfl dX1_move_1 ?_
  refine lv_iload_n hx hb dX1_move_4 rfl (lv_at hl 1 rfl) ?_
  obtain ⟨r1, hr1, h⟩ := cl_some h
  refine cVi (ws2 := (wR cA ad X)) (As := [.int a_1]) (rest := []) C hw jR0r (kX0_hasReader (fun k => ad (1 + k)) hr1) kl_RX1_100 ki_yX0_hasReader ks_yX0_hasReader kn_RX0 kc_yX0_hasReader ⟨rfl, rfl⟩ hdX0_hasReader ⟨Nat.le_of_ble_eq_true rfl, Nat.le_of_ble_eq_true rfl⟩ (ci := 0) (q0 := 0) rfl rfl rfl rfl hl.1 (Nat.le_of_ble_eq_true rfl) dX1_move_5 ⟨Nat.zero_le _, Nat.zero_le _⟩ (fun H locs hw => ?_)
  refine lv_if_ne (tgt := 17) hx hb dX1_move_8 (by decide) (fun c2 => ?_) (fun c2 => ?_)
  · replace h := (if_neg c2).symm.trans h
    refine lv_iload_n hx hb dX1_move_17 rfl (lv_at hl 2 rfl) ?_
    refine lv_iconst (v := 0) hx hb dX1_move_18 (by decide) ?_
    refine lv_bipush (v := 30) hx hb dX1_move_19 (by decide) ?_
    obtain ⟨r3, hr3, h⟩ := cl_some h
    refine cSi (ws2 := (wR cA ad X)) (As := [.int a_2, .int 0, .int 30]) (rest := []) C hw jnE (kX1_outside hr3) kl_RX1_140 kt_yX1_outside kn_RX1 kc_yX1_outside ⟨rfl, rfl⟩ hdX1_outside ⟨Nat.le_of_ble_eq_true rfl, Nat.le_of_ble_eq_true rfl⟩ rfl hl.1 (Nat.le_of_ble_eq_true rfl) dX1_move_21 ⟨Nat.zero_le _, Nat.zero_le _⟩ (fun H locs hw => ?_)
    refine lv_istore (lv' := [(4, .int r3), (0, .ref (ad 0)), (1, .int a_1), (2, .int a_2), (3, .int a_3)]) hx hb dX1_move_24 hl (by decide) rfl (fun ls hl => ?_)
    refine lv_iload hx hb dX1_move_26 (lv_at hl 0 rfl) ?_
    refine lv_if_eq (tgt := 38) hx hb dX1_move_28 (by decide) (fun c4 => ?_) (fun c4 => ?_)
    · replace h := (if_pos c4).symm.trans h
      refine lv_iload_n hx hb dX1_move_38 rfl (lv_at hl 4 rfl) ?_
      obtain ⟨r5, hr5, h⟩ := cl_some h
      refine cSi (ws2 := (wR cA ad X)) (As := [.int a_3]) (rest := []) C hw jnE (kX1_isOneOfTwo hr5) kl_RX1_156 kt_yX1_isOneOfTwo kn_RX1 kc_yX1_isOneOfTwo ⟨rfl, rfl⟩ hdX1_isOneOfTwo ⟨Nat.le_of_ble_eq_true rfl, Nat.le_of_ble_eq_true rfl⟩ rfl hl.1 (Nat.le_of_ble_eq_true rfl) dX1_move_39 ⟨Nat.zero_le _, Nat.zero_le _⟩ (fun H locs hw => ?_)
      refine lv_if_ne (tgt := 52) hx hb dX1_move_42 (by decide) (fun c6 => ?_) (fun c6 => ?_)
      · replace h := (if_neg c6).symm.trans h
        refine lv_iconst (v := 0) hx hb dX1_move_52 (by decide) ?_
        refine lv_istore (lv' := [(5, .int 0), (4, .int r3), (0, .ref (ad 0)), (1, .int a_1), (2, .int a_2), (3, .int a_3)]) hx hb dX1_move_53 hl (by decide) rfl (fun ls hl => ?_)
        refine lv_iconst (v := (-1)) hx hb dX1_move_55 (by decide) ?_
        refine lv_istore (lv' := [(6, .int (-1)), (5, .int 0), (4, .int r3), (0, .ref (ad 0)), (1, .int a_1), (2, .int a_2), (3, .int a_3)]) hx hb dX1_move_56 hl (by decide) rfl (fun ls hl => ?_)
        refine lv_iconst (v := 0) hx hb dX1_move_58 (by decide) ?_
        refine lv_istore (lv' := [(7, .int 0), (6, .int (-1)), (5, .int 0), (4, .int r3), (0, .ref (ad 0)), (1, .int a_1), (2, .int a_2), (3, .int a_3)]) hx hb dX1_move_59 hl (by decide) rfl (fun ls hl => ?_)
        exact lX1_move_61 C hr 5000 (X, a_1, a_2, a_3, 0, (-1), 0) h _ _ _ hw (lv_sub hl [4, 5, 6, 7, 2, 1, 0] rfl)
      · replace h := (if_pos c6).symm.trans h
        refine lv_aload_n hx hb dX1_move_45 rfl (lv_at hl 1 rfl) ?_
        refine lv_bipush (v := (-2)) hx hb dX1_move_46 (by decide) ?_
        obtain ⟨q7, hq7, h⟩ := cl_some h
        refine cVi (ws2 := (wR cA ad q7.2)) (As := [.int (-2)]) (rest := []) C hw jnW (kX1_refuse ad hq7) kl_RX1_52 ki_yX1_refuse ks_yX1_refuse kn_RX1 kc_yX1_refuse ⟨rfl, rfl⟩ hdX1_refuse ⟨Nat.le_of_ble_eq_true rfl, Nat.le_of_ble_eq_true rfl⟩ (ci := 1) (q0 := 0) rfl rfl rfl rfl hl.1 (Nat.le_of_ble_eq_true rfl) dX1_move_48 ⟨Nat.zero_le _, Nat.zero_le _⟩ (fun H locs hw => ?_)
        obtain rfl := some_e h
        exact rtI C hr hw dX1_move_51
    · replace h := (if_neg c4).symm.trans h
      refine lv_aload_n hx hb dX1_move_31 rfl (lv_at hl 1 rfl) ?_
      refine lv_iload hx hb dX1_move_32 (lv_at hl 0 rfl) ?_
      obtain ⟨q8, hq8, h⟩ := cl_some h
      refine cVi (ws2 := (wR cA ad q8.2)) (As := [.int r3]) (rest := []) C hw jnW (kX1_refuse ad hq8) kl_RX1_52 ki_yX1_refuse ks_yX1_refuse kn_RX1 kc_yX1_refuse ⟨rfl, rfl⟩ hdX1_refuse ⟨Nat.le_of_ble_eq_true rfl, Nat.le_of_ble_eq_true rfl⟩ (ci := 1) (q0 := 0) rfl rfl rfl rfl hl.1 (Nat.le_of_ble_eq_true rfl) dX1_move_34 ⟨Nat.zero_le _, Nat.zero_le _⟩ (fun H locs hw => ?_)
      obtain rfl := some_e h
      exact rtI C hr hw dX1_move_37
  · replace h := (if_pos c2).symm.trans h
    refine lv_aload_n hx hb dX1_move_11 rfl (lv_at hl 0 rfl) ?_
    refine lv_iconst (v := (-1)) hx hb dX1_move_12 (by decide) ?_
    obtain ⟨q9, hq9, h⟩ := cl_some h
    refine cVi (ws2 := (wR cA ad q9.2)) (As := [.int (-1)]) (rest := []) C hw jnW (kX1_refuse ad hq9) kl_RX1_52 ki_yX1_refuse ks_yX1_refuse kn_RX1 kc_yX1_refuse ⟨rfl, rfl⟩ hdX1_refuse ⟨Nat.le_of_ble_eq_true rfl, Nat.le_of_ble_eq_true rfl⟩ (ci := 1) (q0 := 0) rfl rfl rfl rfl hl.1 (Nat.le_of_ble_eq_true rfl) dX1_move_13 ⟨Nat.zero_le _, Nat.zero_le _⟩ (fun H locs hw => ?_)
    obtain rfl := some_e h
    exact rtI C hr hw dX1_move_16
abbrev rmX1_wordsHadBySpending : Room := { frames := 4, cells := 0, slots := 0, locals := 100 }
theorem hdX1_wordsHadBySpending : yX1_wordsHadBySpending.cls = RX1 ∧ yX1_wordsHadBySpending.cls ≠ "java/lang/invoke/MethodHandle" ∧ yX1_wordsHadBySpending.cls ≠ "java/lang/invoke/VarHandle" ∧ (parseMethodDescriptor yX1_wordsHadBySpending.desc).map (fun d => d.parameters.length) = some 3 := by decide +kernel
def GX1_wordsHadBySpending_36 (p : Program) (l : Launch) (e : Env) (s : State) (m : MethodId) (args : Array Value) (below : List Frame) (meth : Method) (c : Code) (D : va_G) (cA : ClassId) (A : Nat → Prop) (ad : Nat → Nat) (z : (Int32 × (Nat → VS))) (x : (Nat → VS) × (Int32)) : Prop := ∀ (H : Heap) (locs : List Loc) (ls : Array Slot), Wd D A s.heap (wR cA ad x.1) H locs → lv_has ls 4 [(0, .ref (ad 0)), (2, .int x.2)] → W p l e rmX1_wordsHadBySpending s m args below meth c H locs 0 0 (MQ below (QI D cA A z.1 (wR cA ad z.2)) args s 0 0 A) (F0 m 36 ls [])
def fX1_wordsHadBySpending_36 : ((Nat → VS) × (Int32)) → Option (Int32 × (Nat → VS)) := fun x => match x with | (X, x_2) => cl (fX0_passNights (X 1) x_2 31) (fun w1 => bn (up X 1 w1) (fun w2 => cl (fX0_countWords (w2 1)) (fun r3 => some (r3, w2))))
def fX1_wordsHadBySpending (X : Nat → VS) (a_1 : Int32) (a_2 : Int32) (a_3 : Int32) : Option (Int32 × (Nat → VS)) := cl (fX0_copyFrom (X 1) (X 0)) (fun w1 => bn (up X 1 w1) (fun w2 => if a_3 = 0 then cl (fX0_throwAway (w2 1) a_1) (fun w4 => bn (up w2 1 w4) (fun w5 => fX1_wordsHadBySpending_36 (w5, a_2))) else cl (fX0_sendUp (w2 1) a_1 31) (fun w6 => bn (up w2 1 w6) (fun w7 => fX1_wordsHadBySpending_36 (w7, a_2)))))
set_option maxHeartbeats 4000000 in
set_option maxRecDepth 100000 in
theorem kX1_wordsHadBySpending_36 (C : Cx p s m args meth c cX1_wordsHadBySpending 4 RX1 D cA g A) (hr : meth.sig.returnType = (some .int)) {z : (Int32 × (Nat → VS))} (x : (Nat → VS) × (Int32)) (h : fX1_wordsHadBySpending_36 x = some z) : GX1_wordsHadBySpending_36 p l e s m args below meth c D cA A ad z x := by
  obtain ⟨X, x_2⟩ := x
  intro H locs ls hw hl
  have hw : Wd D A s.heap (wR cA ad X) H locs := hw
  have hl : lv_has ls 4 [(0, .ref (ad 0)), (2, .int x_2)] := hl
  have hx := C.1.1
  have hb := C.1.2.1
  have h : (cl (fX0_passNights (X 1) x_2 31) (fun w1 => bn (up X 1 w1) (fun w2 => cl (fX0_countWords (w2 1)) (fun r3 => some (r3, w2))))) = some z := h
  refine lv_aload_n hx hb dX1_wordsHadBySpending_36 rfl (lv_at hl 0 rfl) ?_
  refine tGet (T := TX1) (N := 12) (ci := 1) C hw inX1 1 0 rfl (by decide) kf_RX1_16 rfl rfl rfl dX1_wordsHadBySpending_37 ?_
  refine lv_iload_n hx hb dX1_wordsHadBySpending_40 rfl (lv_at hl 1 rfl) ?_
  refine lv_bipush (v := 31) hx hb dX1_wordsHadBySpending_41 (by decide) ?_
  obtain ⟨w1, hw1, h⟩ := cl_some h
  obtain ⟨w2, ew2⟩ : ∃ y : Nat → VS, y = up X 1 w1 := ⟨_, rfl⟩
  replace h := bn_some h ew2
  refine cVv (ws2 := (wR cA ad w2)) (As := [.int x_2, .int 31]) (rest := []) C hw (by rw [ew2]; exact jR1) (kX0_passNights (fun k => ad (8 + k)) hw1) kl_RX1_150 ki_yX0_passNights ks_yX0_passNights kn_RX0 kc_yX0_passNights ⟨rfl, rfl⟩ hdX0_passNights ⟨Nat.le_of_ble_eq_true rfl, Nat.le_of_ble_eq_true rfl⟩ (ci := 0) (q0 := 0) rfl rfl rfl rfl hl.1 (Nat.le_of_ble_eq_true rfl) dX1_wordsHadBySpending_43 ⟨Nat.zero_le _, Nat.zero_le _⟩ (fun H locs hw => ?_)
  refine lv_aload_n hx hb dX1_wordsHadBySpending_46 rfl (lv_at hl 0 rfl) ?_
  refine tGet (T := TX1) (N := 12) (ci := 1) C hw inX1 1 0 rfl (by decide) kf_RX1_16 rfl rfl rfl dX1_wordsHadBySpending_47 ?_
  obtain ⟨r3, hr3, h⟩ := cl_some h
  refine cVi (ws2 := (wR cA ad w2)) (As := []) (rest := []) C hw jR1r (kX0_countWords (fun k => ad (8 + k)) hr3) kl_RX1_245 ki_yX0_countWords ks_yX0_countWords kn_RX0 kc_yX0_countWords ⟨rfl, rfl⟩ hdX0_countWords ⟨Nat.le_of_ble_eq_true rfl, Nat.le_of_ble_eq_true rfl⟩ (ci := 0) (q0 := 0) rfl rfl rfl rfl hl.1 (Nat.le_of_ble_eq_true rfl) dX1_wordsHadBySpending_50 ⟨Nat.zero_le _, Nat.zero_le _⟩ (fun H locs hw => ?_)
  obtain rfl := some_e h
  exact rtI C hr hw dX1_wordsHadBySpending_53
set_option maxHeartbeats 4000000 in
set_option maxRecDepth 100000 in
theorem kX1_wordsHadBySpending (ad : Nat → Nat) {X : Nat → VS} {a_1 : Int32} {a_2 : Int32} {a_3 : Int32} {z : (Int32 × (Nat → VS))} (h : fX1_wordsHadBySpending X a_1 a_2 a_3 = some z) : MI l D cA g yX1_wordsHadBySpending (Cond.code yX1_wordsHadBySpending cX1_wordsHadBySpending 4 (some .int) :: lw_g) rmX1_wordsHadBySpending [.ref (ad 0), .int a_1, .int a_2, .int a_3] (wR cA ad X) z.1 (wR cA ad z.2) := by
  intro sz
  refine Met.ofW (cc := cX1_wordsHadBySpending) (maxL := 4) (ret := (some .int)) (by decide) rfl ?_
  intro p e s m args below meth c s₁ B hml hv
  obtain ⟨rfl, C, hr, hw⟩ := ent B hml hv
  generalize va_A (wR cA ad X) sz = A at C hw ⊢
  have hl := lv_entry ([.ref (ad 0), .int a_1, .int a_2, .int a_3]) (n := 4) (Nat.le_of_ble_eq_true rfl)
  rw [lg_entry_eq]
  generalize (lg_sl ([.ref (ad 0), .int a_1, .int a_2, .int a_3]) ++ List.replicate (4 - (lg_sl ([.ref (ad 0), .int a_1, .int a_2, .int a_3])).length) Slot.unset).toArray = ls at hl ⊢
  have hl : lv_has ls 4 [(0, .ref (ad 0)), (1, .int a_1), (2, .int a_2), (3, .int a_3)] := hl
  have hx := C.1.1
  have hb := C.1.2.1
  have h : (cl (fX0_copyFrom (X 1) (X 0)) (fun w1 => bn (up X 1 w1) (fun w2 => if a_3 = 0 then cl (fX0_throwAway (w2 1) a_1) (fun w4 => bn (up w2 1 w4) (fun w5 => fX1_wordsHadBySpending_36 (w5, a_2))) else cl (fX0_sendUp (w2 1) a_1 31) (fun w6 => bn (up w2 1 w6) (fun w7 => fX1_wordsHadBySpending_36 (w7, a_2)))))) = some z := h
  refine lv_aload_n hx hb dX1_wordsHadBySpending_0 rfl (lv_at hl 0 rfl) ?_
  refine tGet (T := TX1) (N := 12) (ci := 1) C hw inX1 1 0 rfl (by decide) kf_RX1_16 rfl rfl rfl dX1_wordsHadBySpending_1 ?_
  refine lv_aload_n hx hb dX1_wordsHadBySpending_4 rfl (lv_at hl 0 rfl) ?_
  refine tGet (T := TX1) (N := 12) (ci := 1) C hw inX1 0 0 rfl (by decide) kf_RX1_10 rfl rfl rfl dX1_wordsHadBySpending_5 ?_
  obtain ⟨w1, hw1, h⟩ := cl_some h
  obtain ⟨w2, ew2⟩ : ∃ y : Nat → VS, y = up X 1 w1 := ⟨_, rfl⟩
  replace h := bn_some h ew2
  refine cVv (ws2 := (wR cA ad w2)) (As := [.ref (ad 1)]) (rest := []) C hw (by rw [ew2]; exact jRR10) (kX0_copyFrom (fun k => ad (8 + k)) (fun k => ad (1 + k)) hw1) kl_RX1_59 ki_yX0_copyFrom ks_yX0_copyFrom kn_RX0 kc_yX0_copyFrom ⟨rfl, rfl⟩ hdX0_copyFrom ⟨Nat.le_of_ble_eq_true rfl, Nat.le_of_ble_eq_true rfl⟩ (ci := 0) (q0 := 0) rfl rfl rfl rfl hl.1 (Nat.le_of_ble_eq_true rfl) dX1_wordsHadBySpending_8 ⟨Nat.zero_le _, Nat.zero_le _⟩ (fun H locs hw => ?_)
  refine lv_iload_n hx hb dX1_wordsHadBySpending_11 rfl (lv_at hl 3 rfl) ?_
  refine lv_if_eq (tgt := 28) hx hb dX1_wordsHadBySpending_12 (by decide) (fun c3 => ?_) (fun c3 => ?_)
  · replace h := (if_pos c3).symm.trans h
    refine lv_aload_n hx hb dX1_wordsHadBySpending_28 rfl (lv_at hl 0 rfl) ?_
    refine tGet (T := TX1) (N := 12) (ci := 1) C hw inX1 1 0 rfl (by decide) kf_RX1_16 rfl rfl rfl dX1_wordsHadBySpending_29 ?_
    refine lv_iload_n hx hb dX1_wordsHadBySpending_32 rfl (lv_at hl 1 rfl) ?_
    obtain ⟨w4, hw4, h⟩ := cl_some h
    obtain ⟨w5, ew5⟩ : ∃ y : Nat → VS, y = up w2 1 w4 := ⟨_, rfl⟩
    replace h := bn_some h ew5
    refine cVv (ws2 := (wR cA ad w5)) (As := [.int a_1]) (rest := []) C hw (by rw [ew5]; exact jR1) (kX0_throwAway (fun k => ad (8 + k)) hw4) kl_RX1_307 ki_yX0_throwAway ks_yX0_throwAway kn_RX0 kc_yX0_throwAway ⟨rfl, rfl⟩ hdX0_throwAway ⟨Nat.le_of_ble_eq_true rfl, Nat.le_of_ble_eq_true rfl⟩ (ci := 0) (q0 := 0) rfl rfl rfl rfl hl.1 (Nat.le_of_ble_eq_true rfl) dX1_wordsHadBySpending_33 ⟨Nat.zero_le _, Nat.zero_le _⟩ (fun H locs hw => ?_)
    exact kX1_wordsHadBySpending_36 C hr (w5, a_2) h _ _ _ hw (lv_sub hl [0, 2] rfl)
  · replace h := (if_neg c3).symm.trans h
    refine lv_aload_n hx hb dX1_wordsHadBySpending_15 rfl (lv_at hl 0 rfl) ?_
    refine tGet (T := TX1) (N := 12) (ci := 1) C hw inX1 1 0 rfl (by decide) kf_RX1_16 rfl rfl rfl dX1_wordsHadBySpending_16 ?_
    refine lv_iload_n hx hb dX1_wordsHadBySpending_19 rfl (lv_at hl 1 rfl) ?_
    refine lv_bipush (v := 31) hx hb dX1_wordsHadBySpending_20 (by decide) ?_
    obtain ⟨w6, hw6, h⟩ := cl_some h
    obtain ⟨w7, ew7⟩ : ∃ y : Nat → VS, y = up w2 1 w6 := ⟨_, rfl⟩
    replace h := bn_some h ew7
    refine cVv (ws2 := (wR cA ad w7)) (As := [.int a_1, .int 31]) (rest := []) C hw (by rw [ew7]; exact jR1) (kX0_sendUp (fun k => ad (8 + k)) hw6) kl_RX1_118 ki_yX0_sendUp ks_yX0_sendUp kn_RX0 kc_yX0_sendUp ⟨rfl, rfl⟩ hdX0_sendUp ⟨Nat.le_of_ble_eq_true rfl, Nat.le_of_ble_eq_true rfl⟩ (ci := 0) (q0 := 0) rfl rfl rfl rfl hl.1 (Nat.le_of_ble_eq_true rfl) dX1_wordsHadBySpending_22 ⟨Nat.zero_le _, Nat.zero_le _⟩ (fun H locs hw => ?_)
    refine lv_goto (tgt := 36) hx hb dX1_wordsHadBySpending_25 (by decide) ?_
    exact kX1_wordsHadBySpending_36 C hr (w7, a_2) h _ _ _ hw (lv_sub hl [0, 2] rfl)
abbrev rmX1_bestToSpend : Room := { frames := 5, cells := 0, slots := 0, locals := 123 }
theorem hdX1_bestToSpend : yX1_bestToSpend.cls = RX1 ∧ yX1_bestToSpend.cls ≠ "java/lang/invoke/MethodHandle" ∧ yX1_bestToSpend.cls ≠ "java/lang/invoke/VarHandle" ∧ (parseMethodDescriptor yX1_bestToSpend.desc).map (fun d => d.parameters.length) = some 2 := by decide +kernel
def GX1_bestToSpend_86 (p : Program) (l : Launch) (e : Env) (s : State) (m : MethodId) (args : Array Value) (below : List Frame) (meth : Method) (c : Code) (D : va_G) (cA : ClassId) (A : Nat → Prop) (ad : Nat → Nat) (z : (Int32 × (Nat → VS))) (x : (Nat → VS) × (Int32) × (Int32) × (Int32) × (Int32) × (Int32)) : Prop := ∀ (H : Heap) (locs : List Loc) (ls : Array Slot), Wd D A s.heap (wR cA ad x.1) H locs → lv_has ls 7 [(0, .ref (ad 0)), (1, .int x.2.1), (2, .int x.2.2.1), (3, .int x.2.2.2.1), (4, .int x.2.2.2.2.1), (5, .int x.2.2.2.2.2)] → W p l e rmX1_bestToSpend s m args below meth c H locs 0 0 (MQ below (QI D cA A z.1 (wR cA ad z.2)) args s 0 0 A) (F0 m 86 ls [])
def GX1_bestToSpend_63 (p : Program) (l : Launch) (e : Env) (s : State) (m : MethodId) (args : Array Value) (below : List Frame) (meth : Method) (c : Code) (D : va_G) (cA : ClassId) (A : Nat → Prop) (ad : Nat → Nat) (z : (Int32 × (Nat → VS))) (x : (Nat → VS) × (Int32) × (Int32) × (Int32) × (Int32) × (Int32)) : Prop := ∀ (H : Heap) (locs : List Loc) (ls : Array Slot), Wd D A s.heap (wR cA ad x.1) H locs → lv_has ls 7 [(0, .ref (ad 0)), (1, .int x.2.1), (2, .int x.2.2.1), (3, .int x.2.2.2.1), (4, .int x.2.2.2.2.1), (5, .int x.2.2.2.2.2)] → W p l e rmX1_bestToSpend s m args below meth c H locs 0 0 (MQ below (QI D cA A z.1 (wR cA ad z.2)) args s 0 0 A) (F0 m 63 ls [])
def GX1_bestToSpend_20 (p : Program) (l : Launch) (e : Env) (s : State) (m : MethodId) (args : Array Value) (below : List Frame) (meth : Method) (c : Code) (D : va_G) (cA : ClassId) (A : Nat → Prop) (ad : Nat → Nat) (z : (Int32 × (Nat → VS))) (x : (Nat → VS) × (Int32) × (Int32) × (Int32) × (Int32) × (Int32)) : Prop := ∀ (H : Heap) (locs : List Loc) (ls : Array Slot), Wd D A s.heap (wR cA ad x.1) H locs → lv_has ls 7 [(0, .ref (ad 0)), (1, .int x.2.1), (2, .int x.2.2.1), (3, .int x.2.2.2.1), (4, .int x.2.2.2.2.1), (5, .int x.2.2.2.2.2)] → W p l e rmX1_bestToSpend s m args below meth c H locs 0 0 (MQ below (QI D cA A z.1 (wR cA ad z.2)) args s 0 0 A) (F0 m 20 ls [])
def fX1_bestToSpend_86 (k20 : ((Nat → VS) × (Int32) × (Int32) × (Int32) × (Int32) × (Int32)) → Option (Int32 × (Nat → VS))) : ((Nat → VS) × (Int32) × (Int32) × (Int32) × (Int32) × (Int32)) → Option (Int32 × (Nat → VS)) := fun x => match x with | (X, x_1, x_2, x_3, x_4, x_5) => bn (x_5 + 1) (fun x1 => k20 (X, x_1, x_2, x_3, x_4, x1))
def fX1_bestToSpend_63 (k20 : ((Nat → VS) × (Int32) × (Int32) × (Int32) × (Int32) × (Int32)) → Option (Int32 × (Nat → VS))) : ((Nat → VS) × (Int32) × (Int32) × (Int32) × (Int32) × (Int32)) → Option (Int32 × (Nat → VS)) := fun x => match x with | (X, x_1, x_2, x_3, x_4, x_5) => cl (fX1_wordsHadBySpending X x_5 x_1 x_2) (fun q1 => bn q1.1 (fun x2 => if x2 ≤ x_3 then fX1_bestToSpend_86 k20 (q1.2, x_1, x_2, x_3, x_4, x_5) else fX1_bestToSpend_86 k20 (q1.2, x_1, x_2, x2, x_5, x_5)))
def fX1_bestToSpend_20 (k20 : ((Nat → VS) × (Int32) × (Int32) × (Int32) × (Int32) × (Int32)) → Option (Int32 × (Nat → VS))) : ((Nat → VS) × (Int32) × (Int32) × (Int32) × (Int32) × (Int32)) → Option (Int32 × (Nat → VS)) := fun x => match x with | (X, x_1, x_2, x_3, x_4, x_5) => if (X 0 0 0) ≤ x_5 then some (x_4, X) else if x_2 = 0 then cl (fX0_isSent (X 0) x_5) (fun r3 => if r3 = 0 then fX1_bestToSpend_63 k20 (X, x_1, x_2, x_3, x_4, x_5) else fX1_bestToSpend_86 k20 (X, x_1, x_2, x_3, x_4, x_5)) else cl (fX0_canSend (X 0) x_5) (fun r5 => if r5 = 0 then fX1_bestToSpend_86 k20 (X, x_1, x_2, x_3, x_4, x_5) else fX1_bestToSpend_63 k20 (X, x_1, x_2, x_3, x_4, x_5))
def fX1_bestToSpend (X : Nat → VS) (a_1 : Int32) (a_2 : Int32) : Option (Int32 × (Nat → VS)) := cl (fX1_thinkOn X a_1) (fun w1 => cl (fX0_countWords (w1 1)) (fun r2 => lp (fX1_bestToSpend_20) 5000 (w1, a_1, a_2, r2, (-9), 0)))
set_option maxHeartbeats 4000000 in
set_option maxRecDepth 100000 in
theorem kX1_bestToSpend_86 (C : Cx p s m args meth c cX1_bestToSpend 7 RX1 D cA g A) (hr : meth.sig.returnType = (some .int)) {z : (Int32 × (Nat → VS))} (k20 : ((Nat → VS) × (Int32) × (Int32) × (Int32) × (Int32) × (Int32)) → Option (Int32 × (Nat → VS))) (hk20 : ∀ x, k20 x = some z → GX1_bestToSpend_20 p l e s m args below meth c D cA A ad z x) (x : (Nat → VS) × (Int32) × (Int32) × (Int32) × (Int32) × (Int32)) (h : fX1_bestToSpend_86 k20 x = some z) : GX1_bestToSpend_86 p l e s m args below meth c D cA A ad z x := by
  obtain ⟨X, x_1, x_2, x_3, x_4, x_5⟩ := x
  intro H locs ls hw hl
  have hw : Wd D A s.heap (wR cA ad X) H locs := hw
  have hl : lv_has ls 7 [(0, .ref (ad 0)), (1, .int x_1), (2, .int x_2), (3, .int x_3), (4, .int x_4), (5, .int x_5)] := hl
  have hx := C.1.1
  have hb := C.1.2.1
  have h : (bn (x_5 + 1) (fun x1 => k20 (X, x_1, x_2, x_3, x_4, x1))) = some z := h
  obtain ⟨x1, ex1⟩ : ∃ y : Int32, y = x_5 + 1 := ⟨_, rfl⟩
  replace h := bn_some h ex1
  refine lv_iinc (v := x1) (lv' := [(5, .int x1), (0, .ref (ad 0)), (1, .int x_1), (2, .int x_2), (3, .int x_3), (4, .int x_4)]) hx hb dX1_bestToSpend_86 hl (k := 5) rfl (by rw [ex1]; rfl) (by decide) rfl (fun ls hl => ?_)
  refine lv_goto (tgt := 20) hx hb dX1_bestToSpend_89 (by decide) ?_
  exact hk20 (X, x_1, x_2, x_3, x_4, x1) h _ _ _ hw (lv_sub hl [1, 2, 3, 4, 5, 0] rfl)
set_option maxHeartbeats 4000000 in
set_option maxRecDepth 100000 in
theorem kX1_bestToSpend_63 (C : Cx p s m args meth c cX1_bestToSpend 7 RX1 D cA g A) (hr : meth.sig.returnType = (some .int)) {z : (Int32 × (Nat → VS))} (k20 : ((Nat → VS) × (Int32) × (Int32) × (Int32) × (Int32) × (Int32)) → Option (Int32 × (Nat → VS))) (hk20 : ∀ x, k20 x = some z → GX1_bestToSpend_20 p l e s m args below meth c D cA A ad z x) (x : (Nat → VS) × (Int32) × (Int32) × (Int32) × (Int32) × (Int32)) (h : fX1_bestToSpend_63 k20 x = some z) : GX1_bestToSpend_63 p l e s m args below meth c D cA A ad z x := by
  obtain ⟨X, x_1, x_2, x_3, x_4, x_5⟩ := x
  intro H locs ls hw hl
  have hw : Wd D A s.heap (wR cA ad X) H locs := hw
  have hl : lv_has ls 7 [(0, .ref (ad 0)), (1, .int x_1), (2, .int x_2), (3, .int x_3), (4, .int x_4), (5, .int x_5)] := hl
  have hx := C.1.1
  have hb := C.1.2.1
  have h : (cl (fX1_wordsHadBySpending X x_5 x_1 x_2) (fun q1 => bn q1.1 (fun x2 => if x2 ≤ x_3 then fX1_bestToSpend_86 k20 (q1.2, x_1, x_2, x_3, x_4, x_5) else fX1_bestToSpend_86 k20 (q1.2, x_1, x_2, x2, x_5, x_5)))) = some z := h
  refine lv_aload_n hx hb dX1_bestToSpend_63 rfl (lv_at hl 0 rfl) ?_
  refine lv_iload hx hb dX1_bestToSpend_64 (lv_at hl 5 rfl) ?_
  refine lv_iload_n hx hb dX1_bestToSpend_66 rfl (lv_at hl 1 rfl) ?_
  refine lv_iload_n hx hb dX1_bestToSpend_67 rfl (lv_at hl 2 rfl) ?_
  obtain ⟨q1, hq1, h⟩ := cl_some h
  refine cVi (ws2 := (wR cA ad q1.2)) (As := [.int x_5, .int x_1, .int x_2]) (rest := []) C hw jnW (kX1_wordsHadBySpending ad hq1) kl_RX1_303 ki_yX1_wordsHadBySpending ks_yX1_wordsHadBySpending kn_RX1 kc_yX1_wordsHadBySpending ⟨rfl, rfl⟩ hdX1_wordsHadBySpending ⟨Nat.le_of_ble_eq_true rfl, Nat.le_of_ble_eq_true rfl⟩ (ci := 1) (q0 := 0) rfl rfl rfl rfl hl.1 (Nat.le_of_ble_eq_true rfl) dX1_bestToSpend_68 ⟨Nat.zero_le _, Nat.zero_le _⟩ (fun H locs hw => ?_)
  refine lv_topi (fun x2 ex2 => ?_)
  replace h := bn_some h ex2
  refine lv_istore (lv' := [(6, .int x2), (0, .ref (ad 0)), (1, .int x_1), (2, .int x_2), (3, .int x_3), (4, .int x_4), (5, .int x_5)]) hx hb dX1_bestToSpend_71 hl (by decide) rfl (fun ls hl => ?_)
  refine lv_iload hx hb dX1_bestToSpend_73 (lv_at hl 0 rfl) ?_
  refine lv_iload_n hx hb dX1_bestToSpend_75 rfl (lv_at hl 4 rfl) ?_
  refine lv_icmp_le (tgt := 86) hx hb dX1_bestToSpend_76 (by decide) (fun c3 => ?_) (fun c3 => ?_)
  · replace h := (if_pos c3).symm.trans h
    exact kX1_bestToSpend_86 C hr k20 hk20 (q1.2, x_1, x_2, x_3, x_4, x_5) h _ _ _ hw (lv_sub hl [1, 2, 3, 4, 5, 6] rfl)
  · replace h := (if_neg c3).symm.trans h
    refine lv_iload hx hb dX1_bestToSpend_79 (lv_at hl 0 rfl) ?_
    refine lv_istore_n (lv' := [(3, .int x2), (6, .int x2), (0, .ref (ad 0)), (1, .int x_1), (2, .int x_2), (4, .int x_4), (5, .int x_5)]) hx hb dX1_bestToSpend_81 rfl hl (by decide) rfl (fun ls hl => ?_)
    refine lv_iload hx hb dX1_bestToSpend_82 (lv_at hl 6 rfl) ?_
    refine lv_istore (lv' := [(4, .int x_5), (3, .int x2), (6, .int x2), (0, .ref (ad 0)), (1, .int x_1), (2, .int x_2), (5, .int x_5)]) hx hb dX1_bestToSpend_84 hl (by decide) rfl (fun ls hl => ?_)
    exact kX1_bestToSpend_86 C hr k20 hk20 (q1.2, x_1, x_2, x2, x_5, x_5) h _ _ _ hw (lv_sub hl [3, 4, 5, 1, 0, 6] rfl)
set_option maxHeartbeats 4000000 in
set_option maxRecDepth 100000 in
theorem kX1_bestToSpend_20 (C : Cx p s m args meth c cX1_bestToSpend 7 RX1 D cA g A) (hr : meth.sig.returnType = (some .int)) {z : (Int32 × (Nat → VS))} (k20 : ((Nat → VS) × (Int32) × (Int32) × (Int32) × (Int32) × (Int32)) → Option (Int32 × (Nat → VS))) (hk20 : ∀ x, k20 x = some z → GX1_bestToSpend_20 p l e s m args below meth c D cA A ad z x) (x : (Nat → VS) × (Int32) × (Int32) × (Int32) × (Int32) × (Int32)) (h : fX1_bestToSpend_20 k20 x = some z) : GX1_bestToSpend_20 p l e s m args below meth c D cA A ad z x := by
  obtain ⟨X, x_1, x_2, x_3, x_4, x_5⟩ := x
  intro H locs ls hw hl
  have hw : Wd D A s.heap (wR cA ad X) H locs := hw
  have hl : lv_has ls 7 [(0, .ref (ad 0)), (1, .int x_1), (2, .int x_2), (3, .int x_3), (4, .int x_4), (5, .int x_5)] := hl
  have hx := C.1.1
  have hb := C.1.2.1
  have h : (if (X 0 0 0) ≤ x_5 then some (x_4, X) else if x_2 = 0 then cl (fX0_isSent (X 0) x_5) (fun r3 => if r3 = 0 then fX1_bestToSpend_63 k20 (X, x_1, x_2, x_3, x_4, x_5) else fX1_bestToSpend_86 k20 (X, x_1, x_2, x_3, x_4, x_5)) else cl (fX0_canSend (X 0) x_5) (fun r5 => if r5 = 0 then fX1_bestToSpend_86 k20 (X, x_1, x_2, x_3, x_4, x_5) else fX1_bestToSpend_63 k20 (X, x_1, x_2, x_3, x_4, x_5))) = some z := h
  refine lv_iload hx hb dX1_bestToSpend_20 (lv_at hl 5 rfl) ?_
  refine lv_aload_n hx hb dX1_bestToSpend_22 rfl (lv_at hl 0 rfl) ?_
  refine tGet (T := TX1) (N := 12) (ci := 1) C hw inX1 0 0 rfl (by decide) kf_RX1_10 rfl rfl rfl dX1_bestToSpend_23 ?_
  refine tGet (T := TX0) (N := 12) (ci := 0) C hw inX0 0 1 rfl (by decide) kf_RX1_129 rfl rfl rfl dX1_bestToSpend_26 ?_
  refine lv_icmp_ge (tgt := 92) hx hb dX1_bestToSpend_29 (by decide) (fun c1 => ?_) (fun c1 => ?_)
  · replace h := (if_pos c1).symm.trans h
    refine lv_iload hx hb dX1_bestToSpend_92 (lv_at hl 4 rfl) ?_
    obtain rfl := some_e h
    exact rtI C hr hw dX1_bestToSpend_94
  · replace h := (if_neg c1).symm.trans h
    refine lv_iload_n hx hb dX1_bestToSpend_32 rfl (lv_at hl 2 rfl) ?_
    refine lv_if_eq (tgt := 51) hx hb dX1_bestToSpend_33 (by decide) (fun c2 => ?_) (fun c2 => ?_)
    · replace h := (if_pos c2).symm.trans h
      refine lv_aload_n hx hb dX1_bestToSpend_51 rfl (lv_at hl 0 rfl) ?_
      refine tGet (T := TX1) (N := 12) (ci := 1) C hw inX1 0 0 rfl (by decide) kf_RX1_10 rfl rfl rfl dX1_bestToSpend_52 ?_
      refine lv_iload hx hb dX1_bestToSpend_55 (lv_at hl 5 rfl) ?_
      obtain ⟨r3, hr3, h⟩ := cl_some h
      refine cVi (ws2 := (wR cA ad X)) (As := [.int x_5]) (rest := []) C hw jR0r (kX0_isSent (fun k => ad (1 + k)) hr3) kl_RX1_82 ki_yX0_isSent ks_yX0_isSent kn_RX0 kc_yX0_isSent ⟨rfl, rfl⟩ hdX0_isSent ⟨Nat.le_of_ble_eq_true rfl, Nat.le_of_ble_eq_true rfl⟩ (ci := 0) (q0 := 0) rfl rfl rfl rfl hl.1 (Nat.le_of_ble_eq_true rfl) dX1_bestToSpend_57 ⟨Nat.zero_le _, Nat.zero_le _⟩ (fun H locs hw => ?_)
      refine lv_if_ne (tgt := 86) hx hb dX1_bestToSpend_60 (by decide) (fun c4 => ?_) (fun c4 => ?_)
      · replace h := (if_neg c4).symm.trans h
        exact kX1_bestToSpend_86 C hr k20 hk20 (X, x_1, x_2, x_3, x_4, x_5) h _ _ _ hw (lv_sub hl [0, 1, 2, 3, 4, 5] rfl)
      · replace h := (if_pos c4).symm.trans h
        exact kX1_bestToSpend_63 C hr k20 hk20 (X, x_1, x_2, x_3, x_4, x_5) h _ _ _ hw (lv_sub hl [0, 1, 2, 3, 4, 5] rfl)
    · replace h := (if_neg c2).symm.trans h
      refine lv_aload_n hx hb dX1_bestToSpend_36 rfl (lv_at hl 0 rfl) ?_
      refine tGet (T := TX1) (N := 12) (ci := 1) C hw inX1 0 0 rfl (by decide) kf_RX1_10 rfl rfl rfl dX1_bestToSpend_37 ?_
      refine lv_iload hx hb dX1_bestToSpend_40 (lv_at hl 5 rfl) ?_
      obtain ⟨r5, hr5, h⟩ := cl_some h
      refine cVi (ws2 := (wR cA ad X)) (As := [.int x_5]) (rest := []) C hw jR0r (kX0_canSend (fun k => ad (1 + k)) hr5) kl_RX1_115 ki_yX0_canSend ks_yX0_canSend kn_RX0 kc_yX0_canSend ⟨rfl, rfl⟩ hdX0_canSend ⟨Nat.le_of_ble_eq_true rfl, Nat.le_of_ble_eq_true rfl⟩ (ci := 0) (q0 := 0) rfl rfl rfl rfl hl.1 (Nat.le_of_ble_eq_true rfl) dX1_bestToSpend_42 ⟨Nat.zero_le _, Nat.zero_le _⟩ (fun H locs hw => ?_)
      refine lv_if_eq (tgt := 86) hx hb dX1_bestToSpend_45 (by decide) (fun c6 => ?_) (fun c6 => ?_)
      · replace h := (if_pos c6).symm.trans h
        exact kX1_bestToSpend_86 C hr k20 hk20 (X, x_1, x_2, x_3, x_4, x_5) h _ _ _ hw (lv_sub hl [0, 1, 2, 3, 4, 5] rfl)
      · replace h := (if_neg c6).symm.trans h
        refine lv_goto (tgt := 63) hx hb dX1_bestToSpend_48 (by decide) ?_
        exact kX1_bestToSpend_63 C hr k20 hk20 (X, x_1, x_2, x_3, x_4, x_5) h _ _ _ hw (lv_sub hl [0, 1, 2, 3, 4, 5] rfl)
theorem lX1_bestToSpend_20 (C : Cx p s m args meth c cX1_bestToSpend 7 RX1 D cA g A) (hr : meth.sig.returnType = (some .int)) {z : (Int32 × (Nat → VS))} (n : Nat) (x : (Nat → VS) × (Int32) × (Int32) × (Int32) × (Int32) × (Int32)) (h : lp (fX1_bestToSpend_20) n x = some z) : GX1_bestToSpend_20 p l e s m args below meth c D cA A ad z x := lp_ok (GX1_bestToSpend_20 p l e s m args below meth c D cA A ad z) (fun kq hkq x h => kX1_bestToSpend_20 C hr kq hkq x h) n x h
set_option maxHeartbeats 4000000 in
set_option maxRecDepth 100000 in
theorem kX1_bestToSpend (ad : Nat → Nat) {X : Nat → VS} {a_1 : Int32} {a_2 : Int32} {z : (Int32 × (Nat → VS))} (h : fX1_bestToSpend X a_1 a_2 = some z) : MI l D cA g yX1_bestToSpend (Cond.code yX1_bestToSpend cX1_bestToSpend 7 (some .int) :: lw_g) rmX1_bestToSpend [.ref (ad 0), .int a_1, .int a_2] (wR cA ad X) z.1 (wR cA ad z.2) := by
  intro sz
  refine Met.ofW (cc := cX1_bestToSpend) (maxL := 7) (ret := (some .int)) (by decide) rfl ?_
  intro p e s m args below meth c s₁ B hml hv
  obtain ⟨rfl, C, hr, hw⟩ := ent B hml hv
  generalize va_A (wR cA ad X) sz = A at C hw ⊢
  have hl := lv_entry ([.ref (ad 0), .int a_1, .int a_2]) (n := 7) (Nat.le_of_ble_eq_true rfl)
  rw [lg_entry_eq]
  generalize (lg_sl ([.ref (ad 0), .int a_1, .int a_2]) ++ List.replicate (7 - (lg_sl ([.ref (ad 0), .int a_1, .int a_2])).length) Slot.unset).toArray = ls at hl ⊢
  have hl : lv_has ls 7 [(0, .ref (ad 0)), (1, .int a_1), (2, .int a_2)] := hl
  have hx := C.1.1
  have hb := C.1.2.1
  have h : (cl (fX1_thinkOn X a_1) (fun w1 => cl (fX0_countWords (w1 1)) (fun r2 => lp (fX1_bestToSpend_20) 5000 (w1, a_1, a_2, r2, (-9), 0)))) = some z := h
  refine lv_aload_n hx hb dX1_bestToSpend_0 rfl (lv_at hl 0 rfl) ?_
  refine lv_iload_n hx hb dX1_bestToSpend_1 rfl (lv_at hl 1 rfl) ?_
  obtain ⟨w1, hw1, h⟩ := cl_some h
  refine cVv (ws2 := (wR cA ad w1)) (As := [.int a_1]) (rest := []) C hw jnW (kX1_thinkOn ad hw1) kl_RX1_153 ki_yX1_thinkOn ks_yX1_thinkOn kn_RX1 kc_yX1_thinkOn ⟨rfl, rfl⟩ hdX1_thinkOn ⟨Nat.le_of_ble_eq_true rfl, Nat.le_of_ble_eq_true rfl⟩ (ci := 1) (q0 := 0) rfl rfl rfl rfl hl.1 (Nat.le_of_ble_eq_true rfl) dX1_bestToSpend_2 ⟨Nat.zero_le _, Nat.zero_le _⟩ (fun H locs hw => ?_)
  refine lv_aload_n hx hb dX1_bestToSpend_5 rfl (lv_at hl 0 rfl) ?_
  refine tGet (T := TX1) (N := 12) (ci := 1) C hw inX1 1 0 rfl (by decide) kf_RX1_16 rfl rfl rfl dX1_bestToSpend_6 ?_
  obtain ⟨r2, hr2, h⟩ := cl_some h
  refine cVi (ws2 := (wR cA ad w1)) (As := []) (rest := []) C hw jR1r (kX0_countWords (fun k => ad (8 + k)) hr2) kl_RX1_245 ki_yX0_countWords ks_yX0_countWords kn_RX0 kc_yX0_countWords ⟨rfl, rfl⟩ hdX0_countWords ⟨Nat.le_of_ble_eq_true rfl, Nat.le_of_ble_eq_true rfl⟩ (ci := 0) (q0 := 0) rfl rfl rfl rfl hl.1 (Nat.le_of_ble_eq_true rfl) dX1_bestToSpend_9 ⟨Nat.zero_le _, Nat.zero_le _⟩ (fun H locs hw => ?_)
  refine lv_istore_n (lv' := [(3, .int r2), (0, .ref (ad 0)), (1, .int a_1), (2, .int a_2)]) hx hb dX1_bestToSpend_12 rfl hl (by decide) rfl (fun ls hl => ?_)
  refine lv_bipush (v := (-9)) hx hb dX1_bestToSpend_13 (by decide) ?_
  refine lv_istore (lv' := [(4, .int (-9)), (3, .int r2), (0, .ref (ad 0)), (1, .int a_1), (2, .int a_2)]) hx hb dX1_bestToSpend_15 hl (by decide) rfl (fun ls hl => ?_)
  refine lv_iconst (v := 0) hx hb dX1_bestToSpend_17 (by decide) ?_
  refine lv_istore (lv' := [(5, .int 0), (4, .int (-9)), (3, .int r2), (0, .ref (ad 0)), (1, .int a_1), (2, .int a_2)]) hx hb dX1_bestToSpend_18 hl (by decide) rfl (fun ls hl => ?_)
  exact lX1_bestToSpend_20 C hr 5000 (w1, a_1, a_2, r2, (-9), 0) h _ _ _ hw (lv_sub hl [3, 4, 5, 2, 1, 0] rfl)
abbrev rmX1_forgo : Room := { frames := 6, cells := 0, slots := 0, locals := 149 }
theorem hdX1_forgo : yX1_forgo.cls = RX1 ∧ yX1_forgo.cls ≠ "java/lang/invoke/MethodHandle" ∧ yX1_forgo.cls ≠ "java/lang/invoke/VarHandle" ∧ (parseMethodDescriptor yX1_forgo.desc).map (fun d => d.parameters.length) = some 1 := by decide +kernel
def fX1_forgo (X : Nat → VS) (a_1 : Int32) : Option (Int32 × (Nat → VS)) := cl (fX1_outside a_1 1 30) (fun r1 => if r1 = 0 then cl (fX1_bestToSpend X a_1 0) (fun q3 => some (q3.1, q3.2)) else cl (fX1_refuse X r1) (fun q4 => some (q4.1, q4.2)))
set_option maxHeartbeats 4000000 in
set_option maxRecDepth 100000 in
theorem kX1_forgo (ad : Nat → Nat) {X : Nat → VS} {a_1 : Int32} {z : (Int32 × (Nat → VS))} (h : fX1_forgo X a_1 = some z) : MI l D cA g yX1_forgo (Cond.code yX1_forgo cX1_forgo 3 (some .int) :: lw_g) rmX1_forgo [.ref (ad 0), .int a_1] (wR cA ad X) z.1 (wR cA ad z.2) := by
  intro sz
  refine Met.ofW (cc := cX1_forgo) (maxL := 3) (ret := (some .int)) (by decide) rfl ?_
  intro p e s m args below meth c s₁ B hml hv
  obtain ⟨rfl, C, hr, hw⟩ := ent B hml hv
  generalize va_A (wR cA ad X) sz = A at C hw ⊢
  have hl := lv_entry ([.ref (ad 0), .int a_1]) (n := 3) (Nat.le_of_ble_eq_true rfl)
  rw [lg_entry_eq]
  generalize (lg_sl ([.ref (ad 0), .int a_1]) ++ List.replicate (3 - (lg_sl ([.ref (ad 0), .int a_1])).length) Slot.unset).toArray = ls at hl ⊢
  have hl : lv_has ls 3 [(0, .ref (ad 0)), (1, .int a_1)] := hl
  have hx := C.1.1
  have hb := C.1.2.1
  have h : (cl (fX1_outside a_1 1 30) (fun r1 => if r1 = 0 then cl (fX1_bestToSpend X a_1 0) (fun q3 => some (q3.1, q3.2)) else cl (fX1_refuse X r1) (fun q4 => some (q4.1, q4.2)))) = some z := h
  refine lv_iload_n hx hb dX1_forgo_0 rfl (lv_at hl 1 rfl) ?_
  refine lv_iconst (v := 1) hx hb dX1_forgo_1 (by decide) ?_
  refine lv_bipush (v := 30) hx hb dX1_forgo_2 (by decide) ?_
  obtain ⟨r1, hr1, h⟩ := cl_some h
  refine cSi (ws2 := (wR cA ad X)) (As := [.int a_1, .int 1, .int 30]) (rest := []) C hw jnE (kX1_outside hr1) kl_RX1_140 kt_yX1_outside kn_RX1 kc_yX1_outside ⟨rfl, rfl⟩ hdX1_outside ⟨Nat.le_of_ble_eq_true rfl, Nat.le_of_ble_eq_true rfl⟩ rfl hl.1 (Nat.le_of_ble_eq_true rfl) dX1_forgo_4 ⟨Nat.zero_le _, Nat.zero_le _⟩ (fun H locs hw => ?_)
  refine lv_istore_n (lv' := [(2, .int r1), (0, .ref (ad 0)), (1, .int a_1)]) hx hb dX1_forgo_7 rfl hl (by decide) rfl (fun ls hl => ?_)
  refine lv_iload_n hx hb dX1_forgo_8 rfl (lv_at hl 0 rfl) ?_
  refine lv_if_eq (tgt := 18) hx hb dX1_forgo_9 (by decide) (fun c2 => ?_) (fun c2 => ?_)
  · replace h := (if_pos c2).symm.trans h
    refine lv_aload_n hx hb dX1_forgo_18 rfl (lv_at hl 1 rfl) ?_
    refine lv_iload_n hx hb dX1_forgo_19 rfl (lv_at hl 2 rfl) ?_
    refine lv_iconst (v := 0) hx hb dX1_forgo_20 (by decide) ?_
    obtain ⟨q3, hq3, h⟩ := cl_some h
    refine cVi (ws2 := (wR cA ad q3.2)) (As := [.int a_1, .int 0]) (rest := []) C hw jnW (kX1_bestToSpend ad hq3) kl_RX1_184 ki_yX1_bestToSpend ks_yX1_bestToSpend kn_RX1 kc_yX1_bestToSpend ⟨rfl, rfl⟩ hdX1_bestToSpend ⟨Nat.le_of_ble_eq_true rfl, Nat.le_of_ble_eq_true rfl⟩ (ci := 1) (q0 := 0) rfl rfl rfl rfl hl.1 (Nat.le_of_ble_eq_true rfl) dX1_forgo_21 ⟨Nat.zero_le _, Nat.zero_le _⟩ (fun H locs hw => ?_)
    obtain rfl := some_e h
    exact rtI C hr hw dX1_forgo_24
  · replace h := (if_neg c2).symm.trans h
    refine lv_aload_n hx hb dX1_forgo_12 rfl (lv_at hl 1 rfl) ?_
    refine lv_iload_n hx hb dX1_forgo_13 rfl (lv_at hl 0 rfl) ?_
    obtain ⟨q4, hq4, h⟩ := cl_some h
    refine cVi (ws2 := (wR cA ad q4.2)) (As := [.int r1]) (rest := []) C hw jnW (kX1_refuse ad hq4) kl_RX1_52 ki_yX1_refuse ks_yX1_refuse kn_RX1 kc_yX1_refuse ⟨rfl, rfl⟩ hdX1_refuse ⟨Nat.le_of_ble_eq_true rfl, Nat.le_of_ble_eq_true rfl⟩ (ci := 1) (q0 := 0) rfl rfl rfl rfl hl.1 (Nat.le_of_ble_eq_true rfl) dX1_forgo_14 ⟨Nat.zero_le _, Nat.zero_le _⟩ (fun H locs hw => ?_)
    obtain rfl := some_e h
    exact rtI C hr hw dX1_forgo_17
abbrev rmX1_firstUp : Room := { frames := 6, cells := 0, slots := 0, locals := 149 }
theorem hdX1_firstUp : yX1_firstUp.cls = RX1 ∧ yX1_firstUp.cls ≠ "java/lang/invoke/MethodHandle" ∧ yX1_firstUp.cls ≠ "java/lang/invoke/VarHandle" ∧ (parseMethodDescriptor yX1_firstUp.desc).map (fun d => d.parameters.length) = some 1 := by decide +kernel
def fX1_firstUp (X : Nat → VS) (a_1 : Int32) : Option (Int32 × (Nat → VS)) := cl (fX1_outside a_1 1 30) (fun r1 => if r1 = 0 then cl (fX1_bestToSpend X a_1 1) (fun q3 => some (q3.1, q3.2)) else cl (fX1_refuse X r1) (fun q4 => some (q4.1, q4.2)))
set_option maxHeartbeats 4000000 in
set_option maxRecDepth 100000 in
theorem kX1_firstUp (ad : Nat → Nat) {X : Nat → VS} {a_1 : Int32} {z : (Int32 × (Nat → VS))} (h : fX1_firstUp X a_1 = some z) : MI l D cA g yX1_firstUp (Cond.code yX1_firstUp cX1_firstUp 3 (some .int) :: lw_g) rmX1_firstUp [.ref (ad 0), .int a_1] (wR cA ad X) z.1 (wR cA ad z.2) := by
  intro sz
  refine Met.ofW (cc := cX1_firstUp) (maxL := 3) (ret := (some .int)) (by decide) rfl ?_
  intro p e s m args below meth c s₁ B hml hv
  obtain ⟨rfl, C, hr, hw⟩ := ent B hml hv
  generalize va_A (wR cA ad X) sz = A at C hw ⊢
  have hl := lv_entry ([.ref (ad 0), .int a_1]) (n := 3) (Nat.le_of_ble_eq_true rfl)
  rw [lg_entry_eq]
  generalize (lg_sl ([.ref (ad 0), .int a_1]) ++ List.replicate (3 - (lg_sl ([.ref (ad 0), .int a_1])).length) Slot.unset).toArray = ls at hl ⊢
  have hl : lv_has ls 3 [(0, .ref (ad 0)), (1, .int a_1)] := hl
  have hx := C.1.1
  have hb := C.1.2.1
  have h : (cl (fX1_outside a_1 1 30) (fun r1 => if r1 = 0 then cl (fX1_bestToSpend X a_1 1) (fun q3 => some (q3.1, q3.2)) else cl (fX1_refuse X r1) (fun q4 => some (q4.1, q4.2)))) = some z := h
  refine lv_iload_n hx hb dX1_firstUp_0 rfl (lv_at hl 1 rfl) ?_
  refine lv_iconst (v := 1) hx hb dX1_firstUp_1 (by decide) ?_
  refine lv_bipush (v := 30) hx hb dX1_firstUp_2 (by decide) ?_
  obtain ⟨r1, hr1, h⟩ := cl_some h
  refine cSi (ws2 := (wR cA ad X)) (As := [.int a_1, .int 1, .int 30]) (rest := []) C hw jnE (kX1_outside hr1) kl_RX1_140 kt_yX1_outside kn_RX1 kc_yX1_outside ⟨rfl, rfl⟩ hdX1_outside ⟨Nat.le_of_ble_eq_true rfl, Nat.le_of_ble_eq_true rfl⟩ rfl hl.1 (Nat.le_of_ble_eq_true rfl) dX1_firstUp_4 ⟨Nat.zero_le _, Nat.zero_le _⟩ (fun H locs hw => ?_)
  refine lv_istore_n (lv' := [(2, .int r1), (0, .ref (ad 0)), (1, .int a_1)]) hx hb dX1_firstUp_7 rfl hl (by decide) rfl (fun ls hl => ?_)
  refine lv_iload_n hx hb dX1_firstUp_8 rfl (lv_at hl 0 rfl) ?_
  refine lv_if_eq (tgt := 18) hx hb dX1_firstUp_9 (by decide) (fun c2 => ?_) (fun c2 => ?_)
  · replace h := (if_pos c2).symm.trans h
    refine lv_aload_n hx hb dX1_firstUp_18 rfl (lv_at hl 1 rfl) ?_
    refine lv_iload_n hx hb dX1_firstUp_19 rfl (lv_at hl 2 rfl) ?_
    refine lv_iconst (v := 1) hx hb dX1_firstUp_20 (by decide) ?_
    obtain ⟨q3, hq3, h⟩ := cl_some h
    refine cVi (ws2 := (wR cA ad q3.2)) (As := [.int a_1, .int 1]) (rest := []) C hw jnW (kX1_bestToSpend ad hq3) kl_RX1_184 ki_yX1_bestToSpend ks_yX1_bestToSpend kn_RX1 kc_yX1_bestToSpend ⟨rfl, rfl⟩ hdX1_bestToSpend ⟨Nat.le_of_ble_eq_true rfl, Nat.le_of_ble_eq_true rfl⟩ (ci := 1) (q0 := 0) rfl rfl rfl rfl hl.1 (Nat.le_of_ble_eq_true rfl) dX1_firstUp_21 ⟨Nat.zero_le _, Nat.zero_le _⟩ (fun H locs hw => ?_)
    obtain rfl := some_e h
    exact rtI C hr hw dX1_firstUp_24
  · replace h := (if_neg c2).symm.trans h
    refine lv_aload_n hx hb dX1_firstUp_12 rfl (lv_at hl 1 rfl) ?_
    refine lv_iload_n hx hb dX1_firstUp_13 rfl (lv_at hl 0 rfl) ?_
    obtain ⟨q4, hq4, h⟩ := cl_some h
    refine cVi (ws2 := (wR cA ad q4.2)) (As := [.int r1]) (rest := []) C hw jnW (kX1_refuse ad hq4) kl_RX1_52 ki_yX1_refuse ks_yX1_refuse kn_RX1 kc_yX1_refuse ⟨rfl, rfl⟩ hdX1_refuse ⟨Nat.le_of_ble_eq_true rfl, Nat.le_of_ble_eq_true rfl⟩ (ci := 1) (q0 := 0) rfl rfl rfl rfl hl.1 (Nat.le_of_ble_eq_true rfl) dX1_firstUp_14 ⟨Nat.zero_le _, Nat.zero_le _⟩ (fun H locs hw => ?_)
    obtain rfl := some_e h
    exact rtI C hr hw dX1_firstUp_17
abbrev rmX1_longestDark : Room := { frames := 1, cells := 0, slots := 0, locals := 22 }
theorem hdX1_longestDark : yX1_longestDark.cls = RX1 ∧ yX1_longestDark.cls ≠ "java/lang/invoke/MethodHandle" ∧ yX1_longestDark.cls ≠ "java/lang/invoke/VarHandle" ∧ (parseMethodDescriptor yX1_longestDark.desc).map (fun d => d.parameters.length) = some 0 := by decide +kernel
def GX1_longestDark_39 (p : Program) (l : Launch) (e : Env) (s : State) (m : MethodId) (args : Array Value) (below : List Frame) (meth : Method) (c : Code) (D : va_G) (cA : ClassId) (A : Nat → Prop) (ad : Nat → Nat) (X : Nat → VS) (z : Int32) (x : (Int32) × (Int32) × (Int32)) : Prop := ∀ (H : Heap) (locs : List Loc) (ls : Array Slot), Wd D A s.heap (wR cA ad X) H locs → lv_has ls 5 [(0, .ref (ad 0)), (1, .int x.1), (2, .int x.2.1), (3, .int x.2.2)] → W p l e rmX1_longestDark s m args below meth c H locs 0 0 (MQ below (QI D cA A z (wR cA ad X)) args s 0 0 A) (F0 m 39 ls [])
def GX1_longestDark_7 (p : Program) (l : Launch) (e : Env) (s : State) (m : MethodId) (args : Array Value) (below : List Frame) (meth : Method) (c : Code) (D : va_G) (cA : ClassId) (A : Nat → Prop) (ad : Nat → Nat) (X : Nat → VS) (z : Int32) (x : (Int32) × (Int32) × (Int32)) : Prop := ∀ (H : Heap) (locs : List Loc) (ls : Array Slot), Wd D A s.heap (wR cA ad X) H locs → lv_has ls 5 [(0, .ref (ad 0)), (1, .int x.1), (2, .int x.2.1), (3, .int x.2.2)] → W p l e rmX1_longestDark s m args below meth c H locs 0 0 (MQ below (QI D cA A z (wR cA ad X)) args s 0 0 A) (F0 m 7 ls [])
def fX1_longestDark_39 (X : Nat → VS) (k7 : ((Int32) × (Int32) × (Int32)) → Option Int32) : ((Int32) × (Int32) × (Int32)) → Option Int32 := fun x => match x with | (x_1, x_2, x_3) => bn (x_3 + 1) (fun x1 => k7 (x_1, x_2, x1))
def fX1_longestDark_7 (X : Nat → VS) (k7 : ((Int32) × (Int32) × (Int32)) → Option Int32) : ((Int32) × (Int32) × (Int32)) → Option Int32 := fun x => match x with | (x_1, x_2, x_3) => if (X 0 0 0) ≤ x_3 then some x_1 else cl (fX0_darkOf (X 0) x_3) (fun r2 => if r2 ≤ x_2 then fX1_longestDark_39 X k7 (x_1, x_2, x_3) else fX1_longestDark_39 X k7 (x_3, r2, x_3))
def fX1_longestDark (X : Nat → VS) : Option Int32 := lp (fX1_longestDark_7 X) 5000 ((-9), (-1), 0)
set_option maxHeartbeats 4000000 in
set_option maxRecDepth 100000 in
theorem kX1_longestDark_39 (C : Cx p s m args meth c cX1_longestDark 5 RX1 D cA g A) (hr : meth.sig.returnType = (some .int)) {z : Int32} (X : Nat → VS) (k7 : ((Int32) × (Int32) × (Int32)) → Option Int32) (hk7 : ∀ x, k7 x = some z → GX1_longestDark_7 p l e s m args below meth c D cA A ad X z x) (x : (Int32) × (Int32) × (Int32)) (h : fX1_longestDark_39 X k7 x = some z) : GX1_longestDark_39 p l e s m args below meth c D cA A ad X z x := by
  obtain ⟨x_1, x_2, x_3⟩ := x
  intro H locs ls hw hl
  have hw : Wd D A s.heap (wR cA ad X) H locs := hw
  have hl : lv_has ls 5 [(0, .ref (ad 0)), (1, .int x_1), (2, .int x_2), (3, .int x_3)] := hl
  have hx := C.1.1
  have hb := C.1.2.1
  have h : (bn (x_3 + 1) (fun x1 => k7 (x_1, x_2, x1))) = some z := h
  obtain ⟨x1, ex1⟩ : ∃ y : Int32, y = x_3 + 1 := ⟨_, rfl⟩
  replace h := bn_some h ex1
  refine lv_iinc (v := x1) (lv' := [(3, .int x1), (0, .ref (ad 0)), (1, .int x_1), (2, .int x_2)]) hx hb dX1_longestDark_39 hl (k := 3) rfl (by rw [ex1]; rfl) (by decide) rfl (fun ls hl => ?_)
  refine lv_goto (tgt := 7) hx hb dX1_longestDark_42 (by decide) ?_
  exact hk7 (x_1, x_2, x1) h _ _ _ hw (lv_sub hl [1, 2, 3, 0] rfl)
set_option maxHeartbeats 4000000 in
set_option maxRecDepth 100000 in
theorem kX1_longestDark_7 (C : Cx p s m args meth c cX1_longestDark 5 RX1 D cA g A) (hr : meth.sig.returnType = (some .int)) {z : Int32} (X : Nat → VS) (k7 : ((Int32) × (Int32) × (Int32)) → Option Int32) (hk7 : ∀ x, k7 x = some z → GX1_longestDark_7 p l e s m args below meth c D cA A ad X z x) (x : (Int32) × (Int32) × (Int32)) (h : fX1_longestDark_7 X k7 x = some z) : GX1_longestDark_7 p l e s m args below meth c D cA A ad X z x := by
  obtain ⟨x_1, x_2, x_3⟩ := x
  intro H locs ls hw hl
  have hw : Wd D A s.heap (wR cA ad X) H locs := hw
  have hl : lv_has ls 5 [(0, .ref (ad 0)), (1, .int x_1), (2, .int x_2), (3, .int x_3)] := hl
  have hx := C.1.1
  have hb := C.1.2.1
  have h : (if (X 0 0 0) ≤ x_3 then some x_1 else cl (fX0_darkOf (X 0) x_3) (fun r2 => if r2 ≤ x_2 then fX1_longestDark_39 X k7 (x_1, x_2, x_3) else fX1_longestDark_39 X k7 (x_3, r2, x_3))) = some z := h
  refine lv_iload_n hx hb dX1_longestDark_7 rfl (lv_at hl 3 rfl) ?_
  refine lv_aload_n hx hb dX1_longestDark_8 rfl (lv_at hl 0 rfl) ?_
  refine tGet (T := TX1) (N := 12) (ci := 1) C hw inX1 0 0 rfl (by decide) kf_RX1_10 rfl rfl rfl dX1_longestDark_9 ?_
  refine tGet (T := TX0) (N := 12) (ci := 0) C hw inX0 0 1 rfl (by decide) kf_RX1_129 rfl rfl rfl dX1_longestDark_12 ?_
  refine lv_icmp_ge (tgt := 45) hx hb dX1_longestDark_15 (by decide) (fun c1 => ?_) (fun c1 => ?_)
  · replace h := (if_pos c1).symm.trans h
    refine lv_iload_n hx hb dX1_longestDark_45 rfl (lv_at hl 1 rfl) ?_
    obtain rfl := some_e h
    exact rtI C hr hw dX1_longestDark_46
  · replace h := (if_neg c1).symm.trans h
    refine lv_aload_n hx hb dX1_longestDark_18 rfl (lv_at hl 0 rfl) ?_
    refine tGet (T := TX1) (N := 12) (ci := 1) C hw inX1 0 0 rfl (by decide) kf_RX1_10 rfl rfl rfl dX1_longestDark_19 ?_
    refine lv_iload_n hx hb dX1_longestDark_22 rfl (lv_at hl 3 rfl) ?_
    obtain ⟨r2, hr2, h⟩ := cl_some h
    refine cVi (ws2 := (wR cA ad X)) (As := [.int x_3]) (rest := []) C hw jR0r (kX0_darkOf (fun k => ad (1 + k)) hr2) kl_RX1_91 ki_yX0_darkOf ks_yX0_darkOf kn_RX0 kc_yX0_darkOf ⟨rfl, rfl⟩ hdX0_darkOf ⟨Nat.le_of_ble_eq_true rfl, Nat.le_of_ble_eq_true rfl⟩ (ci := 0) (q0 := 0) rfl rfl rfl rfl hl.1 (Nat.le_of_ble_eq_true rfl) dX1_longestDark_23 ⟨Nat.zero_le _, Nat.zero_le _⟩ (fun H locs hw => ?_)
    refine lv_istore (lv' := [(4, .int r2), (0, .ref (ad 0)), (1, .int x_1), (2, .int x_2), (3, .int x_3)]) hx hb dX1_longestDark_26 hl (by decide) rfl (fun ls hl => ?_)
    refine lv_iload hx hb dX1_longestDark_28 (lv_at hl 0 rfl) ?_
    refine lv_iload_n hx hb dX1_longestDark_30 rfl (lv_at hl 3 rfl) ?_
    refine lv_icmp_le (tgt := 39) hx hb dX1_longestDark_31 (by decide) (fun c3 => ?_) (fun c3 => ?_)
    · replace h := (if_pos c3).symm.trans h
      exact kX1_longestDark_39 C hr X k7 hk7 (x_1, x_2, x_3) h _ _ _ hw (lv_sub hl [1, 2, 3, 4] rfl)
    · replace h := (if_neg c3).symm.trans h
      refine lv_iload hx hb dX1_longestDark_34 (lv_at hl 0 rfl) ?_
      refine lv_istore_n (lv' := [(2, .int r2), (4, .int r2), (0, .ref (ad 0)), (1, .int x_1), (3, .int x_3)]) hx hb dX1_longestDark_36 rfl hl (by decide) rfl (fun ls hl => ?_)
      refine lv_iload_n hx hb dX1_longestDark_37 rfl (lv_at hl 4 rfl) ?_
      refine lv_istore_n (lv' := [(1, .int x_3), (2, .int r2), (4, .int r2), (0, .ref (ad 0)), (3, .int x_3)]) hx hb dX1_longestDark_38 rfl hl (by decide) rfl (fun ls hl => ?_)
      exact kX1_longestDark_39 C hr X k7 hk7 (x_3, r2, x_3) h _ _ _ hw (lv_sub hl [3, 0, 1, 4] rfl)
theorem lX1_longestDark_7 (C : Cx p s m args meth c cX1_longestDark 5 RX1 D cA g A) (hr : meth.sig.returnType = (some .int)) {z : Int32} (X : Nat → VS) (n : Nat) (x : (Int32) × (Int32) × (Int32)) (h : lp (fX1_longestDark_7 X) n x = some z) : GX1_longestDark_7 p l e s m args below meth c D cA A ad X z x := lp_ok (GX1_longestDark_7 p l e s m args below meth c D cA A ad X z) (fun kq hkq x h => kX1_longestDark_7 C hr X kq hkq x h) n x h
set_option maxHeartbeats 4000000 in
set_option maxRecDepth 100000 in
theorem kX1_longestDark (ad : Nat → Nat) {X : Nat → VS} {z : Int32} (h : fX1_longestDark X = some z) : MI l D cA g yX1_longestDark (Cond.code yX1_longestDark cX1_longestDark 5 (some .int) :: lw_g) rmX1_longestDark [.ref (ad 0)] (wR cA ad X) z (wR cA ad X) := by
  intro sz
  refine Met.ofW (cc := cX1_longestDark) (maxL := 5) (ret := (some .int)) (by decide) rfl ?_
  intro p e s m args below meth c s₁ B hml hv
  obtain ⟨rfl, C, hr, hw⟩ := ent B hml hv
  generalize va_A (wR cA ad X) sz = A at C hw ⊢
  have hl := lv_entry ([.ref (ad 0)]) (n := 5) (Nat.le_of_ble_eq_true rfl)
  rw [lg_entry_eq]
  generalize (lg_sl ([.ref (ad 0)]) ++ List.replicate (5 - (lg_sl ([.ref (ad 0)])).length) Slot.unset).toArray = ls at hl ⊢
  have hl : lv_has ls 5 [(0, .ref (ad 0))] := hl
  have hx := C.1.1
  have hb := C.1.2.1
  have h : (lp (fX1_longestDark_7 X) 5000 ((-9), (-1), 0)) = some z := h
  refine lv_bipush (v := (-9)) hx hb dX1_longestDark_0 (by decide) ?_
  refine lv_istore_n (lv' := [(1, .int (-9)), (0, .ref (ad 0))]) hx hb dX1_longestDark_2 rfl hl (by decide) rfl (fun ls hl => ?_)
  refine lv_iconst (v := (-1)) hx hb dX1_longestDark_3 (by decide) ?_
  refine lv_istore_n (lv' := [(2, .int (-1)), (1, .int (-9)), (0, .ref (ad 0))]) hx hb dX1_longestDark_4 rfl hl (by decide) rfl (fun ls hl => ?_)
  refine lv_iconst (v := 0) hx hb dX1_longestDark_5 (by decide) ?_
  refine lv_istore_n (lv' := [(3, .int 0), (2, .int (-1)), (1, .int (-9)), (0, .ref (ad 0))]) hx hb dX1_longestDark_6 rfl hl (by decide) rfl (fun ls hl => ?_)
  exact lX1_longestDark_7 C hr X 5000 ((-9), (-1), 0) h _ _ _ hw (lv_sub hl [3, 2, 1, 0] rfl)
abbrev rmX1_costOfTheBox : Room := { frames := 2, cells := 0, slots := 0, locals := 44 }
theorem hdX1_costOfTheBox : yX1_costOfTheBox.cls = RX1 ∧ yX1_costOfTheBox.cls ≠ "java/lang/invoke/MethodHandle" ∧ yX1_costOfTheBox.cls ≠ "java/lang/invoke/VarHandle" ∧ (parseMethodDescriptor yX1_costOfTheBox.desc).map (fun d => d.parameters.length) = some 0 := by decide +kernel
def fX1_costOfTheBox (X : Nat → VS) : Option Int32 := cl (fX1_costOfChosen X ((X 0 4 0) ^^^ (-1 : Int32))) (fun r1 => some r1)
set_option maxHeartbeats 4000000 in
set_option maxRecDepth 100000 in
theorem kX1_costOfTheBox (ad : Nat → Nat) {X : Nat → VS} {z : Int32} (h : fX1_costOfTheBox X = some z) : MI l D cA g yX1_costOfTheBox (Cond.code yX1_costOfTheBox cX1_costOfTheBox 1 (some .int) :: lw_g) rmX1_costOfTheBox [.ref (ad 0)] (wR cA ad X) z (wR cA ad X) := by
  intro sz
  refine Met.ofW (cc := cX1_costOfTheBox) (maxL := 1) (ret := (some .int)) (by decide) rfl ?_
  intro p e s m args below meth c s₁ B hml hv
  obtain ⟨rfl, C, hr, hw⟩ := ent B hml hv
  generalize va_A (wR cA ad X) sz = A at C hw ⊢
  have hl := lv_entry ([.ref (ad 0)]) (n := 1) (Nat.le_of_ble_eq_true rfl)
  rw [lg_entry_eq]
  generalize (lg_sl ([.ref (ad 0)]) ++ List.replicate (1 - (lg_sl ([.ref (ad 0)])).length) Slot.unset).toArray = ls at hl ⊢
  have hl : lv_has ls 1 [(0, .ref (ad 0))] := hl
  have hx := C.1.1
  have hb := C.1.2.1
  have h : (cl (fX1_costOfChosen X ((X 0 4 0) ^^^ (-1 : Int32))) (fun r1 => some r1)) = some z := h
  refine lv_aload_n hx hb dX1_costOfTheBox_0 rfl (lv_at hl 0 rfl) ?_
  refine lv_aload_n hx hb dX1_costOfTheBox_1 rfl (lv_at hl 0 rfl) ?_
  refine tGet (T := TX1) (N := 12) (ci := 1) C hw inX1 0 0 rfl (by decide) kf_RX1_10 rfl rfl rfl dX1_costOfTheBox_2 ?_
  refine tGet (T := TX0) (N := 12) (ci := 0) C hw inX0 4 1 rfl (by decide) kf_RX1_132 rfl rfl rfl dX1_costOfTheBox_5 ?_
  refine lv_iconst (v := (-1)) hx hb dX1_costOfTheBox_8 (by decide) ?_
  refine lv_ixor hx hb dX1_costOfTheBox_9 ?_
  obtain ⟨r1, hr1, h⟩ := cl_some h
  refine cVi (ws2 := (wR cA ad X)) (As := [.int ((X 0 4 0) ^^^ (-1 : Int32))]) (rest := []) C hw jnW (kX1_costOfChosen ad hr1) kl_RX1_300 ki_yX1_costOfChosen ks_yX1_costOfChosen kn_RX1 kc_yX1_costOfChosen ⟨rfl, rfl⟩ hdX1_costOfChosen ⟨Nat.le_of_ble_eq_true rfl, Nat.le_of_ble_eq_true rfl⟩ (ci := 1) (q0 := 0) rfl rfl rfl rfl hl.1 (Nat.le_of_ble_eq_true rfl) dX1_costOfTheBox_10 ⟨Nat.zero_le _, Nat.zero_le _⟩ (fun H locs hw => ?_)
  obtain rfl := some_e h
  exact rtI C hr hw dX1_costOfTheBox_13
abbrev rmX1_longest : Room := { frames := 3, cells := 0, slots := 0, locals := 64 }
theorem hdX1_longest : yX1_longest.cls = RX1 ∧ yX1_longest.cls ≠ "java/lang/invoke/MethodHandle" ∧ yX1_longest.cls ≠ "java/lang/invoke/VarHandle" ∧ (parseMethodDescriptor yX1_longest.desc).map (fun d => d.parameters.length) = some 1 := by decide +kernel
def fX1_longest (X : Nat → VS) (a_1 : Int32) : Option (Int32 × (Nat → VS)) := cl (fX1_isOneOfTwo a_1) (fun r1 => if r1 = 0 then cl (fX1_refuse X (-2)) (fun q6 => some (q6.1, q6.2)) else if a_1 = 0 then cl (fX1_longestDark X) (fun r5 => some (r5, X)) else cl (fX1_costOfTheBox X) (fun r4 => some (r4, X)))
set_option maxHeartbeats 4000000 in
set_option maxRecDepth 100000 in
theorem kX1_longest (ad : Nat → Nat) {X : Nat → VS} {a_1 : Int32} {z : (Int32 × (Nat → VS))} (h : fX1_longest X a_1 = some z) : MI l D cA g yX1_longest (Cond.code yX1_longest cX1_longest 2 (some .int) :: lw_g) rmX1_longest [.ref (ad 0), .int a_1] (wR cA ad X) z.1 (wR cA ad z.2) := by
  intro sz
  refine Met.ofW (cc := cX1_longest) (maxL := 2) (ret := (some .int)) (by decide) rfl ?_
  intro p e s m args below meth c s₁ B hml hv
  obtain ⟨rfl, C, hr, hw⟩ := ent B hml hv
  generalize va_A (wR cA ad X) sz = A at C hw ⊢
  have hl := lv_entry ([.ref (ad 0), .int a_1]) (n := 2) (Nat.le_of_ble_eq_true rfl)
  rw [lg_entry_eq]
  generalize (lg_sl ([.ref (ad 0), .int a_1]) ++ List.replicate (2 - (lg_sl ([.ref (ad 0), .int a_1])).length) Slot.unset).toArray = ls at hl ⊢
  have hl : lv_has ls 2 [(0, .ref (ad 0)), (1, .int a_1)] := hl
  have hx := C.1.1
  have hb := C.1.2.1
  have h : (cl (fX1_isOneOfTwo a_1) (fun r1 => if r1 = 0 then cl (fX1_refuse X (-2)) (fun q6 => some (q6.1, q6.2)) else if a_1 = 0 then cl (fX1_longestDark X) (fun r5 => some (r5, X)) else cl (fX1_costOfTheBox X) (fun r4 => some (r4, X)))) = some z := h
  refine lv_iload_n hx hb dX1_longest_0 rfl (lv_at hl 1 rfl) ?_
  obtain ⟨r1, hr1, h⟩ := cl_some h
  refine cSi (ws2 := (wR cA ad X)) (As := [.int a_1]) (rest := []) C hw jnE (kX1_isOneOfTwo hr1) kl_RX1_156 kt_yX1_isOneOfTwo kn_RX1 kc_yX1_isOneOfTwo ⟨rfl, rfl⟩ hdX1_isOneOfTwo ⟨Nat.le_of_ble_eq_true rfl, Nat.le_of_ble_eq_true rfl⟩ rfl hl.1 (Nat.le_of_ble_eq_true rfl) dX1_longest_1 ⟨Nat.zero_le _, Nat.zero_le _⟩ (fun H locs hw => ?_)
  refine lv_if_ne (tgt := 14) hx hb dX1_longest_4 (by decide) (fun c2 => ?_) (fun c2 => ?_)
  · replace h := (if_neg c2).symm.trans h
    refine lv_iload_n hx hb dX1_longest_14 rfl (lv_at hl 1 rfl) ?_
    refine lv_if_ne (tgt := 25) hx hb dX1_longest_15 (by decide) (fun c3 => ?_) (fun c3 => ?_)
    · replace h := (if_neg c3).symm.trans h
      refine lv_aload_n hx hb dX1_longest_25 rfl (lv_at hl 0 rfl) ?_
      obtain ⟨r4, hr4, h⟩ := cl_some h
      refine cVi (ws2 := (wR cA ad X)) (As := []) (rest := []) C hw jnW (kX1_costOfTheBox ad hr4) kl_RX1_191 ki_yX1_costOfTheBox ks_yX1_costOfTheBox kn_RX1 kc_yX1_costOfTheBox ⟨rfl, rfl⟩ hdX1_costOfTheBox ⟨Nat.le_of_ble_eq_true rfl, Nat.le_of_ble_eq_true rfl⟩ (ci := 1) (q0 := 0) rfl rfl rfl rfl hl.1 (Nat.le_of_ble_eq_true rfl) dX1_longest_26 ⟨Nat.zero_le _, Nat.zero_le _⟩ (fun H locs hw => ?_)
      obtain rfl := some_e h
      exact rtI C hr hw dX1_longest_29
    · replace h := (if_pos c3).symm.trans h
      refine lv_aload_n hx hb dX1_longest_18 rfl (lv_at hl 0 rfl) ?_
      obtain ⟨r5, hr5, h⟩ := cl_some h
      refine cVi (ws2 := (wR cA ad X)) (As := []) (rest := []) C hw jnW (kX1_longestDark ad hr5) kl_RX1_188 ki_yX1_longestDark ks_yX1_longestDark kn_RX1 kc_yX1_longestDark ⟨rfl, rfl⟩ hdX1_longestDark ⟨Nat.le_of_ble_eq_true rfl, Nat.le_of_ble_eq_true rfl⟩ (ci := 1) (q0 := 0) rfl rfl rfl rfl hl.1 (Nat.le_of_ble_eq_true rfl) dX1_longest_19 ⟨Nat.zero_le _, Nat.zero_le _⟩ (fun H locs hw => ?_)
      refine lv_goto (tgt := 29) hx hb dX1_longest_22 (by decide) ?_
      obtain rfl := some_e h
      exact rtI C hr hw dX1_longest_29
  · replace h := (if_pos c2).symm.trans h
    refine lv_aload_n hx hb dX1_longest_7 rfl (lv_at hl 0 rfl) ?_
    refine lv_bipush (v := (-2)) hx hb dX1_longest_8 (by decide) ?_
    obtain ⟨q6, hq6, h⟩ := cl_some h
    refine cVi (ws2 := (wR cA ad q6.2)) (As := [.int (-2)]) (rest := []) C hw jnW (kX1_refuse ad hq6) kl_RX1_52 ki_yX1_refuse ks_yX1_refuse kn_RX1 kc_yX1_refuse ⟨rfl, rfl⟩ hdX1_refuse ⟨Nat.le_of_ble_eq_true rfl, Nat.le_of_ble_eq_true rfl⟩ (ci := 1) (q0 := 0) rfl rfl rfl rfl hl.1 (Nat.le_of_ble_eq_true rfl) dX1_longest_10 ⟨Nat.zero_le _, Nat.zero_le _⟩ (fun H locs hw => ?_)
    obtain rfl := some_e h
    exact rtI C hr hw dX1_longest_13
abbrev rmX1_seen : Room := { frames := 2, cells := 0, slots := 0, locals := 50 }
theorem hdX1_seen : yX1_seen.cls = RX1 ∧ yX1_seen.cls ≠ "java/lang/invoke/MethodHandle" ∧ yX1_seen.cls ≠ "java/lang/invoke/VarHandle" ∧ (parseMethodDescriptor yX1_seen.desc).map (fun d => d.parameters.length) = some 1 := by decide +kernel
def GX1_seen_66 (p : Program) (l : Launch) (e : Env) (s : State) (m : MethodId) (args : Array Value) (below : List Frame) (meth : Method) (c : Code) (D : va_G) (cA : ClassId) (A : Nat → Prop) (ad : Nat → Nat) (z : (Int32 × (Nat → VS))) (x : (Nat → VS) × (Int32) × (Int32) × (Int32) × (Int32)) : Prop := ∀ (H : Heap) (locs : List Loc) (ls : Array Slot), Wd D A s.heap (wR cA ad x.1) H locs → lv_has ls 6 [(0, .ref (ad 0)), (1, .int x.2.1), (2, .int x.2.2.1), (3, .int x.2.2.2.1), (4, .int x.2.2.2.2)] → W p l e rmX1_seen s m args below meth c H locs 0 0 (MQ below (QI D cA A z.1 (wR cA ad z.2)) args s 0 0 A) (F0 m 66 ls [])
def GX1_seen_60 (p : Program) (l : Launch) (e : Env) (s : State) (m : MethodId) (args : Array Value) (below : List Frame) (meth : Method) (c : Code) (D : va_G) (cA : ClassId) (A : Nat → Prop) (ad : Nat → Nat) (z : (Int32 × (Nat → VS))) (x : (Nat → VS) × (Int32) × (Int32) × (Int32)) : Prop := ∀ (H : Heap) (locs : List Loc) (ls : Array Slot), Wd D A s.heap (wR cA ad x.1) H locs → lv_has ls 6 [(0, .ref (ad 0)), (1, .int x.2.1), (4, .int x.2.2.1), (5, .int x.2.2.2)] → W p l e rmX1_seen s m args below meth c H locs 0 0 (MQ below (QI D cA A z.1 (wR cA ad z.2)) args s 0 0 A) (F0 m 60 ls [])
def GX1_seen_22 (p : Program) (l : Launch) (e : Env) (s : State) (m : MethodId) (args : Array Value) (below : List Frame) (meth : Method) (c : Code) (D : va_G) (cA : ClassId) (A : Nat → Prop) (ad : Nat → Nat) (z : (Int32 × (Nat → VS))) (x : (Nat → VS) × (Int32) × (Int32) × (Int32) × (Int32)) : Prop := ∀ (H : Heap) (locs : List Loc) (ls : Array Slot), Wd D A s.heap (wR cA ad x.1) H locs → lv_has ls 6 [(0, .ref (ad 0)), (1, .int x.2.1), (2, .int x.2.2.1), (3, .int x.2.2.2.1), (4, .int x.2.2.2.2)] → W p l e rmX1_seen s m args below meth c H locs 0 0 (MQ below (QI D cA A z.1 (wR cA ad z.2)) args s 0 0 A) (F0 m 22 ls [])
def fX1_seen_66 (k22 : ((Nat → VS) × (Int32) × (Int32) × (Int32) × (Int32)) → Option (Int32 × (Nat → VS))) : ((Nat → VS) × (Int32) × (Int32) × (Int32) × (Int32)) → Option (Int32 × (Nat → VS)) := fun x => match x with | (X, x_1, x_2, x_3, x_4) => bn (x_4 + 1) (fun x1 => k22 (X, x_1, x_2, x_3, x1))
def fX1_seen_60 (k22 : ((Nat → VS) × (Int32) × (Int32) × (Int32) × (Int32)) → Option (Int32 × (Nat → VS))) : ((Nat → VS) × (Int32) × (Int32) × (Int32)) → Option (Int32 × (Nat → VS)) := fun x => match x with | (X, x_1, x_4, x_5) => fX1_seen_66 k22 (X, x_1, x_4, x_5, x_4)
def fX1_seen_22 (k22 : ((Nat → VS) × (Int32) × (Int32) × (Int32) × (Int32)) → Option (Int32 × (Nat → VS))) : ((Nat → VS) × (Int32) × (Int32) × (Int32) × (Int32)) → Option (Int32 × (Nat → VS)) := fun x => match x with | (X, x_1, x_2, x_3, x_4) => if (X 0 0 0) ≤ x_4 then if x_1 = 0 then some (x_3, X) else some (x_2, X) else cl (fX0_readersOf (X 0) x_4) (fun r3 => cl (fJ6_bitCount_0f7a4 r3) (fun r4 => if x_2 = (-9) then fX1_seen_60 k22 (X, x_1, x_4, r4) else if r4 ≤ x_3 then fX1_seen_66 k22 (X, x_1, x_2, x_3, x_4) else fX1_seen_60 k22 (X, x_1, x_4, r4)))
def fX1_seen (X : Nat → VS) (a_1 : Int32) : Option (Int32 × (Nat → VS)) := cl (fX1_isOneOfTwo a_1) (fun r1 => if r1 = 0 then cl (fX1_refuse X (-2)) (fun q3 => some (q3.1, q3.2)) else lp (fX1_seen_22) 5000 (X, a_1, (-9), 0, 0))
set_option maxHeartbeats 4000000 in
set_option maxRecDepth 100000 in
theorem kX1_seen_66 (C : Cx p s m args meth c cX1_seen 6 RX1 D cA g A) (hr : meth.sig.returnType = (some .int)) {z : (Int32 × (Nat → VS))} (k22 : ((Nat → VS) × (Int32) × (Int32) × (Int32) × (Int32)) → Option (Int32 × (Nat → VS))) (hk22 : ∀ x, k22 x = some z → GX1_seen_22 p l e s m args below meth c D cA A ad z x) (x : (Nat → VS) × (Int32) × (Int32) × (Int32) × (Int32)) (h : fX1_seen_66 k22 x = some z) : GX1_seen_66 p l e s m args below meth c D cA A ad z x := by
  obtain ⟨X, x_1, x_2, x_3, x_4⟩ := x
  intro H locs ls hw hl
  have hw : Wd D A s.heap (wR cA ad X) H locs := hw
  have hl : lv_has ls 6 [(0, .ref (ad 0)), (1, .int x_1), (2, .int x_2), (3, .int x_3), (4, .int x_4)] := hl
  have hx := C.1.1
  have hb := C.1.2.1
  have h : (bn (x_4 + 1) (fun x1 => k22 (X, x_1, x_2, x_3, x1))) = some z := h
  obtain ⟨x1, ex1⟩ : ∃ y : Int32, y = x_4 + 1 := ⟨_, rfl⟩
  replace h := bn_some h ex1
  refine lv_iinc (v := x1) (lv' := [(4, .int x1), (0, .ref (ad 0)), (1, .int x_1), (2, .int x_2), (3, .int x_3)]) hx hb dX1_seen_66 hl (k := 4) rfl (by rw [ex1]; rfl) (by decide) rfl (fun ls hl => ?_)
  refine lv_goto (tgt := 22) hx hb dX1_seen_69 (by decide) ?_
  exact hk22 (X, x_1, x_2, x_3, x1) h _ _ _ hw (lv_sub hl [1, 2, 3, 4, 0] rfl)
set_option maxHeartbeats 4000000 in
set_option maxRecDepth 100000 in
theorem kX1_seen_60 (C : Cx p s m args meth c cX1_seen 6 RX1 D cA g A) (hr : meth.sig.returnType = (some .int)) {z : (Int32 × (Nat → VS))} (k22 : ((Nat → VS) × (Int32) × (Int32) × (Int32) × (Int32)) → Option (Int32 × (Nat → VS))) (hk22 : ∀ x, k22 x = some z → GX1_seen_22 p l e s m args below meth c D cA A ad z x) (x : (Nat → VS) × (Int32) × (Int32) × (Int32)) (h : fX1_seen_60 k22 x = some z) : GX1_seen_60 p l e s m args below meth c D cA A ad z x := by
  obtain ⟨X, x_1, x_4, x_5⟩ := x
  intro H locs ls hw hl
  have hw : Wd D A s.heap (wR cA ad X) H locs := hw
  have hl : lv_has ls 6 [(0, .ref (ad 0)), (1, .int x_1), (4, .int x_4), (5, .int x_5)] := hl
  have hx := C.1.1
  have hb := C.1.2.1
  have h : (fX1_seen_66 k22 (X, x_1, x_4, x_5, x_4)) = some z := h
  refine lv_iload hx hb dX1_seen_60 (lv_at hl 3 rfl) ?_
  refine lv_istore_n (lv' := [(3, .int x_5), (0, .ref (ad 0)), (1, .int x_1), (4, .int x_4), (5, .int x_5)]) hx hb dX1_seen_62 rfl hl (by decide) rfl (fun ls hl => ?_)
  refine lv_iload hx hb dX1_seen_63 (lv_at hl 3 rfl) ?_
  refine lv_istore_n (lv' := [(2, .int x_4), (3, .int x_5), (0, .ref (ad 0)), (1, .int x_1), (4, .int x_4), (5, .int x_5)]) hx hb dX1_seen_65 rfl hl (by decide) rfl (fun ls hl => ?_)
  exact kX1_seen_66 C hr k22 hk22 (X, x_1, x_4, x_5, x_4) h _ _ _ hw (lv_sub hl [2, 3, 0, 1, 4] rfl)
set_option maxHeartbeats 4000000 in
set_option maxRecDepth 100000 in
theorem kX1_seen_22 (C : Cx p s m args meth c cX1_seen 6 RX1 D cA g A) (hr : meth.sig.returnType = (some .int)) {z : (Int32 × (Nat → VS))} (k22 : ((Nat → VS) × (Int32) × (Int32) × (Int32) × (Int32)) → Option (Int32 × (Nat → VS))) (hk22 : ∀ x, k22 x = some z → GX1_seen_22 p l e s m args below meth c D cA A ad z x) (x : (Nat → VS) × (Int32) × (Int32) × (Int32) × (Int32)) (h : fX1_seen_22 k22 x = some z) : GX1_seen_22 p l e s m args below meth c D cA A ad z x := by
  obtain ⟨X, x_1, x_2, x_3, x_4⟩ := x
  intro H locs ls hw hl
  have hw : Wd D A s.heap (wR cA ad X) H locs := hw
  have hl : lv_has ls 6 [(0, .ref (ad 0)), (1, .int x_1), (2, .int x_2), (3, .int x_3), (4, .int x_4)] := hl
  have hx := C.1.1
  have hb := C.1.2.1
  have h : (if (X 0 0 0) ≤ x_4 then if x_1 = 0 then some (x_3, X) else some (x_2, X) else cl (fX0_readersOf (X 0) x_4) (fun r3 => cl (fJ6_bitCount_0f7a4 r3) (fun r4 => if x_2 = (-9) then fX1_seen_60 k22 (X, x_1, x_4, r4) else if r4 ≤ x_3 then fX1_seen_66 k22 (X, x_1, x_2, x_3, x_4) else fX1_seen_60 k22 (X, x_1, x_4, r4)))) = some z := h
  refine lv_iload hx hb dX1_seen_22 (lv_at hl 4 rfl) ?_
  refine lv_aload_n hx hb dX1_seen_24 rfl (lv_at hl 0 rfl) ?_
  refine tGet (T := TX1) (N := 12) (ci := 1) C hw inX1 0 0 rfl (by decide) kf_RX1_10 rfl rfl rfl dX1_seen_25 ?_
  refine tGet (T := TX0) (N := 12) (ci := 0) C hw inX0 0 1 rfl (by decide) kf_RX1_129 rfl rfl rfl dX1_seen_28 ?_
  refine lv_icmp_ge (tgt := 72) hx hb dX1_seen_31 (by decide) (fun c1 => ?_) (fun c1 => ?_)
  · replace h := (if_pos c1).symm.trans h
    refine lv_iload_n hx hb dX1_seen_72 rfl (lv_at hl 1 rfl) ?_
    refine lv_if_ne (tgt := 80) hx hb dX1_seen_73 (by decide) (fun c2 => ?_) (fun c2 => ?_)
    · replace h := (if_neg c2).symm.trans h
      refine lv_iload_n hx hb dX1_seen_80 rfl (lv_at hl 2 rfl) ?_
      obtain rfl := some_e h
      exact rtI C hr hw dX1_seen_81
    · replace h := (if_pos c2).symm.trans h
      refine lv_iload_n hx hb dX1_seen_76 rfl (lv_at hl 3 rfl) ?_
      refine lv_goto (tgt := 81) hx hb dX1_seen_77 (by decide) ?_
      obtain rfl := some_e h
      exact rtI C hr hw dX1_seen_81
  · replace h := (if_neg c1).symm.trans h
    refine lv_aload_n hx hb dX1_seen_34 rfl (lv_at hl 0 rfl) ?_
    refine tGet (T := TX1) (N := 12) (ci := 1) C hw inX1 0 0 rfl (by decide) kf_RX1_10 rfl rfl rfl dX1_seen_35 ?_
    refine lv_iload hx hb dX1_seen_38 (lv_at hl 4 rfl) ?_
    obtain ⟨r3, hr3, h⟩ := cl_some h
    refine cVi (ws2 := (wR cA ad X)) (As := [.int x_4]) (rest := []) C hw jR0r (kX0_readersOf (fun k => ad (1 + k)) hr3) kl_RX1_97 ki_yX0_readersOf ks_yX0_readersOf kn_RX0 kc_yX0_readersOf ⟨rfl, rfl⟩ hdX0_readersOf ⟨Nat.le_of_ble_eq_true rfl, Nat.le_of_ble_eq_true rfl⟩ (ci := 0) (q0 := 0) rfl rfl rfl rfl hl.1 (Nat.le_of_ble_eq_true rfl) dX1_seen_40 ⟨Nat.zero_le _, Nat.zero_le _⟩ (fun H locs hw => ?_)
    obtain ⟨r4, hr4, h⟩ := cl_some h
    refine cSi (ws2 := (wR cA ad X)) (As := [.int r3]) (rest := []) C hw jnE (kJ6_bitCount_0f7a4 hr4) kl_RX1_135 kt_yJ6_bitCount_0f7a4 kn_RJ6 kc_yJ6_bitCount_0f7a4 ⟨rfl, rfl⟩ hdJ6_bitCount_0f7a4 ⟨Nat.le_of_ble_eq_true rfl, Nat.le_of_ble_eq_true rfl⟩ rfl hl.1 (Nat.le_of_ble_eq_true rfl) dX1_seen_43 ⟨Nat.zero_le _, Nat.zero_le _⟩ (fun H locs hw => ?_)
    refine lv_istore (lv' := [(5, .int r4), (0, .ref (ad 0)), (1, .int x_1), (2, .int x_2), (3, .int x_3), (4, .int x_4)]) hx hb dX1_seen_46 hl (by decide) rfl (fun ls hl => ?_)
    refine lv_iload_n hx hb dX1_seen_48 rfl (lv_at hl 3 rfl) ?_
    refine lv_bipush (v := (-9)) hx hb dX1_seen_49 (by decide) ?_
    refine lv_icmp_eq (tgt := 60) hx hb dX1_seen_51 (by decide) (fun c5 => ?_) (fun c5 => ?_)
    · replace h := (if_pos c5).symm.trans h
      exact kX1_seen_60 C hr k22 hk22 (X, x_1, x_4, r4) h _ _ _ hw (lv_sub hl [1, 2, 5, 0] rfl)
    · replace h := (if_neg c5).symm.trans h
      refine lv_iload hx hb dX1_seen_54 (lv_at hl 0 rfl) ?_
      refine lv_iload_n hx hb dX1_seen_56 rfl (lv_at hl 4 rfl) ?_
      refine lv_icmp_le (tgt := 66) hx hb dX1_seen_57 (by decide) (fun c6 => ?_) (fun c6 => ?_)
      · replace h := (if_pos c6).symm.trans h
        exact kX1_seen_66 C hr k22 hk22 (X, x_1, x_2, x_3, x_4) h _ _ _ hw (lv_sub hl [1, 2, 3, 4, 5] rfl)
      · replace h := (if_neg c6).symm.trans h
        exact kX1_seen_60 C hr k22 hk22 (X, x_1, x_4, r4) h _ _ _ hw (lv_sub hl [1, 2, 5, 0] rfl)
theorem lX1_seen_22 (C : Cx p s m args meth c cX1_seen 6 RX1 D cA g A) (hr : meth.sig.returnType = (some .int)) {z : (Int32 × (Nat → VS))} (n : Nat) (x : (Nat → VS) × (Int32) × (Int32) × (Int32) × (Int32)) (h : lp (fX1_seen_22) n x = some z) : GX1_seen_22 p l e s m args below meth c D cA A ad z x := lp_ok (GX1_seen_22 p l e s m args below meth c D cA A ad z) (fun kq hkq x h => kX1_seen_22 C hr kq hkq x h) n x h
set_option maxHeartbeats 4000000 in
set_option maxRecDepth 100000 in
theorem kX1_seen (ad : Nat → Nat) {X : Nat → VS} {a_1 : Int32} {z : (Int32 × (Nat → VS))} (h : fX1_seen X a_1 = some z) : MI l D cA g yX1_seen (Cond.code yX1_seen cX1_seen 6 (some .int) :: lw_g) rmX1_seen [.ref (ad 0), .int a_1] (wR cA ad X) z.1 (wR cA ad z.2) := by
  intro sz
  refine Met.ofW (cc := cX1_seen) (maxL := 6) (ret := (some .int)) (by decide) rfl ?_
  intro p e s m args below meth c s₁ B hml hv
  obtain ⟨rfl, C, hr, hw⟩ := ent B hml hv
  generalize va_A (wR cA ad X) sz = A at C hw ⊢
  have hl := lv_entry ([.ref (ad 0), .int a_1]) (n := 6) (Nat.le_of_ble_eq_true rfl)
  rw [lg_entry_eq]
  generalize (lg_sl ([.ref (ad 0), .int a_1]) ++ List.replicate (6 - (lg_sl ([.ref (ad 0), .int a_1])).length) Slot.unset).toArray = ls at hl ⊢
  have hl : lv_has ls 6 [(0, .ref (ad 0)), (1, .int a_1)] := hl
  have hx := C.1.1
  have hb := C.1.2.1
  have h : (cl (fX1_isOneOfTwo a_1) (fun r1 => if r1 = 0 then cl (fX1_refuse X (-2)) (fun q3 => some (q3.1, q3.2)) else lp (fX1_seen_22) 5000 (X, a_1, (-9), 0, 0))) = some z := h
  refine lv_iload_n hx hb dX1_seen_0 rfl (lv_at hl 1 rfl) ?_
  obtain ⟨r1, hr1, h⟩ := cl_some h
  refine cSi (ws2 := (wR cA ad X)) (As := [.int a_1]) (rest := []) C hw jnE (kX1_isOneOfTwo hr1) kl_RX1_156 kt_yX1_isOneOfTwo kn_RX1 kc_yX1_isOneOfTwo ⟨rfl, rfl⟩ hdX1_isOneOfTwo ⟨Nat.le_of_ble_eq_true rfl, Nat.le_of_ble_eq_true rfl⟩ rfl hl.1 (Nat.le_of_ble_eq_true rfl) dX1_seen_1 ⟨Nat.zero_le _, Nat.zero_le _⟩ (fun H locs hw => ?_)
  refine lv_if_ne (tgt := 14) hx hb dX1_seen_4 (by decide) (fun c2 => ?_) (fun c2 => ?_)
  · replace h := (if_neg c2).symm.trans h
    refine lv_bipush (v := (-9)) hx hb dX1_seen_14 (by decide) ?_
    refine lv_istore_n (lv' := [(2, .int (-9)), (0, .ref (ad 0)), (1, .int a_1)]) hx hb dX1_seen_16 rfl hl (by decide) rfl (fun ls hl => ?_)
    refine lv_iconst (v := 0) hx hb dX1_seen_17 (by decide) ?_
    refine lv_istore_n (lv' := [(3, .int 0), (2, .int (-9)), (0, .ref (ad 0)), (1, .int a_1)]) hx hb dX1_seen_18 rfl hl (by decide) rfl (fun ls hl => ?_)
    refine lv_iconst (v := 0) hx hb dX1_seen_19 (by decide) ?_
    refine lv_istore (lv' := [(4, .int 0), (3, .int 0), (2, .int (-9)), (0, .ref (ad 0)), (1, .int a_1)]) hx hb dX1_seen_20 hl (by decide) rfl (fun ls hl => ?_)
    exact lX1_seen_22 C hr 5000 (X, a_1, (-9), 0, 0) h _ _ _ hw (lv_sub hl [3, 4, 2, 1, 0] rfl)
  · replace h := (if_pos c2).symm.trans h
    refine lv_aload_n hx hb dX1_seen_7 rfl (lv_at hl 0 rfl) ?_
    refine lv_bipush (v := (-2)) hx hb dX1_seen_8 (by decide) ?_
    obtain ⟨q3, hq3, h⟩ := cl_some h
    refine cVi (ws2 := (wR cA ad q3.2)) (As := [.int (-2)]) (rest := []) C hw jnW (kX1_refuse ad hq3) kl_RX1_52 ki_yX1_refuse ks_yX1_refuse kn_RX1 kc_yX1_refuse ⟨rfl, rfl⟩ hdX1_refuse ⟨Nat.le_of_ble_eq_true rfl, Nat.le_of_ble_eq_true rfl⟩ (ci := 1) (q0 := 0) rfl rfl rfl rfl hl.1 (Nat.le_of_ble_eq_true rfl) dX1_seen_10 ⟨Nat.zero_le _, Nat.zero_le _⟩ (fun H locs hw => ?_)
    obtain rfl := some_e h
    exact rtI C hr hw dX1_seen_13
abbrev rmX1_lackingWords : Room := { frames := 0, cells := 0, slots := 0, locals := 0 }
theorem hdX1_lackingWords : yX1_lackingWords.cls = RX1 ∧ yX1_lackingWords.cls ≠ "java/lang/invoke/MethodHandle" ∧ yX1_lackingWords.cls ≠ "java/lang/invoke/VarHandle" ∧ (parseMethodDescriptor yX1_lackingWords.desc).map (fun d => d.parameters.length) = some 0 := by decide +kernel
def GX1_lackingWords_5 (p : Program) (l : Launch) (e : Env) (s : State) (m : MethodId) (args : Array Value) (below : List Frame) (meth : Method) (c : Code) (D : va_G) (cA : ClassId) (A : Nat → Prop) (ad : Nat → Nat) (X : Nat → VS) (z : Int32) (x : (Int32) × (Int32)) : Prop := ∀ (H : Heap) (locs : List Loc) (ls : Array Slot), Wd D A s.heap (wR cA ad X) H locs → lv_has ls 3 [(0, .ref (ad 0)), (1, .int x.1), (2, .int x.2)] → W p l e rmX1_lackingWords s m args below meth c H locs 0 0 (MQ below (QI D cA A z (wR cA ad X)) args s 0 0 A) (F0 m 5 ls [])
def fX1_lackingWords_5 (X : Nat → VS) (k5 : ((Int32) × (Int32)) → Option Int32) : ((Int32) × (Int32)) → Option Int32 := fun x => match x with | (x_1, x_2) => if (X 0 0 0) ≤ x_2 then some x_1 else rd 9 (X 0 3) x_2 (fun r2 => bn (x_1 &&& (((1 : Int32) <<< (r2 &&& 31)) ^^^ (-1 : Int32))) (fun x3 => bn (x_2 + 1) (fun x4 => k5 (x3, x4))))
def fX1_lackingWords (X : Nat → VS) : Option Int32 := lp (fX1_lackingWords_5 X) 5000 (63, 0)
set_option maxHeartbeats 4000000 in
set_option maxRecDepth 100000 in
theorem kX1_lackingWords_5 (C : Cx p s m args meth c cX1_lackingWords 3 RX1 D cA g A) (hr : meth.sig.returnType = (some .int)) {z : Int32} (X : Nat → VS) (k5 : ((Int32) × (Int32)) → Option Int32) (hk5 : ∀ x, k5 x = some z → GX1_lackingWords_5 p l e s m args below meth c D cA A ad X z x) (x : (Int32) × (Int32)) (h : fX1_lackingWords_5 X k5 x = some z) : GX1_lackingWords_5 p l e s m args below meth c D cA A ad X z x := by
  obtain ⟨x_1, x_2⟩ := x
  intro H locs ls hw hl
  have hw : Wd D A s.heap (wR cA ad X) H locs := hw
  have hl : lv_has ls 3 [(0, .ref (ad 0)), (1, .int x_1), (2, .int x_2)] := hl
  have hx := C.1.1
  have hb := C.1.2.1
  have h : (if (X 0 0 0) ≤ x_2 then some x_1 else rd 9 (X 0 3) x_2 (fun r2 => bn (x_1 &&& (((1 : Int32) <<< (r2 &&& 31)) ^^^ (-1 : Int32))) (fun x3 => bn (x_2 + 1) (fun x4 => k5 (x3, x4))))) = some z := h
  refine lv_iload_n hx hb dX1_lackingWords_5 rfl (lv_at hl 2 rfl) ?_
  refine lv_aload_n hx hb dX1_lackingWords_6 rfl (lv_at hl 0 rfl) ?_
  refine tGet (T := TX1) (N := 12) (ci := 1) C hw inX1 0 0 rfl (by decide) kf_RX1_10 rfl rfl rfl dX1_lackingWords_7 ?_
  refine tGet (T := TX0) (N := 12) (ci := 0) C hw inX0 0 1 rfl (by decide) kf_RX1_129 rfl rfl rfl dX1_lackingWords_10 ?_
  refine lv_icmp_ge (tgt := 38) hx hb dX1_lackingWords_13 (by decide) (fun c1 => ?_) (fun c1 => ?_)
  · replace h := (if_pos c1).symm.trans h
    refine lv_iload_n hx hb dX1_lackingWords_38 rfl (lv_at hl 1 rfl) ?_
    obtain rfl := some_e h
    exact rtI C hr hw dX1_lackingWords_39
  · replace h := (if_neg c1).symm.trans h
    refine lv_iload_n hx hb dX1_lackingWords_16 rfl (lv_at hl 1 rfl) ?_
    refine lv_iconst (v := 1) hx hb dX1_lackingWords_17 (by decide) ?_
    refine lv_aload_n hx hb dX1_lackingWords_18 rfl (lv_at hl 0 rfl) ?_
    refine tGet (T := TX1) (N := 12) (ci := 1) C hw inX1 0 0 rfl (by decide) kf_RX1_10 rfl rfl rfl dX1_lackingWords_19 ?_
    refine tGet (T := TX0) (N := 12) (ci := 0) C hw inX0 3 1 rfl (by decide) kf_RX1_79 rfl rfl rfl dX1_lackingWords_22 ?_
    refine lv_iload_n hx hb dX1_lackingWords_25 rfl (lv_at hl 2 rfl) ?_
    obtain ⟨r2, ir2, er2, h⟩ := rd_some h
    refine tLd C hw 4 rfl ir2 er2 dX1_lackingWords_26 ?_
    refine lv_ishl hx hb dX1_lackingWords_27 ?_
    refine lv_iconst (v := (-1)) hx hb dX1_lackingWords_28 (by decide) ?_
    refine lv_ixor hx hb dX1_lackingWords_29 ?_
    refine lv_iand hx hb dX1_lackingWords_30 ?_
    refine lv_topi (fun x3 ex3 => ?_)
    replace h := bn_some h ex3
    refine lv_istore_n (lv' := [(1, .int x3), (0, .ref (ad 0)), (2, .int x_2)]) hx hb dX1_lackingWords_31 rfl hl (by decide) rfl (fun ls hl => ?_)
    obtain ⟨x4, ex4⟩ : ∃ y : Int32, y = x_2 + 1 := ⟨_, rfl⟩
    replace h := bn_some h ex4
    refine lv_iinc (v := x4) (lv' := [(2, .int x4), (1, .int x3), (0, .ref (ad 0))]) hx hb dX1_lackingWords_32 hl (k := 2) rfl (by rw [ex4]; rfl) (by decide) rfl (fun ls hl => ?_)
    refine lv_goto (tgt := 5) hx hb dX1_lackingWords_35 (by decide) ?_
    exact hk5 (x3, x4) h _ _ _ hw (lv_sub hl [2, 1, 0] rfl)
theorem lX1_lackingWords_5 (C : Cx p s m args meth c cX1_lackingWords 3 RX1 D cA g A) (hr : meth.sig.returnType = (some .int)) {z : Int32} (X : Nat → VS) (n : Nat) (x : (Int32) × (Int32)) (h : lp (fX1_lackingWords_5 X) n x = some z) : GX1_lackingWords_5 p l e s m args below meth c D cA A ad X z x := lp_ok (GX1_lackingWords_5 p l e s m args below meth c D cA A ad X z) (fun kq hkq x h => kX1_lackingWords_5 C hr X kq hkq x h) n x h
set_option maxHeartbeats 4000000 in
set_option maxRecDepth 100000 in
theorem kX1_lackingWords (ad : Nat → Nat) {X : Nat → VS} {z : Int32} (h : fX1_lackingWords X = some z) : MI l D cA g yX1_lackingWords (Cond.code yX1_lackingWords cX1_lackingWords 3 (some .int) :: lw_g) rmX1_lackingWords [.ref (ad 0)] (wR cA ad X) z (wR cA ad X) := by
  intro sz
  refine Met.ofW (cc := cX1_lackingWords) (maxL := 3) (ret := (some .int)) (by decide) rfl ?_
  intro p e s m args below meth c s₁ B hml hv
  obtain ⟨rfl, C, hr, hw⟩ := ent B hml hv
  generalize va_A (wR cA ad X) sz = A at C hw ⊢
  have hl := lv_entry ([.ref (ad 0)]) (n := 3) (Nat.le_of_ble_eq_true rfl)
  rw [lg_entry_eq]
  generalize (lg_sl ([.ref (ad 0)]) ++ List.replicate (3 - (lg_sl ([.ref (ad 0)])).length) Slot.unset).toArray = ls at hl ⊢
  have hl : lv_has ls 3 [(0, .ref (ad 0))] := hl
  have hx := C.1.1
  have hb := C.1.2.1
  have h : (lp (fX1_lackingWords_5 X) 5000 (63, 0)) = some z := h
  refine lv_bipush (v := 63) hx hb dX1_lackingWords_0 (by decide) ?_
  refine lv_istore_n (lv' := [(1, .int 63), (0, .ref (ad 0))]) hx hb dX1_lackingWords_2 rfl hl (by decide) rfl (fun ls hl => ?_)
  refine lv_iconst (v := 0) hx hb dX1_lackingWords_3 (by decide) ?_
  refine lv_istore_n (lv' := [(2, .int 0), (1, .int 63), (0, .ref (ad 0))]) hx hb dX1_lackingWords_4 rfl hl (by decide) rfl (fun ls hl => ?_)
  exact lX1_lackingWords_5 C hr X 5000 (63, 0) h _ _ _ hw (lv_sub hl [2, 1, 0] rfl)
abbrev rmX1_knownWords : Room := { frames := 1, cells := 0, slots := 0, locals := 23 }
theorem hdX1_knownWords : yX1_knownWords.cls = RX1 ∧ yX1_knownWords.cls ≠ "java/lang/invoke/MethodHandle" ∧ yX1_knownWords.cls ≠ "java/lang/invoke/VarHandle" ∧ (parseMethodDescriptor yX1_knownWords.desc).map (fun d => d.parameters.length) = some 0 := by decide +kernel
def GX1_knownWords_5 (p : Program) (l : Launch) (e : Env) (s : State) (m : MethodId) (args : Array Value) (below : List Frame) (meth : Method) (c : Code) (D : va_G) (cA : ClassId) (A : Nat → Prop) (ad : Nat → Nat) (X : Nat → VS) (z : Int32) (x : (Int32) × (Int32)) : Prop := ∀ (H : Heap) (locs : List Loc) (ls : Array Slot), Wd D A s.heap (wR cA ad X) H locs → lv_has ls 3 [(0, .ref (ad 0)), (1, .int x.1), (2, .int x.2)] → W p l e rmX1_knownWords s m args below meth c H locs 0 0 (MQ below (QI D cA A z (wR cA ad X)) args s 0 0 A) (F0 m 5 ls [])
def fX1_knownWords_5 (X : Nat → VS) (k5 : ((Int32) × (Int32)) → Option Int32) : ((Int32) × (Int32)) → Option Int32 := fun x => match x with | (x_1, x_2) => if (X 0 5 0) ≤ x_2 then some x_1 else cl (fX0_wordsOf (X 0) x_2) (fun r2 => bn (x_1 &&& r2) (fun x3 => bn (x_2 + 1) (fun x4 => k5 (x3, x4))))
def fX1_knownWords (X : Nat → VS) : Option Int32 := lp (fX1_knownWords_5 X) 5000 (63, 0)
set_option maxHeartbeats 4000000 in
set_option maxRecDepth 100000 in
theorem kX1_knownWords_5 (C : Cx p s m args meth c cX1_knownWords 3 RX1 D cA g A) (hr : meth.sig.returnType = (some .int)) {z : Int32} (X : Nat → VS) (k5 : ((Int32) × (Int32)) → Option Int32) (hk5 : ∀ x, k5 x = some z → GX1_knownWords_5 p l e s m args below meth c D cA A ad X z x) (x : (Int32) × (Int32)) (h : fX1_knownWords_5 X k5 x = some z) : GX1_knownWords_5 p l e s m args below meth c D cA A ad X z x := by
  obtain ⟨x_1, x_2⟩ := x
  intro H locs ls hw hl
  have hw : Wd D A s.heap (wR cA ad X) H locs := hw
  have hl : lv_has ls 3 [(0, .ref (ad 0)), (1, .int x_1), (2, .int x_2)] := hl
  have hx := C.1.1
  have hb := C.1.2.1
  have h : (if (X 0 5 0) ≤ x_2 then some x_1 else cl (fX0_wordsOf (X 0) x_2) (fun r2 => bn (x_1 &&& r2) (fun x3 => bn (x_2 + 1) (fun x4 => k5 (x3, x4))))) = some z := h
  refine lv_iload_n hx hb dX1_knownWords_5 rfl (lv_at hl 2 rfl) ?_
  refine lv_aload_n hx hb dX1_knownWords_6 rfl (lv_at hl 0 rfl) ?_
  refine tGet (T := TX1) (N := 12) (ci := 1) C hw inX1 0 0 rfl (by decide) kf_RX1_10 rfl rfl rfl dX1_knownWords_7 ?_
  refine tGet (T := TX0) (N := 12) (ci := 0) C hw inX0 5 1 rfl (by decide) kf_RX1_203 rfl rfl rfl dX1_knownWords_10 ?_
  refine lv_icmp_ge (tgt := 33) hx hb dX1_knownWords_13 (by decide) (fun c1 => ?_) (fun c1 => ?_)
  · replace h := (if_pos c1).symm.trans h
    refine lv_iload_n hx hb dX1_knownWords_33 rfl (lv_at hl 1 rfl) ?_
    obtain rfl := some_e h
    exact rtI C hr hw dX1_knownWords_34
  · replace h := (if_neg c1).symm.trans h
    refine lv_iload_n hx hb dX1_knownWords_16 rfl (lv_at hl 1 rfl) ?_
    refine lv_aload_n hx hb dX1_knownWords_17 rfl (lv_at hl 0 rfl) ?_
    refine tGet (T := TX1) (N := 12) (ci := 1) C hw inX1 0 0 rfl (by decide) kf_RX1_10 rfl rfl rfl dX1_knownWords_18 ?_
    refine lv_iload_n hx hb dX1_knownWords_21 rfl (lv_at hl 2 rfl) ?_
    obtain ⟨r2, hr2, h⟩ := cl_some h
    refine cVi (ws2 := (wR cA ad X)) (As := [.int x_2]) (rest := [.int x_1]) C hw jR0r (kX0_wordsOf (fun k => ad (1 + k)) hr2) kl_RX1_109 ki_yX0_wordsOf ks_yX0_wordsOf kn_RX0 kc_yX0_wordsOf ⟨rfl, rfl⟩ hdX0_wordsOf ⟨Nat.le_of_ble_eq_true rfl, Nat.le_of_ble_eq_true rfl⟩ (ci := 0) (q0 := 0) rfl rfl rfl rfl hl.1 (Nat.le_of_ble_eq_true rfl) dX1_knownWords_22 ⟨Nat.zero_le _, Nat.zero_le _⟩ (fun H locs hw => ?_)
    refine lv_iand hx hb dX1_knownWords_25 ?_
    refine lv_topi (fun x3 ex3 => ?_)
    replace h := bn_some h ex3
    refine lv_istore_n (lv' := [(1, .int x3), (0, .ref (ad 0)), (2, .int x_2)]) hx hb dX1_knownWords_26 rfl hl (by decide) rfl (fun ls hl => ?_)
    obtain ⟨x4, ex4⟩ : ∃ y : Int32, y = x_2 + 1 := ⟨_, rfl⟩
    replace h := bn_some h ex4
    refine lv_iinc (v := x4) (lv' := [(2, .int x4), (1, .int x3), (0, .ref (ad 0))]) hx hb dX1_knownWords_27 hl (k := 2) rfl (by rw [ex4]; rfl) (by decide) rfl (fun ls hl => ?_)
    refine lv_goto (tgt := 5) hx hb dX1_knownWords_30 (by decide) ?_
    exact hk5 (x3, x4) h _ _ _ hw (lv_sub hl [2, 1, 0] rfl)
theorem lX1_knownWords_5 (C : Cx p s m args meth c cX1_knownWords 3 RX1 D cA g A) (hr : meth.sig.returnType = (some .int)) {z : Int32} (X : Nat → VS) (n : Nat) (x : (Int32) × (Int32)) (h : lp (fX1_knownWords_5 X) n x = some z) : GX1_knownWords_5 p l e s m args below meth c D cA A ad X z x := lp_ok (GX1_knownWords_5 p l e s m args below meth c D cA A ad X z) (fun kq hkq x h => kX1_knownWords_5 C hr X kq hkq x h) n x h
set_option maxHeartbeats 4000000 in
set_option maxRecDepth 100000 in
theorem kX1_knownWords (ad : Nat → Nat) {X : Nat → VS} {z : Int32} (h : fX1_knownWords X = some z) : MI l D cA g yX1_knownWords (Cond.code yX1_knownWords cX1_knownWords 3 (some .int) :: lw_g) rmX1_knownWords [.ref (ad 0)] (wR cA ad X) z (wR cA ad X) := by
  intro sz
  refine Met.ofW (cc := cX1_knownWords) (maxL := 3) (ret := (some .int)) (by decide) rfl ?_
  intro p e s m args below meth c s₁ B hml hv
  obtain ⟨rfl, C, hr, hw⟩ := ent B hml hv
  generalize va_A (wR cA ad X) sz = A at C hw ⊢
  have hl := lv_entry ([.ref (ad 0)]) (n := 3) (Nat.le_of_ble_eq_true rfl)
  rw [lg_entry_eq]
  generalize (lg_sl ([.ref (ad 0)]) ++ List.replicate (3 - (lg_sl ([.ref (ad 0)])).length) Slot.unset).toArray = ls at hl ⊢
  have hl : lv_has ls 3 [(0, .ref (ad 0))] := hl
  have hx := C.1.1
  have hb := C.1.2.1
  have h : (lp (fX1_knownWords_5 X) 5000 (63, 0)) = some z := h
  refine lv_bipush (v := 63) hx hb dX1_knownWords_0 (by decide) ?_
  refine lv_istore_n (lv' := [(1, .int 63), (0, .ref (ad 0))]) hx hb dX1_knownWords_2 rfl hl (by decide) rfl (fun ls hl => ?_)
  refine lv_iconst (v := 0) hx hb dX1_knownWords_3 (by decide) ?_
  refine lv_istore_n (lv' := [(2, .int 0), (1, .int 63), (0, .ref (ad 0))]) hx hb dX1_knownWords_4 rfl hl (by decide) rfl (fun ls hl => ?_)
  exact lX1_knownWords_5 C hr X 5000 (63, 0) h _ _ _ hw (lv_sub hl [2, 1, 0] rfl)
abbrev rmX1_rarestWord : Room := { frames := 1, cells := 0, slots := 0, locals := 23 }
theorem hdX1_rarestWord : yX1_rarestWord.cls = RX1 ∧ yX1_rarestWord.cls ≠ "java/lang/invoke/MethodHandle" ∧ yX1_rarestWord.cls ≠ "java/lang/invoke/VarHandle" ∧ (parseMethodDescriptor yX1_rarestWord.desc).map (fun d => d.parameters.length) = some 0 := by decide +kernel
def GX1_rarestWord_66 (p : Program) (l : Launch) (e : Env) (s : State) (m : MethodId) (args : Array Value) (below : List Frame) (meth : Method) (c : Code) (D : va_G) (cA : ClassId) (A : Nat → Prop) (ad : Nat → Nat) (X : Nat → VS) (z : Int32) (x : (Int32) × (Int32) × (Int32)) : Prop := ∀ (H : Heap) (locs : List Loc) (ls : Array Slot), Wd D A s.heap (wR cA ad X) H locs → lv_has ls 6 [(0, .ref (ad 0)), (1, .int x.1), (2, .int x.2.1), (3, .int x.2.2)] → W p l e rmX1_rarestWord s m args below meth c H locs 0 0 (MQ below (QI D cA A z (wR cA ad X)) args s 0 0 A) (F0 m 66 ls [])
def GX1_rarestWord_19 (p : Program) (l : Launch) (e : Env) (s : State) (m : MethodId) (args : Array Value) (below : List Frame) (meth : Method) (c : Code) (D : va_G) (cA : ClassId) (A : Nat → Prop) (ad : Nat → Nat) (X : Nat → VS) (z : Int32) (x : (Int32) × (Int32) × (Int32) × (Int32) × (Int32)) : Prop := ∀ (H : Heap) (locs : List Loc) (ls : Array Slot), Wd D A s.heap (wR cA ad X) H locs → lv_has ls 6 [(0, .ref (ad 0)), (1, .int x.1), (2, .int x.2.1), (3, .int x.2.2.1), (4, .int x.2.2.2.1), (5, .int x.2.2.2.2)] → W p l e rmX1_rarestWord s m args below meth c H locs 0 0 (MQ below (QI D cA A z (wR cA ad X)) args s 0 0 A) (F0 m 19 ls [])
def GX1_rarestWord_7 (p : Program) (l : Launch) (e : Env) (s : State) (m : MethodId) (args : Array Value) (below : List Frame) (meth : Method) (c : Code) (D : va_G) (cA : ClassId) (A : Nat → Prop) (ad : Nat → Nat) (X : Nat → VS) (z : Int32) (x : (Int32) × (Int32) × (Int32)) : Prop := ∀ (H : Heap) (locs : List Loc) (ls : Array Slot), Wd D A s.heap (wR cA ad X) H locs → lv_has ls 6 [(0, .ref (ad 0)), (1, .int x.1), (2, .int x.2.1), (3, .int x.2.2)] → W p l e rmX1_rarestWord s m args below meth c H locs 0 0 (MQ below (QI D cA A z (wR cA ad X)) args s 0 0 A) (F0 m 7 ls [])
def fX1_rarestWord_66 (X : Nat → VS) (k7 : ((Int32) × (Int32) × (Int32)) → Option Int32) : ((Int32) × (Int32) × (Int32)) → Option Int32 := fun x => match x with | (x_1, x_2, x_3) => bn (x_3 + 1) (fun x1 => k7 (x_1, x_2, x1))
def fX1_rarestWord_19 (X : Nat → VS) (k7 : ((Int32) × (Int32) × (Int32)) → Option Int32) (k19 : ((Int32) × (Int32) × (Int32) × (Int32) × (Int32)) → Option Int32) : ((Int32) × (Int32) × (Int32) × (Int32) × (Int32)) → Option Int32 := fun x => match x with | (x_1, x_2, x_3, x_4, x_5) => if (X 0 5 0) ≤ x_5 then if x_2 ≤ x_4 then fX1_rarestWord_66 X k7 (x_1, x_2, x_3) else fX1_rarestWord_66 X k7 (x_3, x_4, x_3) else cl (fX0_wordsOf (X 0) x_5) (fun r3 => bn (x_4 + ((r3 >>> (x_3 &&& 31)) &&& (1 : Int32))) (fun x4 => bn (x_5 + 1) (fun x5 => k19 (x_1, x_2, x_3, x4, x5))))
def fX1_rarestWord_7 (X : Nat → VS) (k7 : ((Int32) × (Int32) × (Int32)) → Option Int32) : ((Int32) × (Int32) × (Int32)) → Option Int32 := fun x => match x with | (x_1, x_2, x_3) => if 6 ≤ x_3 then some x_1 else lp (fX1_rarestWord_19 X k7) 5000 (x_1, x_2, x_3, 0, 0)
def fX1_rarestWord (X : Nat → VS) : Option Int32 := lp (fX1_rarestWord_7 X) 5000 (0, 6, 0)
set_option maxHeartbeats 4000000 in
set_option maxRecDepth 100000 in
theorem kX1_rarestWord_66 (C : Cx p s m args meth c cX1_rarestWord 6 RX1 D cA g A) (hr : meth.sig.returnType = (some .int)) {z : Int32} (X : Nat → VS) (k7 : ((Int32) × (Int32) × (Int32)) → Option Int32) (hk7 : ∀ x, k7 x = some z → GX1_rarestWord_7 p l e s m args below meth c D cA A ad X z x) (x : (Int32) × (Int32) × (Int32)) (h : fX1_rarestWord_66 X k7 x = some z) : GX1_rarestWord_66 p l e s m args below meth c D cA A ad X z x := by
  obtain ⟨x_1, x_2, x_3⟩ := x
  intro H locs ls hw hl
  have hw : Wd D A s.heap (wR cA ad X) H locs := hw
  have hl : lv_has ls 6 [(0, .ref (ad 0)), (1, .int x_1), (2, .int x_2), (3, .int x_3)] := hl
  have hx := C.1.1
  have hb := C.1.2.1
  have h : (bn (x_3 + 1) (fun x1 => k7 (x_1, x_2, x1))) = some z := h
  obtain ⟨x1, ex1⟩ : ∃ y : Int32, y = x_3 + 1 := ⟨_, rfl⟩
  replace h := bn_some h ex1
  refine lv_iinc (v := x1) (lv' := [(3, .int x1), (0, .ref (ad 0)), (1, .int x_1), (2, .int x_2)]) hx hb dX1_rarestWord_66 hl (k := 3) rfl (by rw [ex1]; rfl) (by decide) rfl (fun ls hl => ?_)
  refine lv_goto (tgt := 7) hx hb dX1_rarestWord_69 (by decide) ?_
  exact hk7 (x_1, x_2, x1) h _ _ _ hw (lv_sub hl [1, 2, 3, 0] rfl)
set_option maxHeartbeats 4000000 in
set_option maxRecDepth 100000 in
theorem kX1_rarestWord_19 (C : Cx p s m args meth c cX1_rarestWord 6 RX1 D cA g A) (hr : meth.sig.returnType = (some .int)) {z : Int32} (X : Nat → VS) (k7 : ((Int32) × (Int32) × (Int32)) → Option Int32) (hk7 : ∀ x, k7 x = some z → GX1_rarestWord_7 p l e s m args below meth c D cA A ad X z x) (k19 : ((Int32) × (Int32) × (Int32) × (Int32) × (Int32)) → Option Int32) (hk19 : ∀ x, k19 x = some z → GX1_rarestWord_19 p l e s m args below meth c D cA A ad X z x) (x : (Int32) × (Int32) × (Int32) × (Int32) × (Int32)) (h : fX1_rarestWord_19 X k7 k19 x = some z) : GX1_rarestWord_19 p l e s m args below meth c D cA A ad X z x := by
  obtain ⟨x_1, x_2, x_3, x_4, x_5⟩ := x
  intro H locs ls hw hl
  have hw : Wd D A s.heap (wR cA ad X) H locs := hw
  have hl : lv_has ls 6 [(0, .ref (ad 0)), (1, .int x_1), (2, .int x_2), (3, .int x_3), (4, .int x_4), (5, .int x_5)] := hl
  have hx := C.1.1
  have hb := C.1.2.1
  have h : (if (X 0 5 0) ≤ x_5 then if x_2 ≤ x_4 then fX1_rarestWord_66 X k7 (x_1, x_2, x_3) else fX1_rarestWord_66 X k7 (x_3, x_4, x_3) else cl (fX0_wordsOf (X 0) x_5) (fun r3 => bn (x_4 + ((r3 >>> (x_3 &&& 31)) &&& (1 : Int32))) (fun x4 => bn (x_5 + 1) (fun x5 => k19 (x_1, x_2, x_3, x4, x5))))) = some z := h
  refine lv_iload hx hb dX1_rarestWord_19 (lv_at hl 5 rfl) ?_
  refine lv_aload_n hx hb dX1_rarestWord_21 rfl (lv_at hl 0 rfl) ?_
  refine tGet (T := TX1) (N := 12) (ci := 1) C hw inX1 0 0 rfl (by decide) kf_RX1_10 rfl rfl rfl dX1_rarestWord_22 ?_
  refine tGet (T := TX0) (N := 12) (ci := 0) C hw inX0 5 1 rfl (by decide) kf_RX1_203 rfl rfl rfl dX1_rarestWord_25 ?_
  refine lv_icmp_ge (tgt := 55) hx hb dX1_rarestWord_28 (by decide) (fun c1 => ?_) (fun c1 => ?_)
  · replace h := (if_pos c1).symm.trans h
    refine lv_iload hx hb dX1_rarestWord_55 (lv_at hl 4 rfl) ?_
    refine lv_iload_n hx hb dX1_rarestWord_57 rfl (lv_at hl 2 rfl) ?_
    refine lv_icmp_ge (tgt := 66) hx hb dX1_rarestWord_58 (by decide) (fun c2 => ?_) (fun c2 => ?_)
    · replace h := (if_pos c2).symm.trans h
      exact kX1_rarestWord_66 C hr X k7 hk7 (x_1, x_2, x_3) h _ _ _ hw (lv_sub hl [0, 1, 2, 3] rfl)
    · replace h := (if_neg c2).symm.trans h
      refine lv_iload hx hb dX1_rarestWord_61 (lv_at hl 4 rfl) ?_
      refine lv_istore_n (lv' := [(2, .int x_4), (0, .ref (ad 0)), (1, .int x_1), (3, .int x_3), (4, .int x_4), (5, .int x_5)]) hx hb dX1_rarestWord_63 rfl hl (by decide) rfl (fun ls hl => ?_)
      refine lv_iload_n hx hb dX1_rarestWord_64 rfl (lv_at hl 3 rfl) ?_
      refine lv_istore_n (lv' := [(1, .int x_3), (2, .int x_4), (0, .ref (ad 0)), (3, .int x_3), (4, .int x_4), (5, .int x_5)]) hx hb dX1_rarestWord_65 rfl hl (by decide) rfl (fun ls hl => ?_)
      exact kX1_rarestWord_66 C hr X k7 hk7 (x_3, x_4, x_3) h _ _ _ hw (lv_sub hl [2, 0, 1, 3] rfl)
  · replace h := (if_neg c1).symm.trans h
    refine lv_iload hx hb dX1_rarestWord_31 (lv_at hl 4 rfl) ?_
    refine lv_aload_n hx hb dX1_rarestWord_33 rfl (lv_at hl 0 rfl) ?_
    refine tGet (T := TX1) (N := 12) (ci := 1) C hw inX1 0 0 rfl (by decide) kf_RX1_10 rfl rfl rfl dX1_rarestWord_34 ?_
    refine lv_iload hx hb dX1_rarestWord_37 (lv_at hl 5 rfl) ?_
    obtain ⟨r3, hr3, h⟩ := cl_some h
    refine cVi (ws2 := (wR cA ad X)) (As := [.int x_5]) (rest := [.int x_4]) C hw jR0r (kX0_wordsOf (fun k => ad (1 + k)) hr3) kl_RX1_109 ki_yX0_wordsOf ks_yX0_wordsOf kn_RX0 kc_yX0_wordsOf ⟨rfl, rfl⟩ hdX0_wordsOf ⟨Nat.le_of_ble_eq_true rfl, Nat.le_of_ble_eq_true rfl⟩ (ci := 0) (q0 := 0) rfl rfl rfl rfl hl.1 (Nat.le_of_ble_eq_true rfl) dX1_rarestWord_39 ⟨Nat.zero_le _, Nat.zero_le _⟩ (fun H locs hw => ?_)
    refine lv_iload_n hx hb dX1_rarestWord_42 rfl (lv_at hl 3 rfl) ?_
    refine lv_ishr hx hb dX1_rarestWord_43 ?_
    refine lv_iconst (v := 1) hx hb dX1_rarestWord_44 (by decide) ?_
    refine lv_iand hx hb dX1_rarestWord_45 ?_
    refine lv_iadd hx hb dX1_rarestWord_46 ?_
    refine lv_topi (fun x4 ex4 => ?_)
    replace h := bn_some h ex4
    refine lv_istore (lv' := [(4, .int x4), (0, .ref (ad 0)), (1, .int x_1), (2, .int x_2), (3, .int x_3), (5, .int x_5)]) hx hb dX1_rarestWord_47 hl (by decide) rfl (fun ls hl => ?_)
    obtain ⟨x5, ex5⟩ : ∃ y : Int32, y = x_5 + 1 := ⟨_, rfl⟩
    replace h := bn_some h ex5
    refine lv_iinc (v := x5) (lv' := [(5, .int x5), (4, .int x4), (0, .ref (ad 0)), (1, .int x_1), (2, .int x_2), (3, .int x_3)]) hx hb dX1_rarestWord_49 hl (k := 5) rfl (by rw [ex5]; rfl) (by decide) rfl (fun ls hl => ?_)
    refine lv_goto (tgt := 19) hx hb dX1_rarestWord_52 (by decide) ?_
    exact hk19 (x_1, x_2, x_3, x4, x5) h _ _ _ hw (lv_sub hl [2, 3, 4, 5, 1, 0] rfl)
theorem lX1_rarestWord_19 (C : Cx p s m args meth c cX1_rarestWord 6 RX1 D cA g A) (hr : meth.sig.returnType = (some .int)) {z : Int32} (X : Nat → VS) (k7 : ((Int32) × (Int32) × (Int32)) → Option Int32) (hk7 : ∀ x, k7 x = some z → GX1_rarestWord_7 p l e s m args below meth c D cA A ad X z x) (n : Nat) (x : (Int32) × (Int32) × (Int32) × (Int32) × (Int32)) (h : lp (fX1_rarestWord_19 X k7) n x = some z) : GX1_rarestWord_19 p l e s m args below meth c D cA A ad X z x := lp_ok (GX1_rarestWord_19 p l e s m args below meth c D cA A ad X z) (fun kq hkq x h => kX1_rarestWord_19 C hr X k7 hk7 kq hkq x h) n x h
set_option maxHeartbeats 4000000 in
set_option maxRecDepth 100000 in
theorem kX1_rarestWord_7 (C : Cx p s m args meth c cX1_rarestWord 6 RX1 D cA g A) (hr : meth.sig.returnType = (some .int)) {z : Int32} (X : Nat → VS) (k7 : ((Int32) × (Int32) × (Int32)) → Option Int32) (hk7 : ∀ x, k7 x = some z → GX1_rarestWord_7 p l e s m args below meth c D cA A ad X z x) (x : (Int32) × (Int32) × (Int32)) (h : fX1_rarestWord_7 X k7 x = some z) : GX1_rarestWord_7 p l e s m args below meth c D cA A ad X z x := by
  obtain ⟨x_1, x_2, x_3⟩ := x
  intro H locs ls hw hl
  have hw : Wd D A s.heap (wR cA ad X) H locs := hw
  have hl : lv_has ls 6 [(0, .ref (ad 0)), (1, .int x_1), (2, .int x_2), (3, .int x_3)] := hl
  have hx := C.1.1
  have hb := C.1.2.1
  have h : (if 6 ≤ x_3 then some x_1 else lp (fX1_rarestWord_19 X k7) 5000 (x_1, x_2, x_3, 0, 0)) = some z := h
  refine lv_iload_n hx hb dX1_rarestWord_7 rfl (lv_at hl 3 rfl) ?_
  refine lv_bipush (v := 6) hx hb dX1_rarestWord_8 (by decide) ?_
  refine lv_icmp_ge (tgt := 72) hx hb dX1_rarestWord_10 (by decide) (fun c1 => ?_) (fun c1 => ?_)
  · replace h := (if_pos c1).symm.trans h
    refine lv_iload_n hx hb dX1_rarestWord_72 rfl (lv_at hl 1 rfl) ?_
    obtain rfl := some_e h
    exact rtI C hr hw dX1_rarestWord_73
  · replace h := (if_neg c1).symm.trans h
    refine lv_iconst (v := 0) hx hb dX1_rarestWord_13 (by decide) ?_
    refine lv_istore (lv' := [(4, .int 0), (0, .ref (ad 0)), (1, .int x_1), (2, .int x_2), (3, .int x_3)]) hx hb dX1_rarestWord_14 hl (by decide) rfl (fun ls hl => ?_)
    refine lv_iconst (v := 0) hx hb dX1_rarestWord_16 (by decide) ?_
    refine lv_istore (lv' := [(5, .int 0), (4, .int 0), (0, .ref (ad 0)), (1, .int x_1), (2, .int x_2), (3, .int x_3)]) hx hb dX1_rarestWord_17 hl (by decide) rfl (fun ls hl => ?_)
    exact lX1_rarestWord_19 C hr X k7 hk7 5000 (x_1, x_2, x_3, 0, 0) h _ _ _ hw (lv_sub hl [2, 3, 4, 5, 1, 0] rfl)
theorem lX1_rarestWord_7 (C : Cx p s m args meth c cX1_rarestWord 6 RX1 D cA g A) (hr : meth.sig.returnType = (some .int)) {z : Int32} (X : Nat → VS) (n : Nat) (x : (Int32) × (Int32) × (Int32)) (h : lp (fX1_rarestWord_7 X) n x = some z) : GX1_rarestWord_7 p l e s m args below meth c D cA A ad X z x := lp_ok (GX1_rarestWord_7 p l e s m args below meth c D cA A ad X z) (fun kq hkq x h => kX1_rarestWord_7 C hr X kq hkq x h) n x h
set_option maxHeartbeats 4000000 in
set_option maxRecDepth 100000 in
theorem kX1_rarestWord (ad : Nat → Nat) {X : Nat → VS} {z : Int32} (h : fX1_rarestWord X = some z) : MI l D cA g yX1_rarestWord (Cond.code yX1_rarestWord cX1_rarestWord 6 (some .int) :: lw_g) rmX1_rarestWord [.ref (ad 0)] (wR cA ad X) z (wR cA ad X) := by
  intro sz
  refine Met.ofW (cc := cX1_rarestWord) (maxL := 6) (ret := (some .int)) (by decide) rfl ?_
  intro p e s m args below meth c s₁ B hml hv
  obtain ⟨rfl, C, hr, hw⟩ := ent B hml hv
  generalize va_A (wR cA ad X) sz = A at C hw ⊢
  have hl := lv_entry ([.ref (ad 0)]) (n := 6) (Nat.le_of_ble_eq_true rfl)
  rw [lg_entry_eq]
  generalize (lg_sl ([.ref (ad 0)]) ++ List.replicate (6 - (lg_sl ([.ref (ad 0)])).length) Slot.unset).toArray = ls at hl ⊢
  have hl : lv_has ls 6 [(0, .ref (ad 0))] := hl
  have hx := C.1.1
  have hb := C.1.2.1
  have h : (lp (fX1_rarestWord_7 X) 5000 (0, 6, 0)) = some z := h
  refine lv_iconst (v := 0) hx hb dX1_rarestWord_0 (by decide) ?_
  refine lv_istore_n (lv' := [(1, .int 0), (0, .ref (ad 0))]) hx hb dX1_rarestWord_1 rfl hl (by decide) rfl (fun ls hl => ?_)
  refine lv_bipush (v := 6) hx hb dX1_rarestWord_2 (by decide) ?_
  refine lv_istore_n (lv' := [(2, .int 6), (1, .int 0), (0, .ref (ad 0))]) hx hb dX1_rarestWord_4 rfl hl (by decide) rfl (fun ls hl => ?_)
  refine lv_iconst (v := 0) hx hb dX1_rarestWord_5 (by decide) ?_
  refine lv_istore_n (lv' := [(3, .int 0), (2, .int 6), (1, .int 0), (0, .ref (ad 0))]) hx hb dX1_rarestWord_6 rfl hl (by decide) rfl (fun ls hl => ?_)
  exact lX1_rarestWord_7 C hr X 5000 (0, 6, 0) h _ _ _ hw (lv_sub hl [3, 2, 1, 0] rfl)
abbrev rmX1_words : Room := { frames := 2, cells := 0, slots := 0, locals := 48 }
theorem hdX1_words : yX1_words.cls = RX1 ∧ yX1_words.cls ≠ "java/lang/invoke/MethodHandle" ∧ yX1_words.cls ≠ "java/lang/invoke/VarHandle" ∧ (parseMethodDescriptor yX1_words.desc).map (fun d => d.parameters.length) = some 1 := by decide +kernel
def fX1_words (X : Nat → VS) (a_1 : Int32) : Option (Int32 × (Nat → VS)) := if a_1 = 0 then cl (fX1_lackingWords X) (fun r2 => some (r2, X)) else if a_1 = 1 then cl (fX1_knownWords X) (fun r4 => some (r4, X)) else if a_1 = 2 then cl (fX1_rarestWord X) (fun r6 => some (r6, X)) else cl (fX1_refuse X (-2)) (fun q7 => some (q7.1, q7.2))
set_option maxHeartbeats 4000000 in
set_option maxRecDepth 100000 in
theorem kX1_words (ad : Nat → Nat) {X : Nat → VS} {a_1 : Int32} {z : (Int32 × (Nat → VS))} (h : fX1_words X a_1 = some z) : MI l D cA g yX1_words (Cond.code yX1_words cX1_words 2 (some .int) :: lw_g) rmX1_words [.ref (ad 0), .int a_1] (wR cA ad X) z.1 (wR cA ad z.2) := by
  intro sz
  refine Met.ofW (cc := cX1_words) (maxL := 2) (ret := (some .int)) (by decide) rfl ?_
  intro p e s m args below meth c s₁ B hml hv
  obtain ⟨rfl, C, hr, hw⟩ := ent B hml hv
  generalize va_A (wR cA ad X) sz = A at C hw ⊢
  have hl := lv_entry ([.ref (ad 0), .int a_1]) (n := 2) (Nat.le_of_ble_eq_true rfl)
  rw [lg_entry_eq]
  generalize (lg_sl ([.ref (ad 0), .int a_1]) ++ List.replicate (2 - (lg_sl ([.ref (ad 0), .int a_1])).length) Slot.unset).toArray = ls at hl ⊢
  have hl : lv_has ls 2 [(0, .ref (ad 0)), (1, .int a_1)] := hl
  have hx := C.1.1
  have hb := C.1.2.1
  have h : (if a_1 = 0 then cl (fX1_lackingWords X) (fun r2 => some (r2, X)) else if a_1 = 1 then cl (fX1_knownWords X) (fun r4 => some (r4, X)) else if a_1 = 2 then cl (fX1_rarestWord X) (fun r6 => some (r6, X)) else cl (fX1_refuse X (-2)) (fun q7 => some (q7.1, q7.2))) = some z := h
  refine lv_iload_n hx hb dX1_words_0 rfl (lv_at hl 1 rfl) ?_
  by_cases c1 : a_1 = 0
  · replace h := (if_pos c1).symm.trans h
    refine lv_tableIn (tgt := 28) hx hb dX1_words_1 (by rw [c1]; decide) (by rw [c1]; decide) (by rw [c1]; rfl) (by decide) ?_
    refine lv_aload_n hx hb dX1_words_28 rfl (lv_at hl 0 rfl) ?_
    obtain ⟨r2, hr2, h⟩ := cl_some h
    refine cVi (ws2 := (wR cA ad X)) (As := []) (rest := []) C hw jnW (kX1_lackingWords ad hr2) kl_RX1_194 ki_yX1_lackingWords ks_yX1_lackingWords kn_RX1 kc_yX1_lackingWords ⟨rfl, rfl⟩ hdX1_lackingWords ⟨Nat.le_of_ble_eq_true rfl, Nat.le_of_ble_eq_true rfl⟩ (ci := 1) (q0 := 0) rfl rfl rfl rfl hl.1 (Nat.le_of_ble_eq_true rfl) dX1_words_29 ⟨Nat.zero_le _, Nat.zero_le _⟩ (fun H locs hw => ?_)
    obtain rfl := some_e h
    exact rtI C hr hw dX1_words_32
  replace h := (if_neg c1).symm.trans h
  by_cases c3 : a_1 = 1
  · replace h := (if_pos c3).symm.trans h
    refine lv_tableIn (tgt := 33) hx hb dX1_words_1 (by rw [c3]; decide) (by rw [c3]; decide) (by rw [c3]; rfl) (by decide) ?_
    refine lv_aload_n hx hb dX1_words_33 rfl (lv_at hl 0 rfl) ?_
    obtain ⟨r4, hr4, h⟩ := cl_some h
    refine cVi (ws2 := (wR cA ad X)) (As := []) (rest := []) C hw jnW (kX1_knownWords ad hr4) kl_RX1_197 ki_yX1_knownWords ks_yX1_knownWords kn_RX1 kc_yX1_knownWords ⟨rfl, rfl⟩ hdX1_knownWords ⟨Nat.le_of_ble_eq_true rfl, Nat.le_of_ble_eq_true rfl⟩ (ci := 1) (q0 := 0) rfl rfl rfl rfl hl.1 (Nat.le_of_ble_eq_true rfl) dX1_words_34 ⟨Nat.zero_le _, Nat.zero_le _⟩ (fun H locs hw => ?_)
    obtain rfl := some_e h
    exact rtI C hr hw dX1_words_37
  replace h := (if_neg c3).symm.trans h
  by_cases c5 : a_1 = 2
  · replace h := (if_pos c5).symm.trans h
    refine lv_tableIn (tgt := 38) hx hb dX1_words_1 (by rw [c5]; decide) (by rw [c5]; decide) (by rw [c5]; rfl) (by decide) ?_
    refine lv_aload_n hx hb dX1_words_38 rfl (lv_at hl 0 rfl) ?_
    obtain ⟨r6, hr6, h⟩ := cl_some h
    refine cVi (ws2 := (wR cA ad X)) (As := []) (rest := []) C hw jnW (kX1_rarestWord ad hr6) kl_RX1_200 ki_yX1_rarestWord ks_yX1_rarestWord kn_RX1 kc_yX1_rarestWord ⟨rfl, rfl⟩ hdX1_rarestWord ⟨Nat.le_of_ble_eq_true rfl, Nat.le_of_ble_eq_true rfl⟩ (ci := 1) (q0 := 0) rfl rfl rfl rfl hl.1 (Nat.le_of_ble_eq_true rfl) dX1_words_39 ⟨Nat.zero_le _, Nat.zero_le _⟩ (fun H locs hw => ?_)
    obtain rfl := some_e h
    exact rtI C hr hw dX1_words_42
  replace h := (if_neg c5).symm.trans h
  have hout : (a_1 : Int32).toInt < 0 ∨ 2 < (a_1 : Int32).toInt := sw_out (fun k h1 h2 => by
    have hk : k = 0 ∨ k = 1 ∨ k = 2 := by omega
    rcases hk with rfl | rfl | rfl
    · exact sw_ne c1 (by decide)
    · exact sw_ne c3 (by decide)
    · exact sw_ne c5 (by decide))
  refine lv_tableOut (tgt := 43) hx hb dX1_words_1 hout (by decide) ?_
  refine lv_aload_n hx hb dX1_words_43 rfl (lv_at hl 0 rfl) ?_
  refine lv_bipush (v := (-2)) hx hb dX1_words_44 (by decide) ?_
  obtain ⟨q7, hq7, h⟩ := cl_some h
  refine cVi (ws2 := (wR cA ad q7.2)) (As := [.int (-2)]) (rest := []) C hw jnW (kX1_refuse ad hq7) kl_RX1_52 ki_yX1_refuse ks_yX1_refuse kn_RX1 kc_yX1_refuse ⟨rfl, rfl⟩ hdX1_refuse ⟨Nat.le_of_ble_eq_true rfl, Nat.le_of_ble_eq_true rfl⟩ (ci := 1) (q0 := 0) rfl rfl rfl rfl hl.1 (Nat.le_of_ble_eq_true rfl) dX1_words_46 ⟨Nat.zero_le _, Nat.zero_le _⟩ (fun H locs hw => ?_)
  obtain rfl := some_e h
  exact rtI C hr hw dX1_words_49
abbrev rmX1_near : Room := { frames := 1, cells := 0, slots := 0, locals := 30 }
theorem hdX1_near : yX1_near.cls = RX1 ∧ yX1_near.cls ≠ "java/lang/invoke/MethodHandle" ∧ yX1_near.cls ≠ "java/lang/invoke/VarHandle" ∧ (parseMethodDescriptor yX1_near.desc).map (fun d => d.parameters.length) = some 0 := by decide +kernel
def GX1_near_47 (p : Program) (l : Launch) (e : Env) (s : State) (m : MethodId) (args : Array Value) (below : List Frame) (meth : Method) (c : Code) (D : va_G) (cA : ClassId) (A : Nat → Prop) (ad : Nat → Nat) (X : Nat → VS) (z : Int32) (x : (Int32) × (Int32) × (Int32)) : Prop := ∀ (H : Heap) (locs : List Loc) (ls : Array Slot), Wd D A s.heap (wR cA ad X) H locs → lv_has ls 5 [(0, .ref (ad 0)), (1, .int x.1), (2, .int x.2.1), (3, .int x.2.2)] → W p l e rmX1_near s m args below meth c H locs 0 0 (MQ below (QI D cA A z (wR cA ad X)) args s 0 0 A) (F0 m 47 ls [])
def GX1_near_8 (p : Program) (l : Launch) (e : Env) (s : State) (m : MethodId) (args : Array Value) (below : List Frame) (meth : Method) (c : Code) (D : va_G) (cA : ClassId) (A : Nat → Prop) (ad : Nat → Nat) (X : Nat → VS) (z : Int32) (x : (Int32) × (Int32) × (Int32)) : Prop := ∀ (H : Heap) (locs : List Loc) (ls : Array Slot), Wd D A s.heap (wR cA ad X) H locs → lv_has ls 5 [(0, .ref (ad 0)), (1, .int x.1), (2, .int x.2.1), (3, .int x.2.2)] → W p l e rmX1_near s m args below meth c H locs 0 0 (MQ below (QI D cA A z (wR cA ad X)) args s 0 0 A) (F0 m 8 ls [])
def fX1_near_47 (X : Nat → VS) (k8 : ((Int32) × (Int32) × (Int32)) → Option Int32) : ((Int32) × (Int32) × (Int32)) → Option Int32 := fun x => match x with | (x_1, x_2, x_3) => bn (x_3 + 1) (fun x1 => k8 (x_1, x_2, x1))
def fX1_near_8 (X : Nat → VS) (k8 : ((Int32) × (Int32) × (Int32)) → Option Int32) : ((Int32) × (Int32) × (Int32)) → Option Int32 := fun x => match x with | (x_1, x_2, x_3) => if (X 0 5 0) ≤ x_3 then some x_1 else rd 5 (X 0 6) x_3 (fun r2 => bn (if 0 ≤ (r2 - (10 : Int32)) then (r2 - (10 : Int32)) else 0 - (r2 - (10 : Int32))) (fun x3 => if x_2 ≤ x3 then fX1_near_47 X k8 (x_1, x_2, x_3) else fX1_near_47 X k8 (x_3, x3, x_3)))
def fX1_near (X : Nat → VS) : Option Int32 := lp (fX1_near_8 X) 5000 ((-9), 20, 0)
set_option maxHeartbeats 4000000 in
set_option maxRecDepth 100000 in
theorem kX1_near_47 (C : Cx p s m args meth c cX1_near 5 RX1 D cA g A) (hr : meth.sig.returnType = (some .int)) {z : Int32} (X : Nat → VS) (k8 : ((Int32) × (Int32) × (Int32)) → Option Int32) (hk8 : ∀ x, k8 x = some z → GX1_near_8 p l e s m args below meth c D cA A ad X z x) (x : (Int32) × (Int32) × (Int32)) (h : fX1_near_47 X k8 x = some z) : GX1_near_47 p l e s m args below meth c D cA A ad X z x := by
  obtain ⟨x_1, x_2, x_3⟩ := x
  intro H locs ls hw hl
  have hw : Wd D A s.heap (wR cA ad X) H locs := hw
  have hl : lv_has ls 5 [(0, .ref (ad 0)), (1, .int x_1), (2, .int x_2), (3, .int x_3)] := hl
  have hx := C.1.1
  have hb := C.1.2.1
  have h : (bn (x_3 + 1) (fun x1 => k8 (x_1, x_2, x1))) = some z := h
  obtain ⟨x1, ex1⟩ : ∃ y : Int32, y = x_3 + 1 := ⟨_, rfl⟩
  replace h := bn_some h ex1
  refine lv_iinc (v := x1) (lv' := [(3, .int x1), (0, .ref (ad 0)), (1, .int x_1), (2, .int x_2)]) hx hb dX1_near_47 hl (k := 3) rfl (by rw [ex1]; rfl) (by decide) rfl (fun ls hl => ?_)
  refine lv_goto (tgt := 8) hx hb dX1_near_50 (by decide) ?_
  exact hk8 (x_1, x_2, x1) h _ _ _ hw (lv_sub hl [1, 2, 3, 0] rfl)
set_option maxHeartbeats 4000000 in
set_option maxRecDepth 100000 in
theorem kX1_near_8 (C : Cx p s m args meth c cX1_near 5 RX1 D cA g A) (hr : meth.sig.returnType = (some .int)) {z : Int32} (X : Nat → VS) (k8 : ((Int32) × (Int32) × (Int32)) → Option Int32) (hk8 : ∀ x, k8 x = some z → GX1_near_8 p l e s m args below meth c D cA A ad X z x) (x : (Int32) × (Int32) × (Int32)) (h : fX1_near_8 X k8 x = some z) : GX1_near_8 p l e s m args below meth c D cA A ad X z x := by
  obtain ⟨x_1, x_2, x_3⟩ := x
  intro H locs ls hw hl
  have hw : Wd D A s.heap (wR cA ad X) H locs := hw
  have hl : lv_has ls 5 [(0, .ref (ad 0)), (1, .int x_1), (2, .int x_2), (3, .int x_3)] := hl
  have hx := C.1.1
  have hb := C.1.2.1
  have h : (if (X 0 5 0) ≤ x_3 then some x_1 else rd 5 (X 0 6) x_3 (fun r2 => bn (if 0 ≤ (r2 - (10 : Int32)) then (r2 - (10 : Int32)) else 0 - (r2 - (10 : Int32))) (fun x3 => if x_2 ≤ x3 then fX1_near_47 X k8 (x_1, x_2, x_3) else fX1_near_47 X k8 (x_3, x3, x_3)))) = some z := h
  refine lv_iload_n hx hb dX1_near_8 rfl (lv_at hl 3 rfl) ?_
  refine lv_aload_n hx hb dX1_near_9 rfl (lv_at hl 0 rfl) ?_
  refine tGet (T := TX1) (N := 12) (ci := 1) C hw inX1 0 0 rfl (by decide) kf_RX1_10 rfl rfl rfl dX1_near_10 ?_
  refine tGet (T := TX0) (N := 12) (ci := 0) C hw inX0 5 1 rfl (by decide) kf_RX1_203 rfl rfl rfl dX1_near_13 ?_
  refine lv_icmp_ge (tgt := 53) hx hb dX1_near_16 (by decide) (fun c1 => ?_) (fun c1 => ?_)
  · replace h := (if_pos c1).symm.trans h
    refine lv_iload_n hx hb dX1_near_53 rfl (lv_at hl 1 rfl) ?_
    obtain rfl := some_e h
    exact rtI C hr hw dX1_near_54
  · replace h := (if_neg c1).symm.trans h
    refine lv_aload_n hx hb dX1_near_19 rfl (lv_at hl 0 rfl) ?_
    refine tGet (T := TX1) (N := 12) (ci := 1) C hw inX1 0 0 rfl (by decide) kf_RX1_10 rfl rfl rfl dX1_near_20 ?_
    refine tGet (T := TX0) (N := 12) (ci := 0) C hw inX0 6 1 rfl (by decide) kf_RX1_103 rfl rfl rfl dX1_near_23 ?_
    refine lv_iload_n hx hb dX1_near_26 rfl (lv_at hl 3 rfl) ?_
    obtain ⟨r2, ir2, er2, h⟩ := rd_some h
    refine tLd C hw 5 rfl ir2 er2 dX1_near_27 ?_
    refine lv_bipush (v := 10) hx hb dX1_near_28 (by decide) ?_
    refine lv_isub hx hb dX1_near_30 ?_
    refine va_mabs hx hb (by rw [hl.1]; exact C.1.2.2.1) C.1.2.2.2.1 (C.1.2.2.2.2 _ kl_RX1_206) (C.1.2.2.2.2 _ kt_yJ9_abs_0f7a4) (C.1.2.2.2.2 _ kn_RJ9) (C.1.2.2.2.2 _ kc_yJ9_abs_0f7a4) (Nat.le_of_ble_eq_true rfl) (Nat.le_of_ble_eq_true rfl) (Nat.zero_le _) (Nat.zero_le _) dX1_near_31 ?_
    refine lv_topi (fun x3 ex3 => ?_)
    replace h := bn_some h ex3
    refine lv_istore (lv' := [(4, .int x3), (0, .ref (ad 0)), (1, .int x_1), (2, .int x_2), (3, .int x_3)]) hx hb dX1_near_34 hl (by decide) rfl (fun ls hl => ?_)
    refine lv_iload hx hb dX1_near_36 (lv_at hl 0 rfl) ?_
    refine lv_iload_n hx hb dX1_near_38 rfl (lv_at hl 3 rfl) ?_
    refine lv_icmp_ge (tgt := 47) hx hb dX1_near_39 (by decide) (fun c4 => ?_) (fun c4 => ?_)
    · replace h := (if_pos c4).symm.trans h
      exact kX1_near_47 C hr X k8 hk8 (x_1, x_2, x_3) h _ _ _ hw (lv_sub hl [1, 2, 3, 4] rfl)
    · replace h := (if_neg c4).symm.trans h
      refine lv_iload hx hb dX1_near_42 (lv_at hl 0 rfl) ?_
      refine lv_istore_n (lv' := [(2, .int x3), (4, .int x3), (0, .ref (ad 0)), (1, .int x_1), (3, .int x_3)]) hx hb dX1_near_44 rfl hl (by decide) rfl (fun ls hl => ?_)
      refine lv_iload_n hx hb dX1_near_45 rfl (lv_at hl 4 rfl) ?_
      refine lv_istore_n (lv' := [(1, .int x_3), (2, .int x3), (4, .int x3), (0, .ref (ad 0)), (3, .int x_3)]) hx hb dX1_near_46 rfl hl (by decide) rfl (fun ls hl => ?_)
      exact kX1_near_47 C hr X k8 hk8 (x_3, x3, x_3) h _ _ _ hw (lv_sub hl [3, 0, 1, 4] rfl)
theorem lX1_near_8 (C : Cx p s m args meth c cX1_near 5 RX1 D cA g A) (hr : meth.sig.returnType = (some .int)) {z : Int32} (X : Nat → VS) (n : Nat) (x : (Int32) × (Int32) × (Int32)) (h : lp (fX1_near_8 X) n x = some z) : GX1_near_8 p l e s m args below meth c D cA A ad X z x := lp_ok (GX1_near_8 p l e s m args below meth c D cA A ad X z) (fun kq hkq x h => kX1_near_8 C hr X kq hkq x h) n x h
set_option maxHeartbeats 4000000 in
set_option maxRecDepth 100000 in
theorem kX1_near (ad : Nat → Nat) {X : Nat → VS} {z : Int32} (h : fX1_near X = some z) : MI l D cA g yX1_near (Cond.code yX1_near cX1_near 5 (some .int) :: lw_g) rmX1_near [.ref (ad 0)] (wR cA ad X) z (wR cA ad X) := by
  intro sz
  refine Met.ofW (cc := cX1_near) (maxL := 5) (ret := (some .int)) (by decide) rfl ?_
  intro p e s m args below meth c s₁ B hml hv
  obtain ⟨rfl, C, hr, hw⟩ := ent B hml hv
  generalize va_A (wR cA ad X) sz = A at C hw ⊢
  have hl := lv_entry ([.ref (ad 0)]) (n := 5) (Nat.le_of_ble_eq_true rfl)
  rw [lg_entry_eq]
  generalize (lg_sl ([.ref (ad 0)]) ++ List.replicate (5 - (lg_sl ([.ref (ad 0)])).length) Slot.unset).toArray = ls at hl ⊢
  have hl : lv_has ls 5 [(0, .ref (ad 0))] := hl
  have hx := C.1.1
  have hb := C.1.2.1
  have h : (lp (fX1_near_8 X) 5000 ((-9), 20, 0)) = some z := h
  refine lv_bipush (v := (-9)) hx hb dX1_near_0 (by decide) ?_
  refine lv_istore_n (lv' := [(1, .int (-9)), (0, .ref (ad 0))]) hx hb dX1_near_2 rfl hl (by decide) rfl (fun ls hl => ?_)
  refine lv_bipush (v := 20) hx hb dX1_near_3 (by decide) ?_
  refine lv_istore_n (lv' := [(2, .int 20), (1, .int (-9)), (0, .ref (ad 0))]) hx hb dX1_near_5 rfl hl (by decide) rfl (fun ls hl => ?_)
  refine lv_iconst (v := 0) hx hb dX1_near_6 (by decide) ?_
  refine lv_istore_n (lv' := [(3, .int 0), (2, .int 20), (1, .int (-9)), (0, .ref (ad 0))]) hx hb dX1_near_7 rfl hl (by decide) rfl (fun ls hl => ?_)
  exact lX1_near_8 C hr X 5000 ((-9), 20, 0) h _ _ _ hw (lv_sub hl [3, 2, 1, 0] rfl)
abbrev rmX1_alone : Room := { frames := 1, cells := 0, slots := 0, locals := 23 }
theorem hdX1_alone : yX1_alone.cls = RX1 ∧ yX1_alone.cls ≠ "java/lang/invoke/MethodHandle" ∧ yX1_alone.cls ≠ "java/lang/invoke/VarHandle" ∧ (parseMethodDescriptor yX1_alone.desc).map (fun d => d.parameters.length) = some 0 := by decide +kernel
def GX1_alone_77 (p : Program) (l : Launch) (e : Env) (s : State) (m : MethodId) (args : Array Value) (below : List Frame) (meth : Method) (c : Code) (D : va_G) (cA : ClassId) (A : Nat → Prop) (ad : Nat → Nat) (X : Nat → VS) (z : Int32) (x : (Int32) × (Int32)) : Prop := ∀ (H : Heap) (locs : List Loc) (ls : Array Slot), Wd D A s.heap (wR cA ad X) H locs → lv_has ls 5 [(0, .ref (ad 0)), (1, .int x.1), (2, .int x.2)] → W p l e rmX1_alone s m args below meth c H locs 0 0 (MQ below (QI D cA A z (wR cA ad X)) args s 0 0 A) (F0 m 77 ls [])
def GX1_alone_50 (p : Program) (l : Launch) (e : Env) (s : State) (m : MethodId) (args : Array Value) (below : List Frame) (meth : Method) (c : Code) (D : va_G) (cA : ClassId) (A : Nat → Prop) (ad : Nat → Nat) (X : Nat → VS) (z : Int32) (x : (Int32) × (Int32) × (Int32) × (Int32)) : Prop := ∀ (H : Heap) (locs : List Loc) (ls : Array Slot), Wd D A s.heap (wR cA ad X) H locs → lv_has ls 5 [(0, .ref (ad 0)), (1, .int x.1), (2, .int x.2.1), (3, .int x.2.2.1), (4, .int x.2.2.2)] → W p l e rmX1_alone s m args below meth c H locs 0 0 (MQ below (QI D cA A z (wR cA ad X)) args s 0 0 A) (F0 m 50 ls [])
def GX1_alone_20 (p : Program) (l : Launch) (e : Env) (s : State) (m : MethodId) (args : Array Value) (below : List Frame) (meth : Method) (c : Code) (D : va_G) (cA : ClassId) (A : Nat → Prop) (ad : Nat → Nat) (X : Nat → VS) (z : Int32) (x : (Int32) × (Int32) × (Int32) × (Int32)) : Prop := ∀ (H : Heap) (locs : List Loc) (ls : Array Slot), Wd D A s.heap (wR cA ad X) H locs → lv_has ls 5 [(0, .ref (ad 0)), (1, .int x.1), (2, .int x.2.1), (3, .int x.2.2.1), (4, .int x.2.2.2)] → W p l e rmX1_alone s m args below meth c H locs 0 0 (MQ below (QI D cA A z (wR cA ad X)) args s 0 0 A) (F0 m 20 ls [])
def GX1_alone_4 (p : Program) (l : Launch) (e : Env) (s : State) (m : MethodId) (args : Array Value) (below : List Frame) (meth : Method) (c : Code) (D : va_G) (cA : ClassId) (A : Nat → Prop) (ad : Nat → Nat) (X : Nat → VS) (z : Int32) (x : (Int32) × (Int32)) : Prop := ∀ (H : Heap) (locs : List Loc) (ls : Array Slot), Wd D A s.heap (wR cA ad X) H locs → lv_has ls 5 [(0, .ref (ad 0)), (1, .int x.1), (2, .int x.2)] → W p l e rmX1_alone s m args below meth c H locs 0 0 (MQ below (QI D cA A z (wR cA ad X)) args s 0 0 A) (F0 m 4 ls [])
def fX1_alone_77 (X : Nat → VS) (k4 : ((Int32) × (Int32)) → Option Int32) : ((Int32) × (Int32)) → Option Int32 := fun x => match x with | (x_1, x_2) => bn (x_2 + 1) (fun x1 => k4 (x_1, x1))
def fX1_alone_50 (X : Nat → VS) (k4 : ((Int32) × (Int32)) → Option Int32) (k20 : ((Int32) × (Int32) × (Int32) × (Int32)) → Option Int32) : ((Int32) × (Int32) × (Int32) × (Int32)) → Option Int32 := fun x => match x with | (x_1, x_2, x_3, x_4) => bn (x_4 + 1) (fun x1 => k20 (x_1, x_2, x_3, x1))
def fX1_alone_20 (X : Nat → VS) (k4 : ((Int32) × (Int32)) → Option Int32) (k20 : ((Int32) × (Int32) × (Int32) × (Int32)) → Option Int32) : ((Int32) × (Int32) × (Int32) × (Int32)) → Option Int32 := fun x => match x with | (x_1, x_2, x_3, x_4) => if (X 0 5 0) ≤ x_4 then cl (fX0_wordsOf (X 0) x_2) (fun r2 => if (r2 &&& (x_3 ^^^ (-1 : Int32))) = 0 then fX1_alone_77 X k4 (x_1, x_2) else bn (x_1 ||| ((1 : Int32) <<< (x_2 &&& 31))) (fun x4 => fX1_alone_77 X k4 (x4, x_2))) else if x_4 = x_2 then fX1_alone_50 X k4 k20 (x_1, x_2, x_3, x_4) else cl (fX0_wordsOf (X 0) x_4) (fun r6 => bn (x_3 ||| r6) (fun x7 => fX1_alone_50 X k4 k20 (x_1, x_2, x7, x_4)))
def fX1_alone_4 (X : Nat → VS) (k4 : ((Int32) × (Int32)) → Option Int32) : ((Int32) × (Int32)) → Option Int32 := fun x => match x with | (x_1, x_2) => if (X 0 5 0) ≤ x_2 then some x_1 else lp (fX1_alone_20 X k4) 5000 (x_1, x_2, 0, 0)
def fX1_alone (X : Nat → VS) : Option Int32 := lp (fX1_alone_4 X) 5000 (0, 0)
set_option maxHeartbeats 4000000 in
set_option maxRecDepth 100000 in
theorem kX1_alone_77 (C : Cx p s m args meth c cX1_alone 5 RX1 D cA g A) (hr : meth.sig.returnType = (some .int)) {z : Int32} (X : Nat → VS) (k4 : ((Int32) × (Int32)) → Option Int32) (hk4 : ∀ x, k4 x = some z → GX1_alone_4 p l e s m args below meth c D cA A ad X z x) (x : (Int32) × (Int32)) (h : fX1_alone_77 X k4 x = some z) : GX1_alone_77 p l e s m args below meth c D cA A ad X z x := by
  obtain ⟨x_1, x_2⟩ := x
  intro H locs ls hw hl
  have hw : Wd D A s.heap (wR cA ad X) H locs := hw
  have hl : lv_has ls 5 [(0, .ref (ad 0)), (1, .int x_1), (2, .int x_2)] := hl
  have hx := C.1.1
  have hb := C.1.2.1
  have h : (bn (x_2 + 1) (fun x1 => k4 (x_1, x1))) = some z := h
  obtain ⟨x1, ex1⟩ : ∃ y : Int32, y = x_2 + 1 := ⟨_, rfl⟩
  replace h := bn_some h ex1
  refine lv_iinc (v := x1) (lv' := [(2, .int x1), (0, .ref (ad 0)), (1, .int x_1)]) hx hb dX1_alone_77 hl (k := 2) rfl (by rw [ex1]; rfl) (by decide) rfl (fun ls hl => ?_)
  refine lv_goto (tgt := 4) hx hb dX1_alone_80 (by decide) ?_
  exact hk4 (x_1, x1) h _ _ _ hw (lv_sub hl [1, 2, 0] rfl)
set_option maxHeartbeats 4000000 in
set_option maxRecDepth 100000 in
theorem kX1_alone_50 (C : Cx p s m args meth c cX1_alone 5 RX1 D cA g A) (hr : meth.sig.returnType = (some .int)) {z : Int32} (X : Nat → VS) (k4 : ((Int32) × (Int32)) → Option Int32) (hk4 : ∀ x, k4 x = some z → GX1_alone_4 p l e s m args below meth c D cA A ad X z x) (k20 : ((Int32) × (Int32) × (Int32) × (Int32)) → Option Int32) (hk20 : ∀ x, k20 x = some z → GX1_alone_20 p l e s m args below meth c D cA A ad X z x) (x : (Int32) × (Int32) × (Int32) × (Int32)) (h : fX1_alone_50 X k4 k20 x = some z) : GX1_alone_50 p l e s m args below meth c D cA A ad X z x := by
  obtain ⟨x_1, x_2, x_3, x_4⟩ := x
  intro H locs ls hw hl
  have hw : Wd D A s.heap (wR cA ad X) H locs := hw
  have hl : lv_has ls 5 [(0, .ref (ad 0)), (1, .int x_1), (2, .int x_2), (3, .int x_3), (4, .int x_4)] := hl
  have hx := C.1.1
  have hb := C.1.2.1
  have h : (bn (x_4 + 1) (fun x1 => k20 (x_1, x_2, x_3, x1))) = some z := h
  obtain ⟨x1, ex1⟩ : ∃ y : Int32, y = x_4 + 1 := ⟨_, rfl⟩
  replace h := bn_some h ex1
  refine lv_iinc (v := x1) (lv' := [(4, .int x1), (0, .ref (ad 0)), (1, .int x_1), (2, .int x_2), (3, .int x_3)]) hx hb dX1_alone_50 hl (k := 4) rfl (by rw [ex1]; rfl) (by decide) rfl (fun ls hl => ?_)
  refine lv_goto (tgt := 20) hx hb dX1_alone_53 (by decide) ?_
  exact hk20 (x_1, x_2, x_3, x1) h _ _ _ hw (lv_sub hl [1, 2, 3, 4, 0] rfl)
set_option maxHeartbeats 4000000 in
set_option maxRecDepth 100000 in
theorem kX1_alone_20 (C : Cx p s m args meth c cX1_alone 5 RX1 D cA g A) (hr : meth.sig.returnType = (some .int)) {z : Int32} (X : Nat → VS) (k4 : ((Int32) × (Int32)) → Option Int32) (hk4 : ∀ x, k4 x = some z → GX1_alone_4 p l e s m args below meth c D cA A ad X z x) (k20 : ((Int32) × (Int32) × (Int32) × (Int32)) → Option Int32) (hk20 : ∀ x, k20 x = some z → GX1_alone_20 p l e s m args below meth c D cA A ad X z x) (x : (Int32) × (Int32) × (Int32) × (Int32)) (h : fX1_alone_20 X k4 k20 x = some z) : GX1_alone_20 p l e s m args below meth c D cA A ad X z x := by
  obtain ⟨x_1, x_2, x_3, x_4⟩ := x
  intro H locs ls hw hl
  have hw : Wd D A s.heap (wR cA ad X) H locs := hw
  have hl : lv_has ls 5 [(0, .ref (ad 0)), (1, .int x_1), (2, .int x_2), (3, .int x_3), (4, .int x_4)] := hl
  have hx := C.1.1
  have hb := C.1.2.1
  have h : (if (X 0 5 0) ≤ x_4 then cl (fX0_wordsOf (X 0) x_2) (fun r2 => if (r2 &&& (x_3 ^^^ (-1 : Int32))) = 0 then fX1_alone_77 X k4 (x_1, x_2) else bn (x_1 ||| ((1 : Int32) <<< (x_2 &&& 31))) (fun x4 => fX1_alone_77 X k4 (x4, x_2))) else if x_4 = x_2 then fX1_alone_50 X k4 k20 (x_1, x_2, x_3, x_4) else cl (fX0_wordsOf (X 0) x_4) (fun r6 => bn (x_3 ||| r6) (fun x7 => fX1_alone_50 X k4 k20 (x_1, x_2, x7, x_4)))) = some z := h
  refine lv_iload hx hb dX1_alone_20 (lv_at hl 4 rfl) ?_
  refine lv_aload_n hx hb dX1_alone_22 rfl (lv_at hl 0 rfl) ?_
  refine tGet (T := TX1) (N := 12) (ci := 1) C hw inX1 0 0 rfl (by decide) kf_RX1_10 rfl rfl rfl dX1_alone_23 ?_
  refine tGet (T := TX0) (N := 12) (ci := 0) C hw inX0 5 1 rfl (by decide) kf_RX1_203 rfl rfl rfl dX1_alone_26 ?_
  refine lv_icmp_ge (tgt := 56) hx hb dX1_alone_29 (by decide) (fun c1 => ?_) (fun c1 => ?_)
  · replace h := (if_pos c1).symm.trans h
    refine lv_aload_n hx hb dX1_alone_56 rfl (lv_at hl 0 rfl) ?_
    refine tGet (T := TX1) (N := 12) (ci := 1) C hw inX1 0 0 rfl (by decide) kf_RX1_10 rfl rfl rfl dX1_alone_57 ?_
    refine lv_iload_n hx hb dX1_alone_60 rfl (lv_at hl 2 rfl) ?_
    obtain ⟨r2, hr2, h⟩ := cl_some h
    refine cVi (ws2 := (wR cA ad X)) (As := [.int x_2]) (rest := []) C hw jR0r (kX0_wordsOf (fun k => ad (1 + k)) hr2) kl_RX1_109 ki_yX0_wordsOf ks_yX0_wordsOf kn_RX0 kc_yX0_wordsOf ⟨rfl, rfl⟩ hdX0_wordsOf ⟨Nat.le_of_ble_eq_true rfl, Nat.le_of_ble_eq_true rfl⟩ (ci := 0) (q0 := 0) rfl rfl rfl rfl hl.1 (Nat.le_of_ble_eq_true rfl) dX1_alone_61 ⟨Nat.zero_le _, Nat.zero_le _⟩ (fun H locs hw => ?_)
    refine lv_iload_n hx hb dX1_alone_64 rfl (lv_at hl 3 rfl) ?_
    refine lv_iconst (v := (-1)) hx hb dX1_alone_65 (by decide) ?_
    refine lv_ixor hx hb dX1_alone_66 ?_
    refine lv_iand hx hb dX1_alone_67 ?_
    refine lv_if_eq (tgt := 77) hx hb dX1_alone_68 (by decide) (fun c3 => ?_) (fun c3 => ?_)
    · replace h := (if_pos c3).symm.trans h
      exact kX1_alone_77 C hr X k4 hk4 (x_1, x_2) h _ _ _ hw (lv_sub hl [0, 1, 2] rfl)
    · replace h := (if_neg c3).symm.trans h
      refine lv_iload_n hx hb dX1_alone_71 rfl (lv_at hl 1 rfl) ?_
      refine lv_iconst (v := 1) hx hb dX1_alone_72 (by decide) ?_
      refine lv_iload_n hx hb dX1_alone_73 rfl (lv_at hl 2 rfl) ?_
      refine lv_ishl hx hb dX1_alone_74 ?_
      refine lv_ior hx hb dX1_alone_75 ?_
      refine lv_topi (fun x4 ex4 => ?_)
      replace h := bn_some h ex4
      refine lv_istore_n (lv' := [(1, .int x4), (0, .ref (ad 0)), (2, .int x_2), (3, .int x_3), (4, .int x_4)]) hx hb dX1_alone_76 rfl hl (by decide) rfl (fun ls hl => ?_)
      exact kX1_alone_77 C hr X k4 hk4 (x4, x_2) h _ _ _ hw (lv_sub hl [1, 0, 2] rfl)
  · replace h := (if_neg c1).symm.trans h
    refine lv_iload hx hb dX1_alone_32 (lv_at hl 4 rfl) ?_
    refine lv_iload_n hx hb dX1_alone_34 rfl (lv_at hl 2 rfl) ?_
    refine lv_icmp_eq (tgt := 50) hx hb dX1_alone_35 (by decide) (fun c5 => ?_) (fun c5 => ?_)
    · replace h := (if_pos c5).symm.trans h
      exact kX1_alone_50 C hr X k4 hk4 k20 hk20 (x_1, x_2, x_3, x_4) h _ _ _ hw (lv_sub hl [0, 1, 2, 3, 4] rfl)
    · replace h := (if_neg c5).symm.trans h
      refine lv_iload_n hx hb dX1_alone_38 rfl (lv_at hl 3 rfl) ?_
      refine lv_aload_n hx hb dX1_alone_39 rfl (lv_at hl 0 rfl) ?_
      refine tGet (T := TX1) (N := 12) (ci := 1) C hw inX1 0 0 rfl (by decide) kf_RX1_10 rfl rfl rfl dX1_alone_40 ?_
      refine lv_iload hx hb dX1_alone_43 (lv_at hl 4 rfl) ?_
      obtain ⟨r6, hr6, h⟩ := cl_some h
      refine cVi (ws2 := (wR cA ad X)) (As := [.int x_4]) (rest := [.int x_3]) C hw jR0r (kX0_wordsOf (fun k => ad (1 + k)) hr6) kl_RX1_109 ki_yX0_wordsOf ks_yX0_wordsOf kn_RX0 kc_yX0_wordsOf ⟨rfl, rfl⟩ hdX0_wordsOf ⟨Nat.le_of_ble_eq_true rfl, Nat.le_of_ble_eq_true rfl⟩ (ci := 0) (q0 := 0) rfl rfl rfl rfl hl.1 (Nat.le_of_ble_eq_true rfl) dX1_alone_45 ⟨Nat.zero_le _, Nat.zero_le _⟩ (fun H locs hw => ?_)
      refine lv_ior hx hb dX1_alone_48 ?_
      refine lv_topi (fun x7 ex7 => ?_)
      replace h := bn_some h ex7
      refine lv_istore_n (lv' := [(3, .int x7), (0, .ref (ad 0)), (1, .int x_1), (2, .int x_2), (4, .int x_4)]) hx hb dX1_alone_49 rfl hl (by decide) rfl (fun ls hl => ?_)
      exact kX1_alone_50 C hr X k4 hk4 k20 hk20 (x_1, x_2, x7, x_4) h _ _ _ hw (lv_sub hl [1, 2, 3, 0, 4] rfl)
theorem lX1_alone_20 (C : Cx p s m args meth c cX1_alone 5 RX1 D cA g A) (hr : meth.sig.returnType = (some .int)) {z : Int32} (X : Nat → VS) (k4 : ((Int32) × (Int32)) → Option Int32) (hk4 : ∀ x, k4 x = some z → GX1_alone_4 p l e s m args below meth c D cA A ad X z x) (n : Nat) (x : (Int32) × (Int32) × (Int32) × (Int32)) (h : lp (fX1_alone_20 X k4) n x = some z) : GX1_alone_20 p l e s m args below meth c D cA A ad X z x := lp_ok (GX1_alone_20 p l e s m args below meth c D cA A ad X z) (fun kq hkq x h => kX1_alone_20 C hr X k4 hk4 kq hkq x h) n x h
set_option maxHeartbeats 4000000 in
set_option maxRecDepth 100000 in
theorem kX1_alone_4 (C : Cx p s m args meth c cX1_alone 5 RX1 D cA g A) (hr : meth.sig.returnType = (some .int)) {z : Int32} (X : Nat → VS) (k4 : ((Int32) × (Int32)) → Option Int32) (hk4 : ∀ x, k4 x = some z → GX1_alone_4 p l e s m args below meth c D cA A ad X z x) (x : (Int32) × (Int32)) (h : fX1_alone_4 X k4 x = some z) : GX1_alone_4 p l e s m args below meth c D cA A ad X z x := by
  obtain ⟨x_1, x_2⟩ := x
  intro H locs ls hw hl
  have hw : Wd D A s.heap (wR cA ad X) H locs := hw
  have hl : lv_has ls 5 [(0, .ref (ad 0)), (1, .int x_1), (2, .int x_2)] := hl
  have hx := C.1.1
  have hb := C.1.2.1
  have h : (if (X 0 5 0) ≤ x_2 then some x_1 else lp (fX1_alone_20 X k4) 5000 (x_1, x_2, 0, 0)) = some z := h
  refine lv_iload_n hx hb dX1_alone_4 rfl (lv_at hl 2 rfl) ?_
  refine lv_aload_n hx hb dX1_alone_5 rfl (lv_at hl 0 rfl) ?_
  refine tGet (T := TX1) (N := 12) (ci := 1) C hw inX1 0 0 rfl (by decide) kf_RX1_10 rfl rfl rfl dX1_alone_6 ?_
  refine tGet (T := TX0) (N := 12) (ci := 0) C hw inX0 5 1 rfl (by decide) kf_RX1_203 rfl rfl rfl dX1_alone_9 ?_
  refine lv_icmp_ge (tgt := 83) hx hb dX1_alone_12 (by decide) (fun c1 => ?_) (fun c1 => ?_)
  · replace h := (if_pos c1).symm.trans h
    refine lv_iload_n hx hb dX1_alone_83 rfl (lv_at hl 1 rfl) ?_
    obtain rfl := some_e h
    exact rtI C hr hw dX1_alone_84
  · replace h := (if_neg c1).symm.trans h
    refine lv_iconst (v := 0) hx hb dX1_alone_15 (by decide) ?_
    refine lv_istore_n (lv' := [(3, .int 0), (0, .ref (ad 0)), (1, .int x_1), (2, .int x_2)]) hx hb dX1_alone_16 rfl hl (by decide) rfl (fun ls hl => ?_)
    refine lv_iconst (v := 0) hx hb dX1_alone_17 (by decide) ?_
    refine lv_istore (lv' := [(4, .int 0), (3, .int 0), (0, .ref (ad 0)), (1, .int x_1), (2, .int x_2)]) hx hb dX1_alone_18 hl (by decide) rfl (fun ls hl => ?_)
    exact lX1_alone_20 C hr X k4 hk4 5000 (x_1, x_2, 0, 0) h _ _ _ hw (lv_sub hl [2, 3, 4, 1, 0] rfl)
theorem lX1_alone_4 (C : Cx p s m args meth c cX1_alone 5 RX1 D cA g A) (hr : meth.sig.returnType = (some .int)) {z : Int32} (X : Nat → VS) (n : Nat) (x : (Int32) × (Int32)) (h : lp (fX1_alone_4 X) n x = some z) : GX1_alone_4 p l e s m args below meth c D cA A ad X z x := lp_ok (GX1_alone_4 p l e s m args below meth c D cA A ad X z) (fun kq hkq x h => kX1_alone_4 C hr X kq hkq x h) n x h
set_option maxHeartbeats 4000000 in
set_option maxRecDepth 100000 in
theorem kX1_alone (ad : Nat → Nat) {X : Nat → VS} {z : Int32} (h : fX1_alone X = some z) : MI l D cA g yX1_alone (Cond.code yX1_alone cX1_alone 5 (some .int) :: lw_g) rmX1_alone [.ref (ad 0)] (wR cA ad X) z (wR cA ad X) := by
  intro sz
  refine Met.ofW (cc := cX1_alone) (maxL := 5) (ret := (some .int)) (by decide) rfl ?_
  intro p e s m args below meth c s₁ B hml hv
  obtain ⟨rfl, C, hr, hw⟩ := ent B hml hv
  generalize va_A (wR cA ad X) sz = A at C hw ⊢
  have hl := lv_entry ([.ref (ad 0)]) (n := 5) (Nat.le_of_ble_eq_true rfl)
  rw [lg_entry_eq]
  generalize (lg_sl ([.ref (ad 0)]) ++ List.replicate (5 - (lg_sl ([.ref (ad 0)])).length) Slot.unset).toArray = ls at hl ⊢
  have hl : lv_has ls 5 [(0, .ref (ad 0))] := hl
  have hx := C.1.1
  have hb := C.1.2.1
  have h : (lp (fX1_alone_4 X) 5000 (0, 0)) = some z := h
  refine lv_iconst (v := 0) hx hb dX1_alone_0 (by decide) ?_
  refine lv_istore_n (lv' := [(1, .int 0), (0, .ref (ad 0))]) hx hb dX1_alone_1 rfl hl (by decide) rfl (fun ls hl => ?_)
  refine lv_iconst (v := 0) hx hb dX1_alone_2 (by decide) ?_
  refine lv_istore_n (lv' := [(2, .int 0), (1, .int 0), (0, .ref (ad 0))]) hx hb dX1_alone_3 rfl hl (by decide) rfl (fun ls hl => ?_)
  exact lX1_alone_4 C hr X 5000 (0, 0) h _ _ _ hw (lv_sub hl [2, 1, 0] rfl)
abbrev rmX1_tell : Room := { frames := 1, cells := 0, slots := 0, locals := 23 }
theorem hdX1_tell : yX1_tell.cls = RX1 ∧ yX1_tell.cls ≠ "java/lang/invoke/MethodHandle" ∧ yX1_tell.cls ≠ "java/lang/invoke/VarHandle" ∧ (parseMethodDescriptor yX1_tell.desc).map (fun d => d.parameters.length) = some 0 := by decide +kernel
def GX1_tell_63 (p : Program) (l : Launch) (e : Env) (s : State) (m : MethodId) (args : Array Value) (below : List Frame) (meth : Method) (c : Code) (D : va_G) (cA : ClassId) (A : Nat → Prop) (ad : Nat → Nat) (X : Nat → VS) (z : Int32) (x : (Int32) × (Int32)) : Prop := ∀ (H : Heap) (locs : List Loc) (ls : Array Slot), Wd D A s.heap (wR cA ad X) H locs → lv_has ls 4 [(0, .ref (ad 0)), (1, .int x.1), (2, .int x.2)] → W p l e rmX1_tell s m args below meth c H locs 0 0 (MQ below (QI D cA A z (wR cA ad X)) args s 0 0 A) (F0 m 63 ls [])
def GX1_tell_15 (p : Program) (l : Launch) (e : Env) (s : State) (m : MethodId) (args : Array Value) (below : List Frame) (meth : Method) (c : Code) (D : va_G) (cA : ClassId) (A : Nat → Prop) (ad : Nat → Nat) (X : Nat → VS) (z : Int32) (x : (Int32) × (Int32)) : Prop := ∀ (H : Heap) (locs : List Loc) (ls : Array Slot), Wd D A s.heap (wR cA ad X) H locs → lv_has ls 4 [(0, .ref (ad 0)), (1, .int x.1), (2, .int x.2)] → W p l e rmX1_tell s m args below meth c H locs 0 0 (MQ below (QI D cA A z (wR cA ad X)) args s 0 0 A) (F0 m 15 ls [])
def GX1_tell_2 (p : Program) (l : Launch) (e : Env) (s : State) (m : MethodId) (args : Array Value) (below : List Frame) (meth : Method) (c : Code) (D : va_G) (cA : ClassId) (A : Nat → Prop) (ad : Nat → Nat) (X : Nat → VS) (z : Int32) (x : (Int32)) : Prop := ∀ (H : Heap) (locs : List Loc) (ls : Array Slot), Wd D A s.heap (wR cA ad X) H locs → lv_has ls 4 [(0, .ref (ad 0)), (1, .int x)] → W p l e rmX1_tell s m args below meth c H locs 0 0 (MQ below (QI D cA A z (wR cA ad X)) args s 0 0 A) (F0 m 2 ls [])
def fX1_tell_63 (X : Nat → VS) (k2 : ((Int32)) → Option Int32) (k15 : ((Int32) × (Int32)) → Option Int32) : ((Int32) × (Int32)) → Option Int32 := fun x => match x with | (x_1, x_2) => bn (x_2 + 1) (fun x1 => k15 (x_1, x1))
def fX1_tell_15 (X : Nat → VS) (k2 : ((Int32)) → Option Int32) (k15 : ((Int32) × (Int32)) → Option Int32) : ((Int32) × (Int32)) → Option Int32 := fun x => match x with | (x_1, x_2) => if (X 0 5 0) ≤ x_2 then bn (x_1 + 1) (fun x2 => k2 x2) else cl (fX0_wordsOf (X 0) x_2) (fun r3 => if r3 = 63 then fX1_tell_63 X k2 k15 (x_1, x_2) else cl (fX0_wordsOf (X 0) x_1) (fun r5 => if (r3 ||| r5) = 63 then some (((10 : Int32) * x_1) + x_2) else fX1_tell_63 X k2 k15 (x_1, x_2)))
def fX1_tell_2 (X : Nat → VS) (k2 : ((Int32)) → Option Int32) : ((Int32)) → Option Int32 := fun x_1 => if (X 0 5 0) ≤ x_1 then some (-9) else lp (fX1_tell_15 X k2) 5000 (x_1, 0)
def fX1_tell (X : Nat → VS) : Option Int32 := lp (fX1_tell_2 X) 5000 0
set_option maxHeartbeats 4000000 in
set_option maxRecDepth 100000 in
theorem kX1_tell_63 (C : Cx p s m args meth c cX1_tell 4 RX1 D cA g A) (hr : meth.sig.returnType = (some .int)) {z : Int32} (X : Nat → VS) (k2 : ((Int32)) → Option Int32) (hk2 : ∀ x, k2 x = some z → GX1_tell_2 p l e s m args below meth c D cA A ad X z x) (k15 : ((Int32) × (Int32)) → Option Int32) (hk15 : ∀ x, k15 x = some z → GX1_tell_15 p l e s m args below meth c D cA A ad X z x) (x : (Int32) × (Int32)) (h : fX1_tell_63 X k2 k15 x = some z) : GX1_tell_63 p l e s m args below meth c D cA A ad X z x := by
  obtain ⟨x_1, x_2⟩ := x
  intro H locs ls hw hl
  have hw : Wd D A s.heap (wR cA ad X) H locs := hw
  have hl : lv_has ls 4 [(0, .ref (ad 0)), (1, .int x_1), (2, .int x_2)] := hl
  have hx := C.1.1
  have hb := C.1.2.1
  have h : (bn (x_2 + 1) (fun x1 => k15 (x_1, x1))) = some z := h
  obtain ⟨x1, ex1⟩ : ∃ y : Int32, y = x_2 + 1 := ⟨_, rfl⟩
  replace h := bn_some h ex1
  refine lv_iinc (v := x1) (lv' := [(2, .int x1), (0, .ref (ad 0)), (1, .int x_1)]) hx hb dX1_tell_63 hl (k := 2) rfl (by rw [ex1]; rfl) (by decide) rfl (fun ls hl => ?_)
  refine lv_goto (tgt := 15) hx hb dX1_tell_66 (by decide) ?_
  exact hk15 (x_1, x1) h _ _ _ hw (lv_sub hl [1, 2, 0] rfl)
set_option maxHeartbeats 4000000 in
set_option maxRecDepth 100000 in
theorem kX1_tell_15 (C : Cx p s m args meth c cX1_tell 4 RX1 D cA g A) (hr : meth.sig.returnType = (some .int)) {z : Int32} (X : Nat → VS) (k2 : ((Int32)) → Option Int32) (hk2 : ∀ x, k2 x = some z → GX1_tell_2 p l e s m args below meth c D cA A ad X z x) (k15 : ((Int32) × (Int32)) → Option Int32) (hk15 : ∀ x, k15 x = some z → GX1_tell_15 p l e s m args below meth c D cA A ad X z x) (x : (Int32) × (Int32)) (h : fX1_tell_15 X k2 k15 x = some z) : GX1_tell_15 p l e s m args below meth c D cA A ad X z x := by
  obtain ⟨x_1, x_2⟩ := x
  intro H locs ls hw hl
  have hw : Wd D A s.heap (wR cA ad X) H locs := hw
  have hl : lv_has ls 4 [(0, .ref (ad 0)), (1, .int x_1), (2, .int x_2)] := hl
  have hx := C.1.1
  have hb := C.1.2.1
  have h : (if (X 0 5 0) ≤ x_2 then bn (x_1 + 1) (fun x2 => k2 x2) else cl (fX0_wordsOf (X 0) x_2) (fun r3 => if r3 = 63 then fX1_tell_63 X k2 k15 (x_1, x_2) else cl (fX0_wordsOf (X 0) x_1) (fun r5 => if (r3 ||| r5) = 63 then some (((10 : Int32) * x_1) + x_2) else fX1_tell_63 X k2 k15 (x_1, x_2)))) = some z := h
  refine lv_iload_n hx hb dX1_tell_15 rfl (lv_at hl 2 rfl) ?_
  refine lv_aload_n hx hb dX1_tell_16 rfl (lv_at hl 0 rfl) ?_
  refine tGet (T := TX1) (N := 12) (ci := 1) C hw inX1 0 0 rfl (by decide) kf_RX1_10 rfl rfl rfl dX1_tell_17 ?_
  refine tGet (T := TX0) (N := 12) (ci := 0) C hw inX0 5 1 rfl (by decide) kf_RX1_203 rfl rfl rfl dX1_tell_20 ?_
  refine lv_icmp_ge (tgt := 69) hx hb dX1_tell_23 (by decide) (fun c1 => ?_) (fun c1 => ?_)
  · replace h := (if_pos c1).symm.trans h
    obtain ⟨x2, ex2⟩ : ∃ y : Int32, y = x_1 + 1 := ⟨_, rfl⟩
    replace h := bn_some h ex2
    refine lv_iinc (v := x2) (lv' := [(1, .int x2), (0, .ref (ad 0)), (2, .int x_2)]) hx hb dX1_tell_69 hl (k := 1) rfl (by rw [ex2]; rfl) (by decide) rfl (fun ls hl => ?_)
    refine lv_goto (tgt := 2) hx hb dX1_tell_72 (by decide) ?_
    exact hk2 x2 h _ _ _ hw (lv_sub hl [1, 0] rfl)
  · replace h := (if_neg c1).symm.trans h
    refine lv_aload_n hx hb dX1_tell_26 rfl (lv_at hl 0 rfl) ?_
    refine tGet (T := TX1) (N := 12) (ci := 1) C hw inX1 0 0 rfl (by decide) kf_RX1_10 rfl rfl rfl dX1_tell_27 ?_
    refine lv_iload_n hx hb dX1_tell_30 rfl (lv_at hl 2 rfl) ?_
    obtain ⟨r3, hr3, h⟩ := cl_some h
    refine cVi (ws2 := (wR cA ad X)) (As := [.int x_2]) (rest := []) C hw jR0r (kX0_wordsOf (fun k => ad (1 + k)) hr3) kl_RX1_109 ki_yX0_wordsOf ks_yX0_wordsOf kn_RX0 kc_yX0_wordsOf ⟨rfl, rfl⟩ hdX0_wordsOf ⟨Nat.le_of_ble_eq_true rfl, Nat.le_of_ble_eq_true rfl⟩ (ci := 0) (q0 := 0) rfl rfl rfl rfl hl.1 (Nat.le_of_ble_eq_true rfl) dX1_tell_31 ⟨Nat.zero_le _, Nat.zero_le _⟩ (fun H locs hw => ?_)
    refine lv_istore_n (lv' := [(3, .int r3), (0, .ref (ad 0)), (1, .int x_1), (2, .int x_2)]) hx hb dX1_tell_34 rfl hl (by decide) rfl (fun ls hl => ?_)
    refine lv_iload_n hx hb dX1_tell_35 rfl (lv_at hl 0 rfl) ?_
    refine lv_bipush (v := 63) hx hb dX1_tell_36 (by decide) ?_
    refine lv_icmp_eq (tgt := 63) hx hb dX1_tell_38 (by decide) (fun c4 => ?_) (fun c4 => ?_)
    · replace h := (if_pos c4).symm.trans h
      exact kX1_tell_63 C hr X k2 hk2 k15 hk15 (x_1, x_2) h _ _ _ hw (lv_sub hl [1, 2, 3] rfl)
    · replace h := (if_neg c4).symm.trans h
      refine lv_iload_n hx hb dX1_tell_41 rfl (lv_at hl 0 rfl) ?_
      refine lv_aload_n hx hb dX1_tell_42 rfl (lv_at hl 1 rfl) ?_
      refine tGet (T := TX1) (N := 12) (ci := 1) C hw inX1 0 0 rfl (by decide) kf_RX1_10 rfl rfl rfl dX1_tell_43 ?_
      refine lv_iload_n hx hb dX1_tell_46 rfl (lv_at hl 2 rfl) ?_
      obtain ⟨r5, hr5, h⟩ := cl_some h
      refine cVi (ws2 := (wR cA ad X)) (As := [.int x_1]) (rest := [.int r3]) C hw jR0r (kX0_wordsOf (fun k => ad (1 + k)) hr5) kl_RX1_109 ki_yX0_wordsOf ks_yX0_wordsOf kn_RX0 kc_yX0_wordsOf ⟨rfl, rfl⟩ hdX0_wordsOf ⟨Nat.le_of_ble_eq_true rfl, Nat.le_of_ble_eq_true rfl⟩ (ci := 0) (q0 := 0) rfl rfl rfl rfl hl.1 (Nat.le_of_ble_eq_true rfl) dX1_tell_47 ⟨Nat.zero_le _, Nat.zero_le _⟩ (fun H locs hw => ?_)
      refine lv_ior hx hb dX1_tell_50 ?_
      refine lv_bipush (v := 63) hx hb dX1_tell_51 (by decide) ?_
      refine lv_icmp_ne (tgt := 63) hx hb dX1_tell_53 (by decide) (fun c6 => ?_) (fun c6 => ?_)
      · replace h := (if_neg c6).symm.trans h
        exact kX1_tell_63 C hr X k2 hk2 k15 hk15 (x_1, x_2) h _ _ _ hw (lv_sub hl [1, 2, 3] rfl)
      · replace h := (if_pos c6).symm.trans h
        refine lv_bipush (v := 10) hx hb dX1_tell_56 (by decide) ?_
        refine lv_iload_n hx hb dX1_tell_58 rfl (lv_at hl 2 rfl) ?_
        refine lv_imul hx hb dX1_tell_59 ?_
        refine lv_iload_n hx hb dX1_tell_60 rfl (lv_at hl 3 rfl) ?_
        refine lv_iadd hx hb dX1_tell_61 ?_
        obtain rfl := some_e h
        exact rtI C hr hw dX1_tell_62
theorem lX1_tell_15 (C : Cx p s m args meth c cX1_tell 4 RX1 D cA g A) (hr : meth.sig.returnType = (some .int)) {z : Int32} (X : Nat → VS) (k2 : ((Int32)) → Option Int32) (hk2 : ∀ x, k2 x = some z → GX1_tell_2 p l e s m args below meth c D cA A ad X z x) (n : Nat) (x : (Int32) × (Int32)) (h : lp (fX1_tell_15 X k2) n x = some z) : GX1_tell_15 p l e s m args below meth c D cA A ad X z x := lp_ok (GX1_tell_15 p l e s m args below meth c D cA A ad X z) (fun kq hkq x h => kX1_tell_15 C hr X k2 hk2 kq hkq x h) n x h
set_option maxHeartbeats 4000000 in
set_option maxRecDepth 100000 in
theorem kX1_tell_2 (C : Cx p s m args meth c cX1_tell 4 RX1 D cA g A) (hr : meth.sig.returnType = (some .int)) {z : Int32} (X : Nat → VS) (k2 : ((Int32)) → Option Int32) (hk2 : ∀ x, k2 x = some z → GX1_tell_2 p l e s m args below meth c D cA A ad X z x) (x : (Int32)) (h : fX1_tell_2 X k2 x = some z) : GX1_tell_2 p l e s m args below meth c D cA A ad X z x := by
  obtain ⟨x_1, rfl⟩ : ∃ y, y = x := ⟨_, rfl⟩
  intro H locs ls hw hl
  have hw : Wd D A s.heap (wR cA ad X) H locs := hw
  have hl : lv_has ls 4 [(0, .ref (ad 0)), (1, .int x_1)] := hl
  have hx := C.1.1
  have hb := C.1.2.1
  have h : (if (X 0 5 0) ≤ x_1 then some (-9) else lp (fX1_tell_15 X k2) 5000 (x_1, 0)) = some z := h
  refine lv_iload_n hx hb dX1_tell_2 rfl (lv_at hl 1 rfl) ?_
  refine lv_aload_n hx hb dX1_tell_3 rfl (lv_at hl 0 rfl) ?_
  refine tGet (T := TX1) (N := 12) (ci := 1) C hw inX1 0 0 rfl (by decide) kf_RX1_10 rfl rfl rfl dX1_tell_4 ?_
  refine tGet (T := TX0) (N := 12) (ci := 0) C hw inX0 5 1 rfl (by decide) kf_RX1_203 rfl rfl rfl dX1_tell_7 ?_
  refine lv_icmp_ge (tgt := 75) hx hb dX1_tell_10 (by decide) (fun c1 => ?_) (fun c1 => ?_)
  · replace h := (if_pos c1).symm.trans h
    refine lv_bipush (v := (-9)) hx hb dX1_tell_75 (by decide) ?_
    obtain rfl := some_e h
    exact rtI C hr hw dX1_tell_77
  · replace h := (if_neg c1).symm.trans h
    refine lv_iconst (v := 0) hx hb dX1_tell_13 (by decide) ?_
    refine lv_istore_n (lv' := [(2, .int 0), (0, .ref (ad 0)), (1, .int x_1)]) hx hb dX1_tell_14 rfl hl (by decide) rfl (fun ls hl => ?_)
    exact lX1_tell_15 C hr X k2 hk2 5000 (x_1, 0) h _ _ _ hw (lv_sub hl [1, 2, 0] rfl)
theorem lX1_tell_2 (C : Cx p s m args meth c cX1_tell 4 RX1 D cA g A) (hr : meth.sig.returnType = (some .int)) {z : Int32} (X : Nat → VS) (n : Nat) (x : (Int32)) (h : lp (fX1_tell_2 X) n x = some z) : GX1_tell_2 p l e s m args below meth c D cA A ad X z x := lp_ok (GX1_tell_2 p l e s m args below meth c D cA A ad X z) (fun kq hkq x h => kX1_tell_2 C hr X kq hkq x h) n x h
set_option maxHeartbeats 4000000 in
set_option maxRecDepth 100000 in
theorem kX1_tell (ad : Nat → Nat) {X : Nat → VS} {z : Int32} (h : fX1_tell X = some z) : MI l D cA g yX1_tell (Cond.code yX1_tell cX1_tell 4 (some .int) :: lw_g) rmX1_tell [.ref (ad 0)] (wR cA ad X) z (wR cA ad X) := by
  intro sz
  refine Met.ofW (cc := cX1_tell) (maxL := 4) (ret := (some .int)) (by decide) rfl ?_
  intro p e s m args below meth c s₁ B hml hv
  obtain ⟨rfl, C, hr, hw⟩ := ent B hml hv
  generalize va_A (wR cA ad X) sz = A at C hw ⊢
  have hl := lv_entry ([.ref (ad 0)]) (n := 4) (Nat.le_of_ble_eq_true rfl)
  rw [lg_entry_eq]
  generalize (lg_sl ([.ref (ad 0)]) ++ List.replicate (4 - (lg_sl ([.ref (ad 0)])).length) Slot.unset).toArray = ls at hl ⊢
  have hl : lv_has ls 4 [(0, .ref (ad 0))] := hl
  have hx := C.1.1
  have hb := C.1.2.1
  have h : (lp (fX1_tell_2 X) 5000 0) = some z := h
  refine lv_iconst (v := 0) hx hb dX1_tell_0 (by decide) ?_
  refine lv_istore_n (lv' := [(1, .int 0), (0, .ref (ad 0))]) hx hb dX1_tell_1 rfl hl (by decide) rfl (fun ls hl => ?_)
  exact lX1_tell_2 C hr X 5000 0 h _ _ _ hw (lv_sub hl [1, 0] rfl)
abbrev rmX1_gain : Room := { frames := 2, cells := 0, slots := 0, locals := 44 }
theorem hdX1_gain : yX1_gain.cls = RX1 ∧ yX1_gain.cls ≠ "java/lang/invoke/MethodHandle" ∧ yX1_gain.cls ≠ "java/lang/invoke/VarHandle" ∧ (parseMethodDescriptor yX1_gain.desc).map (fun d => d.parameters.length) = some 2 := by decide +kernel
def fX1_gain (X : Nat → VS) (a_1 : Int32) (a_2 : Int32) : Option Int32 := cl (fX0_wordsOf (X 1) a_1) (fun r1 => cl (fJ6_bitCount_0f7a4 r1) (fun r2 => cl (fX0_isWhole (X 1) a_1) (fun r3 => if r3 = 0 then some r2 else cl (fX0_isWhole (X 1) a_2) (fun r5 => if r5 = 0 then some (r2 + (3 : Int32)) else some r2))))
set_option maxHeartbeats 4000000 in
set_option maxRecDepth 100000 in
theorem kX1_gain (ad : Nat → Nat) {X : Nat → VS} {a_1 : Int32} {a_2 : Int32} {z : Int32} (h : fX1_gain X a_1 a_2 = some z) : MI l D cA g yX1_gain (Cond.code yX1_gain cX1_gain 4 (some .int) :: lw_g) rmX1_gain [.ref (ad 0), .int a_1, .int a_2] (wR cA ad X) z (wR cA ad X) := by
  intro sz
  refine Met.ofW (cc := cX1_gain) (maxL := 4) (ret := (some .int)) (by decide) rfl ?_
  intro p e s m args below meth c s₁ B hml hv
  obtain ⟨rfl, C, hr, hw⟩ := ent B hml hv
  generalize va_A (wR cA ad X) sz = A at C hw ⊢
  have hl := lv_entry ([.ref (ad 0), .int a_1, .int a_2]) (n := 4) (Nat.le_of_ble_eq_true rfl)
  rw [lg_entry_eq]
  generalize (lg_sl ([.ref (ad 0), .int a_1, .int a_2]) ++ List.replicate (4 - (lg_sl ([.ref (ad 0), .int a_1, .int a_2])).length) Slot.unset).toArray = ls at hl ⊢
  have hl : lv_has ls 4 [(0, .ref (ad 0)), (1, .int a_1), (2, .int a_2)] := hl
  have hx := C.1.1
  have hb := C.1.2.1
  have h : (cl (fX0_wordsOf (X 1) a_1) (fun r1 => cl (fJ6_bitCount_0f7a4 r1) (fun r2 => cl (fX0_isWhole (X 1) a_1) (fun r3 => if r3 = 0 then some r2 else cl (fX0_isWhole (X 1) a_2) (fun r5 => if r5 = 0 then some (r2 + (3 : Int32)) else some r2))))) = some z := h
  refine lv_aload_n hx hb dX1_gain_0 rfl (lv_at hl 0 rfl) ?_
  refine tGet (T := TX1) (N := 12) (ci := 1) C hw inX1 1 0 rfl (by decide) kf_RX1_16 rfl rfl rfl dX1_gain_1 ?_
  refine lv_iload_n hx hb dX1_gain_4 rfl (lv_at hl 1 rfl) ?_
  obtain ⟨r1, hr1, h⟩ := cl_some h
  refine cVi (ws2 := (wR cA ad X)) (As := [.int a_1]) (rest := []) C hw jR1r (kX0_wordsOf (fun k => ad (8 + k)) hr1) kl_RX1_109 ki_yX0_wordsOf ks_yX0_wordsOf kn_RX0 kc_yX0_wordsOf ⟨rfl, rfl⟩ hdX0_wordsOf ⟨Nat.le_of_ble_eq_true rfl, Nat.le_of_ble_eq_true rfl⟩ (ci := 0) (q0 := 0) rfl rfl rfl rfl hl.1 (Nat.le_of_ble_eq_true rfl) dX1_gain_5 ⟨Nat.zero_le _, Nat.zero_le _⟩ (fun H locs hw => ?_)
  obtain ⟨r2, hr2, h⟩ := cl_some h
  refine cSi (ws2 := (wR cA ad X)) (As := [.int r1]) (rest := []) C hw jnE (kJ6_bitCount_0f7a4 hr2) kl_RX1_135 kt_yJ6_bitCount_0f7a4 kn_RJ6 kc_yJ6_bitCount_0f7a4 ⟨rfl, rfl⟩ hdJ6_bitCount_0f7a4 ⟨Nat.le_of_ble_eq_true rfl, Nat.le_of_ble_eq_true rfl⟩ rfl hl.1 (Nat.le_of_ble_eq_true rfl) dX1_gain_8 ⟨Nat.zero_le _, Nat.zero_le _⟩ (fun H locs hw => ?_)
  refine lv_istore_n (lv' := [(3, .int r2), (0, .ref (ad 0)), (1, .int a_1), (2, .int a_2)]) hx hb dX1_gain_11 rfl hl (by decide) rfl (fun ls hl => ?_)
  refine lv_aload_n hx hb dX1_gain_12 rfl (lv_at hl 1 rfl) ?_
  refine tGet (T := TX1) (N := 12) (ci := 1) C hw inX1 1 0 rfl (by decide) kf_RX1_16 rfl rfl rfl dX1_gain_13 ?_
  refine lv_iload_n hx hb dX1_gain_16 rfl (lv_at hl 2 rfl) ?_
  obtain ⟨r3, hr3, h⟩ := cl_some h
  refine cVi (ws2 := (wR cA ad X)) (As := [.int a_1]) (rest := []) C hw jR1r (kX0_isWhole (fun k => ad (8 + k)) hr3) kl_RX1_288 ki_yX0_isWhole ks_yX0_isWhole kn_RX0 kc_yX0_isWhole ⟨rfl, rfl⟩ hdX0_isWhole ⟨Nat.le_of_ble_eq_true rfl, Nat.le_of_ble_eq_true rfl⟩ (ci := 0) (q0 := 0) rfl rfl rfl rfl hl.1 (Nat.le_of_ble_eq_true rfl) dX1_gain_17 ⟨Nat.zero_le _, Nat.zero_le _⟩ (fun H locs hw => ?_)
  refine lv_if_eq (tgt := 40) hx hb dX1_gain_20 (by decide) (fun c4 => ?_) (fun c4 => ?_)
  · replace h := (if_pos c4).symm.trans h
    refine lv_iload_n hx hb dX1_gain_40 rfl (lv_at hl 0 rfl) ?_
    obtain rfl := some_e h
    exact rtI C hr hw dX1_gain_41
  · replace h := (if_neg c4).symm.trans h
    refine lv_aload_n hx hb dX1_gain_23 rfl (lv_at hl 1 rfl) ?_
    refine tGet (T := TX1) (N := 12) (ci := 1) C hw inX1 1 0 rfl (by decide) kf_RX1_16 rfl rfl rfl dX1_gain_24 ?_
    refine lv_iload_n hx hb dX1_gain_27 rfl (lv_at hl 3 rfl) ?_
    obtain ⟨r5, hr5, h⟩ := cl_some h
    refine cVi (ws2 := (wR cA ad X)) (As := [.int a_2]) (rest := []) C hw jR1r (kX0_isWhole (fun k => ad (8 + k)) hr5) kl_RX1_288 ki_yX0_isWhole ks_yX0_isWhole kn_RX0 kc_yX0_isWhole ⟨rfl, rfl⟩ hdX0_isWhole ⟨Nat.le_of_ble_eq_true rfl, Nat.le_of_ble_eq_true rfl⟩ (ci := 0) (q0 := 0) rfl rfl rfl rfl hl.1 (Nat.le_of_ble_eq_true rfl) dX1_gain_28 ⟨Nat.zero_le _, Nat.zero_le _⟩ (fun H locs hw => ?_)
    refine lv_if_ne (tgt := 40) hx hb dX1_gain_31 (by decide) (fun c6 => ?_) (fun c6 => ?_)
    · replace h := (if_neg c6).symm.trans h
      refine lv_iload_n hx hb dX1_gain_40 rfl (lv_at hl 0 rfl) ?_
      obtain rfl := some_e h
      exact rtI C hr hw dX1_gain_41
    · replace h := (if_pos c6).symm.trans h
      refine lv_iload_n hx hb dX1_gain_34 rfl (lv_at hl 0 rfl) ?_
      refine lv_iconst (v := 3) hx hb dX1_gain_35 (by decide) ?_
      refine lv_iadd hx hb dX1_gain_36 ?_
      refine lv_goto (tgt := 41) hx hb dX1_gain_37 (by decide) ?_
      obtain rfl := some_e h
      exact rtI C hr hw dX1_gain_41
abbrev rmX1_noteWhatPairGets : Room := { frames := 4, cells := 0, slots := 0, locals := 100 }
theorem hdX1_noteWhatPairGets : yX1_noteWhatPairGets.cls = RX1 ∧ yX1_noteWhatPairGets.cls ≠ "java/lang/invoke/MethodHandle" ∧ yX1_noteWhatPairGets.cls ≠ "java/lang/invoke/VarHandle" ∧ (parseMethodDescriptor yX1_noteWhatPairGets.desc).map (fun d => d.parameters.length) = some 4 := by decide +kernel
def fX1_noteWhatPairGets (X : Nat → VS) (a_1 : Int32) (a_2 : Int32) (a_3 : Int32) (a_4 : Int32) : Option (Nat → VS) := bn (a_4 >>> ((1 : Int32) &&& 31)) (fun x1 => bn (a_4 &&& (1 : Int32)) (fun x2 => bn ((((1 : Int32) - x1) <<< (a_1 &&& 31)) ||| (((1 : Int32) - x2) <<< (a_2 &&& 31))) (fun x3 => cl (fX0_copyFrom (X 1) (X 0)) (fun w4 => bn (up X 1 w4) (fun w5 => cl (fX0_passNights (w5 1) a_3 ((31 : Int32) &&& (x3 ^^^ (-1 : Int32)))) (fun w6 => bn (up w5 1 w6) (fun w7 => cl (fX1_gain w7 a_1 a_2) (fun r8 => ck 4 a_4 (bn (up w7 3 (up (w7 3) 10 (upd (w7 3 10) (a_4 : Int32).toNatClampNeg (r8 - x1)))) (fun w9 => cl (fX1_gain w9 a_2 a_1) (fun r10 => ck 4 a_4 (bn (up w9 3 (up (w9 3) 11 (upd (w9 3 11) (a_4 : Int32).toNatClampNeg (r10 - x2)))) (fun w11 => some w11)))))))))))))
set_option maxHeartbeats 4000000 in
set_option maxRecDepth 100000 in
theorem kX1_noteWhatPairGets (ad : Nat → Nat) {X : Nat → VS} {a_1 : Int32} {a_2 : Int32} {a_3 : Int32} {a_4 : Int32} {z : (Nat → VS)} (h : fX1_noteWhatPairGets X a_1 a_2 a_3 a_4 = some z) : MV l D cA g yX1_noteWhatPairGets (Cond.code yX1_noteWhatPairGets cX1_noteWhatPairGets 8 none :: lw_g) rmX1_noteWhatPairGets [.ref (ad 0), .int a_1, .int a_2, .int a_3, .int a_4] (wR cA ad X) (wR cA ad z) := by
  intro sz
  refine Met.ofW (cc := cX1_noteWhatPairGets) (maxL := 8) (ret := none) (by decide) rfl ?_
  intro p e s m args below meth c s₁ B hml hv
  obtain ⟨rfl, C, hr, hw⟩ := ent B hml hv
  generalize va_A (wR cA ad X) sz = A at C hw ⊢
  have hl := lv_entry ([.ref (ad 0), .int a_1, .int a_2, .int a_3, .int a_4]) (n := 8) (Nat.le_of_ble_eq_true rfl)
  rw [lg_entry_eq]
  generalize (lg_sl ([.ref (ad 0), .int a_1, .int a_2, .int a_3, .int a_4]) ++ List.replicate (8 - (lg_sl ([.ref (ad 0), .int a_1, .int a_2, .int a_3, .int a_4])).length) Slot.unset).toArray = ls at hl ⊢
  have hl : lv_has ls 8 [(0, .ref (ad 0)), (1, .int a_1), (2, .int a_2), (3, .int a_3), (4, .int a_4)] := hl
  have hx := C.1.1
  have hb := C.1.2.1
  have h : (bn (a_4 >>> ((1 : Int32) &&& 31)) (fun x1 => bn (a_4 &&& (1 : Int32)) (fun x2 => bn ((((1 : Int32) - x1) <<< (a_1 &&& 31)) ||| (((1 : Int32) - x2) <<< (a_2 &&& 31))) (fun x3 => cl (fX0_copyFrom (X 1) (X 0)) (fun w4 => bn (up X 1 w4) (fun w5 => cl (fX0_passNights (w5 1) a_3 ((31 : Int32) &&& (x3 ^^^ (-1 : Int32)))) (fun w6 => bn (up w5 1 w6) (fun w7 => cl (fX1_gain w7 a_1 a_2) (fun r8 => ck 4 a_4 (bn (up w7 3 (up (w7 3) 10 (upd (w7 3 10) (a_4 : Int32).toNatClampNeg (r8 - x1)))) (fun w9 => cl (fX1_gain w9 a_2 a_1) (fun r10 => ck 4 a_4 (bn (up w9 3 (up (w9 3) 11 (upd (w9 3 11) (a_4 : Int32).toNatClampNeg (r10 - x2)))) (fun w11 => some w11)))))))))))))) = some z := h
  refine lv_iload hx hb dX1_noteWhatPairGets_0 (lv_at hl 4 rfl) ?_
  refine lv_iconst (v := 1) hx hb dX1_noteWhatPairGets_2 (by decide) ?_
  refine lv_ishr hx hb dX1_noteWhatPairGets_3 ?_
  refine lv_topi (fun x1 ex1 => ?_)
  replace h := bn_some h ex1
  refine lv_istore (lv' := [(5, .int x1), (0, .ref (ad 0)), (1, .int a_1), (2, .int a_2), (3, .int a_3), (4, .int a_4)]) hx hb dX1_noteWhatPairGets_4 hl (by decide) rfl (fun ls hl => ?_)
  refine lv_iload hx hb dX1_noteWhatPairGets_6 (lv_at hl 5 rfl) ?_
  refine lv_iconst (v := 1) hx hb dX1_noteWhatPairGets_8 (by decide) ?_
  refine lv_iand hx hb dX1_noteWhatPairGets_9 ?_
  refine lv_topi (fun x2 ex2 => ?_)
  replace h := bn_some h ex2
  refine lv_istore (lv' := [(6, .int x2), (5, .int x1), (0, .ref (ad 0)), (1, .int a_1), (2, .int a_2), (3, .int a_3), (4, .int a_4)]) hx hb dX1_noteWhatPairGets_10 hl (by decide) rfl (fun ls hl => ?_)
  refine lv_iconst (v := 1) hx hb dX1_noteWhatPairGets_12 (by decide) ?_
  refine lv_iload hx hb dX1_noteWhatPairGets_13 (lv_at hl 1 rfl) ?_
  refine lv_isub hx hb dX1_noteWhatPairGets_15 ?_
  refine lv_iload_n hx hb dX1_noteWhatPairGets_16 rfl (lv_at hl 3 rfl) ?_
  refine lv_ishl hx hb dX1_noteWhatPairGets_17 ?_
  refine lv_iconst (v := 1) hx hb dX1_noteWhatPairGets_18 (by decide) ?_
  refine lv_iload hx hb dX1_noteWhatPairGets_19 (lv_at hl 0 rfl) ?_
  refine lv_isub hx hb dX1_noteWhatPairGets_21 ?_
  refine lv_iload_n hx hb dX1_noteWhatPairGets_22 rfl (lv_at hl 4 rfl) ?_
  refine lv_ishl hx hb dX1_noteWhatPairGets_23 ?_
  refine lv_ior hx hb dX1_noteWhatPairGets_24 ?_
  refine lv_topi (fun x3 ex3 => ?_)
  replace h := bn_some h ex3
  refine lv_istore (lv' := [(7, .int x3), (6, .int x2), (5, .int x1), (0, .ref (ad 0)), (1, .int a_1), (2, .int a_2), (3, .int a_3), (4, .int a_4)]) hx hb dX1_noteWhatPairGets_25 hl (by decide) rfl (fun ls hl => ?_)
  refine lv_aload_n hx hb dX1_noteWhatPairGets_27 rfl (lv_at hl 3 rfl) ?_
  refine tGet (T := TX1) (N := 12) (ci := 1) C hw inX1 1 0 rfl (by decide) kf_RX1_16 rfl rfl rfl dX1_noteWhatPairGets_28 ?_
  refine lv_aload_n hx hb dX1_noteWhatPairGets_31 rfl (lv_at hl 3 rfl) ?_
  refine tGet (T := TX1) (N := 12) (ci := 1) C hw inX1 0 0 rfl (by decide) kf_RX1_10 rfl rfl rfl dX1_noteWhatPairGets_32 ?_
  obtain ⟨w4, hw4, h⟩ := cl_some h
  obtain ⟨w5, ew5⟩ : ∃ y : Nat → VS, y = up X 1 w4 := ⟨_, rfl⟩
  replace h := bn_some h ew5
  refine cVv (ws2 := (wR cA ad w5)) (As := [.ref (ad 1)]) (rest := []) C hw (by rw [ew5]; exact jRR10) (kX0_copyFrom (fun k => ad (8 + k)) (fun k => ad (1 + k)) hw4) kl_RX1_59 ki_yX0_copyFrom ks_yX0_copyFrom kn_RX0 kc_yX0_copyFrom ⟨rfl, rfl⟩ hdX0_copyFrom ⟨Nat.le_of_ble_eq_true rfl, Nat.le_of_ble_eq_true rfl⟩ (ci := 0) (q0 := 0) rfl rfl rfl rfl hl.1 (Nat.le_of_ble_eq_true rfl) dX1_noteWhatPairGets_35 ⟨Nat.zero_le _, Nat.zero_le _⟩ (fun H locs hw => ?_)
  refine lv_aload_n hx hb dX1_noteWhatPairGets_38 rfl (lv_at hl 3 rfl) ?_
  refine tGet (T := TX1) (N := 12) (ci := 1) C hw inX1 1 0 rfl (by decide) kf_RX1_16 rfl rfl rfl dX1_noteWhatPairGets_39 ?_
  refine lv_iload_n hx hb dX1_noteWhatPairGets_42 rfl (lv_at hl 6 rfl) ?_
  refine lv_bipush (v := 31) hx hb dX1_noteWhatPairGets_43 (by decide) ?_
  refine lv_iload hx hb dX1_noteWhatPairGets_45 (lv_at hl 0 rfl) ?_
  refine lv_iconst (v := (-1)) hx hb dX1_noteWhatPairGets_47 (by decide) ?_
  refine lv_ixor hx hb dX1_noteWhatPairGets_48 ?_
  refine lv_iand hx hb dX1_noteWhatPairGets_49 ?_
  obtain ⟨w6, hw6, h⟩ := cl_some h
  obtain ⟨w7, ew7⟩ : ∃ y : Nat → VS, y = up w5 1 w6 := ⟨_, rfl⟩
  replace h := bn_some h ew7
  refine cVv (ws2 := (wR cA ad w7)) (As := [.int a_3, .int ((31 : Int32) &&& (x3 ^^^ (-1 : Int32)))]) (rest := []) C hw (by rw [ew7]; exact jR1) (kX0_passNights (fun k => ad (8 + k)) hw6) kl_RX1_150 ki_yX0_passNights ks_yX0_passNights kn_RX0 kc_yX0_passNights ⟨rfl, rfl⟩ hdX0_passNights ⟨Nat.le_of_ble_eq_true rfl, Nat.le_of_ble_eq_true rfl⟩ (ci := 0) (q0 := 0) rfl rfl rfl rfl hl.1 (Nat.le_of_ble_eq_true rfl) dX1_noteWhatPairGets_50 ⟨Nat.zero_le _, Nat.zero_le _⟩ (fun H locs hw => ?_)
  refine lv_aload_n hx hb dX1_noteWhatPairGets_53 rfl (lv_at hl 3 rfl) ?_
  refine tGet (T := TX1) (N := 12) (ci := 1) C hw inX1 10 0 rfl (by decide) kf_RX1_46 rfl rfl rfl dX1_noteWhatPairGets_54 ?_
  refine lv_iload hx hb dX1_noteWhatPairGets_57 (lv_at hl 7 rfl) ?_
  refine lv_aload_n hx hb dX1_noteWhatPairGets_59 rfl (lv_at hl 3 rfl) ?_
  refine lv_iload_n hx hb dX1_noteWhatPairGets_60 rfl (lv_at hl 4 rfl) ?_
  refine lv_iload_n hx hb dX1_noteWhatPairGets_61 rfl (lv_at hl 5 rfl) ?_
  obtain ⟨r8, hr8, h⟩ := cl_some h
  refine cVi (ws2 := (wR cA ad w7)) (As := [.int a_1, .int a_2]) (rest := [.int a_4, .ref (ad 26)]) C hw jnW (kX1_gain ad hr8) kl_RX1_310 ki_yX1_gain ks_yX1_gain kn_RX1 kc_yX1_gain ⟨rfl, rfl⟩ hdX1_gain ⟨Nat.le_of_ble_eq_true rfl, Nat.le_of_ble_eq_true rfl⟩ (ci := 1) (q0 := 0) rfl rfl rfl rfl hl.1 (Nat.le_of_ble_eq_true rfl) dX1_noteWhatPairGets_62 ⟨Nat.zero_le _, Nat.zero_le _⟩ (fun H locs hw => ?_)
  refine lv_iload hx hb dX1_noteWhatPairGets_65 (lv_at hl 2 rfl) ?_
  refine lv_isub hx hb dX1_noteWhatPairGets_67 ?_
  obtain ⟨iw9, h⟩ := ck_some h
  obtain ⟨w9, ew9⟩ : ∃ y : Nat → VS, y = up w7 3 (up (w7 3) 10 (upd (w7 3 10) (a_4 : Int32).toNatClampNeg (r8 - x1))) := ⟨_, rfl⟩
  replace h := bn_some h ew9
  refine tSt (ws2 := (wR cA ad w9)) C hw 26 rfl iw9 (by rw [ew9]; rfl) dX1_noteWhatPairGets_68 (fun H locs hw => ?_)
  refine lv_aload_n hx hb dX1_noteWhatPairGets_69 rfl (lv_at hl 3 rfl) ?_
  refine tGet (T := TX1) (N := 12) (ci := 1) C hw inX1 11 0 rfl (by decide) kf_RX1_49 rfl rfl rfl dX1_noteWhatPairGets_70 ?_
  refine lv_iload hx hb dX1_noteWhatPairGets_73 (lv_at hl 7 rfl) ?_
  refine lv_aload_n hx hb dX1_noteWhatPairGets_75 rfl (lv_at hl 3 rfl) ?_
  refine lv_iload_n hx hb dX1_noteWhatPairGets_76 rfl (lv_at hl 5 rfl) ?_
  refine lv_iload_n hx hb dX1_noteWhatPairGets_77 rfl (lv_at hl 4 rfl) ?_
  obtain ⟨r10, hr10, h⟩ := cl_some h
  refine cVi (ws2 := (wR cA ad w9)) (As := [.int a_2, .int a_1]) (rest := [.int a_4, .ref (ad 27)]) C hw jnW (kX1_gain ad hr10) kl_RX1_310 ki_yX1_gain ks_yX1_gain kn_RX1 kc_yX1_gain ⟨rfl, rfl⟩ hdX1_gain ⟨Nat.le_of_ble_eq_true rfl, Nat.le_of_ble_eq_true rfl⟩ (ci := 1) (q0 := 0) rfl rfl rfl rfl hl.1 (Nat.le_of_ble_eq_true rfl) dX1_noteWhatPairGets_78 ⟨Nat.zero_le _, Nat.zero_le _⟩ (fun H locs hw => ?_)
  refine lv_iload hx hb dX1_noteWhatPairGets_81 (lv_at hl 1 rfl) ?_
  refine lv_isub hx hb dX1_noteWhatPairGets_83 ?_
  obtain ⟨iw11, h⟩ := ck_some h
  obtain ⟨w11, ew11⟩ : ∃ y : Nat → VS, y = up w9 3 (up (w9 3) 11 (upd (w9 3 11) (a_4 : Int32).toNatClampNeg (r10 - x2))) := ⟨_, rfl⟩
  replace h := bn_some h ew11
  refine tSt (ws2 := (wR cA ad w11)) C hw 27 rfl iw11 (by rw [ew11]; rfl) dX1_noteWhatPairGets_84 (fun H locs hw => ?_)
  obtain rfl := some_e h
  exact rtV C hr hw dX1_noteWhatPairGets_85
abbrev rmX1_two : Room := { frames := 5, cells := 0, slots := 0, locals := 127 }
theorem hdX1_two : yX1_two.cls = RX1 ∧ yX1_two.cls ≠ "java/lang/invoke/MethodHandle" ∧ yX1_two.cls ≠ "java/lang/invoke/VarHandle" ∧ (parseMethodDescriptor yX1_two.desc).map (fun d => d.parameters.length) = some 3 := by decide +kernel
def GX1_two_27 (p : Program) (l : Launch) (e : Env) (s : State) (m : MethodId) (args : Array Value) (below : List Frame) (meth : Method) (c : Code) (D : va_G) (cA : ClassId) (A : Nat → Prop) (ad : Nat → Nat) (z : (Int32 × (Nat → VS))) (x : (Nat → VS)) : Prop := ∀ (H : Heap) (locs : List Loc) (ls : Array Slot), Wd D A s.heap (wR cA ad x) H locs → lv_has ls 6 [(0, .ref (ad 0))] → W p l e rmX1_two s m args below meth c H locs 0 0 (MQ below (QI D cA A z.1 (wR cA ad z.2)) args s 0 0 A) (F0 m 27 ls [])
def GX1_two_138 (p : Program) (l : Launch) (e : Env) (s : State) (m : MethodId) (args : Array Value) (below : List Frame) (meth : Method) (c : Code) (D : va_G) (cA : ClassId) (A : Nat → Prop) (ad : Nat → Nat) (z : (Int32 × (Nat → VS))) (x : (Nat → VS) × (Int32)) : Prop := ∀ (H : Heap) (locs : List Loc) (ls : Array Slot), Wd D A s.heap (wR cA ad x.1) H locs → lv_has ls 6 [(0, .ref (ad 0)), (5, .int x.2)] → W p l e rmX1_two s m args below meth c H locs 0 0 (MQ below (QI D cA A z.1 (wR cA ad z.2)) args s 0 0 A) (F0 m 138 ls [])
def GX1_two_81 (p : Program) (l : Launch) (e : Env) (s : State) (m : MethodId) (args : Array Value) (below : List Frame) (meth : Method) (c : Code) (D : va_G) (cA : ClassId) (A : Nat → Prop) (ad : Nat → Nat) (z : (Int32 × (Nat → VS))) (x : (Nat → VS) × (Int32)) : Prop := ∀ (H : Heap) (locs : List Loc) (ls : Array Slot), Wd D A s.heap (wR cA ad x.1) H locs → lv_has ls 6 [(0, .ref (ad 0)), (5, .int x.2)] → W p l e rmX1_two s m args below meth c H locs 0 0 (MQ below (QI D cA A z.1 (wR cA ad z.2)) args s 0 0 A) (F0 m 81 ls [])
def GX1_two_57 (p : Program) (l : Launch) (e : Env) (s : State) (m : MethodId) (args : Array Value) (below : List Frame) (meth : Method) (c : Code) (D : va_G) (cA : ClassId) (A : Nat → Prop) (ad : Nat → Nat) (z : (Int32 × (Nat → VS))) (x : (Nat → VS) × (Int32) × (Int32) × (Int32) × (Int32)) : Prop := ∀ (H : Heap) (locs : List Loc) (ls : Array Slot), Wd D A s.heap (wR cA ad x.1) H locs → lv_has ls 6 [(0, .ref (ad 0)), (1, .int x.2.1), (2, .int x.2.2.1), (3, .int x.2.2.2.1), (5, .int x.2.2.2.2)] → W p l e rmX1_two s m args below meth c H locs 0 0 (MQ below (QI D cA A z.1 (wR cA ad z.2)) args s 0 0 A) (F0 m 57 ls [])
def fX1_two_27 : ((Nat → VS)) → Option (Int32 × (Nat → VS)) := fun X => cl (fX1_refuse X (-1)) (fun q1 => some (q1.1, q1.2))
def fX1_two_138 (k81 : ((Nat → VS) × (Int32)) → Option (Int32 × (Nat → VS))) : ((Nat → VS) × (Int32)) → Option (Int32 × (Nat → VS)) := fun x => match x with | (X, x_5) => bn (x_5 + 1) (fun x1 => k81 (X, x1))
def fX1_two_81 (k81 : ((Nat → VS) × (Int32)) → Option (Int32 × (Nat → VS))) : ((Nat → VS) × (Int32)) → Option (Int32 × (Nat → VS)) := fun x => match x with | (X, x_5) => if 4 ≤ x_5 then some ((-9), X) else rd 4 (X 3 10) x_5 (fun r2 => rd 4 (X 3 10) (x_5 ^^^ (2 : Int32)) (fun r3 => if r2 < r3 then fX1_two_138 k81 (X, x_5) else rd 4 (X 3 11) x_5 (fun r5 => rd 4 (X 3 11) (x_5 ^^^ (1 : Int32)) (fun r6 => if r5 < r6 then fX1_two_138 k81 (X, x_5) else some ((((10 : Int32) * (x_5 >>> ((1 : Int32) &&& 31))) + (x_5 &&& (1 : Int32))), X)))))
def fX1_two_57 (k57 : ((Nat → VS) × (Int32) × (Int32) × (Int32) × (Int32)) → Option (Int32 × (Nat → VS))) : ((Nat → VS) × (Int32) × (Int32) × (Int32) × (Int32)) → Option (Int32 × (Nat → VS)) := fun x => match x with | (X, x_1, x_2, x_3, x_5) => if 4 ≤ x_5 then lp (fX1_two_81) 5000 (X, 0) else cl (fX1_noteWhatPairGets X x_1 x_2 x_3 x_5) (fun w2 => bn (x_5 + 1) (fun x3 => k57 (w2, x_1, x_2, x_3, x3)))
def fX1_two (X : Nat → VS) (a_1 : Int32) (a_2 : Int32) (a_3 : Int32) : Option (Int32 × (Nat → VS)) := cl (fX0_hasReader (X 0) a_1) (fun r1 => if r1 = 0 then fX1_two_27 X else cl (fX0_hasReader (X 0) a_2) (fun r3 => if r3 = 0 then fX1_two_27 X else if a_1 = a_2 then fX1_two_27 X else cl (fX1_outside a_3 0 30) (fun r6 => if r6 = 0 then lp (fX1_two_57) 5000 (X, a_1, a_2, a_3, 0) else cl (fX1_refuse X r6) (fun q8 => some (q8.1, q8.2)))))
set_option maxHeartbeats 4000000 in
set_option maxRecDepth 100000 in
theorem kX1_two_27 (C : Cx p s m args meth c cX1_two 6 RX1 D cA g A) (hr : meth.sig.returnType = (some .int)) {z : (Int32 × (Nat → VS))} (x : (Nat → VS)) (h : fX1_two_27 x = some z) : GX1_two_27 p l e s m args below meth c D cA A ad z x := by
  obtain ⟨X, rfl⟩ : ∃ y, y = x := ⟨_, rfl⟩
  intro H locs ls hw hl
  have hw : Wd D A s.heap (wR cA ad X) H locs := hw
  have hl : lv_has ls 6 [(0, .ref (ad 0))] := hl
  have hx := C.1.1
  have hb := C.1.2.1
  have h : (cl (fX1_refuse X (-1)) (fun q1 => some (q1.1, q1.2))) = some z := h
  refine lv_aload_n hx hb dX1_two_27 rfl (lv_at hl 0 rfl) ?_
  refine lv_iconst (v := (-1)) hx hb dX1_two_28 (by decide) ?_
  obtain ⟨q1, hq1, h⟩ := cl_some h
  refine cVi (ws2 := (wR cA ad q1.2)) (As := [.int (-1)]) (rest := []) C hw jnW (kX1_refuse ad hq1) kl_RX1_52 ki_yX1_refuse ks_yX1_refuse kn_RX1 kc_yX1_refuse ⟨rfl, rfl⟩ hdX1_refuse ⟨Nat.le_of_ble_eq_true rfl, Nat.le_of_ble_eq_true rfl⟩ (ci := 1) (q0 := 0) rfl rfl rfl rfl hl.1 (Nat.le_of_ble_eq_true rfl) dX1_two_29 ⟨Nat.zero_le _, Nat.zero_le _⟩ (fun H locs hw => ?_)
  obtain rfl := some_e h
  exact rtI C hr hw dX1_two_32
set_option maxHeartbeats 4000000 in
set_option maxRecDepth 100000 in
theorem kX1_two_138 (C : Cx p s m args meth c cX1_two 6 RX1 D cA g A) (hr : meth.sig.returnType = (some .int)) {z : (Int32 × (Nat → VS))} (k81 : ((Nat → VS) × (Int32)) → Option (Int32 × (Nat → VS))) (hk81 : ∀ x, k81 x = some z → GX1_two_81 p l e s m args below meth c D cA A ad z x) (x : (Nat → VS) × (Int32)) (h : fX1_two_138 k81 x = some z) : GX1_two_138 p l e s m args below meth c D cA A ad z x := by
  obtain ⟨X, x_5⟩ := x
  intro H locs ls hw hl
  have hw : Wd D A s.heap (wR cA ad X) H locs := hw
  have hl : lv_has ls 6 [(0, .ref (ad 0)), (5, .int x_5)] := hl
  have hx := C.1.1
  have hb := C.1.2.1
  have h : (bn (x_5 + 1) (fun x1 => k81 (X, x1))) = some z := h
  obtain ⟨x1, ex1⟩ : ∃ y : Int32, y = x_5 + 1 := ⟨_, rfl⟩
  replace h := bn_some h ex1
  refine lv_iinc (v := x1) (lv' := [(5, .int x1), (0, .ref (ad 0))]) hx hb dX1_two_138 hl (k := 1) rfl (by rw [ex1]; rfl) (by decide) rfl (fun ls hl => ?_)
  refine lv_goto (tgt := 81) hx hb dX1_two_141 (by decide) ?_
  exact hk81 (X, x1) h _ _ _ hw (lv_sub hl [1, 0] rfl)
set_option maxHeartbeats 4000000 in
set_option maxRecDepth 100000 in
theorem kX1_two_81 (C : Cx p s m args meth c cX1_two 6 RX1 D cA g A) (hr : meth.sig.returnType = (some .int)) {z : (Int32 × (Nat → VS))} (k81 : ((Nat → VS) × (Int32)) → Option (Int32 × (Nat → VS))) (hk81 : ∀ x, k81 x = some z → GX1_two_81 p l e s m args below meth c D cA A ad z x) (x : (Nat → VS) × (Int32)) (h : fX1_two_81 k81 x = some z) : GX1_two_81 p l e s m args below meth c D cA A ad z x := by
  obtain ⟨X, x_5⟩ := x
  intro H locs ls hw hl
  have hw : Wd D A s.heap (wR cA ad X) H locs := hw
  have hl : lv_has ls 6 [(0, .ref (ad 0)), (5, .int x_5)] := hl
  have hx := C.1.1
  have hb := C.1.2.1
  have h : (if 4 ≤ x_5 then some ((-9), X) else rd 4 (X 3 10) x_5 (fun r2 => rd 4 (X 3 10) (x_5 ^^^ (2 : Int32)) (fun r3 => if r2 < r3 then fX1_two_138 k81 (X, x_5) else rd 4 (X 3 11) x_5 (fun r5 => rd 4 (X 3 11) (x_5 ^^^ (1 : Int32)) (fun r6 => if r5 < r6 then fX1_two_138 k81 (X, x_5) else some ((((10 : Int32) * (x_5 >>> ((1 : Int32) &&& 31))) + (x_5 &&& (1 : Int32))), X)))))) = some z := h
  refine lv_iload hx hb dX1_two_81 (lv_at hl 1 rfl) ?_
  refine lv_iconst (v := 4) hx hb dX1_two_83 (by decide) ?_
  refine lv_icmp_ge (tgt := 144) hx hb dX1_two_84 (by decide) (fun c1 => ?_) (fun c1 => ?_)
  · replace h := (if_pos c1).symm.trans h
    refine lv_bipush (v := (-9)) hx hb dX1_two_144 (by decide) ?_
    obtain rfl := some_e h
    exact rtI C hr hw dX1_two_146
  · replace h := (if_neg c1).symm.trans h
    refine lv_aload_n hx hb dX1_two_87 rfl (lv_at hl 0 rfl) ?_
    refine tGet (T := TX1) (N := 12) (ci := 1) C hw inX1 10 0 rfl (by decide) kf_RX1_46 rfl rfl rfl dX1_two_88 ?_
    refine lv_iload hx hb dX1_two_91 (lv_at hl 1 rfl) ?_
    obtain ⟨r2, ir2, er2, h⟩ := rd_some h
    refine tLd C hw 26 rfl ir2 er2 dX1_two_93 ?_
    refine lv_aload_n hx hb dX1_two_94 rfl (lv_at hl 0 rfl) ?_
    refine tGet (T := TX1) (N := 12) (ci := 1) C hw inX1 10 0 rfl (by decide) kf_RX1_46 rfl rfl rfl dX1_two_95 ?_
    refine lv_iload hx hb dX1_two_98 (lv_at hl 1 rfl) ?_
    refine lv_iconst (v := 2) hx hb dX1_two_100 (by decide) ?_
    refine lv_ixor hx hb dX1_two_101 ?_
    obtain ⟨r3, ir3, er3, h⟩ := rd_some h
    refine tLd C hw 26 rfl ir3 er3 dX1_two_102 ?_
    refine lv_icmp_lt (tgt := 138) hx hb dX1_two_103 (by decide) (fun c4 => ?_) (fun c4 => ?_)
    · replace h := (if_pos c4).symm.trans h
      exact kX1_two_138 C hr k81 hk81 (X, x_5) h _ _ _ hw (lv_sub hl [0, 1] rfl)
    · replace h := (if_neg c4).symm.trans h
      refine lv_aload_n hx hb dX1_two_106 rfl (lv_at hl 0 rfl) ?_
      refine tGet (T := TX1) (N := 12) (ci := 1) C hw inX1 11 0 rfl (by decide) kf_RX1_49 rfl rfl rfl dX1_two_107 ?_
      refine lv_iload hx hb dX1_two_110 (lv_at hl 1 rfl) ?_
      obtain ⟨r5, ir5, er5, h⟩ := rd_some h
      refine tLd C hw 27 rfl ir5 er5 dX1_two_112 ?_
      refine lv_aload_n hx hb dX1_two_113 rfl (lv_at hl 0 rfl) ?_
      refine tGet (T := TX1) (N := 12) (ci := 1) C hw inX1 11 0 rfl (by decide) kf_RX1_49 rfl rfl rfl dX1_two_114 ?_
      refine lv_iload hx hb dX1_two_117 (lv_at hl 1 rfl) ?_
      refine lv_iconst (v := 1) hx hb dX1_two_119 (by decide) ?_
      refine lv_ixor hx hb dX1_two_120 ?_
      obtain ⟨r6, ir6, er6, h⟩ := rd_some h
      refine tLd C hw 27 rfl ir6 er6 dX1_two_121 ?_
      refine lv_icmp_lt (tgt := 138) hx hb dX1_two_122 (by decide) (fun c7 => ?_) (fun c7 => ?_)
      · replace h := (if_pos c7).symm.trans h
        exact kX1_two_138 C hr k81 hk81 (X, x_5) h _ _ _ hw (lv_sub hl [0, 1] rfl)
      · replace h := (if_neg c7).symm.trans h
        refine lv_bipush (v := 10) hx hb dX1_two_125 (by decide) ?_
        refine lv_iload hx hb dX1_two_127 (lv_at hl 1 rfl) ?_
        refine lv_iconst (v := 1) hx hb dX1_two_129 (by decide) ?_
        refine lv_ishr hx hb dX1_two_130 ?_
        refine lv_imul hx hb dX1_two_131 ?_
        refine lv_iload hx hb dX1_two_132 (lv_at hl 1 rfl) ?_
        refine lv_iconst (v := 1) hx hb dX1_two_134 (by decide) ?_
        refine lv_iand hx hb dX1_two_135 ?_
        refine lv_iadd hx hb dX1_two_136 ?_
        obtain rfl := some_e h
        exact rtI C hr hw dX1_two_137
theorem lX1_two_81 (C : Cx p s m args meth c cX1_two 6 RX1 D cA g A) (hr : meth.sig.returnType = (some .int)) {z : (Int32 × (Nat → VS))} (n : Nat) (x : (Nat → VS) × (Int32)) (h : lp (fX1_two_81) n x = some z) : GX1_two_81 p l e s m args below meth c D cA A ad z x := lp_ok (GX1_two_81 p l e s m args below meth c D cA A ad z) (fun kq hkq x h => kX1_two_81 C hr kq hkq x h) n x h
set_option maxHeartbeats 4000000 in
set_option maxRecDepth 100000 in
theorem kX1_two_57 (C : Cx p s m args meth c cX1_two 6 RX1 D cA g A) (hr : meth.sig.returnType = (some .int)) {z : (Int32 × (Nat → VS))} (k57 : ((Nat → VS) × (Int32) × (Int32) × (Int32) × (Int32)) → Option (Int32 × (Nat → VS))) (hk57 : ∀ x, k57 x = some z → GX1_two_57 p l e s m args below meth c D cA A ad z x) (x : (Nat → VS) × (Int32) × (Int32) × (Int32) × (Int32)) (h : fX1_two_57 k57 x = some z) : GX1_two_57 p l e s m args below meth c D cA A ad z x := by
  obtain ⟨X, x_1, x_2, x_3, x_5⟩ := x
  intro H locs ls hw hl
  have hw : Wd D A s.heap (wR cA ad X) H locs := hw
  have hl : lv_has ls 6 [(0, .ref (ad 0)), (1, .int x_1), (2, .int x_2), (3, .int x_3), (5, .int x_5)] := hl
  have hx := C.1.1
  have hb := C.1.2.1
  have h : (if 4 ≤ x_5 then lp (fX1_two_81) 5000 (X, 0) else cl (fX1_noteWhatPairGets X x_1 x_2 x_3 x_5) (fun w2 => bn (x_5 + 1) (fun x3 => k57 (w2, x_1, x_2, x_3, x3)))) = some z := h
  refine lv_iload hx hb dX1_two_57 (lv_at hl 4 rfl) ?_
  refine lv_iconst (v := 4) hx hb dX1_two_59 (by decide) ?_
  refine lv_icmp_ge (tgt := 78) hx hb dX1_two_60 (by decide) (fun c1 => ?_) (fun c1 => ?_)
  · replace h := (if_pos c1).symm.trans h
    refine lv_iconst (v := 0) hx hb dX1_two_78 (by decide) ?_
    refine lv_istore (lv' := [(5, .int 0), (0, .ref (ad 0)), (1, .int x_1), (2, .int x_2), (3, .int x_3)]) hx hb dX1_two_79 hl (by decide) rfl (fun ls hl => ?_)
    exact lX1_two_81 C hr 5000 (X, 0) h _ _ _ hw (lv_sub hl [1, 0] rfl)
  · replace h := (if_neg c1).symm.trans h
    refine lv_aload_n hx hb dX1_two_63 rfl (lv_at hl 0 rfl) ?_
    refine lv_iload_n hx hb dX1_two_64 rfl (lv_at hl 1 rfl) ?_
    refine lv_iload_n hx hb dX1_two_65 rfl (lv_at hl 2 rfl) ?_
    refine lv_iload_n hx hb dX1_two_66 rfl (lv_at hl 3 rfl) ?_
    refine lv_iload hx hb dX1_two_67 (lv_at hl 4 rfl) ?_
    obtain ⟨w2, hw2, h⟩ := cl_some h
    refine cVv (ws2 := (wR cA ad w2)) (As := [.int x_1, .int x_2, .int x_3, .int x_5]) (rest := []) C hw jnW (kX1_noteWhatPairGets ad hw2) kl_RX1_211 ki_yX1_noteWhatPairGets ks_yX1_noteWhatPairGets kn_RX1 kc_yX1_noteWhatPairGets ⟨rfl, rfl⟩ hdX1_noteWhatPairGets ⟨Nat.le_of_ble_eq_true rfl, Nat.le_of_ble_eq_true rfl⟩ (ci := 1) (q0 := 0) rfl rfl rfl rfl hl.1 (Nat.le_of_ble_eq_true rfl) dX1_two_69 ⟨Nat.zero_le _, Nat.zero_le _⟩ (fun H locs hw => ?_)
    obtain ⟨x3, ex3⟩ : ∃ y : Int32, y = x_5 + 1 := ⟨_, rfl⟩
    replace h := bn_some h ex3
    refine lv_iinc (v := x3) (lv' := [(5, .int x3), (0, .ref (ad 0)), (1, .int x_1), (2, .int x_2), (3, .int x_3)]) hx hb dX1_two_72 hl (k := 4) rfl (by rw [ex3]; rfl) (by decide) rfl (fun ls hl => ?_)
    refine lv_goto (tgt := 57) hx hb dX1_two_75 (by decide) ?_
    exact hk57 (w2, x_1, x_2, x_3, x3) h _ _ _ hw (lv_sub hl [1, 2, 3, 4, 0] rfl)
theorem lX1_two_57 (C : Cx p s m args meth c cX1_two 6 RX1 D cA g A) (hr : meth.sig.returnType = (some .int)) {z : (Int32 × (Nat → VS))} (n : Nat) (x : (Nat → VS) × (Int32) × (Int32) × (Int32) × (Int32)) (h : lp (fX1_two_57) n x = some z) : GX1_two_57 p l e s m args below meth c D cA A ad z x := lp_ok (GX1_two_57 p l e s m args below meth c D cA A ad z) (fun kq hkq x h => kX1_two_57 C hr kq hkq x h) n x h
set_option maxHeartbeats 4000000 in
set_option maxRecDepth 100000 in
theorem kX1_two (ad : Nat → Nat) {X : Nat → VS} {a_1 : Int32} {a_2 : Int32} {a_3 : Int32} {z : (Int32 × (Nat → VS))} (h : fX1_two X a_1 a_2 a_3 = some z) : MI l D cA g yX1_two (Cond.code yX1_two cX1_two 6 (some .int) :: lw_g) rmX1_two [.ref (ad 0), .int a_1, .int a_2, .int a_3] (wR cA ad X) z.1 (wR cA ad z.2) := by
  intro sz
  refine Met.ofW (cc := cX1_two) (maxL := 6) (ret := (some .int)) (by decide) rfl ?_
  intro p e s m args below meth c s₁ B hml hv
  obtain ⟨rfl, C, hr, hw⟩ := ent B hml hv
  generalize va_A (wR cA ad X) sz = A at C hw ⊢
  have hl := lv_entry ([.ref (ad 0), .int a_1, .int a_2, .int a_3]) (n := 6) (Nat.le_of_ble_eq_true rfl)
  rw [lg_entry_eq]
  generalize (lg_sl ([.ref (ad 0), .int a_1, .int a_2, .int a_3]) ++ List.replicate (6 - (lg_sl ([.ref (ad 0), .int a_1, .int a_2, .int a_3])).length) Slot.unset).toArray = ls at hl ⊢
  have hl : lv_has ls 6 [(0, .ref (ad 0)), (1, .int a_1), (2, .int a_2), (3, .int a_3)] := hl
  have hx := C.1.1
  have hb := C.1.2.1
  have h : (cl (fX0_hasReader (X 0) a_1) (fun r1 => if r1 = 0 then fX1_two_27 X else cl (fX0_hasReader (X 0) a_2) (fun r3 => if r3 = 0 then fX1_two_27 X else if a_1 = a_2 then fX1_two_27 X else cl (fX1_outside a_3 0 30) (fun r6 => if r6 = 0 then lp (fX1_two_57) 5000 (X, a_1, a_2, a_3, 0) else cl (fX1_refuse X r6) (fun q8 => some (q8.1, q8.2)))))) = some z := h
  refine lv_aload_n hx hb dX1_two_0 rfl (lv_at hl 0 rfl) ?_
  refine tGet (T := TX1) (N := 12) (ci := 1) C hw inX1 0 0 rfl (by decide) kf_RX1_10 rfl rfl rfl dX1_two_1 ?_
  refine lv_iload_n hx hb dX1_two_4 rfl (lv_at hl 1 rfl) ?_
  obtain ⟨r1, hr1, h⟩ := cl_some h
  refine cVi (ws2 := (wR cA ad X)) (As := [.int a_1]) (rest := []) C hw jR0r (kX0_hasReader (fun k => ad (1 + k)) hr1) kl_RX1_100 ki_yX0_hasReader ks_yX0_hasReader kn_RX0 kc_yX0_hasReader ⟨rfl, rfl⟩ hdX0_hasReader ⟨Nat.le_of_ble_eq_true rfl, Nat.le_of_ble_eq_true rfl⟩ (ci := 0) (q0 := 0) rfl rfl rfl rfl hl.1 (Nat.le_of_ble_eq_true rfl) dX1_two_5 ⟨Nat.zero_le _, Nat.zero_le _⟩ (fun H locs hw => ?_)
  refine lv_if_eq (tgt := 27) hx hb dX1_two_8 (by decide) (fun c2 => ?_) (fun c2 => ?_)
  · replace h := (if_pos c2).symm.trans h
    exact kX1_two_27 C hr X h _ _ _ hw (lv_sub hl [0] rfl)
  · replace h := (if_neg c2).symm.trans h
    refine lv_aload_n hx hb dX1_two_11 rfl (lv_at hl 0 rfl) ?_
    refine tGet (T := TX1) (N := 12) (ci := 1) C hw inX1 0 0 rfl (by decide) kf_RX1_10 rfl rfl rfl dX1_two_12 ?_
    refine lv_iload_n hx hb dX1_two_15 rfl (lv_at hl 2 rfl) ?_
    obtain ⟨r3, hr3, h⟩ := cl_some h
    refine cVi (ws2 := (wR cA ad X)) (As := [.int a_2]) (rest := []) C hw jR0r (kX0_hasReader (fun k => ad (1 + k)) hr3) kl_RX1_100 ki_yX0_hasReader ks_yX0_hasReader kn_RX0 kc_yX0_hasReader ⟨rfl, rfl⟩ hdX0_hasReader ⟨Nat.le_of_ble_eq_true rfl, Nat.le_of_ble_eq_true rfl⟩ (ci := 0) (q0 := 0) rfl rfl rfl rfl hl.1 (Nat.le_of_ble_eq_true rfl) dX1_two_16 ⟨Nat.zero_le _, Nat.zero_le _⟩ (fun H locs hw => ?_)
    refine lv_if_eq (tgt := 27) hx hb dX1_two_19 (by decide) (fun c4 => ?_) (fun c4 => ?_)
    · replace h := (if_pos c4).symm.trans h
      exact kX1_two_27 C hr X h _ _ _ hw (lv_sub hl [0] rfl)
    · replace h := (if_neg c4).symm.trans h
      refine lv_iload_n hx hb dX1_two_22 rfl (lv_at hl 1 rfl) ?_
      refine lv_iload_n hx hb dX1_two_23 rfl (lv_at hl 2 rfl) ?_
      refine lv_icmp_ne (tgt := 33) hx hb dX1_two_24 (by decide) (fun c5 => ?_) (fun c5 => ?_)
      · replace h := (if_neg c5).symm.trans h
        refine lv_iload_n hx hb dX1_two_33 rfl (lv_at hl 3 rfl) ?_
        refine lv_iconst (v := 0) hx hb dX1_two_34 (by decide) ?_
        refine lv_bipush (v := 30) hx hb dX1_two_35 (by decide) ?_
        obtain ⟨r6, hr6, h⟩ := cl_some h
        refine cSi (ws2 := (wR cA ad X)) (As := [.int a_3, .int 0, .int 30]) (rest := []) C hw jnE (kX1_outside hr6) kl_RX1_140 kt_yX1_outside kn_RX1 kc_yX1_outside ⟨rfl, rfl⟩ hdX1_outside ⟨Nat.le_of_ble_eq_true rfl, Nat.le_of_ble_eq_true rfl⟩ rfl hl.1 (Nat.le_of_ble_eq_true rfl) dX1_two_37 ⟨Nat.zero_le _, Nat.zero_le _⟩ (fun H locs hw => ?_)
        refine lv_istore (lv' := [(4, .int r6), (0, .ref (ad 0)), (1, .int a_1), (2, .int a_2), (3, .int a_3)]) hx hb dX1_two_40 hl (by decide) rfl (fun ls hl => ?_)
        refine lv_iload hx hb dX1_two_42 (lv_at hl 0 rfl) ?_
        refine lv_if_eq (tgt := 54) hx hb dX1_two_44 (by decide) (fun c7 => ?_) (fun c7 => ?_)
        · replace h := (if_pos c7).symm.trans h
          refine lv_iconst (v := 0) hx hb dX1_two_54 (by decide) ?_
          refine lv_istore (lv' := [(5, .int 0), (4, .int r6), (0, .ref (ad 0)), (1, .int a_1), (2, .int a_2), (3, .int a_3)]) hx hb dX1_two_55 hl (by decide) rfl (fun ls hl => ?_)
          exact lX1_two_57 C hr 5000 (X, a_1, a_2, a_3, 0) h _ _ _ hw (lv_sub hl [2, 3, 4, 5, 0] rfl)
        · replace h := (if_neg c7).symm.trans h
          refine lv_aload_n hx hb dX1_two_47 rfl (lv_at hl 1 rfl) ?_
          refine lv_iload hx hb dX1_two_48 (lv_at hl 0 rfl) ?_
          obtain ⟨q8, hq8, h⟩ := cl_some h
          refine cVi (ws2 := (wR cA ad q8.2)) (As := [.int r6]) (rest := []) C hw jnW (kX1_refuse ad hq8) kl_RX1_52 ki_yX1_refuse ks_yX1_refuse kn_RX1 kc_yX1_refuse ⟨rfl, rfl⟩ hdX1_refuse ⟨Nat.le_of_ble_eq_true rfl, Nat.le_of_ble_eq_true rfl⟩ (ci := 1) (q0 := 0) rfl rfl rfl rfl hl.1 (Nat.le_of_ble_eq_true rfl) dX1_two_50 ⟨Nat.zero_le _, Nat.zero_le _⟩ (fun H locs hw => ?_)
          obtain rfl := some_e h
          exact rtI C hr hw dX1_two_53
      · replace h := (if_pos c5).symm.trans h
        exact kX1_two_27 C hr X h _ _ _ hw (lv_sub hl [0] rfl)
end
