section
variable {p : Program} {l : Launch} {e : Env} {s : State} {m : MethodId} {args : Array Value} {below : List Frame} {meth : Method} {c : Code} {D : va_G} {cA : ClassId} {g : Nat → Nat} {A : Nat → Prop} {ad ad2 : Nat → Nat} {a0 a1 : Nat}
abbrev rmX2_forgo : Room := { frames := 9, cells := 0, slots := 0, locals := 206 }
theorem hdX2_forgo : yX2_forgo.cls = RX2 ∧ yX2_forgo.cls ≠ "java/lang/invoke/MethodHandle" ∧ yX2_forgo.cls ≠ "java/lang/invoke/VarHandle" ∧ (parseMethodDescriptor yX2_forgo.desc).map (fun d => d.parameters.length) = some 1 := by decide +kernel
def fX2_forgo (Y : VS) (a_1 : Int32) : Option (Int32 × VS) := cl (fX2_wrongBy a_1 1 30) (fun r1 => if r1 = 0 then cl (fX2_bestNow Y a_1 1) (fun q3 => some (q3.1, q3.2)) else cl (fX2_no Y r1) (fun q4 => some (q4.1, q4.2)))
set_option maxHeartbeats 4000000 in
set_option maxRecDepth 100000 in
theorem kX2_forgo (ad : Nat → Nat) {Y : VS} {a_1 : Int32} {z : (Int32 × VS)} (h : fX2_forgo Y a_1 = some z) : MI l D cA g yX2_forgo (Cond.code yX2_forgo cX2_forgo 3 (some .int) :: lw_g) rmX2_forgo [.ref (ad 0), .int a_1] (wM cA ad Y) z.1 (wM cA ad z.2) := by
  intro sz
  refine Met.ofW (cc := cX2_forgo) (maxL := 3) (ret := (some .int)) (by decide) rfl ?_
  intro p e s m args below meth c s₁ B hml hv
  obtain ⟨rfl, C, hr, hw⟩ := ent B hml hv
  generalize va_A (wM cA ad Y) sz = A at C hw ⊢
  have hl := lv_entry ([.ref (ad 0), .int a_1]) (n := 3) (Nat.le_of_ble_eq_true rfl)
  rw [lg_entry_eq]
  generalize (lg_sl ([.ref (ad 0), .int a_1]) ++ List.replicate (3 - (lg_sl ([.ref (ad 0), .int a_1])).length) Slot.unset).toArray = ls at hl ⊢
  have hl : lv_has ls 3 [(0, .ref (ad 0)), (1, .int a_1)] := hl
  have hx := C.1.1
  have hb := C.1.2.1
  have h : (cl (fX2_wrongBy a_1 1 30) (fun r1 => if r1 = 0 then cl (fX2_bestNow Y a_1 1) (fun q3 => some (q3.1, q3.2)) else cl (fX2_no Y r1) (fun q4 => some (q4.1, q4.2)))) = some z := h
  refine lv_iload_n hx hb dX2_forgo_0 rfl (lv_at hl 1 rfl) ?_
  refine lv_iconst (v := 1) hx hb dX2_forgo_1 (by decide) ?_
  refine lv_bipush (v := 30) hx hb dX2_forgo_2 (by decide) ?_
  obtain ⟨r1, hr1, h⟩ := cl_some h
  refine cSi (ws2 := (wM cA ad Y)) (As := [.int a_1, .int 1, .int 30]) (rest := []) C hw jnE (kX2_wrongBy hr1) kl_RX2_153 kt_yX2_wrongBy kn_RX2 kc_yX2_wrongBy ⟨rfl, rfl⟩ hdX2_wrongBy ⟨Nat.le_of_ble_eq_true rfl, Nat.le_of_ble_eq_true rfl⟩ rfl hl.1 (Nat.le_of_ble_eq_true rfl) dX2_forgo_4 ⟨Nat.zero_le _, Nat.zero_le _⟩ (fun H locs hw => ?_)
  refine lv_istore_n (lv' := [(2, .int r1), (0, .ref (ad 0)), (1, .int a_1)]) hx hb dX2_forgo_7 rfl hl (by decide) rfl (fun ls hl => ?_)
  refine lv_iload_n hx hb dX2_forgo_8 rfl (lv_at hl 0 rfl) ?_
  refine lv_if_eq (tgt := 20) hx hb dX2_forgo_9 (by decide) (fun c2 => ?_) (fun c2 => ?_)
  · replace h := (if_pos c2).symm.trans h
    refine lv_aload_n hx hb dX2_forgo_20 rfl (lv_at hl 1 rfl) ?_
    refine lv_iload_n hx hb dX2_forgo_21 rfl (lv_at hl 2 rfl) ?_
    refine lv_iconst (v := 1) hx hb dX2_forgo_22 (by decide) ?_
    obtain ⟨q3, hq3, h⟩ := cl_some h
    refine cVi (ws2 := (wM cA ad q3.2)) (As := [.int a_1, .int 1]) (rest := []) C hw jnW (kX2_bestNow ad hq3) kl_RX2_186 ki_yX2_bestNow ks_yX2_bestNow kn_RX2 kc_yX2_bestNow ⟨rfl, rfl⟩ hdX2_bestNow ⟨Nat.le_of_ble_eq_true rfl, Nat.le_of_ble_eq_true rfl⟩ (ci := 2) (q0 := 0) rfl rfl rfl rfl hl.1 (Nat.le_of_ble_eq_true rfl) dX2_forgo_23 ⟨Nat.zero_le _, Nat.zero_le _⟩ (fun H locs hw => ?_)
    obtain rfl := some_e h
    exact rtI C hr hw dX2_forgo_26
  · replace h := (if_neg c2).symm.trans h
    refine lv_aload_n hx hb dX2_forgo_12 rfl (lv_at hl 1 rfl) ?_
    refine lv_iload_n hx hb dX2_forgo_13 rfl (lv_at hl 0 rfl) ?_
    obtain ⟨q4, hq4, h⟩ := cl_some h
    refine cVi (ws2 := (wM cA ad q4.2)) (As := [.int r1]) (rest := []) C hw jnW (kX2_no ad hq4) kl_RX2_36 ki_yX2_no ks_yX2_no kn_RX2 kc_yX2_no ⟨rfl, rfl⟩ hdX2_no ⟨Nat.le_of_ble_eq_true rfl, Nat.le_of_ble_eq_true rfl⟩ (ci := 2) (q0 := 0) rfl rfl rfl rfl hl.1 (Nat.le_of_ble_eq_true rfl) dX2_forgo_14 ⟨Nat.zero_le _, Nat.zero_le _⟩ (fun H locs hw => ?_)
    refine lv_goto (tgt := 26) hx hb dX2_forgo_17 (by decide) ?_
    obtain rfl := some_e h
    exact rtI C hr hw dX2_forgo_26
abbrev rmX2_firstUp : Room := { frames := 9, cells := 0, slots := 0, locals := 206 }
theorem hdX2_firstUp : yX2_firstUp.cls = RX2 ∧ yX2_firstUp.cls ≠ "java/lang/invoke/MethodHandle" ∧ yX2_firstUp.cls ≠ "java/lang/invoke/VarHandle" ∧ (parseMethodDescriptor yX2_firstUp.desc).map (fun d => d.parameters.length) = some 1 := by decide +kernel
def fX2_firstUp (Y : VS) (a_1 : Int32) : Option (Int32 × VS) := cl (fX2_wrongBy a_1 1 30) (fun r1 => if r1 = 0 then cl (fX2_bestNow Y a_1 0) (fun q3 => some (q3.1, q3.2)) else cl (fX2_no Y r1) (fun q4 => some (q4.1, q4.2)))
set_option maxHeartbeats 4000000 in
set_option maxRecDepth 100000 in
theorem kX2_firstUp (ad : Nat → Nat) {Y : VS} {a_1 : Int32} {z : (Int32 × VS)} (h : fX2_firstUp Y a_1 = some z) : MI l D cA g yX2_firstUp (Cond.code yX2_firstUp cX2_firstUp 3 (some .int) :: lw_g) rmX2_firstUp [.ref (ad 0), .int a_1] (wM cA ad Y) z.1 (wM cA ad z.2) := by
  intro sz
  refine Met.ofW (cc := cX2_firstUp) (maxL := 3) (ret := (some .int)) (by decide) rfl ?_
  intro p e s m args below meth c s₁ B hml hv
  obtain ⟨rfl, C, hr, hw⟩ := ent B hml hv
  generalize va_A (wM cA ad Y) sz = A at C hw ⊢
  have hl := lv_entry ([.ref (ad 0), .int a_1]) (n := 3) (Nat.le_of_ble_eq_true rfl)
  rw [lg_entry_eq]
  generalize (lg_sl ([.ref (ad 0), .int a_1]) ++ List.replicate (3 - (lg_sl ([.ref (ad 0), .int a_1])).length) Slot.unset).toArray = ls at hl ⊢
  have hl : lv_has ls 3 [(0, .ref (ad 0)), (1, .int a_1)] := hl
  have hx := C.1.1
  have hb := C.1.2.1
  have h : (cl (fX2_wrongBy a_1 1 30) (fun r1 => if r1 = 0 then cl (fX2_bestNow Y a_1 0) (fun q3 => some (q3.1, q3.2)) else cl (fX2_no Y r1) (fun q4 => some (q4.1, q4.2)))) = some z := h
  refine lv_iload_n hx hb dX2_firstUp_0 rfl (lv_at hl 1 rfl) ?_
  refine lv_iconst (v := 1) hx hb dX2_firstUp_1 (by decide) ?_
  refine lv_bipush (v := 30) hx hb dX2_firstUp_2 (by decide) ?_
  obtain ⟨r1, hr1, h⟩ := cl_some h
  refine cSi (ws2 := (wM cA ad Y)) (As := [.int a_1, .int 1, .int 30]) (rest := []) C hw jnE (kX2_wrongBy hr1) kl_RX2_153 kt_yX2_wrongBy kn_RX2 kc_yX2_wrongBy ⟨rfl, rfl⟩ hdX2_wrongBy ⟨Nat.le_of_ble_eq_true rfl, Nat.le_of_ble_eq_true rfl⟩ rfl hl.1 (Nat.le_of_ble_eq_true rfl) dX2_firstUp_4 ⟨Nat.zero_le _, Nat.zero_le _⟩ (fun H locs hw => ?_)
  refine lv_istore_n (lv' := [(2, .int r1), (0, .ref (ad 0)), (1, .int a_1)]) hx hb dX2_firstUp_7 rfl hl (by decide) rfl (fun ls hl => ?_)
  refine lv_iload_n hx hb dX2_firstUp_8 rfl (lv_at hl 0 rfl) ?_
  refine lv_if_eq (tgt := 20) hx hb dX2_firstUp_9 (by decide) (fun c2 => ?_) (fun c2 => ?_)
  · replace h := (if_pos c2).symm.trans h
    refine lv_aload_n hx hb dX2_firstUp_20 rfl (lv_at hl 1 rfl) ?_
    refine lv_iload_n hx hb dX2_firstUp_21 rfl (lv_at hl 2 rfl) ?_
    refine lv_iconst (v := 0) hx hb dX2_firstUp_22 (by decide) ?_
    obtain ⟨q3, hq3, h⟩ := cl_some h
    refine cVi (ws2 := (wM cA ad q3.2)) (As := [.int a_1, .int 0]) (rest := []) C hw jnW (kX2_bestNow ad hq3) kl_RX2_186 ki_yX2_bestNow ks_yX2_bestNow kn_RX2 kc_yX2_bestNow ⟨rfl, rfl⟩ hdX2_bestNow ⟨Nat.le_of_ble_eq_true rfl, Nat.le_of_ble_eq_true rfl⟩ (ci := 2) (q0 := 0) rfl rfl rfl rfl hl.1 (Nat.le_of_ble_eq_true rfl) dX2_firstUp_23 ⟨Nat.zero_le _, Nat.zero_le _⟩ (fun H locs hw => ?_)
    obtain rfl := some_e h
    exact rtI C hr hw dX2_firstUp_26
  · replace h := (if_neg c2).symm.trans h
    refine lv_aload_n hx hb dX2_firstUp_12 rfl (lv_at hl 1 rfl) ?_
    refine lv_iload_n hx hb dX2_firstUp_13 rfl (lv_at hl 0 rfl) ?_
    obtain ⟨q4, hq4, h⟩ := cl_some h
    refine cVi (ws2 := (wM cA ad q4.2)) (As := [.int r1]) (rest := []) C hw jnW (kX2_no ad hq4) kl_RX2_36 ki_yX2_no ks_yX2_no kn_RX2 kc_yX2_no ⟨rfl, rfl⟩ hdX2_no ⟨Nat.le_of_ble_eq_true rfl, Nat.le_of_ble_eq_true rfl⟩ (ci := 2) (q0 := 0) rfl rfl rfl rfl hl.1 (Nat.le_of_ble_eq_true rfl) dX2_firstUp_14 ⟨Nat.zero_le _, Nat.zero_le _⟩ (fun H locs hw => ?_)
    refine lv_goto (tgt := 26) hx hb dX2_firstUp_17 (by decide) ?_
    obtain rfl := some_e h
    exact rtI C hr hw dX2_firstUp_26
abbrev rmX2_darkOf : Room := { frames := 1, cells := 0, slots := 0, locals := 21 }
theorem hdX2_darkOf : yX2_darkOf.cls = RX2 ∧ yX2_darkOf.cls ≠ "java/lang/invoke/MethodHandle" ∧ yX2_darkOf.cls ≠ "java/lang/invoke/VarHandle" ∧ (parseMethodDescriptor yX2_darkOf.desc).map (fun d => d.parameters.length) = some 1 := by decide +kernel
def fX2_darkOf (Y : VS) (a_1 : Int32) : Option Int32 := cl (fX2_ofR a_1 0) (fun r1 => rd 81 (Y 0) r1 (fun r2 => cl (fX2_ofR a_1 1) (fun r3 => rd 81 (Y 0) r3 (fun r4 => cl (fX2_darkBy r2 r4) (fun r5 => some r5)))))
set_option maxHeartbeats 4000000 in
set_option maxRecDepth 100000 in
theorem kX2_darkOf (ad : Nat → Nat) {Y : VS} {a_1 : Int32} {z : Int32} (h : fX2_darkOf Y a_1 = some z) : MI l D cA g yX2_darkOf (Cond.code yX2_darkOf cX2_darkOf 2 (some .int) :: lw_g) rmX2_darkOf [.ref (ad 0), .int a_1] (wM cA ad Y) z (wM cA ad Y) := by
  intro sz
  refine Met.ofW (cc := cX2_darkOf) (maxL := 2) (ret := (some .int)) (by decide) rfl ?_
  intro p e s m args below meth c s₁ B hml hv
  obtain ⟨rfl, C, hr, hw⟩ := ent B hml hv
  generalize va_A (wM cA ad Y) sz = A at C hw ⊢
  have hl := lv_entry ([.ref (ad 0), .int a_1]) (n := 2) (Nat.le_of_ble_eq_true rfl)
  rw [lg_entry_eq]
  generalize (lg_sl ([.ref (ad 0), .int a_1]) ++ List.replicate (2 - (lg_sl ([.ref (ad 0), .int a_1])).length) Slot.unset).toArray = ls at hl ⊢
  have hl : lv_has ls 2 [(0, .ref (ad 0)), (1, .int a_1)] := hl
  have hx := C.1.1
  have hb := C.1.2.1
  have h : (cl (fX2_ofR a_1 0) (fun r1 => rd 81 (Y 0) r1 (fun r2 => cl (fX2_ofR a_1 1) (fun r3 => rd 81 (Y 0) r3 (fun r4 => cl (fX2_darkBy r2 r4) (fun r5 => some r5)))))) = some z := h
  refine lv_aload_n hx hb dX2_darkOf_0 rfl (lv_at hl 0 rfl) ?_
  refine tGet (T := TX2) (N := 13) (ci := 2) C hw inX2 0 0 rfl (by decide) kf_RX2_9 rfl rfl rfl dX2_darkOf_1 ?_
  refine lv_iload_n hx hb dX2_darkOf_4 rfl (lv_at hl 1 rfl) ?_
  refine lv_iconst (v := 0) hx hb dX2_darkOf_5 (by decide) ?_
  obtain ⟨r1, hr1, h⟩ := cl_some h
  refine cSi (ws2 := (wM cA ad Y)) (As := [.int a_1, .int 0]) (rest := [.ref (ad 1)]) C hw jnE (kX2_ofR hr1) kl_RX2_44 kt_yX2_ofR kn_RX2 kc_yX2_ofR ⟨rfl, rfl⟩ hdX2_ofR ⟨Nat.le_of_ble_eq_true rfl, Nat.le_of_ble_eq_true rfl⟩ rfl hl.1 (Nat.le_of_ble_eq_true rfl) dX2_darkOf_6 ⟨Nat.zero_le _, Nat.zero_le _⟩ (fun H locs hw => ?_)
  obtain ⟨r2, ir2, er2, h⟩ := rd_some h
  refine tLd C hw 1 rfl ir2 er2 dX2_darkOf_9 ?_
  refine lv_aload_n hx hb dX2_darkOf_10 rfl (lv_at hl 0 rfl) ?_
  refine tGet (T := TX2) (N := 13) (ci := 2) C hw inX2 0 0 rfl (by decide) kf_RX2_9 rfl rfl rfl dX2_darkOf_11 ?_
  refine lv_iload_n hx hb dX2_darkOf_14 rfl (lv_at hl 1 rfl) ?_
  refine lv_iconst (v := 1) hx hb dX2_darkOf_15 (by decide) ?_
  obtain ⟨r3, hr3, h⟩ := cl_some h
  refine cSi (ws2 := (wM cA ad Y)) (As := [.int a_1, .int 1]) (rest := [.ref (ad 1), .int r2]) C hw jnE (kX2_ofR hr3) kl_RX2_44 kt_yX2_ofR kn_RX2 kc_yX2_ofR ⟨rfl, rfl⟩ hdX2_ofR ⟨Nat.le_of_ble_eq_true rfl, Nat.le_of_ble_eq_true rfl⟩ rfl hl.1 (Nat.le_of_ble_eq_true rfl) dX2_darkOf_16 ⟨Nat.zero_le _, Nat.zero_le _⟩ (fun H locs hw => ?_)
  obtain ⟨r4, ir4, er4, h⟩ := rd_some h
  refine tLd C hw 1 rfl ir4 er4 dX2_darkOf_19 ?_
  obtain ⟨r5, hr5, h⟩ := cl_some h
  refine cSi (ws2 := (wM cA ad Y)) (As := [.int r2, .int r4]) (rest := []) C hw jnE (kX2_darkBy hr5) kl_RX2_141 kt_yX2_darkBy kn_RX2 kc_yX2_darkBy ⟨rfl, rfl⟩ hdX2_darkBy ⟨Nat.le_of_ble_eq_true rfl, Nat.le_of_ble_eq_true rfl⟩ rfl hl.1 (Nat.le_of_ble_eq_true rfl) dX2_darkOf_20 ⟨Nat.zero_le _, Nat.zero_le _⟩ (fun H locs hw => ?_)
  obtain rfl := some_e h
  exact rtI C hr hw dX2_darkOf_23
abbrev rmX2_longest : Room := { frames := 3, cells := 0, slots := 0, locals := 63 }
theorem hdX2_longest : yX2_longest.cls = RX2 ∧ yX2_longest.cls ≠ "java/lang/invoke/MethodHandle" ∧ yX2_longest.cls ≠ "java/lang/invoke/VarHandle" ∧ (parseMethodDescriptor yX2_longest.desc).map (fun d => d.parameters.length) = some 1 := by decide +kernel
def GX2_longest_64 (p : Program) (l : Launch) (e : Env) (s : State) (m : MethodId) (args : Array Value) (below : List Frame) (meth : Method) (c : Code) (D : va_G) (cA : ClassId) (A : Nat → Prop) (ad : Nat → Nat) (z : (Int32 × VS)) (x : (VS) × (Int32) × (Int32)) : Prop := ∀ (H : Heap) (locs : List Loc) (ls : Array Slot), Wd D A s.heap (wM cA ad x.1) H locs → lv_has ls 4 [(0, .ref (ad 0)), (2, .int x.2.1), (3, .int x.2.2)] → W p l e rmX2_longest s m args below meth c H locs 0 0 (MQ below (QI D cA A z.1 (wM cA ad z.2)) args s 0 0 A) (F0 m 64 ls [])
def GX2_longest_62 (p : Program) (l : Launch) (e : Env) (s : State) (m : MethodId) (args : Array Value) (below : List Frame) (meth : Method) (c : Code) (D : va_G) (cA : ClassId) (A : Nat → Prop) (ad : Nat → Nat) (z : (Int32 × VS)) (x : (VS) × (Int32)) : Prop := ∀ (H : Heap) (locs : List Loc) (ls : Array Slot), Wd D A s.heap (wM cA ad x.1) H locs → lv_has ls 4 [(0, .ref (ad 0)), (3, .int x.2)] → W p l e rmX2_longest s m args below meth c H locs 0 0 (MQ below (QI D cA A z.1 (wM cA ad z.2)) args s 0 0 A) (F0 m 62 ls [])
def GX2_longest_35 (p : Program) (l : Launch) (e : Env) (s : State) (m : MethodId) (args : Array Value) (below : List Frame) (meth : Method) (c : Code) (D : va_G) (cA : ClassId) (A : Nat → Prop) (ad : Nat → Nat) (z : (Int32 × VS)) (x : (VS) × (Int32) × (Int32)) : Prop := ∀ (H : Heap) (locs : List Loc) (ls : Array Slot), Wd D A s.heap (wM cA ad x.1) H locs → lv_has ls 4 [(0, .ref (ad 0)), (2, .int x.2.1), (3, .int x.2.2)] → W p l e rmX2_longest s m args below meth c H locs 0 0 (MQ below (QI D cA A z.1 (wM cA ad z.2)) args s 0 0 A) (F0 m 35 ls [])
def fX2_longest_64 (k35 : ((VS) × (Int32) × (Int32)) → Option (Int32 × VS)) : ((VS) × (Int32) × (Int32)) → Option (Int32 × VS) := fun x => match x with | (Y, x_2, x_3) => bn (x_3 + 1) (fun x1 => k35 (Y, x_2, x1))
def fX2_longest_62 (k35 : ((VS) × (Int32) × (Int32)) → Option (Int32 × VS)) : ((VS) × (Int32)) → Option (Int32 × VS) := fun x => match x with | (Y, x_3) => fX2_longest_64 k35 (Y, x_3, x_3)
def fX2_longest_35 (k35 : ((VS) × (Int32) × (Int32)) → Option (Int32 × VS)) : ((VS) × (Int32) × (Int32)) → Option (Int32 × VS) := fun x => match x with | (Y, x_2, x_3) => rd 81 (Y 0) 0 (fun r1 => if r1 ≤ x_3 then some (x_2, Y) else if x_2 < 0 then fX2_longest_62 k35 (Y, x_3) else cl (fX2_darkOf Y x_3) (fun r4 => cl (fX2_darkOf Y x_2) (fun r5 => if r4 ≤ r5 then fX2_longest_64 k35 (Y, x_2, x_3) else fX2_longest_62 k35 (Y, x_3))))
def fX2_longest (Y : VS) (a_1 : Int32) : Option (Int32 × VS) := cl (fX2_isIn a_1 0 1) (fun r1 => if r1 = 0 then cl (fX2_no Y (-2)) (fun q6 => some (q6.1, q6.2)) else if a_1 = 1 then cl (fX2_boxed Y) (fun r4 => cl (fX2_costOf Y r4) (fun r5 => some (r5, Y))) else lp (fX2_longest_35) 5000 (Y, (-9), 0))
set_option maxHeartbeats 4000000 in
set_option maxRecDepth 100000 in
theorem kX2_longest_64 (C : Cx p s m args meth c cX2_longest 4 RX2 D cA g A) (hr : meth.sig.returnType = (some .int)) {z : (Int32 × VS)} (k35 : ((VS) × (Int32) × (Int32)) → Option (Int32 × VS)) (hk35 : ∀ x, k35 x = some z → GX2_longest_35 p l e s m args below meth c D cA A ad z x) (x : (VS) × (Int32) × (Int32)) (h : fX2_longest_64 k35 x = some z) : GX2_longest_64 p l e s m args below meth c D cA A ad z x := by
  obtain ⟨Y, x_2, x_3⟩ := x
  intro H locs ls hw hl
  have hw : Wd D A s.heap (wM cA ad Y) H locs := hw
  have hl : lv_has ls 4 [(0, .ref (ad 0)), (2, .int x_2), (3, .int x_3)] := hl
  have hx := C.1.1
  have hb := C.1.2.1
  have h : (bn (x_3 + 1) (fun x1 => k35 (Y, x_2, x1))) = some z := h
  obtain ⟨x1, ex1⟩ : ∃ y : Int32, y = x_3 + 1 := ⟨_, rfl⟩
  replace h := bn_some h ex1
  refine lv_iinc (v := x1) (lv' := [(3, .int x1), (0, .ref (ad 0)), (2, .int x_2)]) hx hb dX2_longest_64 hl (k := 2) rfl (by rw [ex1]; rfl) (by decide) rfl (fun ls hl => ?_)
  refine lv_goto (tgt := 35) hx hb dX2_longest_67 (by decide) ?_
  exact hk35 (Y, x_2, x1) h _ _ _ hw (lv_sub hl [1, 2, 0] rfl)
set_option maxHeartbeats 4000000 in
set_option maxRecDepth 100000 in
theorem kX2_longest_62 (C : Cx p s m args meth c cX2_longest 4 RX2 D cA g A) (hr : meth.sig.returnType = (some .int)) {z : (Int32 × VS)} (k35 : ((VS) × (Int32) × (Int32)) → Option (Int32 × VS)) (hk35 : ∀ x, k35 x = some z → GX2_longest_35 p l e s m args below meth c D cA A ad z x) (x : (VS) × (Int32)) (h : fX2_longest_62 k35 x = some z) : GX2_longest_62 p l e s m args below meth c D cA A ad z x := by
  obtain ⟨Y, x_3⟩ := x
  intro H locs ls hw hl
  have hw : Wd D A s.heap (wM cA ad Y) H locs := hw
  have hl : lv_has ls 4 [(0, .ref (ad 0)), (3, .int x_3)] := hl
  have hx := C.1.1
  have hb := C.1.2.1
  have h : (fX2_longest_64 k35 (Y, x_3, x_3)) = some z := h
  refine lv_iload_n hx hb dX2_longest_62 rfl (lv_at hl 1 rfl) ?_
  refine lv_istore_n (lv' := [(2, .int x_3), (0, .ref (ad 0)), (3, .int x_3)]) hx hb dX2_longest_63 rfl hl (by decide) rfl (fun ls hl => ?_)
  exact kX2_longest_64 C hr k35 hk35 (Y, x_3, x_3) h _ _ _ hw (lv_sub hl [1, 0, 2] rfl)
set_option maxHeartbeats 4000000 in
set_option maxRecDepth 100000 in
theorem kX2_longest_35 (C : Cx p s m args meth c cX2_longest 4 RX2 D cA g A) (hr : meth.sig.returnType = (some .int)) {z : (Int32 × VS)} (k35 : ((VS) × (Int32) × (Int32)) → Option (Int32 × VS)) (hk35 : ∀ x, k35 x = some z → GX2_longest_35 p l e s m args below meth c D cA A ad z x) (x : (VS) × (Int32) × (Int32)) (h : fX2_longest_35 k35 x = some z) : GX2_longest_35 p l e s m args below meth c D cA A ad z x := by
  obtain ⟨Y, x_2, x_3⟩ := x
  intro H locs ls hw hl
  have hw : Wd D A s.heap (wM cA ad Y) H locs := hw
  have hl : lv_has ls 4 [(0, .ref (ad 0)), (2, .int x_2), (3, .int x_3)] := hl
  have hx := C.1.1
  have hb := C.1.2.1
  have h : (rd 81 (Y 0) 0 (fun r1 => if r1 ≤ x_3 then some (x_2, Y) else if x_2 < 0 then fX2_longest_62 k35 (Y, x_3) else cl (fX2_darkOf Y x_3) (fun r4 => cl (fX2_darkOf Y x_2) (fun r5 => if r4 ≤ r5 then fX2_longest_64 k35 (Y, x_2, x_3) else fX2_longest_62 k35 (Y, x_3))))) = some z := h
  refine lv_iload_n hx hb dX2_longest_35 rfl (lv_at hl 2 rfl) ?_
  refine lv_aload_n hx hb dX2_longest_36 rfl (lv_at hl 0 rfl) ?_
  refine tGet (T := TX2) (N := 13) (ci := 2) C hw inX2 0 0 rfl (by decide) kf_RX2_9 rfl rfl rfl dX2_longest_37 ?_
  refine lv_iconst (v := 0) hx hb dX2_longest_40 (by decide) ?_
  obtain ⟨r1, ir1, er1, h⟩ := rd_some h
  refine tLd C hw 1 rfl ir1 er1 dX2_longest_41 ?_
  refine lv_icmp_ge (tgt := 70) hx hb dX2_longest_42 (by decide) (fun c2 => ?_) (fun c2 => ?_)
  · replace h := (if_pos c2).symm.trans h
    refine lv_iload_n hx hb dX2_longest_70 rfl (lv_at hl 1 rfl) ?_
    obtain rfl := some_e h
    exact rtI C hr hw dX2_longest_71
  · replace h := (if_neg c2).symm.trans h
    refine lv_iload_n hx hb dX2_longest_45 rfl (lv_at hl 1 rfl) ?_
    refine lv_if_lt (tgt := 62) hx hb dX2_longest_46 (by decide) (fun c3 => ?_) (fun c3 => ?_)
    · replace h := (if_pos c3).symm.trans h
      exact kX2_longest_62 C hr k35 hk35 (Y, x_3) h _ _ _ hw (lv_sub hl [0, 2] rfl)
    · replace h := (if_neg c3).symm.trans h
      refine lv_aload_n hx hb dX2_longest_49 rfl (lv_at hl 0 rfl) ?_
      refine lv_iload_n hx hb dX2_longest_50 rfl (lv_at hl 2 rfl) ?_
      obtain ⟨r4, hr4, h⟩ := cl_some h
      refine cVi (ws2 := (wM cA ad Y)) (As := [.int x_3]) (rest := []) C hw jnW (kX2_darkOf ad hr4) kl_RX2_190 ki_yX2_darkOf ks_yX2_darkOf kn_RX2 kc_yX2_darkOf ⟨rfl, rfl⟩ hdX2_darkOf ⟨Nat.le_of_ble_eq_true rfl, Nat.le_of_ble_eq_true rfl⟩ (ci := 2) (q0 := 0) rfl rfl rfl rfl hl.1 (Nat.le_of_ble_eq_true rfl) dX2_longest_51 ⟨Nat.zero_le _, Nat.zero_le _⟩ (fun H locs hw => ?_)
      refine lv_aload_n hx hb dX2_longest_54 rfl (lv_at hl 0 rfl) ?_
      refine lv_iload_n hx hb dX2_longest_55 rfl (lv_at hl 1 rfl) ?_
      obtain ⟨r5, hr5, h⟩ := cl_some h
      refine cVi (ws2 := (wM cA ad Y)) (As := [.int x_2]) (rest := [.int r4]) C hw jnW (kX2_darkOf ad hr5) kl_RX2_190 ki_yX2_darkOf ks_yX2_darkOf kn_RX2 kc_yX2_darkOf ⟨rfl, rfl⟩ hdX2_darkOf ⟨Nat.le_of_ble_eq_true rfl, Nat.le_of_ble_eq_true rfl⟩ (ci := 2) (q0 := 0) rfl rfl rfl rfl hl.1 (Nat.le_of_ble_eq_true rfl) dX2_longest_56 ⟨Nat.zero_le _, Nat.zero_le _⟩ (fun H locs hw => ?_)
      refine lv_icmp_le (tgt := 64) hx hb dX2_longest_59 (by decide) (fun c6 => ?_) (fun c6 => ?_)
      · replace h := (if_pos c6).symm.trans h
        exact kX2_longest_64 C hr k35 hk35 (Y, x_2, x_3) h _ _ _ hw (lv_sub hl [0, 1, 2] rfl)
      · replace h := (if_neg c6).symm.trans h
        exact kX2_longest_62 C hr k35 hk35 (Y, x_3) h _ _ _ hw (lv_sub hl [0, 2] rfl)
theorem lX2_longest_35 (C : Cx p s m args meth c cX2_longest 4 RX2 D cA g A) (hr : meth.sig.returnType = (some .int)) {z : (Int32 × VS)} (n : Nat) (x : (VS) × (Int32) × (Int32)) (h : lp (fX2_longest_35) n x = some z) : GX2_longest_35 p l e s m args below meth c D cA A ad z x := lp_ok (GX2_longest_35 p l e s m args below meth c D cA A ad z) (fun kq hkq x h => kX2_longest_35 C hr kq hkq x h) n x h
set_option maxHeartbeats 4000000 in
set_option maxRecDepth 100000 in
theorem kX2_longest (ad : Nat → Nat) {Y : VS} {a_1 : Int32} {z : (Int32 × VS)} (h : fX2_longest Y a_1 = some z) : MI l D cA g yX2_longest (Cond.code yX2_longest cX2_longest 4 (some .int) :: lw_g) rmX2_longest [.ref (ad 0), .int a_1] (wM cA ad Y) z.1 (wM cA ad z.2) := by
  intro sz
  refine Met.ofW (cc := cX2_longest) (maxL := 4) (ret := (some .int)) (by decide) rfl ?_
  intro p e s m args below meth c s₁ B hml hv
  obtain ⟨rfl, C, hr, hw⟩ := ent B hml hv
  generalize va_A (wM cA ad Y) sz = A at C hw ⊢
  have hl := lv_entry ([.ref (ad 0), .int a_1]) (n := 4) (Nat.le_of_ble_eq_true rfl)
  rw [lg_entry_eq]
  generalize (lg_sl ([.ref (ad 0), .int a_1]) ++ List.replicate (4 - (lg_sl ([.ref (ad 0), .int a_1])).length) Slot.unset).toArray = ls at hl ⊢
  have hl : lv_has ls 4 [(0, .ref (ad 0)), (1, .int a_1)] := hl
  have hx := C.1.1
  have hb := C.1.2.1
  have h : (cl (fX2_isIn a_1 0 1) (fun r1 => if r1 = 0 then cl (fX2_no Y (-2)) (fun q6 => some (q6.1, q6.2)) else if a_1 = 1 then cl (fX2_boxed Y) (fun r4 => cl (fX2_costOf Y r4) (fun r5 => some (r5, Y))) else lp (fX2_longest_35) 5000 (Y, (-9), 0))) = some z := h
  refine lv_iload_n hx hb dX2_longest_0 rfl (lv_at hl 1 rfl) ?_
  refine lv_iconst (v := 0) hx hb dX2_longest_1 (by decide) ?_
  refine lv_iconst (v := 1) hx hb dX2_longest_2 (by decide) ?_
  obtain ⟨r1, hr1, h⟩ := cl_some h
  refine cSi (ws2 := (wM cA ad Y)) (As := [.int a_1, .int 0, .int 1]) (rest := []) C hw jnE (kX2_isIn hr1) kl_RX2_40 kt_yX2_isIn kn_RX2 kc_yX2_isIn ⟨rfl, rfl⟩ hdX2_isIn ⟨Nat.le_of_ble_eq_true rfl, Nat.le_of_ble_eq_true rfl⟩ rfl hl.1 (Nat.le_of_ble_eq_true rfl) dX2_longest_3 ⟨Nat.zero_le _, Nat.zero_le _⟩ (fun H locs hw => ?_)
  refine lv_if_ne (tgt := 16) hx hb dX2_longest_6 (by decide) (fun c2 => ?_) (fun c2 => ?_)
  · replace h := (if_neg c2).symm.trans h
    refine lv_iload_n hx hb dX2_longest_16 rfl (lv_at hl 1 rfl) ?_
    refine lv_iconst (v := 1) hx hb dX2_longest_17 (by decide) ?_
    refine lv_icmp_ne (tgt := 30) hx hb dX2_longest_18 (by decide) (fun c3 => ?_) (fun c3 => ?_)
    · replace h := (if_neg c3).symm.trans h
      refine lv_bipush (v := (-9)) hx hb dX2_longest_30 (by decide) ?_
      refine lv_istore_n (lv' := [(2, .int (-9)), (0, .ref (ad 0)), (1, .int a_1)]) hx hb dX2_longest_32 rfl hl (by decide) rfl (fun ls hl => ?_)
      refine lv_iconst (v := 0) hx hb dX2_longest_33 (by decide) ?_
      refine lv_istore_n (lv' := [(3, .int 0), (2, .int (-9)), (0, .ref (ad 0)), (1, .int a_1)]) hx hb dX2_longest_34 rfl hl (by decide) rfl (fun ls hl => ?_)
      exact lX2_longest_35 C hr 5000 (Y, (-9), 0) h _ _ _ hw (lv_sub hl [2, 1, 0] rfl)
    · replace h := (if_pos c3).symm.trans h
      refine lv_aload_n hx hb dX2_longest_21 rfl (lv_at hl 0 rfl) ?_
      refine lv_aload_n hx hb dX2_longest_22 rfl (lv_at hl 0 rfl) ?_
      obtain ⟨r4, hr4, h⟩ := cl_some h
      refine cVi (ws2 := (wM cA ad Y)) (As := []) (rest := [.ref (ad 0)]) C hw jnW (kX2_boxed ad hr4) kl_RX2_171 ki_yX2_boxed ks_yX2_boxed kn_RX2 kc_yX2_boxed ⟨rfl, rfl⟩ hdX2_boxed ⟨Nat.le_of_ble_eq_true rfl, Nat.le_of_ble_eq_true rfl⟩ (ci := 2) (q0 := 0) rfl rfl rfl rfl hl.1 (Nat.le_of_ble_eq_true rfl) dX2_longest_23 ⟨Nat.zero_le _, Nat.zero_le _⟩ (fun H locs hw => ?_)
      obtain ⟨r5, hr5, h⟩ := cl_some h
      refine cVi (ws2 := (wM cA ad Y)) (As := [.int r4]) (rest := []) C hw jnW (kX2_costOf ad hr5) kl_RX2_177 ki_yX2_costOf ks_yX2_costOf kn_RX2 kc_yX2_costOf ⟨rfl, rfl⟩ hdX2_costOf ⟨Nat.le_of_ble_eq_true rfl, Nat.le_of_ble_eq_true rfl⟩ (ci := 2) (q0 := 0) rfl rfl rfl rfl hl.1 (Nat.le_of_ble_eq_true rfl) dX2_longest_26 ⟨Nat.zero_le _, Nat.zero_le _⟩ (fun H locs hw => ?_)
      obtain rfl := some_e h
      exact rtI C hr hw dX2_longest_29
  · replace h := (if_pos c2).symm.trans h
    refine lv_aload_n hx hb dX2_longest_9 rfl (lv_at hl 0 rfl) ?_
    refine lv_bipush (v := (-2)) hx hb dX2_longest_10 (by decide) ?_
    obtain ⟨q6, hq6, h⟩ := cl_some h
    refine cVi (ws2 := (wM cA ad q6.2)) (As := [.int (-2)]) (rest := []) C hw jnW (kX2_no ad hq6) kl_RX2_36 ki_yX2_no ks_yX2_no kn_RX2 kc_yX2_no ⟨rfl, rfl⟩ hdX2_no ⟨Nat.le_of_ble_eq_true rfl, Nat.le_of_ble_eq_true rfl⟩ (ci := 2) (q0 := 0) rfl rfl rfl rfl hl.1 (Nat.le_of_ble_eq_true rfl) dX2_longest_12 ⟨Nat.zero_le _, Nat.zero_le _⟩ (fun H locs hw => ?_)
    obtain rfl := some_e h
    exact rtI C hr hw dX2_longest_15
abbrev rmX2_seen : Room := { frames := 4, cells := 0, slots := 0, locals := 89 }
theorem hdX2_seen : yX2_seen.cls = RX2 ∧ yX2_seen.cls ≠ "java/lang/invoke/MethodHandle" ∧ yX2_seen.cls ≠ "java/lang/invoke/VarHandle" ∧ (parseMethodDescriptor yX2_seen.desc).map (fun d => d.parameters.length) = some 1 := by decide +kernel
def GX2_seen_62 (p : Program) (l : Launch) (e : Env) (s : State) (m : MethodId) (args : Array Value) (below : List Frame) (meth : Method) (c : Code) (D : va_G) (cA : ClassId) (A : Nat → Prop) (ad : Nat → Nat) (z : (Int32 × VS)) (x : (VS) × (Int32) × (Int32) × (Int32)) : Prop := ∀ (H : Heap) (locs : List Loc) (ls : Array Slot), Wd D A s.heap (wM cA ad x.1) H locs → lv_has ls 4 [(0, .ref (ad 0)), (1, .int x.2.1), (2, .int x.2.2.1), (3, .int x.2.2.2)] → W p l e rmX2_seen s m args below meth c H locs 0 0 (MQ below (QI D cA A z.1 (wM cA ad z.2)) args s 0 0 A) (F0 m 62 ls [])
def GX2_seen_60 (p : Program) (l : Launch) (e : Env) (s : State) (m : MethodId) (args : Array Value) (below : List Frame) (meth : Method) (c : Code) (D : va_G) (cA : ClassId) (A : Nat → Prop) (ad : Nat → Nat) (z : (Int32 × VS)) (x : (VS) × (Int32) × (Int32)) : Prop := ∀ (H : Heap) (locs : List Loc) (ls : Array Slot), Wd D A s.heap (wM cA ad x.1) H locs → lv_has ls 4 [(0, .ref (ad 0)), (1, .int x.2.1), (3, .int x.2.2)] → W p l e rmX2_seen s m args below meth c H locs 0 0 (MQ below (QI D cA A z.1 (wM cA ad z.2)) args s 0 0 A) (F0 m 60 ls [])
def GX2_seen_21 (p : Program) (l : Launch) (e : Env) (s : State) (m : MethodId) (args : Array Value) (below : List Frame) (meth : Method) (c : Code) (D : va_G) (cA : ClassId) (A : Nat → Prop) (ad : Nat → Nat) (z : (Int32 × VS)) (x : (VS) × (Int32) × (Int32) × (Int32)) : Prop := ∀ (H : Heap) (locs : List Loc) (ls : Array Slot), Wd D A s.heap (wM cA ad x.1) H locs → lv_has ls 4 [(0, .ref (ad 0)), (1, .int x.2.1), (2, .int x.2.2.1), (3, .int x.2.2.2)] → W p l e rmX2_seen s m args below meth c H locs 0 0 (MQ below (QI D cA A z.1 (wM cA ad z.2)) args s 0 0 A) (F0 m 21 ls [])
def fX2_seen_62 (k21 : ((VS) × (Int32) × (Int32) × (Int32)) → Option (Int32 × VS)) : ((VS) × (Int32) × (Int32) × (Int32)) → Option (Int32 × VS) := fun x => match x with | (Y, x_1, x_2, x_3) => bn (x_3 + 1) (fun x1 => k21 (Y, x_1, x_2, x1))
def fX2_seen_60 (k21 : ((VS) × (Int32) × (Int32) × (Int32)) → Option (Int32 × VS)) : ((VS) × (Int32) × (Int32)) → Option (Int32 × VS) := fun x => match x with | (Y, x_1, x_3) => fX2_seen_62 k21 (Y, x_1, x_3, x_3)
def fX2_seen_21 (k21 : ((VS) × (Int32) × (Int32) × (Int32)) → Option (Int32 × VS)) : ((VS) × (Int32) × (Int32) × (Int32)) → Option (Int32 × VS) := fun x => match x with | (Y, x_1, x_2, x_3) => rd 81 (Y 0) 0 (fun r1 => if r1 ≤ x_3 then if x_1 = 1 then some (x_2, Y) else if 0 ≤ x_2 then cl (fX2_readers (Y 0) x_2) (fun r5 => cl (fX2_bits r5) (fun r6 => some (r6, Y))) else some (0, Y) else if x_2 < 0 then fX2_seen_60 k21 (Y, x_1, x_3) else cl (fX2_readers (Y 0) x_3) (fun r8 => cl (fX2_bits r8) (fun r9 => cl (fX2_readers (Y 0) x_2) (fun r10 => cl (fX2_bits r10) (fun r11 => if r9 ≤ r11 then fX2_seen_62 k21 (Y, x_1, x_2, x_3) else fX2_seen_60 k21 (Y, x_1, x_3))))))
def fX2_seen (Y : VS) (a_1 : Int32) : Option (Int32 × VS) := cl (fX2_isIn a_1 0 1) (fun r1 => if r1 = 0 then cl (fX2_no Y (-2)) (fun q3 => some (q3.1, q3.2)) else lp (fX2_seen_21) 5000 (Y, a_1, (-9), 0))
set_option maxHeartbeats 4000000 in
set_option maxRecDepth 100000 in
theorem kX2_seen_62 (C : Cx p s m args meth c cX2_seen 4 RX2 D cA g A) (hr : meth.sig.returnType = (some .int)) {z : (Int32 × VS)} (k21 : ((VS) × (Int32) × (Int32) × (Int32)) → Option (Int32 × VS)) (hk21 : ∀ x, k21 x = some z → GX2_seen_21 p l e s m args below meth c D cA A ad z x) (x : (VS) × (Int32) × (Int32) × (Int32)) (h : fX2_seen_62 k21 x = some z) : GX2_seen_62 p l e s m args below meth c D cA A ad z x := by
  obtain ⟨Y, x_1, x_2, x_3⟩ := x
  intro H locs ls hw hl
  have hw : Wd D A s.heap (wM cA ad Y) H locs := hw
  have hl : lv_has ls 4 [(0, .ref (ad 0)), (1, .int x_1), (2, .int x_2), (3, .int x_3)] := hl
  have hx := C.1.1
  have hb := C.1.2.1
  have h : (bn (x_3 + 1) (fun x1 => k21 (Y, x_1, x_2, x1))) = some z := h
  obtain ⟨x1, ex1⟩ : ∃ y : Int32, y = x_3 + 1 := ⟨_, rfl⟩
  replace h := bn_some h ex1
  refine lv_iinc (v := x1) (lv' := [(3, .int x1), (0, .ref (ad 0)), (1, .int x_1), (2, .int x_2)]) hx hb dX2_seen_62 hl (k := 3) rfl (by rw [ex1]; rfl) (by decide) rfl (fun ls hl => ?_)
  refine lv_goto (tgt := 21) hx hb dX2_seen_65 (by decide) ?_
  exact hk21 (Y, x_1, x_2, x1) h _ _ _ hw (lv_sub hl [1, 2, 3, 0] rfl)
set_option maxHeartbeats 4000000 in
set_option maxRecDepth 100000 in
theorem kX2_seen_60 (C : Cx p s m args meth c cX2_seen 4 RX2 D cA g A) (hr : meth.sig.returnType = (some .int)) {z : (Int32 × VS)} (k21 : ((VS) × (Int32) × (Int32) × (Int32)) → Option (Int32 × VS)) (hk21 : ∀ x, k21 x = some z → GX2_seen_21 p l e s m args below meth c D cA A ad z x) (x : (VS) × (Int32) × (Int32)) (h : fX2_seen_60 k21 x = some z) : GX2_seen_60 p l e s m args below meth c D cA A ad z x := by
  obtain ⟨Y, x_1, x_3⟩ := x
  intro H locs ls hw hl
  have hw : Wd D A s.heap (wM cA ad Y) H locs := hw
  have hl : lv_has ls 4 [(0, .ref (ad 0)), (1, .int x_1), (3, .int x_3)] := hl
  have hx := C.1.1
  have hb := C.1.2.1
  have h : (fX2_seen_62 k21 (Y, x_1, x_3, x_3)) = some z := h
  refine lv_iload_n hx hb dX2_seen_60 rfl (lv_at hl 2 rfl) ?_
  refine lv_istore_n (lv' := [(2, .int x_3), (0, .ref (ad 0)), (1, .int x_1), (3, .int x_3)]) hx hb dX2_seen_61 rfl hl (by decide) rfl (fun ls hl => ?_)
  exact kX2_seen_62 C hr k21 hk21 (Y, x_1, x_3, x_3) h _ _ _ hw (lv_sub hl [1, 2, 0, 3] rfl)
set_option maxHeartbeats 4000000 in
set_option maxRecDepth 100000 in
theorem kX2_seen_21 (C : Cx p s m args meth c cX2_seen 4 RX2 D cA g A) (hr : meth.sig.returnType = (some .int)) {z : (Int32 × VS)} (k21 : ((VS) × (Int32) × (Int32) × (Int32)) → Option (Int32 × VS)) (hk21 : ∀ x, k21 x = some z → GX2_seen_21 p l e s m args below meth c D cA A ad z x) (x : (VS) × (Int32) × (Int32) × (Int32)) (h : fX2_seen_21 k21 x = some z) : GX2_seen_21 p l e s m args below meth c D cA A ad z x := by
  obtain ⟨Y, x_1, x_2, x_3⟩ := x
  intro H locs ls hw hl
  have hw : Wd D A s.heap (wM cA ad Y) H locs := hw
  have hl : lv_has ls 4 [(0, .ref (ad 0)), (1, .int x_1), (2, .int x_2), (3, .int x_3)] := hl
  have hx := C.1.1
  have hb := C.1.2.1
  have h : (rd 81 (Y 0) 0 (fun r1 => if r1 ≤ x_3 then if x_1 = 1 then some (x_2, Y) else if 0 ≤ x_2 then cl (fX2_readers (Y 0) x_2) (fun r5 => cl (fX2_bits r5) (fun r6 => some (r6, Y))) else some (0, Y) else if x_2 < 0 then fX2_seen_60 k21 (Y, x_1, x_3) else cl (fX2_readers (Y 0) x_3) (fun r8 => cl (fX2_bits r8) (fun r9 => cl (fX2_readers (Y 0) x_2) (fun r10 => cl (fX2_bits r10) (fun r11 => if r9 ≤ r11 then fX2_seen_62 k21 (Y, x_1, x_2, x_3) else fX2_seen_60 k21 (Y, x_1, x_3))))))) = some z := h
  refine lv_iload_n hx hb dX2_seen_21 rfl (lv_at hl 3 rfl) ?_
  refine lv_aload_n hx hb dX2_seen_22 rfl (lv_at hl 0 rfl) ?_
  refine tGet (T := TX2) (N := 13) (ci := 2) C hw inX2 0 0 rfl (by decide) kf_RX2_9 rfl rfl rfl dX2_seen_23 ?_
  refine lv_iconst (v := 0) hx hb dX2_seen_26 (by decide) ?_
  obtain ⟨r1, ir1, er1, h⟩ := rd_some h
  refine tLd C hw 1 rfl ir1 er1 dX2_seen_27 ?_
  refine lv_icmp_ge (tgt := 68) hx hb dX2_seen_28 (by decide) (fun c2 => ?_) (fun c2 => ?_)
  · replace h := (if_pos c2).symm.trans h
    refine lv_iload_n hx hb dX2_seen_68 rfl (lv_at hl 1 rfl) ?_
    refine lv_iconst (v := 1) hx hb dX2_seen_69 (by decide) ?_
    refine lv_icmp_ne (tgt := 77) hx hb dX2_seen_70 (by decide) (fun c3 => ?_) (fun c3 => ?_)
    · replace h := (if_neg c3).symm.trans h
      refine lv_iload_n hx hb dX2_seen_77 rfl (lv_at hl 2 rfl) ?_
      refine lv_if_ge (tgt := 85) hx hb dX2_seen_78 (by decide) (fun c4 => ?_) (fun c4 => ?_)
      · replace h := (if_pos c4).symm.trans h
        refine lv_aload_n hx hb dX2_seen_85 rfl (lv_at hl 0 rfl) ?_
        refine tGet (T := TX2) (N := 13) (ci := 2) C hw inX2 0 0 rfl (by decide) kf_RX2_9 rfl rfl rfl dX2_seen_86 ?_
        refine lv_iload_n hx hb dX2_seen_89 rfl (lv_at hl 2 rfl) ?_
        obtain ⟨r5, hr5, h⟩ := cl_some h
        refine cSi (ws2 := (wM cA ad Y)) (As := [.ref (ad 1), .int x_2]) (rest := []) C hw jM0r (kX2_readers (ad 1) hr5) kl_RX2_144 kt_yX2_readers kn_RX2 kc_yX2_readers ⟨rfl, rfl⟩ hdX2_readers ⟨Nat.le_of_ble_eq_true rfl, Nat.le_of_ble_eq_true rfl⟩ rfl hl.1 (Nat.le_of_ble_eq_true rfl) dX2_seen_90 ⟨Nat.zero_le _, Nat.zero_le _⟩ (fun H locs hw => ?_)
        obtain ⟨r6, hr6, h⟩ := cl_some h
        refine cSi (ws2 := (wM cA ad Y)) (As := [.int r5]) (rest := []) C hw jnE (kX2_bits hr6) kl_RX2_94 kt_yX2_bits kn_RX2 kc_yX2_bits ⟨rfl, rfl⟩ hdX2_bits ⟨Nat.le_of_ble_eq_true rfl, Nat.le_of_ble_eq_true rfl⟩ rfl hl.1 (Nat.le_of_ble_eq_true rfl) dX2_seen_93 ⟨Nat.zero_le _, Nat.zero_le _⟩ (fun H locs hw => ?_)
        obtain rfl := some_e h
        exact rtI C hr hw dX2_seen_96
      · replace h := (if_neg c4).symm.trans h
        refine lv_iconst (v := 0) hx hb dX2_seen_81 (by decide) ?_
        refine lv_goto (tgt := 96) hx hb dX2_seen_82 (by decide) ?_
        obtain rfl := some_e h
        exact rtI C hr hw dX2_seen_96
    · replace h := (if_pos c3).symm.trans h
      refine lv_iload_n hx hb dX2_seen_73 rfl (lv_at hl 2 rfl) ?_
      refine lv_goto (tgt := 96) hx hb dX2_seen_74 (by decide) ?_
      obtain rfl := some_e h
      exact rtI C hr hw dX2_seen_96
  · replace h := (if_neg c2).symm.trans h
    refine lv_iload_n hx hb dX2_seen_31 rfl (lv_at hl 2 rfl) ?_
    refine lv_if_lt (tgt := 60) hx hb dX2_seen_32 (by decide) (fun c7 => ?_) (fun c7 => ?_)
    · replace h := (if_pos c7).symm.trans h
      exact kX2_seen_60 C hr k21 hk21 (Y, x_1, x_3) h _ _ _ hw (lv_sub hl [0, 1, 3] rfl)
    · replace h := (if_neg c7).symm.trans h
      refine lv_aload_n hx hb dX2_seen_35 rfl (lv_at hl 0 rfl) ?_
      refine tGet (T := TX2) (N := 13) (ci := 2) C hw inX2 0 0 rfl (by decide) kf_RX2_9 rfl rfl rfl dX2_seen_36 ?_
      refine lv_iload_n hx hb dX2_seen_39 rfl (lv_at hl 3 rfl) ?_
      obtain ⟨r8, hr8, h⟩ := cl_some h
      refine cSi (ws2 := (wM cA ad Y)) (As := [.ref (ad 1), .int x_3]) (rest := []) C hw jM0r (kX2_readers (ad 1) hr8) kl_RX2_144 kt_yX2_readers kn_RX2 kc_yX2_readers ⟨rfl, rfl⟩ hdX2_readers ⟨Nat.le_of_ble_eq_true rfl, Nat.le_of_ble_eq_true rfl⟩ rfl hl.1 (Nat.le_of_ble_eq_true rfl) dX2_seen_40 ⟨Nat.zero_le _, Nat.zero_le _⟩ (fun H locs hw => ?_)
      obtain ⟨r9, hr9, h⟩ := cl_some h
      refine cSi (ws2 := (wM cA ad Y)) (As := [.int r8]) (rest := []) C hw jnE (kX2_bits hr9) kl_RX2_94 kt_yX2_bits kn_RX2 kc_yX2_bits ⟨rfl, rfl⟩ hdX2_bits ⟨Nat.le_of_ble_eq_true rfl, Nat.le_of_ble_eq_true rfl⟩ rfl hl.1 (Nat.le_of_ble_eq_true rfl) dX2_seen_43 ⟨Nat.zero_le _, Nat.zero_le _⟩ (fun H locs hw => ?_)
      refine lv_aload_n hx hb dX2_seen_46 rfl (lv_at hl 0 rfl) ?_
      refine tGet (T := TX2) (N := 13) (ci := 2) C hw inX2 0 0 rfl (by decide) kf_RX2_9 rfl rfl rfl dX2_seen_47 ?_
      refine lv_iload_n hx hb dX2_seen_50 rfl (lv_at hl 2 rfl) ?_
      obtain ⟨r10, hr10, h⟩ := cl_some h
      refine cSi (ws2 := (wM cA ad Y)) (As := [.ref (ad 1), .int x_2]) (rest := [.int r9]) C hw jM0r (kX2_readers (ad 1) hr10) kl_RX2_144 kt_yX2_readers kn_RX2 kc_yX2_readers ⟨rfl, rfl⟩ hdX2_readers ⟨Nat.le_of_ble_eq_true rfl, Nat.le_of_ble_eq_true rfl⟩ rfl hl.1 (Nat.le_of_ble_eq_true rfl) dX2_seen_51 ⟨Nat.zero_le _, Nat.zero_le _⟩ (fun H locs hw => ?_)
      obtain ⟨r11, hr11, h⟩ := cl_some h
      refine cSi (ws2 := (wM cA ad Y)) (As := [.int r10]) (rest := [.int r9]) C hw jnE (kX2_bits hr11) kl_RX2_94 kt_yX2_bits kn_RX2 kc_yX2_bits ⟨rfl, rfl⟩ hdX2_bits ⟨Nat.le_of_ble_eq_true rfl, Nat.le_of_ble_eq_true rfl⟩ rfl hl.1 (Nat.le_of_ble_eq_true rfl) dX2_seen_54 ⟨Nat.zero_le _, Nat.zero_le _⟩ (fun H locs hw => ?_)
      refine lv_icmp_le (tgt := 62) hx hb dX2_seen_57 (by decide) (fun c12 => ?_) (fun c12 => ?_)
      · replace h := (if_pos c12).symm.trans h
        exact kX2_seen_62 C hr k21 hk21 (Y, x_1, x_2, x_3) h _ _ _ hw (lv_sub hl [0, 1, 2, 3] rfl)
      · replace h := (if_neg c12).symm.trans h
        exact kX2_seen_60 C hr k21 hk21 (Y, x_1, x_3) h _ _ _ hw (lv_sub hl [0, 1, 3] rfl)
theorem lX2_seen_21 (C : Cx p s m args meth c cX2_seen 4 RX2 D cA g A) (hr : meth.sig.returnType = (some .int)) {z : (Int32 × VS)} (n : Nat) (x : (VS) × (Int32) × (Int32) × (Int32)) (h : lp (fX2_seen_21) n x = some z) : GX2_seen_21 p l e s m args below meth c D cA A ad z x := lp_ok (GX2_seen_21 p l e s m args below meth c D cA A ad z) (fun kq hkq x h => kX2_seen_21 C hr kq hkq x h) n x h
set_option maxHeartbeats 4000000 in
set_option maxRecDepth 100000 in
theorem kX2_seen (ad : Nat → Nat) {Y : VS} {a_1 : Int32} {z : (Int32 × VS)} (h : fX2_seen Y a_1 = some z) : MI l D cA g yX2_seen (Cond.code yX2_seen cX2_seen 4 (some .int) :: lw_g) rmX2_seen [.ref (ad 0), .int a_1] (wM cA ad Y) z.1 (wM cA ad z.2) := by
  intro sz
  refine Met.ofW (cc := cX2_seen) (maxL := 4) (ret := (some .int)) (by decide) rfl ?_
  intro p e s m args below meth c s₁ B hml hv
  obtain ⟨rfl, C, hr, hw⟩ := ent B hml hv
  generalize va_A (wM cA ad Y) sz = A at C hw ⊢
  have hl := lv_entry ([.ref (ad 0), .int a_1]) (n := 4) (Nat.le_of_ble_eq_true rfl)
  rw [lg_entry_eq]
  generalize (lg_sl ([.ref (ad 0), .int a_1]) ++ List.replicate (4 - (lg_sl ([.ref (ad 0), .int a_1])).length) Slot.unset).toArray = ls at hl ⊢
  have hl : lv_has ls 4 [(0, .ref (ad 0)), (1, .int a_1)] := hl
  have hx := C.1.1
  have hb := C.1.2.1
  have h : (cl (fX2_isIn a_1 0 1) (fun r1 => if r1 = 0 then cl (fX2_no Y (-2)) (fun q3 => some (q3.1, q3.2)) else lp (fX2_seen_21) 5000 (Y, a_1, (-9), 0))) = some z := h
  refine lv_iload_n hx hb dX2_seen_0 rfl (lv_at hl 1 rfl) ?_
  refine lv_iconst (v := 0) hx hb dX2_seen_1 (by decide) ?_
  refine lv_iconst (v := 1) hx hb dX2_seen_2 (by decide) ?_
  obtain ⟨r1, hr1, h⟩ := cl_some h
  refine cSi (ws2 := (wM cA ad Y)) (As := [.int a_1, .int 0, .int 1]) (rest := []) C hw jnE (kX2_isIn hr1) kl_RX2_40 kt_yX2_isIn kn_RX2 kc_yX2_isIn ⟨rfl, rfl⟩ hdX2_isIn ⟨Nat.le_of_ble_eq_true rfl, Nat.le_of_ble_eq_true rfl⟩ rfl hl.1 (Nat.le_of_ble_eq_true rfl) dX2_seen_3 ⟨Nat.zero_le _, Nat.zero_le _⟩ (fun H locs hw => ?_)
  refine lv_if_ne (tgt := 16) hx hb dX2_seen_6 (by decide) (fun c2 => ?_) (fun c2 => ?_)
  · replace h := (if_neg c2).symm.trans h
    refine lv_bipush (v := (-9)) hx hb dX2_seen_16 (by decide) ?_
    refine lv_istore_n (lv' := [(2, .int (-9)), (0, .ref (ad 0)), (1, .int a_1)]) hx hb dX2_seen_18 rfl hl (by decide) rfl (fun ls hl => ?_)
    refine lv_iconst (v := 0) hx hb dX2_seen_19 (by decide) ?_
    refine lv_istore_n (lv' := [(3, .int 0), (2, .int (-9)), (0, .ref (ad 0)), (1, .int a_1)]) hx hb dX2_seen_20 rfl hl (by decide) rfl (fun ls hl => ?_)
    exact lX2_seen_21 C hr 5000 (Y, a_1, (-9), 0) h _ _ _ hw (lv_sub hl [2, 3, 1, 0] rfl)
  · replace h := (if_pos c2).symm.trans h
    refine lv_aload_n hx hb dX2_seen_9 rfl (lv_at hl 0 rfl) ?_
    refine lv_bipush (v := (-2)) hx hb dX2_seen_10 (by decide) ?_
    obtain ⟨q3, hq3, h⟩ := cl_some h
    refine cVi (ws2 := (wM cA ad q3.2)) (As := [.int (-2)]) (rest := []) C hw jnW (kX2_no ad hq3) kl_RX2_36 ki_yX2_no ks_yX2_no kn_RX2 kc_yX2_no ⟨rfl, rfl⟩ hdX2_no ⟨Nat.le_of_ble_eq_true rfl, Nat.le_of_ble_eq_true rfl⟩ (ci := 2) (q0 := 0) rfl rfl rfl rfl hl.1 (Nat.le_of_ble_eq_true rfl) dX2_seen_12 ⟨Nat.zero_le _, Nat.zero_le _⟩ (fun H locs hw => ?_)
    obtain rfl := some_e h
    exact rtI C hr hw dX2_seen_15
abbrev rmX2_manyWith : Room := { frames := 2, cells := 0, slots := 0, locals := 44 }
theorem hdX2_manyWith : yX2_manyWith.cls = RX2 ∧ yX2_manyWith.cls ≠ "java/lang/invoke/MethodHandle" ∧ yX2_manyWith.cls ≠ "java/lang/invoke/VarHandle" ∧ (parseMethodDescriptor yX2_manyWith.desc).map (fun d => d.parameters.length) = some 1 := by decide +kernel
def GX2_manyWith_35 (p : Program) (l : Launch) (e : Env) (s : State) (m : MethodId) (args : Array Value) (below : List Frame) (meth : Method) (c : Code) (D : va_G) (cA : ClassId) (A : Nat → Prop) (ad : Nat → Nat) (Y : VS) (z : Int32) (x : (Int32) × (Int32) × (Int32) × (Int32)) : Prop := ∀ (H : Heap) (locs : List Loc) (ls : Array Slot), Wd D A s.heap (wM cA ad Y) H locs → lv_has ls 4 [(0, .ref (ad 0)), (1, .int x.1), (3, .int x.2.1)] → W p l e rmX2_manyWith s m args below meth c H locs 0 0 (MQ below (QI D cA A z (wM cA ad Y)) args s 0 0 A) (F0 m 35 ls [.int x.2.2.1, .int x.2.2.2])
def GX2_manyWith_4 (p : Program) (l : Launch) (e : Env) (s : State) (m : MethodId) (args : Array Value) (below : List Frame) (meth : Method) (c : Code) (D : va_G) (cA : ClassId) (A : Nat → Prop) (ad : Nat → Nat) (Y : VS) (z : Int32) (x : (Int32) × (Int32) × (Int32)) : Prop := ∀ (H : Heap) (locs : List Loc) (ls : Array Slot), Wd D A s.heap (wM cA ad Y) H locs → lv_has ls 4 [(0, .ref (ad 0)), (1, .int x.1), (2, .int x.2.1), (3, .int x.2.2)] → W p l e rmX2_manyWith s m args below meth c H locs 0 0 (MQ below (QI D cA A z (wM cA ad Y)) args s 0 0 A) (F0 m 4 ls [])
def fX2_manyWith_35 (Y : VS) (k4 : ((Int32) × (Int32) × (Int32)) → Option Int32) : ((Int32) × (Int32) × (Int32) × (Int32)) → Option Int32 := fun x => match x with | (x_1, x_3, y_0, y_1) => bn (y_1 + y_0) (fun x1 => bn (x_3 + 1) (fun x2 => k4 (x_1, x1, x2)))
def fX2_manyWith_4 (Y : VS) (k4 : ((Int32) × (Int32) × (Int32)) → Option Int32) : ((Int32) × (Int32) × (Int32)) → Option Int32 := fun x => match x with | (x_1, x_2, x_3) => rd 81 (Y 0) 1 (fun r1 => if r1 ≤ x_3 then some x_2 else cl (fX2_wordsOf (Y 0) x_3) (fun r3 => cl (fX2_has r3 x_1) (fun r4 => if r4 = 0 then fX2_manyWith_35 Y k4 (x_1, x_3, 0, x_2) else fX2_manyWith_35 Y k4 (x_1, x_3, 1, x_2))))
def fX2_manyWith (Y : VS) (a_1 : Int32) : Option Int32 := lp (fX2_manyWith_4 Y) 5000 (a_1, 0, 0)
set_option maxHeartbeats 4000000 in
set_option maxRecDepth 100000 in
theorem kX2_manyWith_35 (C : Cx p s m args meth c cX2_manyWith 4 RX2 D cA g A) (hr : meth.sig.returnType = (some .int)) {z : Int32} (Y : VS) (k4 : ((Int32) × (Int32) × (Int32)) → Option Int32) (hk4 : ∀ x, k4 x = some z → GX2_manyWith_4 p l e s m args below meth c D cA A ad Y z x) (x : (Int32) × (Int32) × (Int32) × (Int32)) (h : fX2_manyWith_35 Y k4 x = some z) : GX2_manyWith_35 p l e s m args below meth c D cA A ad Y z x := by
  obtain ⟨x_1, x_3, y_0, y_1⟩ := x
  intro H locs ls hw hl
  have hw : Wd D A s.heap (wM cA ad Y) H locs := hw
  have hl : lv_has ls 4 [(0, .ref (ad 0)), (1, .int x_1), (3, .int x_3)] := hl
  show W p l e rmX2_manyWith s m args below meth c H locs 0 0 (MQ below (QI D cA A z (wM cA ad Y)) args s 0 0 A) (F0 m 35 ls [.int y_0, .int y_1])
  have hx := C.1.1
  have hb := C.1.2.1
  have h : (bn (y_1 + y_0) (fun x1 => bn (x_3 + 1) (fun x2 => k4 (x_1, x1, x2)))) = some z := h
  refine lv_iadd hx hb dX2_manyWith_35 ?_
  refine lv_topi (fun x1 ex1 => ?_)
  replace h := bn_some h ex1
  refine lv_istore_n (lv' := [(2, .int x1), (0, .ref (ad 0)), (1, .int x_1), (3, .int x_3)]) hx hb dX2_manyWith_36 rfl hl (by decide) rfl (fun ls hl => ?_)
  obtain ⟨x2, ex2⟩ : ∃ y : Int32, y = x_3 + 1 := ⟨_, rfl⟩
  replace h := bn_some h ex2
  refine lv_iinc (v := x2) (lv' := [(3, .int x2), (2, .int x1), (0, .ref (ad 0)), (1, .int x_1)]) hx hb dX2_manyWith_37 hl (k := 3) rfl (by rw [ex2]; rfl) (by decide) rfl (fun ls hl => ?_)
  refine lv_goto (tgt := 4) hx hb dX2_manyWith_40 (by decide) ?_
  exact hk4 (x_1, x1, x2) h _ _ _ hw (lv_sub hl [2, 3, 1, 0] rfl)
set_option maxHeartbeats 4000000 in
set_option maxRecDepth 100000 in
theorem kX2_manyWith_4 (C : Cx p s m args meth c cX2_manyWith 4 RX2 D cA g A) (hr : meth.sig.returnType = (some .int)) {z : Int32} (Y : VS) (k4 : ((Int32) × (Int32) × (Int32)) → Option Int32) (hk4 : ∀ x, k4 x = some z → GX2_manyWith_4 p l e s m args below meth c D cA A ad Y z x) (x : (Int32) × (Int32) × (Int32)) (h : fX2_manyWith_4 Y k4 x = some z) : GX2_manyWith_4 p l e s m args below meth c D cA A ad Y z x := by
  obtain ⟨x_1, x_2, x_3⟩ := x
  intro H locs ls hw hl
  have hw : Wd D A s.heap (wM cA ad Y) H locs := hw
  have hl : lv_has ls 4 [(0, .ref (ad 0)), (1, .int x_1), (2, .int x_2), (3, .int x_3)] := hl
  have hx := C.1.1
  have hb := C.1.2.1
  have h : (rd 81 (Y 0) 1 (fun r1 => if r1 ≤ x_3 then some x_2 else cl (fX2_wordsOf (Y 0) x_3) (fun r3 => cl (fX2_has r3 x_1) (fun r4 => if r4 = 0 then fX2_manyWith_35 Y k4 (x_1, x_3, 0, x_2) else fX2_manyWith_35 Y k4 (x_1, x_3, 1, x_2))))) = some z := h
  refine lv_iload_n hx hb dX2_manyWith_4 rfl (lv_at hl 3 rfl) ?_
  refine lv_aload_n hx hb dX2_manyWith_5 rfl (lv_at hl 0 rfl) ?_
  refine tGet (T := TX2) (N := 13) (ci := 2) C hw inX2 0 0 rfl (by decide) kf_RX2_9 rfl rfl rfl dX2_manyWith_6 ?_
  refine lv_iconst (v := 1) hx hb dX2_manyWith_9 (by decide) ?_
  obtain ⟨r1, ir1, er1, h⟩ := rd_some h
  refine tLd C hw 1 rfl ir1 er1 dX2_manyWith_10 ?_
  refine lv_icmp_ge (tgt := 43) hx hb dX2_manyWith_11 (by decide) (fun c2 => ?_) (fun c2 => ?_)
  · replace h := (if_pos c2).symm.trans h
    refine lv_iload_n hx hb dX2_manyWith_43 rfl (lv_at hl 2 rfl) ?_
    obtain rfl := some_e h
    exact rtI C hr hw dX2_manyWith_44
  · replace h := (if_neg c2).symm.trans h
    refine lv_iload_n hx hb dX2_manyWith_14 rfl (lv_at hl 2 rfl) ?_
    refine lv_aload_n hx hb dX2_manyWith_15 rfl (lv_at hl 0 rfl) ?_
    refine tGet (T := TX2) (N := 13) (ci := 2) C hw inX2 0 0 rfl (by decide) kf_RX2_9 rfl rfl rfl dX2_manyWith_16 ?_
    refine lv_iload_n hx hb dX2_manyWith_19 rfl (lv_at hl 3 rfl) ?_
    obtain ⟨r3, hr3, h⟩ := cl_some h
    refine cSi (ws2 := (wM cA ad Y)) (As := [.ref (ad 1), .int x_3]) (rest := [.int x_2]) C hw jM0r (kX2_wordsOf (ad 1) hr3) kl_RX2_91 kt_yX2_wordsOf kn_RX2 kc_yX2_wordsOf ⟨rfl, rfl⟩ hdX2_wordsOf ⟨Nat.le_of_ble_eq_true rfl, Nat.le_of_ble_eq_true rfl⟩ rfl hl.1 (Nat.le_of_ble_eq_true rfl) dX2_manyWith_20 ⟨Nat.zero_le _, Nat.zero_le _⟩ (fun H locs hw => ?_)
    refine lv_iload_n hx hb dX2_manyWith_23 rfl (lv_at hl 1 rfl) ?_
    obtain ⟨r4, hr4, h⟩ := cl_some h
    refine cSi (ws2 := (wM cA ad Y)) (As := [.int r3, .int x_1]) (rest := [.int x_2]) C hw jnE (kX2_has hr4) kl_RX2_65 kt_yX2_has kn_RX2 kc_yX2_has ⟨rfl, rfl⟩ hdX2_has ⟨Nat.le_of_ble_eq_true rfl, Nat.le_of_ble_eq_true rfl⟩ rfl hl.1 (Nat.le_of_ble_eq_true rfl) dX2_manyWith_24 ⟨Nat.zero_le _, Nat.zero_le _⟩ (fun H locs hw => ?_)
    refine lv_if_eq (tgt := 34) hx hb dX2_manyWith_27 (by decide) (fun c5 => ?_) (fun c5 => ?_)
    · replace h := (if_pos c5).symm.trans h
      refine lv_iconst (v := 0) hx hb dX2_manyWith_34 (by decide) ?_
      exact kX2_manyWith_35 C hr Y k4 hk4 (x_1, x_3, 0, x_2) h _ _ _ hw (lv_sub hl [0, 1, 3] rfl)
    · replace h := (if_neg c5).symm.trans h
      refine lv_iconst (v := 1) hx hb dX2_manyWith_30 (by decide) ?_
      refine lv_goto (tgt := 35) hx hb dX2_manyWith_31 (by decide) ?_
      exact kX2_manyWith_35 C hr Y k4 hk4 (x_1, x_3, 1, x_2) h _ _ _ hw (lv_sub hl [0, 1, 3] rfl)
theorem lX2_manyWith_4 (C : Cx p s m args meth c cX2_manyWith 4 RX2 D cA g A) (hr : meth.sig.returnType = (some .int)) {z : Int32} (Y : VS) (n : Nat) (x : (Int32) × (Int32) × (Int32)) (h : lp (fX2_manyWith_4 Y) n x = some z) : GX2_manyWith_4 p l e s m args below meth c D cA A ad Y z x := lp_ok (GX2_manyWith_4 p l e s m args below meth c D cA A ad Y z) (fun kq hkq x h => kX2_manyWith_4 C hr Y kq hkq x h) n x h
set_option maxHeartbeats 4000000 in
set_option maxRecDepth 100000 in
theorem kX2_manyWith (ad : Nat → Nat) {Y : VS} {a_1 : Int32} {z : Int32} (h : fX2_manyWith Y a_1 = some z) : MI l D cA g yX2_manyWith (Cond.code yX2_manyWith cX2_manyWith 4 (some .int) :: lw_g) rmX2_manyWith [.ref (ad 0), .int a_1] (wM cA ad Y) z (wM cA ad Y) := by
  intro sz
  refine Met.ofW (cc := cX2_manyWith) (maxL := 4) (ret := (some .int)) (by decide) rfl ?_
  intro p e s m args below meth c s₁ B hml hv
  obtain ⟨rfl, C, hr, hw⟩ := ent B hml hv
  generalize va_A (wM cA ad Y) sz = A at C hw ⊢
  have hl := lv_entry ([.ref (ad 0), .int a_1]) (n := 4) (Nat.le_of_ble_eq_true rfl)
  rw [lg_entry_eq]
  generalize (lg_sl ([.ref (ad 0), .int a_1]) ++ List.replicate (4 - (lg_sl ([.ref (ad 0), .int a_1])).length) Slot.unset).toArray = ls at hl ⊢
  have hl : lv_has ls 4 [(0, .ref (ad 0)), (1, .int a_1)] := hl
  have hx := C.1.1
  have hb := C.1.2.1
  have h : (lp (fX2_manyWith_4 Y) 5000 (a_1, 0, 0)) = some z := h
  refine lv_iconst (v := 0) hx hb dX2_manyWith_0 (by decide) ?_
  refine lv_istore_n (lv' := [(2, .int 0), (0, .ref (ad 0)), (1, .int a_1)]) hx hb dX2_manyWith_1 rfl hl (by decide) rfl (fun ls hl => ?_)
  refine lv_iconst (v := 0) hx hb dX2_manyWith_2 (by decide) ?_
  refine lv_istore_n (lv' := [(3, .int 0), (2, .int 0), (0, .ref (ad 0)), (1, .int a_1)]) hx hb dX2_manyWith_3 rfl hl (by decide) rfl (fun ls hl => ?_)
  exact lX2_manyWith_4 C hr Y 5000 (a_1, 0, 0) h _ _ _ hw (lv_sub hl [2, 3, 1, 0] rfl)
abbrev rmX2_words : Room := { frames := 3, cells := 0, slots := 0, locals := 67 }
theorem hdX2_words : yX2_words.cls = RX2 ∧ yX2_words.cls ≠ "java/lang/invoke/MethodHandle" ∧ yX2_words.cls ≠ "java/lang/invoke/VarHandle" ∧ (parseMethodDescriptor yX2_words.desc).map (fun d => d.parameters.length) = some 1 := by decide +kernel
def GX2_words_124 (p : Program) (l : Launch) (e : Env) (s : State) (m : MethodId) (args : Array Value) (below : List Frame) (meth : Method) (c : Code) (D : va_G) (cA : ClassId) (A : Nat → Prop) (ad : Nat → Nat) (z : (Int32 × VS)) (x : (VS) × (Int32) × (Int32) × (Int32) × (Int32) × (Int32)) : Prop := ∀ (H : Heap) (locs : List Loc) (ls : Array Slot), Wd D A s.heap (wM cA ad x.1) H locs → lv_has ls 6 [(0, .ref (ad 0)), (1, .int x.2.1), (2, .int x.2.2.1), (3, .int x.2.2.2.1), (4, .int x.2.2.2.2.1), (5, .int x.2.2.2.2.2)] → W p l e rmX2_words s m args below meth c H locs 0 0 (MQ below (QI D cA A z.1 (wM cA ad z.2)) args s 0 0 A) (F0 m 124 ls [])
def GX2_words_98 (p : Program) (l : Launch) (e : Env) (s : State) (m : MethodId) (args : Array Value) (below : List Frame) (meth : Method) (c : Code) (D : va_G) (cA : ClassId) (A : Nat → Prop) (ad : Nat → Nat) (z : (Int32 × VS)) (x : (VS) × (Int32) × (Int32) × (Int32) × (Int32) × (Int32)) : Prop := ∀ (H : Heap) (locs : List Loc) (ls : Array Slot), Wd D A s.heap (wM cA ad x.1) H locs → lv_has ls 6 [(0, .ref (ad 0)), (1, .int x.2.1), (2, .int x.2.2.1), (3, .int x.2.2.2.1), (4, .int x.2.2.2.2.1), (5, .int x.2.2.2.2.2)] → W p l e rmX2_words s m args below meth c H locs 0 0 (MQ below (QI D cA A z.1 (wM cA ad z.2)) args s 0 0 A) (F0 m 98 ls [])
def GX2_words_66 (p : Program) (l : Launch) (e : Env) (s : State) (m : MethodId) (args : Array Value) (below : List Frame) (meth : Method) (c : Code) (D : va_G) (cA : ClassId) (A : Nat → Prop) (ad : Nat → Nat) (z : (Int32 × VS)) (x : (VS) × (Int32) × (Int32) × (Int32) × (Int32) × (Int32)) : Prop := ∀ (H : Heap) (locs : List Loc) (ls : Array Slot), Wd D A s.heap (wM cA ad x.1) H locs → lv_has ls 6 [(0, .ref (ad 0)), (1, .int x.2.1), (2, .int x.2.2.1), (3, .int x.2.2.2.1), (4, .int x.2.2.2.2.1), (5, .int x.2.2.2.2.2)] → W p l e rmX2_words s m args below meth c H locs 0 0 (MQ below (QI D cA A z.1 (wM cA ad z.2)) args s 0 0 A) (F0 m 66 ls [])
def GX2_words_28 (p : Program) (l : Launch) (e : Env) (s : State) (m : MethodId) (args : Array Value) (below : List Frame) (meth : Method) (c : Code) (D : va_G) (cA : ClassId) (A : Nat → Prop) (ad : Nat → Nat) (z : (Int32 × VS)) (x : (VS) × (Int32) × (Int32) × (Int32) × (Int32) × (Int32)) : Prop := ∀ (H : Heap) (locs : List Loc) (ls : Array Slot), Wd D A s.heap (wM cA ad x.1) H locs → lv_has ls 6 [(0, .ref (ad 0)), (1, .int x.2.1), (2, .int x.2.2.1), (3, .int x.2.2.2.1), (4, .int x.2.2.2.2.1), (5, .int x.2.2.2.2.2)] → W p l e rmX2_words s m args below meth c H locs 0 0 (MQ below (QI D cA A z.1 (wM cA ad z.2)) args s 0 0 A) (F0 m 28 ls [])
def fX2_words_124 (k98 : ((VS) × (Int32) × (Int32) × (Int32) × (Int32) × (Int32)) → Option (Int32 × VS)) : ((VS) × (Int32) × (Int32) × (Int32) × (Int32) × (Int32)) → Option (Int32 × VS) := fun x => match x with | (Y, x_1, x_2, x_3, x_4, x_5) => bn (x_5 + 1) (fun x1 => k98 (Y, x_1, x_2, x_3, x_4, x1))
def fX2_words_98 (k98 : ((VS) × (Int32) × (Int32) × (Int32) × (Int32) × (Int32)) → Option (Int32 × VS)) : ((VS) × (Int32) × (Int32) × (Int32) × (Int32) × (Int32)) → Option (Int32 × VS) := fun x => match x with | (Y, x_1, x_2, x_3, x_4, x_5) => if 6 ≤ x_5 then if x_1 = 0 then some (x_2, Y) else if x_1 = 1 then some (x_3, Y) else some (x_4, Y) else cl (fX2_manyWith Y x_5) (fun r4 => cl (fX2_manyWith Y x_4) (fun r5 => if r5 ≤ r4 then fX2_words_124 k98 (Y, x_1, x_2, x_3, x_4, x_5) else fX2_words_124 k98 (Y, x_1, x_2, x_3, x_5, x_5)))
def fX2_words_66 (k66 : ((VS) × (Int32) × (Int32) × (Int32) × (Int32) × (Int32)) → Option (Int32 × VS)) : ((VS) × (Int32) × (Int32) × (Int32) × (Int32) × (Int32)) → Option (Int32 × VS) := fun x => match x with | (Y, x_1, x_2, x_3, x_4, x_5) => rd 81 (Y 0) 1 (fun r1 => if r1 ≤ x_5 then lp (fX2_words_98) 5000 (Y, x_1, x_2, x_3, x_4, 0) else cl (fX2_wordsOf (Y 0) x_5) (fun r3 => bn (x_3 &&& r3) (fun x4 => bn (x_5 + 1) (fun x5 => k66 (Y, x_1, x_2, x4, x_4, x5)))))
def fX2_words_28 (k28 : ((VS) × (Int32) × (Int32) × (Int32) × (Int32) × (Int32)) → Option (Int32 × VS)) : ((VS) × (Int32) × (Int32) × (Int32) × (Int32) × (Int32)) → Option (Int32 × VS) := fun x => match x with | (Y, x_1, x_2, x_3, x_4, x_5) => rd 81 (Y 0) 0 (fun r1 => if r1 ≤ x_5 then lp (fX2_words_66) 5000 (Y, x_1, x_2, x_3, x_4, 0) else cl (fX2_ofR x_5 2) (fun r3 => rd 81 (Y 0) r3 (fun r4 => bn (x_2 &&& (((1 : Int32) <<< (r4 &&& 31)) ^^^ (-1 : Int32))) (fun x5 => bn (x_5 + 1) (fun x6 => k28 (Y, x_1, x5, x_3, x_4, x6))))))
def fX2_words (Y : VS) (a_1 : Int32) : Option (Int32 × VS) := cl (fX2_isIn a_1 0 2) (fun r1 => if r1 = 0 then cl (fX2_no Y (-2)) (fun q3 => some (q3.1, q3.2)) else lp (fX2_words_28) 5000 (Y, a_1, 63, 63, 0, 0))
set_option maxHeartbeats 4000000 in
set_option maxRecDepth 100000 in
theorem kX2_words_124 (C : Cx p s m args meth c cX2_words 6 RX2 D cA g A) (hr : meth.sig.returnType = (some .int)) {z : (Int32 × VS)} (k98 : ((VS) × (Int32) × (Int32) × (Int32) × (Int32) × (Int32)) → Option (Int32 × VS)) (hk98 : ∀ x, k98 x = some z → GX2_words_98 p l e s m args below meth c D cA A ad z x) (x : (VS) × (Int32) × (Int32) × (Int32) × (Int32) × (Int32)) (h : fX2_words_124 k98 x = some z) : GX2_words_124 p l e s m args below meth c D cA A ad z x := by
  obtain ⟨Y, x_1, x_2, x_3, x_4, x_5⟩ := x
  intro H locs ls hw hl
  have hw : Wd D A s.heap (wM cA ad Y) H locs := hw
  have hl : lv_has ls 6 [(0, .ref (ad 0)), (1, .int x_1), (2, .int x_2), (3, .int x_3), (4, .int x_4), (5, .int x_5)] := hl
  have hx := C.1.1
  have hb := C.1.2.1
  have h : (bn (x_5 + 1) (fun x1 => k98 (Y, x_1, x_2, x_3, x_4, x1))) = some z := h
  obtain ⟨x1, ex1⟩ : ∃ y : Int32, y = x_5 + 1 := ⟨_, rfl⟩
  replace h := bn_some h ex1
  refine lv_iinc (v := x1) (lv' := [(5, .int x1), (0, .ref (ad 0)), (1, .int x_1), (2, .int x_2), (3, .int x_3), (4, .int x_4)]) hx hb dX2_words_124 hl (k := 5) rfl (by rw [ex1]; rfl) (by decide) rfl (fun ls hl => ?_)
  refine lv_goto (tgt := 98) hx hb dX2_words_127 (by decide) ?_
  exact hk98 (Y, x_1, x_2, x_3, x_4, x1) h _ _ _ hw (lv_sub hl [1, 2, 3, 4, 5, 0] rfl)
set_option maxHeartbeats 4000000 in
set_option maxRecDepth 100000 in
theorem kX2_words_98 (C : Cx p s m args meth c cX2_words 6 RX2 D cA g A) (hr : meth.sig.returnType = (some .int)) {z : (Int32 × VS)} (k98 : ((VS) × (Int32) × (Int32) × (Int32) × (Int32) × (Int32)) → Option (Int32 × VS)) (hk98 : ∀ x, k98 x = some z → GX2_words_98 p l e s m args below meth c D cA A ad z x) (x : (VS) × (Int32) × (Int32) × (Int32) × (Int32) × (Int32)) (h : fX2_words_98 k98 x = some z) : GX2_words_98 p l e s m args below meth c D cA A ad z x := by
  obtain ⟨Y, x_1, x_2, x_3, x_4, x_5⟩ := x
  intro H locs ls hw hl
  have hw : Wd D A s.heap (wM cA ad Y) H locs := hw
  have hl : lv_has ls 6 [(0, .ref (ad 0)), (1, .int x_1), (2, .int x_2), (3, .int x_3), (4, .int x_4), (5, .int x_5)] := hl
  have hx := C.1.1
  have hb := C.1.2.1
  have h : (if 6 ≤ x_5 then if x_1 = 0 then some (x_2, Y) else if x_1 = 1 then some (x_3, Y) else some (x_4, Y) else cl (fX2_manyWith Y x_5) (fun r4 => cl (fX2_manyWith Y x_4) (fun r5 => if r5 ≤ r4 then fX2_words_124 k98 (Y, x_1, x_2, x_3, x_4, x_5) else fX2_words_124 k98 (Y, x_1, x_2, x_3, x_5, x_5)))) = some z := h
  refine lv_iload hx hb dX2_words_98 (lv_at hl 5 rfl) ?_
  refine lv_bipush (v := 6) hx hb dX2_words_100 (by decide) ?_
  refine lv_icmp_ge (tgt := 130) hx hb dX2_words_102 (by decide) (fun c1 => ?_) (fun c1 => ?_)
  · replace h := (if_pos c1).symm.trans h
    refine lv_iload_n hx hb dX2_words_130 rfl (lv_at hl 1 rfl) ?_
    refine lv_if_ne (tgt := 138) hx hb dX2_words_131 (by decide) (fun c2 => ?_) (fun c2 => ?_)
    · replace h := (if_neg c2).symm.trans h
      refine lv_iload_n hx hb dX2_words_138 rfl (lv_at hl 1 rfl) ?_
      refine lv_iconst (v := 1) hx hb dX2_words_139 (by decide) ?_
      refine lv_icmp_ne (tgt := 147) hx hb dX2_words_140 (by decide) (fun c3 => ?_) (fun c3 => ?_)
      · replace h := (if_neg c3).symm.trans h
        refine lv_iload hx hb dX2_words_147 (lv_at hl 4 rfl) ?_
        obtain rfl := some_e h
        exact rtI C hr hw dX2_words_149
      · replace h := (if_pos c3).symm.trans h
        refine lv_iload_n hx hb dX2_words_143 rfl (lv_at hl 3 rfl) ?_
        refine lv_goto (tgt := 149) hx hb dX2_words_144 (by decide) ?_
        obtain rfl := some_e h
        exact rtI C hr hw dX2_words_149
    · replace h := (if_pos c2).symm.trans h
      refine lv_iload_n hx hb dX2_words_134 rfl (lv_at hl 2 rfl) ?_
      refine lv_goto (tgt := 149) hx hb dX2_words_135 (by decide) ?_
      obtain rfl := some_e h
      exact rtI C hr hw dX2_words_149
  · replace h := (if_neg c1).symm.trans h
    refine lv_aload_n hx hb dX2_words_105 rfl (lv_at hl 0 rfl) ?_
    refine lv_iload hx hb dX2_words_106 (lv_at hl 5 rfl) ?_
    obtain ⟨r4, hr4, h⟩ := cl_some h
    refine cVi (ws2 := (wM cA ad Y)) (As := [.int x_5]) (rest := []) C hw jnW (kX2_manyWith ad hr4) kl_RX2_193 ki_yX2_manyWith ks_yX2_manyWith kn_RX2 kc_yX2_manyWith ⟨rfl, rfl⟩ hdX2_manyWith ⟨Nat.le_of_ble_eq_true rfl, Nat.le_of_ble_eq_true rfl⟩ (ci := 2) (q0 := 0) rfl rfl rfl rfl hl.1 (Nat.le_of_ble_eq_true rfl) dX2_words_108 ⟨Nat.zero_le _, Nat.zero_le _⟩ (fun H locs hw => ?_)
    refine lv_aload_n hx hb dX2_words_111 rfl (lv_at hl 0 rfl) ?_
    refine lv_iload hx hb dX2_words_112 (lv_at hl 4 rfl) ?_
    obtain ⟨r5, hr5, h⟩ := cl_some h
    refine cVi (ws2 := (wM cA ad Y)) (As := [.int x_4]) (rest := [.int r4]) C hw jnW (kX2_manyWith ad hr5) kl_RX2_193 ki_yX2_manyWith ks_yX2_manyWith kn_RX2 kc_yX2_manyWith ⟨rfl, rfl⟩ hdX2_manyWith ⟨Nat.le_of_ble_eq_true rfl, Nat.le_of_ble_eq_true rfl⟩ (ci := 2) (q0 := 0) rfl rfl rfl rfl hl.1 (Nat.le_of_ble_eq_true rfl) dX2_words_114 ⟨Nat.zero_le _, Nat.zero_le _⟩ (fun H locs hw => ?_)
    refine lv_icmp_ge (tgt := 124) hx hb dX2_words_117 (by decide) (fun c6 => ?_) (fun c6 => ?_)
    · replace h := (if_pos c6).symm.trans h
      exact kX2_words_124 C hr k98 hk98 (Y, x_1, x_2, x_3, x_4, x_5) h _ _ _ hw (lv_sub hl [0, 1, 2, 3, 4, 5] rfl)
    · replace h := (if_neg c6).symm.trans h
      refine lv_iload hx hb dX2_words_120 (lv_at hl 5 rfl) ?_
      refine lv_istore (lv' := [(4, .int x_5), (0, .ref (ad 0)), (1, .int x_1), (2, .int x_2), (3, .int x_3), (5, .int x_5)]) hx hb dX2_words_122 hl (by decide) rfl (fun ls hl => ?_)
      exact kX2_words_124 C hr k98 hk98 (Y, x_1, x_2, x_3, x_5, x_5) h _ _ _ hw (lv_sub hl [1, 2, 3, 4, 0, 5] rfl)
theorem lX2_words_98 (C : Cx p s m args meth c cX2_words 6 RX2 D cA g A) (hr : meth.sig.returnType = (some .int)) {z : (Int32 × VS)} (n : Nat) (x : (VS) × (Int32) × (Int32) × (Int32) × (Int32) × (Int32)) (h : lp (fX2_words_98) n x = some z) : GX2_words_98 p l e s m args below meth c D cA A ad z x := lp_ok (GX2_words_98 p l e s m args below meth c D cA A ad z) (fun kq hkq x h => kX2_words_98 C hr kq hkq x h) n x h
set_option maxHeartbeats 4000000 in
set_option maxRecDepth 100000 in
theorem kX2_words_66 (C : Cx p s m args meth c cX2_words 6 RX2 D cA g A) (hr : meth.sig.returnType = (some .int)) {z : (Int32 × VS)} (k66 : ((VS) × (Int32) × (Int32) × (Int32) × (Int32) × (Int32)) → Option (Int32 × VS)) (hk66 : ∀ x, k66 x = some z → GX2_words_66 p l e s m args below meth c D cA A ad z x) (x : (VS) × (Int32) × (Int32) × (Int32) × (Int32) × (Int32)) (h : fX2_words_66 k66 x = some z) : GX2_words_66 p l e s m args below meth c D cA A ad z x := by
  obtain ⟨Y, x_1, x_2, x_3, x_4, x_5⟩ := x
  intro H locs ls hw hl
  have hw : Wd D A s.heap (wM cA ad Y) H locs := hw
  have hl : lv_has ls 6 [(0, .ref (ad 0)), (1, .int x_1), (2, .int x_2), (3, .int x_3), (4, .int x_4), (5, .int x_5)] := hl
  have hx := C.1.1
  have hb := C.1.2.1
  have h : (rd 81 (Y 0) 1 (fun r1 => if r1 ≤ x_5 then lp (fX2_words_98) 5000 (Y, x_1, x_2, x_3, x_4, 0) else cl (fX2_wordsOf (Y 0) x_5) (fun r3 => bn (x_3 &&& r3) (fun x4 => bn (x_5 + 1) (fun x5 => k66 (Y, x_1, x_2, x4, x_4, x5)))))) = some z := h
  refine lv_iload hx hb dX2_words_66 (lv_at hl 5 rfl) ?_
  refine lv_aload_n hx hb dX2_words_68 rfl (lv_at hl 0 rfl) ?_
  refine tGet (T := TX2) (N := 13) (ci := 2) C hw inX2 0 0 rfl (by decide) kf_RX2_9 rfl rfl rfl dX2_words_69 ?_
  refine lv_iconst (v := 1) hx hb dX2_words_72 (by decide) ?_
  obtain ⟨r1, ir1, er1, h⟩ := rd_some h
  refine tLd C hw 1 rfl ir1 er1 dX2_words_73 ?_
  refine lv_icmp_ge (tgt := 95) hx hb dX2_words_74 (by decide) (fun c2 => ?_) (fun c2 => ?_)
  · replace h := (if_pos c2).symm.trans h
    refine lv_iconst (v := 0) hx hb dX2_words_95 (by decide) ?_
    refine lv_istore (lv' := [(5, .int 0), (0, .ref (ad 0)), (1, .int x_1), (2, .int x_2), (3, .int x_3), (4, .int x_4)]) hx hb dX2_words_96 hl (by decide) rfl (fun ls hl => ?_)
    exact lX2_words_98 C hr 5000 (Y, x_1, x_2, x_3, x_4, 0) h _ _ _ hw (lv_sub hl [1, 2, 3, 4, 5, 0] rfl)
  · replace h := (if_neg c2).symm.trans h
    refine lv_iload_n hx hb dX2_words_77 rfl (lv_at hl 3 rfl) ?_
    refine lv_aload_n hx hb dX2_words_78 rfl (lv_at hl 0 rfl) ?_
    refine tGet (T := TX2) (N := 13) (ci := 2) C hw inX2 0 0 rfl (by decide) kf_RX2_9 rfl rfl rfl dX2_words_79 ?_
    refine lv_iload hx hb dX2_words_82 (lv_at hl 5 rfl) ?_
    obtain ⟨r3, hr3, h⟩ := cl_some h
    refine cSi (ws2 := (wM cA ad Y)) (As := [.ref (ad 1), .int x_5]) (rest := [.int x_3]) C hw jM0r (kX2_wordsOf (ad 1) hr3) kl_RX2_91 kt_yX2_wordsOf kn_RX2 kc_yX2_wordsOf ⟨rfl, rfl⟩ hdX2_wordsOf ⟨Nat.le_of_ble_eq_true rfl, Nat.le_of_ble_eq_true rfl⟩ rfl hl.1 (Nat.le_of_ble_eq_true rfl) dX2_words_84 ⟨Nat.zero_le _, Nat.zero_le _⟩ (fun H locs hw => ?_)
    refine lv_iand hx hb dX2_words_87 ?_
    refine lv_topi (fun x4 ex4 => ?_)
    replace h := bn_some h ex4
    refine lv_istore_n (lv' := [(3, .int x4), (0, .ref (ad 0)), (1, .int x_1), (2, .int x_2), (4, .int x_4), (5, .int x_5)]) hx hb dX2_words_88 rfl hl (by decide) rfl (fun ls hl => ?_)
    obtain ⟨x5, ex5⟩ : ∃ y : Int32, y = x_5 + 1 := ⟨_, rfl⟩
    replace h := bn_some h ex5
    refine lv_iinc (v := x5) (lv' := [(5, .int x5), (3, .int x4), (0, .ref (ad 0)), (1, .int x_1), (2, .int x_2), (4, .int x_4)]) hx hb dX2_words_89 hl (k := 5) rfl (by rw [ex5]; rfl) (by decide) rfl (fun ls hl => ?_)
    refine lv_goto (tgt := 66) hx hb dX2_words_92 (by decide) ?_
    exact hk66 (Y, x_1, x_2, x4, x_4, x5) h _ _ _ hw (lv_sub hl [2, 3, 4, 1, 5, 0] rfl)
theorem lX2_words_66 (C : Cx p s m args meth c cX2_words 6 RX2 D cA g A) (hr : meth.sig.returnType = (some .int)) {z : (Int32 × VS)} (n : Nat) (x : (VS) × (Int32) × (Int32) × (Int32) × (Int32) × (Int32)) (h : lp (fX2_words_66) n x = some z) : GX2_words_66 p l e s m args below meth c D cA A ad z x := lp_ok (GX2_words_66 p l e s m args below meth c D cA A ad z) (fun kq hkq x h => kX2_words_66 C hr kq hkq x h) n x h
set_option maxHeartbeats 4000000 in
set_option maxRecDepth 100000 in
theorem kX2_words_28 (C : Cx p s m args meth c cX2_words 6 RX2 D cA g A) (hr : meth.sig.returnType = (some .int)) {z : (Int32 × VS)} (k28 : ((VS) × (Int32) × (Int32) × (Int32) × (Int32) × (Int32)) → Option (Int32 × VS)) (hk28 : ∀ x, k28 x = some z → GX2_words_28 p l e s m args below meth c D cA A ad z x) (x : (VS) × (Int32) × (Int32) × (Int32) × (Int32) × (Int32)) (h : fX2_words_28 k28 x = some z) : GX2_words_28 p l e s m args below meth c D cA A ad z x := by
  obtain ⟨Y, x_1, x_2, x_3, x_4, x_5⟩ := x
  intro H locs ls hw hl
  have hw : Wd D A s.heap (wM cA ad Y) H locs := hw
  have hl : lv_has ls 6 [(0, .ref (ad 0)), (1, .int x_1), (2, .int x_2), (3, .int x_3), (4, .int x_4), (5, .int x_5)] := hl
  have hx := C.1.1
  have hb := C.1.2.1
  have h : (rd 81 (Y 0) 0 (fun r1 => if r1 ≤ x_5 then lp (fX2_words_66) 5000 (Y, x_1, x_2, x_3, x_4, 0) else cl (fX2_ofR x_5 2) (fun r3 => rd 81 (Y 0) r3 (fun r4 => bn (x_2 &&& (((1 : Int32) <<< (r4 &&& 31)) ^^^ (-1 : Int32))) (fun x5 => bn (x_5 + 1) (fun x6 => k28 (Y, x_1, x5, x_3, x_4, x6))))))) = some z := h
  refine lv_iload hx hb dX2_words_28 (lv_at hl 5 rfl) ?_
  refine lv_aload_n hx hb dX2_words_30 rfl (lv_at hl 0 rfl) ?_
  refine tGet (T := TX2) (N := 13) (ci := 2) C hw inX2 0 0 rfl (by decide) kf_RX2_9 rfl rfl rfl dX2_words_31 ?_
  refine lv_iconst (v := 0) hx hb dX2_words_34 (by decide) ?_
  obtain ⟨r1, ir1, er1, h⟩ := rd_some h
  refine tLd C hw 1 rfl ir1 er1 dX2_words_35 ?_
  refine lv_icmp_ge (tgt := 63) hx hb dX2_words_36 (by decide) (fun c2 => ?_) (fun c2 => ?_)
  · replace h := (if_pos c2).symm.trans h
    refine lv_iconst (v := 0) hx hb dX2_words_63 (by decide) ?_
    refine lv_istore (lv' := [(5, .int 0), (0, .ref (ad 0)), (1, .int x_1), (2, .int x_2), (3, .int x_3), (4, .int x_4)]) hx hb dX2_words_64 hl (by decide) rfl (fun ls hl => ?_)
    exact lX2_words_66 C hr 5000 (Y, x_1, x_2, x_3, x_4, 0) h _ _ _ hw (lv_sub hl [1, 2, 3, 4, 5, 0] rfl)
  · replace h := (if_neg c2).symm.trans h
    refine lv_iload_n hx hb dX2_words_39 rfl (lv_at hl 2 rfl) ?_
    refine lv_iconst (v := 1) hx hb dX2_words_40 (by decide) ?_
    refine lv_aload_n hx hb dX2_words_41 rfl (lv_at hl 0 rfl) ?_
    refine tGet (T := TX2) (N := 13) (ci := 2) C hw inX2 0 0 rfl (by decide) kf_RX2_9 rfl rfl rfl dX2_words_42 ?_
    refine lv_iload hx hb dX2_words_45 (lv_at hl 5 rfl) ?_
    refine lv_iconst (v := 2) hx hb dX2_words_47 (by decide) ?_
    obtain ⟨r3, hr3, h⟩ := cl_some h
    refine cSi (ws2 := (wM cA ad Y)) (As := [.int x_5, .int 2]) (rest := [.ref (ad 1), .int 1, .int x_2]) C hw jnE (kX2_ofR hr3) kl_RX2_44 kt_yX2_ofR kn_RX2 kc_yX2_ofR ⟨rfl, rfl⟩ hdX2_ofR ⟨Nat.le_of_ble_eq_true rfl, Nat.le_of_ble_eq_true rfl⟩ rfl hl.1 (Nat.le_of_ble_eq_true rfl) dX2_words_48 ⟨Nat.zero_le _, Nat.zero_le _⟩ (fun H locs hw => ?_)
    obtain ⟨r4, ir4, er4, h⟩ := rd_some h
    refine tLd C hw 1 rfl ir4 er4 dX2_words_51 ?_
    refine lv_ishl hx hb dX2_words_52 ?_
    refine lv_iconst (v := (-1)) hx hb dX2_words_53 (by decide) ?_
    refine lv_ixor hx hb dX2_words_54 ?_
    refine lv_iand hx hb dX2_words_55 ?_
    refine lv_topi (fun x5 ex5 => ?_)
    replace h := bn_some h ex5
    refine lv_istore_n (lv' := [(2, .int x5), (0, .ref (ad 0)), (1, .int x_1), (3, .int x_3), (4, .int x_4), (5, .int x_5)]) hx hb dX2_words_56 rfl hl (by decide) rfl (fun ls hl => ?_)
    obtain ⟨x6, ex6⟩ : ∃ y : Int32, y = x_5 + 1 := ⟨_, rfl⟩
    replace h := bn_some h ex6
    refine lv_iinc (v := x6) (lv' := [(5, .int x6), (2, .int x5), (0, .ref (ad 0)), (1, .int x_1), (3, .int x_3), (4, .int x_4)]) hx hb dX2_words_57 hl (k := 5) rfl (by rw [ex6]; rfl) (by decide) rfl (fun ls hl => ?_)
    refine lv_goto (tgt := 28) hx hb dX2_words_60 (by decide) ?_
    exact hk28 (Y, x_1, x5, x_3, x_4, x6) h _ _ _ hw (lv_sub hl [2, 3, 1, 4, 5, 0] rfl)
theorem lX2_words_28 (C : Cx p s m args meth c cX2_words 6 RX2 D cA g A) (hr : meth.sig.returnType = (some .int)) {z : (Int32 × VS)} (n : Nat) (x : (VS) × (Int32) × (Int32) × (Int32) × (Int32) × (Int32)) (h : lp (fX2_words_28) n x = some z) : GX2_words_28 p l e s m args below meth c D cA A ad z x := lp_ok (GX2_words_28 p l e s m args below meth c D cA A ad z) (fun kq hkq x h => kX2_words_28 C hr kq hkq x h) n x h
set_option maxHeartbeats 4000000 in
set_option maxRecDepth 100000 in
theorem kX2_words (ad : Nat → Nat) {Y : VS} {a_1 : Int32} {z : (Int32 × VS)} (h : fX2_words Y a_1 = some z) : MI l D cA g yX2_words (Cond.code yX2_words cX2_words 6 (some .int) :: lw_g) rmX2_words [.ref (ad 0), .int a_1] (wM cA ad Y) z.1 (wM cA ad z.2) := by
  intro sz
  refine Met.ofW (cc := cX2_words) (maxL := 6) (ret := (some .int)) (by decide) rfl ?_
  intro p e s m args below meth c s₁ B hml hv
  obtain ⟨rfl, C, hr, hw⟩ := ent B hml hv
  generalize va_A (wM cA ad Y) sz = A at C hw ⊢
  have hl := lv_entry ([.ref (ad 0), .int a_1]) (n := 6) (Nat.le_of_ble_eq_true rfl)
  rw [lg_entry_eq]
  generalize (lg_sl ([.ref (ad 0), .int a_1]) ++ List.replicate (6 - (lg_sl ([.ref (ad 0), .int a_1])).length) Slot.unset).toArray = ls at hl ⊢
  have hl : lv_has ls 6 [(0, .ref (ad 0)), (1, .int a_1)] := hl
  have hx := C.1.1
  have hb := C.1.2.1
  have h : (cl (fX2_isIn a_1 0 2) (fun r1 => if r1 = 0 then cl (fX2_no Y (-2)) (fun q3 => some (q3.1, q3.2)) else lp (fX2_words_28) 5000 (Y, a_1, 63, 63, 0, 0))) = some z := h
  refine lv_iload_n hx hb dX2_words_0 rfl (lv_at hl 1 rfl) ?_
  refine lv_iconst (v := 0) hx hb dX2_words_1 (by decide) ?_
  refine lv_iconst (v := 2) hx hb dX2_words_2 (by decide) ?_
  obtain ⟨r1, hr1, h⟩ := cl_some h
  refine cSi (ws2 := (wM cA ad Y)) (As := [.int a_1, .int 0, .int 2]) (rest := []) C hw jnE (kX2_isIn hr1) kl_RX2_40 kt_yX2_isIn kn_RX2 kc_yX2_isIn ⟨rfl, rfl⟩ hdX2_isIn ⟨Nat.le_of_ble_eq_true rfl, Nat.le_of_ble_eq_true rfl⟩ rfl hl.1 (Nat.le_of_ble_eq_true rfl) dX2_words_3 ⟨Nat.zero_le _, Nat.zero_le _⟩ (fun H locs hw => ?_)
  refine lv_if_ne (tgt := 16) hx hb dX2_words_6 (by decide) (fun c2 => ?_) (fun c2 => ?_)
  · replace h := (if_neg c2).symm.trans h
    refine lv_bipush (v := 63) hx hb dX2_words_16 (by decide) ?_
    refine lv_istore_n (lv' := [(2, .int 63), (0, .ref (ad 0)), (1, .int a_1)]) hx hb dX2_words_18 rfl hl (by decide) rfl (fun ls hl => ?_)
    refine lv_bipush (v := 63) hx hb dX2_words_19 (by decide) ?_
    refine lv_istore_n (lv' := [(3, .int 63), (2, .int 63), (0, .ref (ad 0)), (1, .int a_1)]) hx hb dX2_words_21 rfl hl (by decide) rfl (fun ls hl => ?_)
    refine lv_iconst (v := 0) hx hb dX2_words_22 (by decide) ?_
    refine lv_istore (lv' := [(4, .int 0), (3, .int 63), (2, .int 63), (0, .ref (ad 0)), (1, .int a_1)]) hx hb dX2_words_23 hl (by decide) rfl (fun ls hl => ?_)
    refine lv_iconst (v := 0) hx hb dX2_words_25 (by decide) ?_
    refine lv_istore (lv' := [(5, .int 0), (4, .int 0), (3, .int 63), (2, .int 63), (0, .ref (ad 0)), (1, .int a_1)]) hx hb dX2_words_26 hl (by decide) rfl (fun ls hl => ?_)
    exact lX2_words_28 C hr 5000 (Y, a_1, 63, 63, 0, 0) h _ _ _ hw (lv_sub hl [4, 5, 3, 2, 1, 0] rfl)
  · replace h := (if_pos c2).symm.trans h
    refine lv_aload_n hx hb dX2_words_9 rfl (lv_at hl 0 rfl) ?_
    refine lv_bipush (v := (-2)) hx hb dX2_words_10 (by decide) ?_
    obtain ⟨q3, hq3, h⟩ := cl_some h
    refine cVi (ws2 := (wM cA ad q3.2)) (As := [.int (-2)]) (rest := []) C hw jnW (kX2_no ad hq3) kl_RX2_36 ki_yX2_no ks_yX2_no kn_RX2 kc_yX2_no ⟨rfl, rfl⟩ hdX2_no ⟨Nat.le_of_ble_eq_true rfl, Nat.le_of_ble_eq_true rfl⟩ (ci := 2) (q0 := 0) rfl rfl rfl rfl hl.1 (Nat.le_of_ble_eq_true rfl) dX2_words_12 ⟨Nat.zero_le _, Nat.zero_le _⟩ (fun H locs hw => ?_)
    obtain rfl := some_e h
    exact rtI C hr hw dX2_words_15
abbrev rmX2_near : Room := { frames := 1, cells := 0, slots := 0, locals := 21 }
theorem hdX2_near : yX2_near.cls = RX2 ∧ yX2_near.cls ≠ "java/lang/invoke/MethodHandle" ∧ yX2_near.cls ≠ "java/lang/invoke/VarHandle" ∧ (parseMethodDescriptor yX2_near.desc).map (fun d => d.parameters.length) = some 0 := by decide +kernel
def GX2_near_54 (p : Program) (l : Launch) (e : Env) (s : State) (m : MethodId) (args : Array Value) (below : List Frame) (meth : Method) (c : Code) (D : va_G) (cA : ClassId) (A : Nat → Prop) (ad : Nat → Nat) (Y : VS) (z : Int32) (x : (Int32) × (Int32)) : Prop := ∀ (H : Heap) (locs : List Loc) (ls : Array Slot), Wd D A s.heap (wM cA ad Y) H locs → lv_has ls 3 [(0, .ref (ad 0)), (1, .int x.1), (2, .int x.2)] → W p l e rmX2_near s m args below meth c H locs 0 0 (MQ below (QI D cA A z (wM cA ad Y)) args s 0 0 A) (F0 m 54 ls [])
def GX2_near_52 (p : Program) (l : Launch) (e : Env) (s : State) (m : MethodId) (args : Array Value) (below : List Frame) (meth : Method) (c : Code) (D : va_G) (cA : ClassId) (A : Nat → Prop) (ad : Nat → Nat) (Y : VS) (z : Int32) (x : (Int32)) : Prop := ∀ (H : Heap) (locs : List Loc) (ls : Array Slot), Wd D A s.heap (wM cA ad Y) H locs → lv_has ls 3 [(0, .ref (ad 0)), (2, .int x)] → W p l e rmX2_near s m args below meth c H locs 0 0 (MQ below (QI D cA A z (wM cA ad Y)) args s 0 0 A) (F0 m 52 ls [])
def GX2_near_5 (p : Program) (l : Launch) (e : Env) (s : State) (m : MethodId) (args : Array Value) (below : List Frame) (meth : Method) (c : Code) (D : va_G) (cA : ClassId) (A : Nat → Prop) (ad : Nat → Nat) (Y : VS) (z : Int32) (x : (Int32) × (Int32)) : Prop := ∀ (H : Heap) (locs : List Loc) (ls : Array Slot), Wd D A s.heap (wM cA ad Y) H locs → lv_has ls 3 [(0, .ref (ad 0)), (1, .int x.1), (2, .int x.2)] → W p l e rmX2_near s m args below meth c H locs 0 0 (MQ below (QI D cA A z (wM cA ad Y)) args s 0 0 A) (F0 m 5 ls [])
def fX2_near_54 (Y : VS) (k5 : ((Int32) × (Int32)) → Option Int32) : ((Int32) × (Int32)) → Option Int32 := fun x => match x with | (x_1, x_2) => bn (x_2 + 1) (fun x1 => k5 (x_1, x1))
def fX2_near_52 (Y : VS) (k5 : ((Int32) × (Int32)) → Option Int32) : ((Int32)) → Option Int32 := fun x_2 => fX2_near_54 Y k5 (x_2, x_2)
def fX2_near_5 (Y : VS) (k5 : ((Int32) × (Int32)) → Option Int32) : ((Int32) × (Int32)) → Option Int32 := fun x => match x with | (x_1, x_2) => rd 81 (Y 0) 1 (fun r1 => if r1 ≤ x_2 then some x_1 else if x_1 < 0 then fX2_near_52 Y k5 x_2 else cl (fX2_ofP x_2 0) (fun r4 => rd 81 (Y 0) r4 (fun r5 => cl (fX2_apart r5 10) (fun r6 => cl (fX2_ofP x_1 0) (fun r7 => rd 81 (Y 0) r7 (fun r8 => cl (fX2_apart r8 10) (fun r9 => if r9 ≤ r6 then fX2_near_54 Y k5 (x_1, x_2) else fX2_near_52 Y k5 x_2)))))))
def fX2_near (Y : VS) : Option Int32 := lp (fX2_near_5 Y) 5000 ((-9), 0)
set_option maxHeartbeats 4000000 in
set_option maxRecDepth 100000 in
theorem kX2_near_54 (C : Cx p s m args meth c cX2_near 3 RX2 D cA g A) (hr : meth.sig.returnType = (some .int)) {z : Int32} (Y : VS) (k5 : ((Int32) × (Int32)) → Option Int32) (hk5 : ∀ x, k5 x = some z → GX2_near_5 p l e s m args below meth c D cA A ad Y z x) (x : (Int32) × (Int32)) (h : fX2_near_54 Y k5 x = some z) : GX2_near_54 p l e s m args below meth c D cA A ad Y z x := by
  obtain ⟨x_1, x_2⟩ := x
  intro H locs ls hw hl
  have hw : Wd D A s.heap (wM cA ad Y) H locs := hw
  have hl : lv_has ls 3 [(0, .ref (ad 0)), (1, .int x_1), (2, .int x_2)] := hl
  have hx := C.1.1
  have hb := C.1.2.1
  have h : (bn (x_2 + 1) (fun x1 => k5 (x_1, x1))) = some z := h
  obtain ⟨x1, ex1⟩ : ∃ y : Int32, y = x_2 + 1 := ⟨_, rfl⟩
  replace h := bn_some h ex1
  refine lv_iinc (v := x1) (lv' := [(2, .int x1), (0, .ref (ad 0)), (1, .int x_1)]) hx hb dX2_near_54 hl (k := 2) rfl (by rw [ex1]; rfl) (by decide) rfl (fun ls hl => ?_)
  refine lv_goto (tgt := 5) hx hb dX2_near_57 (by decide) ?_
  exact hk5 (x_1, x1) h _ _ _ hw (lv_sub hl [1, 2, 0] rfl)
set_option maxHeartbeats 4000000 in
set_option maxRecDepth 100000 in
theorem kX2_near_52 (C : Cx p s m args meth c cX2_near 3 RX2 D cA g A) (hr : meth.sig.returnType = (some .int)) {z : Int32} (Y : VS) (k5 : ((Int32) × (Int32)) → Option Int32) (hk5 : ∀ x, k5 x = some z → GX2_near_5 p l e s m args below meth c D cA A ad Y z x) (x : (Int32)) (h : fX2_near_52 Y k5 x = some z) : GX2_near_52 p l e s m args below meth c D cA A ad Y z x := by
  obtain ⟨x_2, rfl⟩ : ∃ y, y = x := ⟨_, rfl⟩
  intro H locs ls hw hl
  have hw : Wd D A s.heap (wM cA ad Y) H locs := hw
  have hl : lv_has ls 3 [(0, .ref (ad 0)), (2, .int x_2)] := hl
  have hx := C.1.1
  have hb := C.1.2.1
  have h : (fX2_near_54 Y k5 (x_2, x_2)) = some z := h
  refine lv_iload_n hx hb dX2_near_52 rfl (lv_at hl 1 rfl) ?_
  refine lv_istore_n (lv' := [(1, .int x_2), (0, .ref (ad 0)), (2, .int x_2)]) hx hb dX2_near_53 rfl hl (by decide) rfl (fun ls hl => ?_)
  exact kX2_near_54 C hr Y k5 hk5 (x_2, x_2) h _ _ _ hw (lv_sub hl [1, 0, 2] rfl)
set_option maxHeartbeats 4000000 in
set_option maxRecDepth 100000 in
theorem kX2_near_5 (C : Cx p s m args meth c cX2_near 3 RX2 D cA g A) (hr : meth.sig.returnType = (some .int)) {z : Int32} (Y : VS) (k5 : ((Int32) × (Int32)) → Option Int32) (hk5 : ∀ x, k5 x = some z → GX2_near_5 p l e s m args below meth c D cA A ad Y z x) (x : (Int32) × (Int32)) (h : fX2_near_5 Y k5 x = some z) : GX2_near_5 p l e s m args below meth c D cA A ad Y z x := by
  obtain ⟨x_1, x_2⟩ := x
  intro H locs ls hw hl
  have hw : Wd D A s.heap (wM cA ad Y) H locs := hw
  have hl : lv_has ls 3 [(0, .ref (ad 0)), (1, .int x_1), (2, .int x_2)] := hl
  have hx := C.1.1
  have hb := C.1.2.1
  have h : (rd 81 (Y 0) 1 (fun r1 => if r1 ≤ x_2 then some x_1 else if x_1 < 0 then fX2_near_52 Y k5 x_2 else cl (fX2_ofP x_2 0) (fun r4 => rd 81 (Y 0) r4 (fun r5 => cl (fX2_apart r5 10) (fun r6 => cl (fX2_ofP x_1 0) (fun r7 => rd 81 (Y 0) r7 (fun r8 => cl (fX2_apart r8 10) (fun r9 => if r9 ≤ r6 then fX2_near_54 Y k5 (x_1, x_2) else fX2_near_52 Y k5 x_2)))))))) = some z := h
  refine lv_iload_n hx hb dX2_near_5 rfl (lv_at hl 2 rfl) ?_
  refine lv_aload_n hx hb dX2_near_6 rfl (lv_at hl 0 rfl) ?_
  refine tGet (T := TX2) (N := 13) (ci := 2) C hw inX2 0 0 rfl (by decide) kf_RX2_9 rfl rfl rfl dX2_near_7 ?_
  refine lv_iconst (v := 1) hx hb dX2_near_10 (by decide) ?_
  obtain ⟨r1, ir1, er1, h⟩ := rd_some h
  refine tLd C hw 1 rfl ir1 er1 dX2_near_11 ?_
  refine lv_icmp_ge (tgt := 60) hx hb dX2_near_12 (by decide) (fun c2 => ?_) (fun c2 => ?_)
  · replace h := (if_pos c2).symm.trans h
    refine lv_iload_n hx hb dX2_near_60 rfl (lv_at hl 1 rfl) ?_
    obtain rfl := some_e h
    exact rtI C hr hw dX2_near_61
  · replace h := (if_neg c2).symm.trans h
    refine lv_iload_n hx hb dX2_near_15 rfl (lv_at hl 1 rfl) ?_
    refine lv_if_lt (tgt := 52) hx hb dX2_near_16 (by decide) (fun c3 => ?_) (fun c3 => ?_)
    · replace h := (if_pos c3).symm.trans h
      exact kX2_near_52 C hr Y k5 hk5 x_2 h _ _ _ hw (lv_sub hl [0, 2] rfl)
    · replace h := (if_neg c3).symm.trans h
      refine lv_aload_n hx hb dX2_near_19 rfl (lv_at hl 0 rfl) ?_
      refine tGet (T := TX2) (N := 13) (ci := 2) C hw inX2 0 0 rfl (by decide) kf_RX2_9 rfl rfl rfl dX2_near_20 ?_
      refine lv_iload_n hx hb dX2_near_23 rfl (lv_at hl 2 rfl) ?_
      refine lv_iconst (v := 0) hx hb dX2_near_24 (by decide) ?_
      obtain ⟨r4, hr4, h⟩ := cl_some h
      refine cSi (ws2 := (wM cA ad Y)) (As := [.int x_2, .int 0]) (rest := [.ref (ad 1)]) C hw jnE (kX2_ofP hr4) kl_RX2_48 kt_yX2_ofP kn_RX2 kc_yX2_ofP ⟨rfl, rfl⟩ hdX2_ofP ⟨Nat.le_of_ble_eq_true rfl, Nat.le_of_ble_eq_true rfl⟩ rfl hl.1 (Nat.le_of_ble_eq_true rfl) dX2_near_25 ⟨Nat.zero_le _, Nat.zero_le _⟩ (fun H locs hw => ?_)
      obtain ⟨r5, ir5, er5, h⟩ := rd_some h
      refine tLd C hw 1 rfl ir5 er5 dX2_near_28 ?_
      refine lv_bipush (v := 10) hx hb dX2_near_29 (by decide) ?_
      obtain ⟨r6, hr6, h⟩ := cl_some h
      refine cSi (ws2 := (wM cA ad Y)) (As := [.int r5, .int 10]) (rest := []) C hw jnE (kX2_apart hr6) kl_RX2_55 kt_yX2_apart kn_RX2 kc_yX2_apart ⟨rfl, rfl⟩ hdX2_apart ⟨Nat.le_of_ble_eq_true rfl, Nat.le_of_ble_eq_true rfl⟩ rfl hl.1 (Nat.le_of_ble_eq_true rfl) dX2_near_31 ⟨Nat.zero_le _, Nat.zero_le _⟩ (fun H locs hw => ?_)
      refine lv_aload_n hx hb dX2_near_34 rfl (lv_at hl 0 rfl) ?_
      refine tGet (T := TX2) (N := 13) (ci := 2) C hw inX2 0 0 rfl (by decide) kf_RX2_9 rfl rfl rfl dX2_near_35 ?_
      refine lv_iload_n hx hb dX2_near_38 rfl (lv_at hl 1 rfl) ?_
      refine lv_iconst (v := 0) hx hb dX2_near_39 (by decide) ?_
      obtain ⟨r7, hr7, h⟩ := cl_some h
      refine cSi (ws2 := (wM cA ad Y)) (As := [.int x_1, .int 0]) (rest := [.ref (ad 1), .int r6]) C hw jnE (kX2_ofP hr7) kl_RX2_48 kt_yX2_ofP kn_RX2 kc_yX2_ofP ⟨rfl, rfl⟩ hdX2_ofP ⟨Nat.le_of_ble_eq_true rfl, Nat.le_of_ble_eq_true rfl⟩ rfl hl.1 (Nat.le_of_ble_eq_true rfl) dX2_near_40 ⟨Nat.zero_le _, Nat.zero_le _⟩ (fun H locs hw => ?_)
      obtain ⟨r8, ir8, er8, h⟩ := rd_some h
      refine tLd C hw 1 rfl ir8 er8 dX2_near_43 ?_
      refine lv_bipush (v := 10) hx hb dX2_near_44 (by decide) ?_
      obtain ⟨r9, hr9, h⟩ := cl_some h
      refine cSi (ws2 := (wM cA ad Y)) (As := [.int r8, .int 10]) (rest := [.int r6]) C hw jnE (kX2_apart hr9) kl_RX2_55 kt_yX2_apart kn_RX2 kc_yX2_apart ⟨rfl, rfl⟩ hdX2_apart ⟨Nat.le_of_ble_eq_true rfl, Nat.le_of_ble_eq_true rfl⟩ rfl hl.1 (Nat.le_of_ble_eq_true rfl) dX2_near_46 ⟨Nat.zero_le _, Nat.zero_le _⟩ (fun H locs hw => ?_)
      refine lv_icmp_ge (tgt := 54) hx hb dX2_near_49 (by decide) (fun c10 => ?_) (fun c10 => ?_)
      · replace h := (if_pos c10).symm.trans h
        exact kX2_near_54 C hr Y k5 hk5 (x_1, x_2) h _ _ _ hw (lv_sub hl [0, 1, 2] rfl)
      · replace h := (if_neg c10).symm.trans h
        exact kX2_near_52 C hr Y k5 hk5 x_2 h _ _ _ hw (lv_sub hl [0, 2] rfl)
theorem lX2_near_5 (C : Cx p s m args meth c cX2_near 3 RX2 D cA g A) (hr : meth.sig.returnType = (some .int)) {z : Int32} (Y : VS) (n : Nat) (x : (Int32) × (Int32)) (h : lp (fX2_near_5 Y) n x = some z) : GX2_near_5 p l e s m args below meth c D cA A ad Y z x := lp_ok (GX2_near_5 p l e s m args below meth c D cA A ad Y z) (fun kq hkq x h => kX2_near_5 C hr Y kq hkq x h) n x h
set_option maxHeartbeats 4000000 in
set_option maxRecDepth 100000 in
theorem kX2_near (ad : Nat → Nat) {Y : VS} {z : Int32} (h : fX2_near Y = some z) : MI l D cA g yX2_near (Cond.code yX2_near cX2_near 3 (some .int) :: lw_g) rmX2_near [.ref (ad 0)] (wM cA ad Y) z (wM cA ad Y) := by
  intro sz
  refine Met.ofW (cc := cX2_near) (maxL := 3) (ret := (some .int)) (by decide) rfl ?_
  intro p e s m args below meth c s₁ B hml hv
  obtain ⟨rfl, C, hr, hw⟩ := ent B hml hv
  generalize va_A (wM cA ad Y) sz = A at C hw ⊢
  have hl := lv_entry ([.ref (ad 0)]) (n := 3) (Nat.le_of_ble_eq_true rfl)
  rw [lg_entry_eq]
  generalize (lg_sl ([.ref (ad 0)]) ++ List.replicate (3 - (lg_sl ([.ref (ad 0)])).length) Slot.unset).toArray = ls at hl ⊢
  have hl : lv_has ls 3 [(0, .ref (ad 0))] := hl
  have hx := C.1.1
  have hb := C.1.2.1
  have h : (lp (fX2_near_5 Y) 5000 ((-9), 0)) = some z := h
  refine lv_bipush (v := (-9)) hx hb dX2_near_0 (by decide) ?_
  refine lv_istore_n (lv' := [(1, .int (-9)), (0, .ref (ad 0))]) hx hb dX2_near_2 rfl hl (by decide) rfl (fun ls hl => ?_)
  refine lv_iconst (v := 0) hx hb dX2_near_3 (by decide) ?_
  refine lv_istore_n (lv' := [(2, .int 0), (1, .int (-9)), (0, .ref (ad 0))]) hx hb dX2_near_4 rfl hl (by decide) rfl (fun ls hl => ?_)
  exact lX2_near_5 C hr Y 5000 ((-9), 0) h _ _ _ hw (lv_sub hl [2, 1, 0] rfl)
abbrev rmX2_alone : Room := { frames := 3, cells := 0, slots := 0, locals := 67 }
theorem hdX2_alone : yX2_alone.cls = RX2 ∧ yX2_alone.cls ≠ "java/lang/invoke/MethodHandle" ∧ yX2_alone.cls ≠ "java/lang/invoke/VarHandle" ∧ (parseMethodDescriptor yX2_alone.desc).map (fun d => d.parameters.length) = some 0 := by decide +kernel
def GX2_alone_54 (p : Program) (l : Launch) (e : Env) (s : State) (m : MethodId) (args : Array Value) (below : List Frame) (meth : Method) (c : Code) (D : va_G) (cA : ClassId) (A : Nat → Prop) (ad : Nat → Nat) (Y : VS) (z : Int32) (x : (Int32) × (Int32) × (Int32) × (Int32)) : Prop := ∀ (H : Heap) (locs : List Loc) (ls : Array Slot), Wd D A s.heap (wM cA ad Y) H locs → lv_has ls 4 [(0, .ref (ad 0)), (2, .int x.1), (3, .int x.2.1)] → W p l e rmX2_alone s m args below meth c H locs 0 0 (MQ below (QI D cA A z (wM cA ad Y)) args s 0 0 A) (F0 m 54 ls [.int x.2.2.1, .int x.2.2.2])
def GX2_alone_53 (p : Program) (l : Launch) (e : Env) (s : State) (m : MethodId) (args : Array Value) (below : List Frame) (meth : Method) (c : Code) (D : va_G) (cA : ClassId) (A : Nat → Prop) (ad : Nat → Nat) (Y : VS) (z : Int32) (x : (Int32) × (Int32) × (Int32)) : Prop := ∀ (H : Heap) (locs : List Loc) (ls : Array Slot), Wd D A s.heap (wM cA ad Y) H locs → lv_has ls 4 [(0, .ref (ad 0)), (2, .int x.1), (3, .int x.2.1)] → W p l e rmX2_alone s m args below meth c H locs 0 0 (MQ below (QI D cA A z (wM cA ad Y)) args s 0 0 A) (F0 m 53 ls [.int x.2.2])
def GX2_alone_16 (p : Program) (l : Launch) (e : Env) (s : State) (m : MethodId) (args : Array Value) (below : List Frame) (meth : Method) (c : Code) (D : va_G) (cA : ClassId) (A : Nat → Prop) (ad : Nat → Nat) (Y : VS) (z : Int32) (x : (Int32) × (Int32) × (Int32)) : Prop := ∀ (H : Heap) (locs : List Loc) (ls : Array Slot), Wd D A s.heap (wM cA ad Y) H locs → lv_has ls 4 [(0, .ref (ad 0)), (1, .int x.1), (2, .int x.2.1), (3, .int x.2.2)] → W p l e rmX2_alone s m args below meth c H locs 0 0 (MQ below (QI D cA A z (wM cA ad Y)) args s 0 0 A) (F0 m 16 ls [])
def GX2_alone_4 (p : Program) (l : Launch) (e : Env) (s : State) (m : MethodId) (args : Array Value) (below : List Frame) (meth : Method) (c : Code) (D : va_G) (cA : ClassId) (A : Nat → Prop) (ad : Nat → Nat) (Y : VS) (z : Int32) (x : (Int32) × (Int32)) : Prop := ∀ (H : Heap) (locs : List Loc) (ls : Array Slot), Wd D A s.heap (wM cA ad Y) H locs → lv_has ls 4 [(0, .ref (ad 0)), (1, .int x.1), (2, .int x.2)] → W p l e rmX2_alone s m args below meth c H locs 0 0 (MQ below (QI D cA A z (wM cA ad Y)) args s 0 0 A) (F0 m 4 ls [])
def fX2_alone_54 (Y : VS) (k4 : ((Int32) × (Int32)) → Option Int32) (k16 : ((Int32) × (Int32) × (Int32)) → Option Int32) : ((Int32) × (Int32) × (Int32) × (Int32)) → Option Int32 := fun x => match x with | (x_2, x_3, y_0, y_1) => bn (y_1 ||| y_0) (fun x1 => bn (x_3 + 1) (fun x2 => k16 (x1, x_2, x2)))
def fX2_alone_53 (Y : VS) (k4 : ((Int32) × (Int32)) → Option Int32) (k16 : ((Int32) × (Int32) × (Int32)) → Option Int32) : ((Int32) × (Int32) × (Int32)) → Option Int32 := fun x => match x with | (x_2, x_3, y_0) => fX2_alone_54 Y k4 k16 (x_2, x_3, 0, y_0)
def fX2_alone_16 (Y : VS) (k4 : ((Int32) × (Int32)) → Option Int32) (k16 : ((Int32) × (Int32) × (Int32)) → Option Int32) : ((Int32) × (Int32) × (Int32)) → Option Int32 := fun x => match x with | (x_1, x_2, x_3) => if 6 ≤ x_3 then bn (x_2 + 1) (fun x2 => k4 (x_1, x2)) else cl (fX2_wordsOf (Y 0) x_2) (fun r3 => cl (fX2_has r3 x_3) (fun r4 => if r4 = 0 then fX2_alone_53 Y k4 k16 (x_2, x_3, x_1) else cl (fX2_manyWith Y x_3) (fun r6 => if r6 = 1 then fX2_alone_54 Y k4 k16 (x_2, x_3, ((1 : Int32) <<< (x_2 &&& 31)), x_1) else fX2_alone_53 Y k4 k16 (x_2, x_3, x_1))))
def fX2_alone_4 (Y : VS) (k4 : ((Int32) × (Int32)) → Option Int32) : ((Int32) × (Int32)) → Option Int32 := fun x => match x with | (x_1, x_2) => rd 81 (Y 0) 1 (fun r1 => if r1 ≤ x_2 then some x_1 else lp (fX2_alone_16 Y k4) 5000 (x_1, x_2, 0))
def fX2_alone (Y : VS) : Option Int32 := lp (fX2_alone_4 Y) 5000 (0, 0)
set_option maxHeartbeats 4000000 in
set_option maxRecDepth 100000 in
theorem kX2_alone_54 (C : Cx p s m args meth c cX2_alone 4 RX2 D cA g A) (hr : meth.sig.returnType = (some .int)) {z : Int32} (Y : VS) (k4 : ((Int32) × (Int32)) → Option Int32) (hk4 : ∀ x, k4 x = some z → GX2_alone_4 p l e s m args below meth c D cA A ad Y z x) (k16 : ((Int32) × (Int32) × (Int32)) → Option Int32) (hk16 : ∀ x, k16 x = some z → GX2_alone_16 p l e s m args below meth c D cA A ad Y z x) (x : (Int32) × (Int32) × (Int32) × (Int32)) (h : fX2_alone_54 Y k4 k16 x = some z) : GX2_alone_54 p l e s m args below meth c D cA A ad Y z x := by
  obtain ⟨x_2, x_3, y_0, y_1⟩ := x
  intro H locs ls hw hl
  have hw : Wd D A s.heap (wM cA ad Y) H locs := hw
  have hl : lv_has ls 4 [(0, .ref (ad 0)), (2, .int x_2), (3, .int x_3)] := hl
  show W p l e rmX2_alone s m args below meth c H locs 0 0 (MQ below (QI D cA A z (wM cA ad Y)) args s 0 0 A) (F0 m 54 ls [.int y_0, .int y_1])
  have hx := C.1.1
  have hb := C.1.2.1
  have h : (bn (y_1 ||| y_0) (fun x1 => bn (x_3 + 1) (fun x2 => k16 (x1, x_2, x2)))) = some z := h
  refine lv_ior hx hb dX2_alone_54 ?_
  refine lv_topi (fun x1 ex1 => ?_)
  replace h := bn_some h ex1
  refine lv_istore_n (lv' := [(1, .int x1), (0, .ref (ad 0)), (2, .int x_2), (3, .int x_3)]) hx hb dX2_alone_55 rfl hl (by decide) rfl (fun ls hl => ?_)
  obtain ⟨x2, ex2⟩ : ∃ y : Int32, y = x_3 + 1 := ⟨_, rfl⟩
  replace h := bn_some h ex2
  refine lv_iinc (v := x2) (lv' := [(3, .int x2), (1, .int x1), (0, .ref (ad 0)), (2, .int x_2)]) hx hb dX2_alone_56 hl (k := 3) rfl (by rw [ex2]; rfl) (by decide) rfl (fun ls hl => ?_)
  refine lv_goto (tgt := 16) hx hb dX2_alone_59 (by decide) ?_
  exact hk16 (x1, x_2, x2) h _ _ _ hw (lv_sub hl [2, 1, 3, 0] rfl)
set_option maxHeartbeats 4000000 in
set_option maxRecDepth 100000 in
theorem kX2_alone_53 (C : Cx p s m args meth c cX2_alone 4 RX2 D cA g A) (hr : meth.sig.returnType = (some .int)) {z : Int32} (Y : VS) (k4 : ((Int32) × (Int32)) → Option Int32) (hk4 : ∀ x, k4 x = some z → GX2_alone_4 p l e s m args below meth c D cA A ad Y z x) (k16 : ((Int32) × (Int32) × (Int32)) → Option Int32) (hk16 : ∀ x, k16 x = some z → GX2_alone_16 p l e s m args below meth c D cA A ad Y z x) (x : (Int32) × (Int32) × (Int32)) (h : fX2_alone_53 Y k4 k16 x = some z) : GX2_alone_53 p l e s m args below meth c D cA A ad Y z x := by
  obtain ⟨x_2, x_3, y_0⟩ := x
  intro H locs ls hw hl
  have hw : Wd D A s.heap (wM cA ad Y) H locs := hw
  have hl : lv_has ls 4 [(0, .ref (ad 0)), (2, .int x_2), (3, .int x_3)] := hl
  show W p l e rmX2_alone s m args below meth c H locs 0 0 (MQ below (QI D cA A z (wM cA ad Y)) args s 0 0 A) (F0 m 53 ls [.int y_0])
  have hx := C.1.1
  have hb := C.1.2.1
  have h : (fX2_alone_54 Y k4 k16 (x_2, x_3, 0, y_0)) = some z := h
  refine lv_iconst (v := 0) hx hb dX2_alone_53 (by decide) ?_
  exact kX2_alone_54 C hr Y k4 hk4 k16 hk16 (x_2, x_3, 0, y_0) h _ _ _ hw (lv_sub hl [0, 1, 2] rfl)
set_option maxHeartbeats 4000000 in
set_option maxRecDepth 100000 in
theorem kX2_alone_16 (C : Cx p s m args meth c cX2_alone 4 RX2 D cA g A) (hr : meth.sig.returnType = (some .int)) {z : Int32} (Y : VS) (k4 : ((Int32) × (Int32)) → Option Int32) (hk4 : ∀ x, k4 x = some z → GX2_alone_4 p l e s m args below meth c D cA A ad Y z x) (k16 : ((Int32) × (Int32) × (Int32)) → Option Int32) (hk16 : ∀ x, k16 x = some z → GX2_alone_16 p l e s m args below meth c D cA A ad Y z x) (x : (Int32) × (Int32) × (Int32)) (h : fX2_alone_16 Y k4 k16 x = some z) : GX2_alone_16 p l e s m args below meth c D cA A ad Y z x := by
  obtain ⟨x_1, x_2, x_3⟩ := x
  intro H locs ls hw hl
  have hw : Wd D A s.heap (wM cA ad Y) H locs := hw
  have hl : lv_has ls 4 [(0, .ref (ad 0)), (1, .int x_1), (2, .int x_2), (3, .int x_3)] := hl
  have hx := C.1.1
  have hb := C.1.2.1
  have h : (if 6 ≤ x_3 then bn (x_2 + 1) (fun x2 => k4 (x_1, x2)) else cl (fX2_wordsOf (Y 0) x_2) (fun r3 => cl (fX2_has r3 x_3) (fun r4 => if r4 = 0 then fX2_alone_53 Y k4 k16 (x_2, x_3, x_1) else cl (fX2_manyWith Y x_3) (fun r6 => if r6 = 1 then fX2_alone_54 Y k4 k16 (x_2, x_3, ((1 : Int32) <<< (x_2 &&& 31)), x_1) else fX2_alone_53 Y k4 k16 (x_2, x_3, x_1))))) = some z := h
  refine lv_iload_n hx hb dX2_alone_16 rfl (lv_at hl 3 rfl) ?_
  refine lv_bipush (v := 6) hx hb dX2_alone_17 (by decide) ?_
  refine lv_icmp_ge (tgt := 62) hx hb dX2_alone_19 (by decide) (fun c1 => ?_) (fun c1 => ?_)
  · replace h := (if_pos c1).symm.trans h
    obtain ⟨x2, ex2⟩ : ∃ y : Int32, y = x_2 + 1 := ⟨_, rfl⟩
    replace h := bn_some h ex2
    refine lv_iinc (v := x2) (lv' := [(2, .int x2), (0, .ref (ad 0)), (1, .int x_1), (3, .int x_3)]) hx hb dX2_alone_62 hl (k := 2) rfl (by rw [ex2]; rfl) (by decide) rfl (fun ls hl => ?_)
    refine lv_goto (tgt := 4) hx hb dX2_alone_65 (by decide) ?_
    exact hk4 (x_1, x2) h _ _ _ hw (lv_sub hl [1, 2, 0] rfl)
  · replace h := (if_neg c1).symm.trans h
    refine lv_iload_n hx hb dX2_alone_22 rfl (lv_at hl 1 rfl) ?_
    refine lv_aload_n hx hb dX2_alone_23 rfl (lv_at hl 0 rfl) ?_
    refine tGet (T := TX2) (N := 13) (ci := 2) C hw inX2 0 0 rfl (by decide) kf_RX2_9 rfl rfl rfl dX2_alone_24 ?_
    refine lv_iload_n hx hb dX2_alone_27 rfl (lv_at hl 2 rfl) ?_
    obtain ⟨r3, hr3, h⟩ := cl_some h
    refine cSi (ws2 := (wM cA ad Y)) (As := [.ref (ad 1), .int x_2]) (rest := [.int x_1]) C hw jM0r (kX2_wordsOf (ad 1) hr3) kl_RX2_91 kt_yX2_wordsOf kn_RX2 kc_yX2_wordsOf ⟨rfl, rfl⟩ hdX2_wordsOf ⟨Nat.le_of_ble_eq_true rfl, Nat.le_of_ble_eq_true rfl⟩ rfl hl.1 (Nat.le_of_ble_eq_true rfl) dX2_alone_28 ⟨Nat.zero_le _, Nat.zero_le _⟩ (fun H locs hw => ?_)
    refine lv_iload_n hx hb dX2_alone_31 rfl (lv_at hl 3 rfl) ?_
    obtain ⟨r4, hr4, h⟩ := cl_some h
    refine cSi (ws2 := (wM cA ad Y)) (As := [.int r3, .int x_3]) (rest := [.int x_1]) C hw jnE (kX2_has hr4) kl_RX2_65 kt_yX2_has kn_RX2 kc_yX2_has ⟨rfl, rfl⟩ hdX2_has ⟨Nat.le_of_ble_eq_true rfl, Nat.le_of_ble_eq_true rfl⟩ rfl hl.1 (Nat.le_of_ble_eq_true rfl) dX2_alone_32 ⟨Nat.zero_le _, Nat.zero_le _⟩ (fun H locs hw => ?_)
    refine lv_if_eq (tgt := 53) hx hb dX2_alone_35 (by decide) (fun c5 => ?_) (fun c5 => ?_)
    · replace h := (if_pos c5).symm.trans h
      exact kX2_alone_53 C hr Y k4 hk4 k16 hk16 (x_2, x_3, x_1) h _ _ _ hw (lv_sub hl [0, 2, 3] rfl)
    · replace h := (if_neg c5).symm.trans h
      refine lv_aload_n hx hb dX2_alone_38 rfl (lv_at hl 0 rfl) ?_
      refine lv_iload_n hx hb dX2_alone_39 rfl (lv_at hl 3 rfl) ?_
      obtain ⟨r6, hr6, h⟩ := cl_some h
      refine cVi (ws2 := (wM cA ad Y)) (As := [.int x_3]) (rest := [.int x_1]) C hw jnW (kX2_manyWith ad hr6) kl_RX2_193 ki_yX2_manyWith ks_yX2_manyWith kn_RX2 kc_yX2_manyWith ⟨rfl, rfl⟩ hdX2_manyWith ⟨Nat.le_of_ble_eq_true rfl, Nat.le_of_ble_eq_true rfl⟩ (ci := 2) (q0 := 0) rfl rfl rfl rfl hl.1 (Nat.le_of_ble_eq_true rfl) dX2_alone_40 ⟨Nat.zero_le _, Nat.zero_le _⟩ (fun H locs hw => ?_)
      refine lv_iconst (v := 1) hx hb dX2_alone_43 (by decide) ?_
      refine lv_icmp_ne (tgt := 53) hx hb dX2_alone_44 (by decide) (fun c7 => ?_) (fun c7 => ?_)
      · replace h := (if_neg c7).symm.trans h
        exact kX2_alone_53 C hr Y k4 hk4 k16 hk16 (x_2, x_3, x_1) h _ _ _ hw (lv_sub hl [0, 2, 3] rfl)
      · replace h := (if_pos c7).symm.trans h
        refine lv_iconst (v := 1) hx hb dX2_alone_47 (by decide) ?_
        refine lv_iload_n hx hb dX2_alone_48 rfl (lv_at hl 2 rfl) ?_
        refine lv_ishl hx hb dX2_alone_49 ?_
        refine lv_goto (tgt := 54) hx hb dX2_alone_50 (by decide) ?_
        exact kX2_alone_54 C hr Y k4 hk4 k16 hk16 (x_2, x_3, ((1 : Int32) <<< (x_2 &&& 31)), x_1) h _ _ _ hw (lv_sub hl [0, 2, 3] rfl)
theorem lX2_alone_16 (C : Cx p s m args meth c cX2_alone 4 RX2 D cA g A) (hr : meth.sig.returnType = (some .int)) {z : Int32} (Y : VS) (k4 : ((Int32) × (Int32)) → Option Int32) (hk4 : ∀ x, k4 x = some z → GX2_alone_4 p l e s m args below meth c D cA A ad Y z x) (n : Nat) (x : (Int32) × (Int32) × (Int32)) (h : lp (fX2_alone_16 Y k4) n x = some z) : GX2_alone_16 p l e s m args below meth c D cA A ad Y z x := lp_ok (GX2_alone_16 p l e s m args below meth c D cA A ad Y z) (fun kq hkq x h => kX2_alone_16 C hr Y k4 hk4 kq hkq x h) n x h
set_option maxHeartbeats 4000000 in
set_option maxRecDepth 100000 in
theorem kX2_alone_4 (C : Cx p s m args meth c cX2_alone 4 RX2 D cA g A) (hr : meth.sig.returnType = (some .int)) {z : Int32} (Y : VS) (k4 : ((Int32) × (Int32)) → Option Int32) (hk4 : ∀ x, k4 x = some z → GX2_alone_4 p l e s m args below meth c D cA A ad Y z x) (x : (Int32) × (Int32)) (h : fX2_alone_4 Y k4 x = some z) : GX2_alone_4 p l e s m args below meth c D cA A ad Y z x := by
  obtain ⟨x_1, x_2⟩ := x
  intro H locs ls hw hl
  have hw : Wd D A s.heap (wM cA ad Y) H locs := hw
  have hl : lv_has ls 4 [(0, .ref (ad 0)), (1, .int x_1), (2, .int x_2)] := hl
  have hx := C.1.1
  have hb := C.1.2.1
  have h : (rd 81 (Y 0) 1 (fun r1 => if r1 ≤ x_2 then some x_1 else lp (fX2_alone_16 Y k4) 5000 (x_1, x_2, 0))) = some z := h
  refine lv_iload_n hx hb dX2_alone_4 rfl (lv_at hl 2 rfl) ?_
  refine lv_aload_n hx hb dX2_alone_5 rfl (lv_at hl 0 rfl) ?_
  refine tGet (T := TX2) (N := 13) (ci := 2) C hw inX2 0 0 rfl (by decide) kf_RX2_9 rfl rfl rfl dX2_alone_6 ?_
  refine lv_iconst (v := 1) hx hb dX2_alone_9 (by decide) ?_
  obtain ⟨r1, ir1, er1, h⟩ := rd_some h
  refine tLd C hw 1 rfl ir1 er1 dX2_alone_10 ?_
  refine lv_icmp_ge (tgt := 68) hx hb dX2_alone_11 (by decide) (fun c2 => ?_) (fun c2 => ?_)
  · replace h := (if_pos c2).symm.trans h
    refine lv_iload_n hx hb dX2_alone_68 rfl (lv_at hl 1 rfl) ?_
    obtain rfl := some_e h
    exact rtI C hr hw dX2_alone_69
  · replace h := (if_neg c2).symm.trans h
    refine lv_iconst (v := 0) hx hb dX2_alone_14 (by decide) ?_
    refine lv_istore_n (lv' := [(3, .int 0), (0, .ref (ad 0)), (1, .int x_1), (2, .int x_2)]) hx hb dX2_alone_15 rfl hl (by decide) rfl (fun ls hl => ?_)
    exact lX2_alone_16 C hr Y k4 hk4 5000 (x_1, x_2, 0) h _ _ _ hw (lv_sub hl [1, 2, 3, 0] rfl)
theorem lX2_alone_4 (C : Cx p s m args meth c cX2_alone 4 RX2 D cA g A) (hr : meth.sig.returnType = (some .int)) {z : Int32} (Y : VS) (n : Nat) (x : (Int32) × (Int32)) (h : lp (fX2_alone_4 Y) n x = some z) : GX2_alone_4 p l e s m args below meth c D cA A ad Y z x := lp_ok (GX2_alone_4 p l e s m args below meth c D cA A ad Y z) (fun kq hkq x h => kX2_alone_4 C hr Y kq hkq x h) n x h
set_option maxHeartbeats 4000000 in
set_option maxRecDepth 100000 in
theorem kX2_alone (ad : Nat → Nat) {Y : VS} {z : Int32} (h : fX2_alone Y = some z) : MI l D cA g yX2_alone (Cond.code yX2_alone cX2_alone 4 (some .int) :: lw_g) rmX2_alone [.ref (ad 0)] (wM cA ad Y) z (wM cA ad Y) := by
  intro sz
  refine Met.ofW (cc := cX2_alone) (maxL := 4) (ret := (some .int)) (by decide) rfl ?_
  intro p e s m args below meth c s₁ B hml hv
  obtain ⟨rfl, C, hr, hw⟩ := ent B hml hv
  generalize va_A (wM cA ad Y) sz = A at C hw ⊢
  have hl := lv_entry ([.ref (ad 0)]) (n := 4) (Nat.le_of_ble_eq_true rfl)
  rw [lg_entry_eq]
  generalize (lg_sl ([.ref (ad 0)]) ++ List.replicate (4 - (lg_sl ([.ref (ad 0)])).length) Slot.unset).toArray = ls at hl ⊢
  have hl : lv_has ls 4 [(0, .ref (ad 0))] := hl
  have hx := C.1.1
  have hb := C.1.2.1
  have h : (lp (fX2_alone_4 Y) 5000 (0, 0)) = some z := h
  refine lv_iconst (v := 0) hx hb dX2_alone_0 (by decide) ?_
  refine lv_istore_n (lv' := [(1, .int 0), (0, .ref (ad 0))]) hx hb dX2_alone_1 rfl hl (by decide) rfl (fun ls hl => ?_)
  refine lv_iconst (v := 0) hx hb dX2_alone_2 (by decide) ?_
  refine lv_istore_n (lv' := [(2, .int 0), (1, .int 0), (0, .ref (ad 0))]) hx hb dX2_alone_3 rfl hl (by decide) rfl (fun ls hl => ?_)
  exact lX2_alone_4 C hr Y 5000 (0, 0) h _ _ _ hw (lv_sub hl [2, 1, 0] rfl)
abbrev rmX2_tell : Room := { frames := 3, cells := 0, slots := 0, locals := 66 }
theorem hdX2_tell : yX2_tell.cls = RX2 ∧ yX2_tell.cls ≠ "java/lang/invoke/MethodHandle" ∧ yX2_tell.cls ≠ "java/lang/invoke/VarHandle" ∧ (parseMethodDescriptor yX2_tell.desc).map (fun d => d.parameters.length) = some 0 := by decide +kernel
def GX2_tell_160 (p : Program) (l : Launch) (e : Env) (s : State) (m : MethodId) (args : Array Value) (below : List Frame) (meth : Method) (c : Code) (D : va_G) (cA : ClassId) (A : Nat → Prop) (ad : Nat → Nat) (z : (Int32 × VS)) (x : (VS) × (Int32) × (Int32) × (Int32) × (Int32)) : Prop := ∀ (H : Heap) (locs : List Loc) (ls : Array Slot), Wd D A s.heap (wM cA ad x.1) H locs → lv_has ls 6 [(0, .ref (ad 0)), (1, .int x.2.1), (2, .int x.2.2.1), (3, .int x.2.2.2.1), (4, .int x.2.2.2.2)] → W p l e rmX2_tell s m args below meth c H locs 0 0 (MQ below (QI D cA A z.1 (wM cA ad z.2)) args s 0 0 A) (F0 m 160 ls [])
def GX2_tell_124 (p : Program) (l : Launch) (e : Env) (s : State) (m : MethodId) (args : Array Value) (below : List Frame) (meth : Method) (c : Code) (D : va_G) (cA : ClassId) (A : Nat → Prop) (ad : Nat → Nat) (z : (Int32 × VS)) (x : (VS) × (Int32) × (Int32) × (Int32) × (Int32) × (Int32)) : Prop := ∀ (H : Heap) (locs : List Loc) (ls : Array Slot), Wd D A s.heap (wM cA ad x.1) H locs → lv_has ls 6 [(0, .ref (ad 0)), (1, .int x.2.1), (2, .int x.2.2.1), (3, .int x.2.2.2.1), (4, .int x.2.2.2.2.1), (5, .int x.2.2.2.2.2)] → W p l e rmX2_tell s m args below meth c H locs 0 0 (MQ below (QI D cA A z.1 (wM cA ad z.2)) args s 0 0 A) (F0 m 124 ls [])
def GX2_tell_60 (p : Program) (l : Launch) (e : Env) (s : State) (m : MethodId) (args : Array Value) (below : List Frame) (meth : Method) (c : Code) (D : va_G) (cA : ClassId) (A : Nat → Prop) (ad : Nat → Nat) (z : (Int32 × VS)) (x : (VS) × (Int32) × (Int32) × (Int32) × (Int32) × (Int32)) : Prop := ∀ (H : Heap) (locs : List Loc) (ls : Array Slot), Wd D A s.heap (wM cA ad x.1) H locs → lv_has ls 6 [(0, .ref (ad 0)), (1, .int x.2.1), (2, .int x.2.2.1), (3, .int x.2.2.2.1), (4, .int x.2.2.2.2.1), (5, .int x.2.2.2.2.2)] → W p l e rmX2_tell s m args below meth c H locs 0 0 (MQ below (QI D cA A z.1 (wM cA ad z.2)) args s 0 0 A) (F0 m 60 ls [])
def GX2_tell_26 (p : Program) (l : Launch) (e : Env) (s : State) (m : MethodId) (args : Array Value) (below : List Frame) (meth : Method) (c : Code) (D : va_G) (cA : ClassId) (A : Nat → Prop) (ad : Nat → Nat) (z : (Int32 × VS)) (x : (VS) × (Int32) × (Int32) × (Int32) × (Int32)) : Prop := ∀ (H : Heap) (locs : List Loc) (ls : Array Slot), Wd D A s.heap (wM cA ad x.1) H locs → lv_has ls 6 [(0, .ref (ad 0)), (1, .int x.2.1), (2, .int x.2.2.1), (3, .int x.2.2.2.1), (4, .int x.2.2.2.2)] → W p l e rmX2_tell s m args below meth c H locs 0 0 (MQ below (QI D cA A z.1 (wM cA ad z.2)) args s 0 0 A) (F0 m 26 ls [])
def GX2_tell_13 (p : Program) (l : Launch) (e : Env) (s : State) (m : MethodId) (args : Array Value) (below : List Frame) (meth : Method) (c : Code) (D : va_G) (cA : ClassId) (A : Nat → Prop) (ad : Nat → Nat) (z : (Int32 × VS)) (x : (VS) × (Int32) × (Int32) × (Int32)) : Prop := ∀ (H : Heap) (locs : List Loc) (ls : Array Slot), Wd D A s.heap (wM cA ad x.1) H locs → lv_has ls 6 [(0, .ref (ad 0)), (1, .int x.2.1), (2, .int x.2.2.1), (3, .int x.2.2.2)] → W p l e rmX2_tell s m args below meth c H locs 0 0 (MQ below (QI D cA A z.1 (wM cA ad z.2)) args s 0 0 A) (F0 m 13 ls [])
def fX2_tell_160 (k13 : ((VS) × (Int32) × (Int32) × (Int32)) → Option (Int32 × VS)) (k26 : ((VS) × (Int32) × (Int32) × (Int32) × (Int32)) → Option (Int32 × VS)) : ((VS) × (Int32) × (Int32) × (Int32) × (Int32)) → Option (Int32 × VS) := fun x => match x with | (Y, x_1, x_2, x_3, x_4) => bn (x_4 + 1) (fun x1 => k26 (Y, x_1, x_2, x_3, x1))
def fX2_tell_124 (k13 : ((VS) × (Int32) × (Int32) × (Int32)) → Option (Int32 × VS)) (k26 : ((VS) × (Int32) × (Int32) × (Int32) × (Int32)) → Option (Int32 × VS)) (k60 : ((VS) × (Int32) × (Int32) × (Int32) × (Int32) × (Int32)) → Option (Int32 × VS)) : ((VS) × (Int32) × (Int32) × (Int32) × (Int32) × (Int32)) → Option (Int32 × VS) := fun x => match x with | (Y, x_1, x_2, x_3, x_4, x_5) => bn (x_5 + 1) (fun x1 => k60 (Y, x_1, x_2, x_3, x_4, x1))
def fX2_tell_60 (k13 : ((VS) × (Int32) × (Int32) × (Int32)) → Option (Int32 × VS)) (k26 : ((VS) × (Int32) × (Int32) × (Int32) × (Int32)) → Option (Int32 × VS)) (k60 : ((VS) × (Int32) × (Int32) × (Int32) × (Int32) × (Int32)) → Option (Int32 × VS)) : ((VS) × (Int32) × (Int32) × (Int32) × (Int32) × (Int32)) → Option (Int32 × VS) := fun x => match x with | (Y, x_1, x_2, x_3, x_4, x_5) => if 6 ≤ x_5 then cl (fX2_wholeOnes (Y 1)) (fun r2 => if x_1 < r2 then bn (((10 : Int32) * x_3) + x_4) (fun x4 => cl (fX2_wholeOnes (Y 1)) (fun r5 => fX2_tell_160 k13 k26 (Y, r5, x4, x_3, x_4))) else fX2_tell_160 k13 k26 (Y, x_1, x_2, x_3, x_4)) else cl (fX2_ofP x_3 ((2 : Int32) + x_5)) (fun r6 => rd 81 (Y 1) r6 (fun r7 => cl (fX2_ofP x_4 ((2 : Int32) + x_5)) (fun r8 => rd 81 (Y 1) r8 (fun r9 => if r7 ≤ r9 then fX2_tell_124 k13 k26 k60 (Y, x_1, x_2, x_3, x_4, x_5) else cl (fX2_ofP x_4 ((2 : Int32) + x_5)) (fun r11 => cl (fX2_ofP x_3 ((2 : Int32) + x_5)) (fun r12 => rd 81 (Y 1) r12 (fun r13 => ck 81 r11 (bn (up Y 1 (upd (Y 1) (r11 : Int32).toNatClampNeg r13)) (fun w14 => fX2_tell_124 k13 k26 k60 (w14, x_1, x_2, x_3, x_4, x_5))))))))))
def fX2_tell_26 (k13 : ((VS) × (Int32) × (Int32) × (Int32)) → Option (Int32 × VS)) (k26 : ((VS) × (Int32) × (Int32) × (Int32) × (Int32)) → Option (Int32 × VS)) : ((VS) × (Int32) × (Int32) × (Int32) × (Int32)) → Option (Int32 × VS) := fun x => match x with | (Y, x_1, x_2, x_3, x_4) => rd 81 (Y 0) 1 (fun r1 => if r1 ≤ x_4 then bn (x_3 + 1) (fun x3 => k13 (Y, x_1, x_2, x3)) else if x_3 = x_4 then fX2_tell_160 k13 k26 (Y, x_1, x_2, x_3, x_4) else cl (fX2_copies (Y 0) (Y 1)) (fun w5 => bn (up Y 1 w5) (fun w6 => lp (fX2_tell_60 k13 k26) 5000 (w6, x_1, x_2, x_3, x_4, 0))))
def fX2_tell_13 (k13 : ((VS) × (Int32) × (Int32) × (Int32)) → Option (Int32 × VS)) : ((VS) × (Int32) × (Int32) × (Int32)) → Option (Int32 × VS) := fun x => match x with | (Y, x_1, x_2, x_3) => rd 81 (Y 0) 1 (fun r1 => if r1 ≤ x_3 then some (x_2, Y) else lp (fX2_tell_26 k13) 5000 (Y, x_1, x_2, x_3, 0))
def fX2_tell (Y : VS) : Option (Int32 × VS) := cl (fX2_wholeOnes (Y 0)) (fun r1 => lp (fX2_tell_13) 5000 (Y, r1, (-9), 0))
set_option maxHeartbeats 4000000 in
set_option maxRecDepth 100000 in
theorem kX2_tell_160 (C : Cx p s m args meth c cX2_tell 6 RX2 D cA g A) (hr : meth.sig.returnType = (some .int)) {z : (Int32 × VS)} (k13 : ((VS) × (Int32) × (Int32) × (Int32)) → Option (Int32 × VS)) (hk13 : ∀ x, k13 x = some z → GX2_tell_13 p l e s m args below meth c D cA A ad z x) (k26 : ((VS) × (Int32) × (Int32) × (Int32) × (Int32)) → Option (Int32 × VS)) (hk26 : ∀ x, k26 x = some z → GX2_tell_26 p l e s m args below meth c D cA A ad z x) (x : (VS) × (Int32) × (Int32) × (Int32) × (Int32)) (h : fX2_tell_160 k13 k26 x = some z) : GX2_tell_160 p l e s m args below meth c D cA A ad z x := by
  obtain ⟨Y, x_1, x_2, x_3, x_4⟩ := x
  intro H locs ls hw hl
  have hw : Wd D A s.heap (wM cA ad Y) H locs := hw
  have hl : lv_has ls 6 [(0, .ref (ad 0)), (1, .int x_1), (2, .int x_2), (3, .int x_3), (4, .int x_4)] := hl
  have hx := C.1.1
  have hb := C.1.2.1
  have h : (bn (x_4 + 1) (fun x1 => k26 (Y, x_1, x_2, x_3, x1))) = some z := h
  obtain ⟨x1, ex1⟩ : ∃ y : Int32, y = x_4 + 1 := ⟨_, rfl⟩
  replace h := bn_some h ex1
  refine lv_iinc (v := x1) (lv' := [(4, .int x1), (0, .ref (ad 0)), (1, .int x_1), (2, .int x_2), (3, .int x_3)]) hx hb dX2_tell_160 hl (k := 4) rfl (by rw [ex1]; rfl) (by decide) rfl (fun ls hl => ?_)
  refine lv_goto (tgt := 26) hx hb dX2_tell_163 (by decide) ?_
  exact hk26 (Y, x_1, x_2, x_3, x1) h _ _ _ hw (lv_sub hl [1, 2, 3, 4, 0] rfl)
set_option maxHeartbeats 4000000 in
set_option maxRecDepth 100000 in
theorem kX2_tell_124 (C : Cx p s m args meth c cX2_tell 6 RX2 D cA g A) (hr : meth.sig.returnType = (some .int)) {z : (Int32 × VS)} (k13 : ((VS) × (Int32) × (Int32) × (Int32)) → Option (Int32 × VS)) (hk13 : ∀ x, k13 x = some z → GX2_tell_13 p l e s m args below meth c D cA A ad z x) (k26 : ((VS) × (Int32) × (Int32) × (Int32) × (Int32)) → Option (Int32 × VS)) (hk26 : ∀ x, k26 x = some z → GX2_tell_26 p l e s m args below meth c D cA A ad z x) (k60 : ((VS) × (Int32) × (Int32) × (Int32) × (Int32) × (Int32)) → Option (Int32 × VS)) (hk60 : ∀ x, k60 x = some z → GX2_tell_60 p l e s m args below meth c D cA A ad z x) (x : (VS) × (Int32) × (Int32) × (Int32) × (Int32) × (Int32)) (h : fX2_tell_124 k13 k26 k60 x = some z) : GX2_tell_124 p l e s m args below meth c D cA A ad z x := by
  obtain ⟨Y, x_1, x_2, x_3, x_4, x_5⟩ := x
  intro H locs ls hw hl
  have hw : Wd D A s.heap (wM cA ad Y) H locs := hw
  have hl : lv_has ls 6 [(0, .ref (ad 0)), (1, .int x_1), (2, .int x_2), (3, .int x_3), (4, .int x_4), (5, .int x_5)] := hl
  have hx := C.1.1
  have hb := C.1.2.1
  have h : (bn (x_5 + 1) (fun x1 => k60 (Y, x_1, x_2, x_3, x_4, x1))) = some z := h
  obtain ⟨x1, ex1⟩ : ∃ y : Int32, y = x_5 + 1 := ⟨_, rfl⟩
  replace h := bn_some h ex1
  refine lv_iinc (v := x1) (lv' := [(5, .int x1), (0, .ref (ad 0)), (1, .int x_1), (2, .int x_2), (3, .int x_3), (4, .int x_4)]) hx hb dX2_tell_124 hl (k := 5) rfl (by rw [ex1]; rfl) (by decide) rfl (fun ls hl => ?_)
  refine lv_goto (tgt := 60) hx hb dX2_tell_127 (by decide) ?_
  exact hk60 (Y, x_1, x_2, x_3, x_4, x1) h _ _ _ hw (lv_sub hl [1, 2, 3, 4, 5, 0] rfl)
set_option maxHeartbeats 4000000 in
set_option maxRecDepth 100000 in
theorem kX2_tell_60 (C : Cx p s m args meth c cX2_tell 6 RX2 D cA g A) (hr : meth.sig.returnType = (some .int)) {z : (Int32 × VS)} (k13 : ((VS) × (Int32) × (Int32) × (Int32)) → Option (Int32 × VS)) (hk13 : ∀ x, k13 x = some z → GX2_tell_13 p l e s m args below meth c D cA A ad z x) (k26 : ((VS) × (Int32) × (Int32) × (Int32) × (Int32)) → Option (Int32 × VS)) (hk26 : ∀ x, k26 x = some z → GX2_tell_26 p l e s m args below meth c D cA A ad z x) (k60 : ((VS) × (Int32) × (Int32) × (Int32) × (Int32) × (Int32)) → Option (Int32 × VS)) (hk60 : ∀ x, k60 x = some z → GX2_tell_60 p l e s m args below meth c D cA A ad z x) (x : (VS) × (Int32) × (Int32) × (Int32) × (Int32) × (Int32)) (h : fX2_tell_60 k13 k26 k60 x = some z) : GX2_tell_60 p l e s m args below meth c D cA A ad z x := by
  obtain ⟨Y, x_1, x_2, x_3, x_4, x_5⟩ := x
  intro H locs ls hw hl
  have hw : Wd D A s.heap (wM cA ad Y) H locs := hw
  have hl : lv_has ls 6 [(0, .ref (ad 0)), (1, .int x_1), (2, .int x_2), (3, .int x_3), (4, .int x_4), (5, .int x_5)] := hl
  have hx := C.1.1
  have hb := C.1.2.1
  have h : (if 6 ≤ x_5 then cl (fX2_wholeOnes (Y 1)) (fun r2 => if x_1 < r2 then bn (((10 : Int32) * x_3) + x_4) (fun x4 => cl (fX2_wholeOnes (Y 1)) (fun r5 => fX2_tell_160 k13 k26 (Y, r5, x4, x_3, x_4))) else fX2_tell_160 k13 k26 (Y, x_1, x_2, x_3, x_4)) else cl (fX2_ofP x_3 ((2 : Int32) + x_5)) (fun r6 => rd 81 (Y 1) r6 (fun r7 => cl (fX2_ofP x_4 ((2 : Int32) + x_5)) (fun r8 => rd 81 (Y 1) r8 (fun r9 => if r7 ≤ r9 then fX2_tell_124 k13 k26 k60 (Y, x_1, x_2, x_3, x_4, x_5) else cl (fX2_ofP x_4 ((2 : Int32) + x_5)) (fun r11 => cl (fX2_ofP x_3 ((2 : Int32) + x_5)) (fun r12 => rd 81 (Y 1) r12 (fun r13 => ck 81 r11 (bn (up Y 1 (upd (Y 1) (r11 : Int32).toNatClampNeg r13)) (fun w14 => fX2_tell_124 k13 k26 k60 (w14, x_1, x_2, x_3, x_4, x_5))))))))))) = some z := h
  refine lv_iload hx hb dX2_tell_60 (lv_at hl 5 rfl) ?_
  refine lv_bipush (v := 6) hx hb dX2_tell_62 (by decide) ?_
  refine lv_icmp_ge (tgt := 130) hx hb dX2_tell_64 (by decide) (fun c1 => ?_) (fun c1 => ?_)
  · replace h := (if_pos c1).symm.trans h
    refine lv_aload_n hx hb dX2_tell_130 rfl (lv_at hl 0 rfl) ?_
    refine tGet (T := TX2) (N := 13) (ci := 2) C hw inX2 1 0 rfl (by decide) kf_RX2_13 rfl rfl rfl dX2_tell_131 ?_
    obtain ⟨r2, hr2, h⟩ := cl_some h
    refine cSi (ws2 := (wM cA ad Y)) (As := [.ref (ad 2)]) (rest := []) C hw jM1r (kX2_wholeOnes (ad 2) hr2) kl_RX2_180 kt_yX2_wholeOnes kn_RX2 kc_yX2_wholeOnes ⟨rfl, rfl⟩ hdX2_wholeOnes ⟨Nat.le_of_ble_eq_true rfl, Nat.le_of_ble_eq_true rfl⟩ rfl hl.1 (Nat.le_of_ble_eq_true rfl) dX2_tell_134 ⟨Nat.zero_le _, Nat.zero_le _⟩ (fun H locs hw => ?_)
    refine lv_iload_n hx hb dX2_tell_137 rfl (lv_at hl 1 rfl) ?_
    refine lv_icmp_gt (tgt := 144) hx hb dX2_tell_138 (by decide) (fun c3 => ?_) (fun c3 => ?_)
    · replace h := (if_pos c3).symm.trans h
      refine lv_bipush (v := 10) hx hb dX2_tell_144 (by decide) ?_
      refine lv_iload_n hx hb dX2_tell_146 rfl (lv_at hl 3 rfl) ?_
      refine lv_imul hx hb dX2_tell_147 ?_
      refine lv_iload hx hb dX2_tell_148 (lv_at hl 4 rfl) ?_
      refine lv_iadd hx hb dX2_tell_150 ?_
      refine lv_topi (fun x4 ex4 => ?_)
      replace h := bn_some h ex4
      refine lv_istore_n (lv' := [(2, .int x4), (0, .ref (ad 0)), (1, .int x_1), (3, .int x_3), (4, .int x_4), (5, .int x_5)]) hx hb dX2_tell_151 rfl hl (by decide) rfl (fun ls hl => ?_)
      refine lv_aload_n hx hb dX2_tell_152 rfl (lv_at hl 1 rfl) ?_
      refine tGet (T := TX2) (N := 13) (ci := 2) C hw inX2 1 0 rfl (by decide) kf_RX2_13 rfl rfl rfl dX2_tell_153 ?_
      obtain ⟨r5, hr5, h⟩ := cl_some h
      refine cSi (ws2 := (wM cA ad Y)) (As := [.ref (ad 2)]) (rest := []) C hw jM1r (kX2_wholeOnes (ad 2) hr5) kl_RX2_180 kt_yX2_wholeOnes kn_RX2 kc_yX2_wholeOnes ⟨rfl, rfl⟩ hdX2_wholeOnes ⟨Nat.le_of_ble_eq_true rfl, Nat.le_of_ble_eq_true rfl⟩ rfl hl.1 (Nat.le_of_ble_eq_true rfl) dX2_tell_156 ⟨Nat.zero_le _, Nat.zero_le _⟩ (fun H locs hw => ?_)
      refine lv_istore_n (lv' := [(1, .int r5), (2, .int x4), (0, .ref (ad 0)), (3, .int x_3), (4, .int x_4), (5, .int x_5)]) hx hb dX2_tell_159 rfl hl (by decide) rfl (fun ls hl => ?_)
      exact kX2_tell_160 C hr k13 hk13 k26 hk26 (Y, r5, x4, x_3, x_4) h _ _ _ hw (lv_sub hl [2, 0, 1, 3, 4] rfl)
    · replace h := (if_neg c3).symm.trans h
      refine lv_goto (tgt := 160) hx hb dX2_tell_141 (by decide) ?_
      exact kX2_tell_160 C hr k13 hk13 k26 hk26 (Y, x_1, x_2, x_3, x_4) h _ _ _ hw (lv_sub hl [0, 1, 2, 3, 4] rfl)
  · replace h := (if_neg c1).symm.trans h
    refine lv_aload_n hx hb dX2_tell_67 rfl (lv_at hl 0 rfl) ?_
    refine tGet (T := TX2) (N := 13) (ci := 2) C hw inX2 1 0 rfl (by decide) kf_RX2_13 rfl rfl rfl dX2_tell_68 ?_
    refine lv_iload_n hx hb dX2_tell_71 rfl (lv_at hl 3 rfl) ?_
    refine lv_iconst (v := 2) hx hb dX2_tell_72 (by decide) ?_
    refine lv_iload hx hb dX2_tell_73 (lv_at hl 5 rfl) ?_
    refine lv_iadd hx hb dX2_tell_75 ?_
    obtain ⟨r6, hr6, h⟩ := cl_some h
    refine cSi (ws2 := (wM cA ad Y)) (As := [.int x_3, .int ((2 : Int32) + x_5)]) (rest := [.ref (ad 2)]) C hw jnE (kX2_ofP hr6) kl_RX2_48 kt_yX2_ofP kn_RX2 kc_yX2_ofP ⟨rfl, rfl⟩ hdX2_ofP ⟨Nat.le_of_ble_eq_true rfl, Nat.le_of_ble_eq_true rfl⟩ rfl hl.1 (Nat.le_of_ble_eq_true rfl) dX2_tell_76 ⟨Nat.zero_le _, Nat.zero_le _⟩ (fun H locs hw => ?_)
    obtain ⟨r7, ir7, er7, h⟩ := rd_some h
    refine tLd C hw 2 rfl ir7 er7 dX2_tell_79 ?_
    refine lv_aload_n hx hb dX2_tell_80 rfl (lv_at hl 0 rfl) ?_
    refine tGet (T := TX2) (N := 13) (ci := 2) C hw inX2 1 0 rfl (by decide) kf_RX2_13 rfl rfl rfl dX2_tell_81 ?_
    refine lv_iload hx hb dX2_tell_84 (lv_at hl 4 rfl) ?_
    refine lv_iconst (v := 2) hx hb dX2_tell_86 (by decide) ?_
    refine lv_iload hx hb dX2_tell_87 (lv_at hl 5 rfl) ?_
    refine lv_iadd hx hb dX2_tell_89 ?_
    obtain ⟨r8, hr8, h⟩ := cl_some h
    refine cSi (ws2 := (wM cA ad Y)) (As := [.int x_4, .int ((2 : Int32) + x_5)]) (rest := [.ref (ad 2), .int r7]) C hw jnE (kX2_ofP hr8) kl_RX2_48 kt_yX2_ofP kn_RX2 kc_yX2_ofP ⟨rfl, rfl⟩ hdX2_ofP ⟨Nat.le_of_ble_eq_true rfl, Nat.le_of_ble_eq_true rfl⟩ rfl hl.1 (Nat.le_of_ble_eq_true rfl) dX2_tell_90 ⟨Nat.zero_le _, Nat.zero_le _⟩ (fun H locs hw => ?_)
    obtain ⟨r9, ir9, er9, h⟩ := rd_some h
    refine tLd C hw 2 rfl ir9 er9 dX2_tell_93 ?_
    refine lv_icmp_le (tgt := 124) hx hb dX2_tell_94 (by decide) (fun c10 => ?_) (fun c10 => ?_)
    · replace h := (if_pos c10).symm.trans h
      exact kX2_tell_124 C hr k13 hk13 k26 hk26 k60 hk60 (Y, x_1, x_2, x_3, x_4, x_5) h _ _ _ hw (lv_sub hl [0, 1, 2, 3, 4, 5] rfl)
    · replace h := (if_neg c10).symm.trans h
      refine lv_aload_n hx hb dX2_tell_97 rfl (lv_at hl 0 rfl) ?_
      refine tGet (T := TX2) (N := 13) (ci := 2) C hw inX2 1 0 rfl (by decide) kf_RX2_13 rfl rfl rfl dX2_tell_98 ?_
      refine lv_iload hx hb dX2_tell_101 (lv_at hl 4 rfl) ?_
      refine lv_iconst (v := 2) hx hb dX2_tell_103 (by decide) ?_
      refine lv_iload hx hb dX2_tell_104 (lv_at hl 5 rfl) ?_
      refine lv_iadd hx hb dX2_tell_106 ?_
      obtain ⟨r11, hr11, h⟩ := cl_some h
      refine cSi (ws2 := (wM cA ad Y)) (As := [.int x_4, .int ((2 : Int32) + x_5)]) (rest := [.ref (ad 2)]) C hw jnE (kX2_ofP hr11) kl_RX2_48 kt_yX2_ofP kn_RX2 kc_yX2_ofP ⟨rfl, rfl⟩ hdX2_ofP ⟨Nat.le_of_ble_eq_true rfl, Nat.le_of_ble_eq_true rfl⟩ rfl hl.1 (Nat.le_of_ble_eq_true rfl) dX2_tell_107 ⟨Nat.zero_le _, Nat.zero_le _⟩ (fun H locs hw => ?_)
      refine lv_aload_n hx hb dX2_tell_110 rfl (lv_at hl 0 rfl) ?_
      refine tGet (T := TX2) (N := 13) (ci := 2) C hw inX2 1 0 rfl (by decide) kf_RX2_13 rfl rfl rfl dX2_tell_111 ?_
      refine lv_iload_n hx hb dX2_tell_114 rfl (lv_at hl 3 rfl) ?_
      refine lv_iconst (v := 2) hx hb dX2_tell_115 (by decide) ?_
      refine lv_iload hx hb dX2_tell_116 (lv_at hl 5 rfl) ?_
      refine lv_iadd hx hb dX2_tell_118 ?_
      obtain ⟨r12, hr12, h⟩ := cl_some h
      refine cSi (ws2 := (wM cA ad Y)) (As := [.int x_3, .int ((2 : Int32) + x_5)]) (rest := [.ref (ad 2), .int r11, .ref (ad 2)]) C hw jnE (kX2_ofP hr12) kl_RX2_48 kt_yX2_ofP kn_RX2 kc_yX2_ofP ⟨rfl, rfl⟩ hdX2_ofP ⟨Nat.le_of_ble_eq_true rfl, Nat.le_of_ble_eq_true rfl⟩ rfl hl.1 (Nat.le_of_ble_eq_true rfl) dX2_tell_119 ⟨Nat.zero_le _, Nat.zero_le _⟩ (fun H locs hw => ?_)
      obtain ⟨r13, ir13, er13, h⟩ := rd_some h
      refine tLd C hw 2 rfl ir13 er13 dX2_tell_122 ?_
      obtain ⟨iw14, h⟩ := ck_some h
      obtain ⟨w14, ew14⟩ : ∃ y : VS, y = up Y 1 (upd (Y 1) (r11 : Int32).toNatClampNeg r13) := ⟨_, rfl⟩
      replace h := bn_some h ew14
      refine tSt (ws2 := (wM cA ad w14)) C hw 2 rfl iw14 (by rw [ew14]; rfl) dX2_tell_123 (fun H locs hw => ?_)
      exact kX2_tell_124 C hr k13 hk13 k26 hk26 k60 hk60 (w14, x_1, x_2, x_3, x_4, x_5) h _ _ _ hw (lv_sub hl [0, 1, 2, 3, 4, 5] rfl)
theorem lX2_tell_60 (C : Cx p s m args meth c cX2_tell 6 RX2 D cA g A) (hr : meth.sig.returnType = (some .int)) {z : (Int32 × VS)} (k13 : ((VS) × (Int32) × (Int32) × (Int32)) → Option (Int32 × VS)) (hk13 : ∀ x, k13 x = some z → GX2_tell_13 p l e s m args below meth c D cA A ad z x) (k26 : ((VS) × (Int32) × (Int32) × (Int32) × (Int32)) → Option (Int32 × VS)) (hk26 : ∀ x, k26 x = some z → GX2_tell_26 p l e s m args below meth c D cA A ad z x) (n : Nat) (x : (VS) × (Int32) × (Int32) × (Int32) × (Int32) × (Int32)) (h : lp (fX2_tell_60 k13 k26) n x = some z) : GX2_tell_60 p l e s m args below meth c D cA A ad z x := lp_ok (GX2_tell_60 p l e s m args below meth c D cA A ad z) (fun kq hkq x h => kX2_tell_60 C hr k13 hk13 k26 hk26 kq hkq x h) n x h
set_option maxHeartbeats 4000000 in
set_option maxRecDepth 100000 in
theorem kX2_tell_26 (C : Cx p s m args meth c cX2_tell 6 RX2 D cA g A) (hr : meth.sig.returnType = (some .int)) {z : (Int32 × VS)} (k13 : ((VS) × (Int32) × (Int32) × (Int32)) → Option (Int32 × VS)) (hk13 : ∀ x, k13 x = some z → GX2_tell_13 p l e s m args below meth c D cA A ad z x) (k26 : ((VS) × (Int32) × (Int32) × (Int32) × (Int32)) → Option (Int32 × VS)) (hk26 : ∀ x, k26 x = some z → GX2_tell_26 p l e s m args below meth c D cA A ad z x) (x : (VS) × (Int32) × (Int32) × (Int32) × (Int32)) (h : fX2_tell_26 k13 k26 x = some z) : GX2_tell_26 p l e s m args below meth c D cA A ad z x := by
  obtain ⟨Y, x_1, x_2, x_3, x_4⟩ := x
  intro H locs ls hw hl
  have hw : Wd D A s.heap (wM cA ad Y) H locs := hw
  have hl : lv_has ls 6 [(0, .ref (ad 0)), (1, .int x_1), (2, .int x_2), (3, .int x_3), (4, .int x_4)] := hl
  have hx := C.1.1
  have hb := C.1.2.1
  have h : (rd 81 (Y 0) 1 (fun r1 => if r1 ≤ x_4 then bn (x_3 + 1) (fun x3 => k13 (Y, x_1, x_2, x3)) else if x_3 = x_4 then fX2_tell_160 k13 k26 (Y, x_1, x_2, x_3, x_4) else cl (fX2_copies (Y 0) (Y 1)) (fun w5 => bn (up Y 1 w5) (fun w6 => lp (fX2_tell_60 k13 k26) 5000 (w6, x_1, x_2, x_3, x_4, 0))))) = some z := h
  refine lv_iload hx hb dX2_tell_26 (lv_at hl 4 rfl) ?_
  refine lv_aload_n hx hb dX2_tell_28 rfl (lv_at hl 0 rfl) ?_
  refine tGet (T := TX2) (N := 13) (ci := 2) C hw inX2 0 0 rfl (by decide) kf_RX2_9 rfl rfl rfl dX2_tell_29 ?_
  refine lv_iconst (v := 1) hx hb dX2_tell_32 (by decide) ?_
  obtain ⟨r1, ir1, er1, h⟩ := rd_some h
  refine tLd C hw 1 rfl ir1 er1 dX2_tell_33 ?_
  refine lv_icmp_ge (tgt := 166) hx hb dX2_tell_34 (by decide) (fun c2 => ?_) (fun c2 => ?_)
  · replace h := (if_pos c2).symm.trans h
    obtain ⟨x3, ex3⟩ : ∃ y : Int32, y = x_3 + 1 := ⟨_, rfl⟩
    replace h := bn_some h ex3
    refine lv_iinc (v := x3) (lv' := [(3, .int x3), (0, .ref (ad 0)), (1, .int x_1), (2, .int x_2), (4, .int x_4)]) hx hb dX2_tell_166 hl (k := 3) rfl (by rw [ex3]; rfl) (by decide) rfl (fun ls hl => ?_)
    refine lv_goto (tgt := 13) hx hb dX2_tell_169 (by decide) ?_
    exact hk13 (Y, x_1, x_2, x3) h _ _ _ hw (lv_sub hl [1, 2, 3, 0] rfl)
  · replace h := (if_neg c2).symm.trans h
    refine lv_iload_n hx hb dX2_tell_37 rfl (lv_at hl 3 rfl) ?_
    refine lv_iload hx hb dX2_tell_38 (lv_at hl 4 rfl) ?_
    refine lv_icmp_ne (tgt := 46) hx hb dX2_tell_40 (by decide) (fun c4 => ?_) (fun c4 => ?_)
    · replace h := (if_neg c4).symm.trans h
      refine lv_aload_n hx hb dX2_tell_46 rfl (lv_at hl 0 rfl) ?_
      refine tGet (T := TX2) (N := 13) (ci := 2) C hw inX2 0 0 rfl (by decide) kf_RX2_9 rfl rfl rfl dX2_tell_47 ?_
      refine lv_aload_n hx hb dX2_tell_50 rfl (lv_at hl 0 rfl) ?_
      refine tGet (T := TX2) (N := 13) (ci := 2) C hw inX2 1 0 rfl (by decide) kf_RX2_13 rfl rfl rfl dX2_tell_51 ?_
      obtain ⟨w5, hw5, h⟩ := cl_some h
      obtain ⟨w6, ew6⟩ : ∃ y : VS, y = up Y 1 w5 := ⟨_, rfl⟩
      replace h := bn_some h ew6
      refine cSv (ws2 := (wM cA ad w6)) (As := [.ref (ad 1), .ref (ad 2)]) (rest := []) C hw (by rw [ew6]; exact jMM01) (kX2_copies (ad 1) (ad 2) hw5) kl_RX2_134 kt_yX2_copies kn_RX2 kc_yX2_copies ⟨rfl, rfl⟩ hdX2_copies ⟨Nat.le_of_ble_eq_true rfl, Nat.le_of_ble_eq_true rfl⟩ rfl hl.1 (Nat.le_of_ble_eq_true rfl) dX2_tell_54 ⟨Nat.zero_le _, Nat.zero_le _⟩ (fun H locs hw => ?_)
      refine lv_iconst (v := 0) hx hb dX2_tell_57 (by decide) ?_
      refine lv_istore (lv' := [(5, .int 0), (0, .ref (ad 0)), (1, .int x_1), (2, .int x_2), (3, .int x_3), (4, .int x_4)]) hx hb dX2_tell_58 hl (by decide) rfl (fun ls hl => ?_)
      exact lX2_tell_60 C hr k13 hk13 k26 hk26 5000 (w6, x_1, x_2, x_3, x_4, 0) h _ _ _ hw (lv_sub hl [1, 2, 3, 4, 5, 0] rfl)
    · replace h := (if_pos c4).symm.trans h
      refine lv_goto (tgt := 160) hx hb dX2_tell_43 (by decide) ?_
      exact kX2_tell_160 C hr k13 hk13 k26 hk26 (Y, x_1, x_2, x_3, x_4) h _ _ _ hw (lv_sub hl [0, 1, 2, 3, 4] rfl)
theorem lX2_tell_26 (C : Cx p s m args meth c cX2_tell 6 RX2 D cA g A) (hr : meth.sig.returnType = (some .int)) {z : (Int32 × VS)} (k13 : ((VS) × (Int32) × (Int32) × (Int32)) → Option (Int32 × VS)) (hk13 : ∀ x, k13 x = some z → GX2_tell_13 p l e s m args below meth c D cA A ad z x) (n : Nat) (x : (VS) × (Int32) × (Int32) × (Int32) × (Int32)) (h : lp (fX2_tell_26 k13) n x = some z) : GX2_tell_26 p l e s m args below meth c D cA A ad z x := lp_ok (GX2_tell_26 p l e s m args below meth c D cA A ad z) (fun kq hkq x h => kX2_tell_26 C hr k13 hk13 kq hkq x h) n x h
set_option maxHeartbeats 4000000 in
set_option maxRecDepth 100000 in
theorem kX2_tell_13 (C : Cx p s m args meth c cX2_tell 6 RX2 D cA g A) (hr : meth.sig.returnType = (some .int)) {z : (Int32 × VS)} (k13 : ((VS) × (Int32) × (Int32) × (Int32)) → Option (Int32 × VS)) (hk13 : ∀ x, k13 x = some z → GX2_tell_13 p l e s m args below meth c D cA A ad z x) (x : (VS) × (Int32) × (Int32) × (Int32)) (h : fX2_tell_13 k13 x = some z) : GX2_tell_13 p l e s m args below meth c D cA A ad z x := by
  obtain ⟨Y, x_1, x_2, x_3⟩ := x
  intro H locs ls hw hl
  have hw : Wd D A s.heap (wM cA ad Y) H locs := hw
  have hl : lv_has ls 6 [(0, .ref (ad 0)), (1, .int x_1), (2, .int x_2), (3, .int x_3)] := hl
  have hx := C.1.1
  have hb := C.1.2.1
  have h : (rd 81 (Y 0) 1 (fun r1 => if r1 ≤ x_3 then some (x_2, Y) else lp (fX2_tell_26 k13) 5000 (Y, x_1, x_2, x_3, 0))) = some z := h
  refine lv_iload_n hx hb dX2_tell_13 rfl (lv_at hl 3 rfl) ?_
  refine lv_aload_n hx hb dX2_tell_14 rfl (lv_at hl 0 rfl) ?_
  refine tGet (T := TX2) (N := 13) (ci := 2) C hw inX2 0 0 rfl (by decide) kf_RX2_9 rfl rfl rfl dX2_tell_15 ?_
  refine lv_iconst (v := 1) hx hb dX2_tell_18 (by decide) ?_
  obtain ⟨r1, ir1, er1, h⟩ := rd_some h
  refine tLd C hw 1 rfl ir1 er1 dX2_tell_19 ?_
  refine lv_icmp_ge (tgt := 172) hx hb dX2_tell_20 (by decide) (fun c2 => ?_) (fun c2 => ?_)
  · replace h := (if_pos c2).symm.trans h
    refine lv_iload_n hx hb dX2_tell_172 rfl (lv_at hl 2 rfl) ?_
    obtain rfl := some_e h
    exact rtI C hr hw dX2_tell_173
  · replace h := (if_neg c2).symm.trans h
    refine lv_iconst (v := 0) hx hb dX2_tell_23 (by decide) ?_
    refine lv_istore (lv' := [(4, .int 0), (0, .ref (ad 0)), (1, .int x_1), (2, .int x_2), (3, .int x_3)]) hx hb dX2_tell_24 hl (by decide) rfl (fun ls hl => ?_)
    exact lX2_tell_26 C hr k13 hk13 5000 (Y, x_1, x_2, x_3, 0) h _ _ _ hw (lv_sub hl [1, 2, 3, 4, 0] rfl)
theorem lX2_tell_13 (C : Cx p s m args meth c cX2_tell 6 RX2 D cA g A) (hr : meth.sig.returnType = (some .int)) {z : (Int32 × VS)} (n : Nat) (x : (VS) × (Int32) × (Int32) × (Int32)) (h : lp (fX2_tell_13) n x = some z) : GX2_tell_13 p l e s m args below meth c D cA A ad z x := lp_ok (GX2_tell_13 p l e s m args below meth c D cA A ad z) (fun kq hkq x h => kX2_tell_13 C hr kq hkq x h) n x h
set_option maxHeartbeats 4000000 in
set_option maxRecDepth 100000 in
theorem kX2_tell (ad : Nat → Nat) {Y : VS} {z : (Int32 × VS)} (h : fX2_tell Y = some z) : MI l D cA g yX2_tell (Cond.code yX2_tell cX2_tell 6 (some .int) :: lw_g) rmX2_tell [.ref (ad 0)] (wM cA ad Y) z.1 (wM cA ad z.2) := by
  intro sz
  refine Met.ofW (cc := cX2_tell) (maxL := 6) (ret := (some .int)) (by decide) rfl ?_
  intro p e s m args below meth c s₁ B hml hv
  obtain ⟨rfl, C, hr, hw⟩ := ent B hml hv
  generalize va_A (wM cA ad Y) sz = A at C hw ⊢
  have hl := lv_entry ([.ref (ad 0)]) (n := 6) (Nat.le_of_ble_eq_true rfl)
  rw [lg_entry_eq]
  generalize (lg_sl ([.ref (ad 0)]) ++ List.replicate (6 - (lg_sl ([.ref (ad 0)])).length) Slot.unset).toArray = ls at hl ⊢
  have hl : lv_has ls 6 [(0, .ref (ad 0))] := hl
  have hx := C.1.1
  have hb := C.1.2.1
  have h : (cl (fX2_wholeOnes (Y 0)) (fun r1 => lp (fX2_tell_13) 5000 (Y, r1, (-9), 0))) = some z := h
  refine lv_aload_n hx hb dX2_tell_0 rfl (lv_at hl 0 rfl) ?_
  refine tGet (T := TX2) (N := 13) (ci := 2) C hw inX2 0 0 rfl (by decide) kf_RX2_9 rfl rfl rfl dX2_tell_1 ?_
  obtain ⟨r1, hr1, h⟩ := cl_some h
  refine cSi (ws2 := (wM cA ad Y)) (As := [.ref (ad 1)]) (rest := []) C hw jM0r (kX2_wholeOnes (ad 1) hr1) kl_RX2_180 kt_yX2_wholeOnes kn_RX2 kc_yX2_wholeOnes ⟨rfl, rfl⟩ hdX2_wholeOnes ⟨Nat.le_of_ble_eq_true rfl, Nat.le_of_ble_eq_true rfl⟩ rfl hl.1 (Nat.le_of_ble_eq_true rfl) dX2_tell_4 ⟨Nat.zero_le _, Nat.zero_le _⟩ (fun H locs hw => ?_)
  refine lv_istore_n (lv' := [(1, .int r1), (0, .ref (ad 0))]) hx hb dX2_tell_7 rfl hl (by decide) rfl (fun ls hl => ?_)
  refine lv_bipush (v := (-9)) hx hb dX2_tell_8 (by decide) ?_
  refine lv_istore_n (lv' := [(2, .int (-9)), (1, .int r1), (0, .ref (ad 0))]) hx hb dX2_tell_10 rfl hl (by decide) rfl (fun ls hl => ?_)
  refine lv_iconst (v := 0) hx hb dX2_tell_11 (by decide) ?_
  refine lv_istore_n (lv' := [(3, .int 0), (2, .int (-9)), (1, .int r1), (0, .ref (ad 0))]) hx hb dX2_tell_12 rfl hl (by decide) rfl (fun ls hl => ?_)
  exact lX2_tell_13 C hr 5000 (Y, r1, (-9), 0) h _ _ _ hw (lv_sub hl [3, 2, 1, 0] rfl)
abbrev rmX2_hasBy : Room := { frames := 7, cells := 0, slots := 0, locals := 160 }
theorem hdX2_hasBy : yX2_hasBy.cls = RX2 ∧ yX2_hasBy.cls ≠ "java/lang/invoke/MethodHandle" ∧ yX2_hasBy.cls ≠ "java/lang/invoke/VarHandle" ∧ (parseMethodDescriptor yX2_hasBy.desc).map (fun d => d.parameters.length) = some 5 := by decide +kernel
def GX2_hasBy_52 (p : Program) (l : Launch) (e : Env) (s : State) (m : MethodId) (args : Array Value) (below : List Frame) (meth : Method) (c : Code) (D : va_G) (cA : ClassId) (A : Nat → Prop) (ad : Nat → Nat) (z : (Int32 × VS)) (x : (VS) × (Int32) × (Int32) × (Int32)) : Prop := ∀ (H : Heap) (locs : List Loc) (ls : Array Slot), Wd D A s.heap (wM cA ad x.1) H locs → lv_has ls 7 [(0, .ref (ad 0)), (1, .int x.2.1), (4, .int x.2.2.1)] → W p l e rmX2_hasBy s m args below meth c H locs 0 0 (MQ below (QI D cA A z.1 (wM cA ad z.2)) args s 0 0 A) (F0 m 52 ls [.int x.2.2.2])
def GX2_hasBy_51 (p : Program) (l : Launch) (e : Env) (s : State) (m : MethodId) (args : Array Value) (below : List Frame) (meth : Method) (c : Code) (D : va_G) (cA : ClassId) (A : Nat → Prop) (ad : Nat → Nat) (z : (Int32 × VS)) (x : (VS) × (Int32) × (Int32)) : Prop := ∀ (H : Heap) (locs : List Loc) (ls : Array Slot), Wd D A s.heap (wM cA ad x.1) H locs → lv_has ls 7 [(0, .ref (ad 0)), (1, .int x.2.1), (4, .int x.2.2)] → W p l e rmX2_hasBy s m args below meth c H locs 0 0 (MQ below (QI D cA A z.1 (wM cA ad z.2)) args s 0 0 A) (F0 m 51 ls [])
def fX2_hasBy_52 : ((VS) × (Int32) × (Int32) × (Int32)) → Option (Int32 × VS) := fun x => match x with | (Y, x_1, x_4, y_0) => cl (fX2_wordsOf (Y 1) x_1) (fun r1 => cl (fX2_bits r1) (fun r2 => some (((r2 - x_4) + y_0), Y)))
def fX2_hasBy_51 : ((VS) × (Int32) × (Int32)) → Option (Int32 × VS) := fun x => match x with | (Y, x_1, x_4) => fX2_hasBy_52 (Y, x_1, x_4, 0)
def fX2_hasBy (Y : VS) (a_1 : Int32) (a_2 : Int32) (a_3 : Int32) (a_4 : Int32) (a_5 : Int32) : Option (Int32 × VS) := cl (fX2_copies (Y 0) (Y 1)) (fun w1 => bn (up Y 1 w1) (fun w2 => cl (fX2_nightsOn (w2 1) a_5 a_3) (fun w3 => bn (up w2 1 w3) (fun w4 => cl (fX2_wordsOf (w4 1) a_1) (fun r5 => if r5 = 63 then cl (fX2_wordsOf (w4 1) a_2) (fun r7 => if r7 = 63 then fX2_hasBy_51 (w4, a_1, a_4) else fX2_hasBy_52 (w4, a_1, a_4, 3)) else fX2_hasBy_51 (w4, a_1, a_4))))))
set_option maxHeartbeats 4000000 in
set_option maxRecDepth 100000 in
theorem kX2_hasBy_52 (C : Cx p s m args meth c cX2_hasBy 7 RX2 D cA g A) (hr : meth.sig.returnType = (some .int)) {z : (Int32 × VS)} (x : (VS) × (Int32) × (Int32) × (Int32)) (h : fX2_hasBy_52 x = some z) : GX2_hasBy_52 p l e s m args below meth c D cA A ad z x := by
  obtain ⟨Y, x_1, x_4, y_0⟩ := x
  intro H locs ls hw hl
  have hw : Wd D A s.heap (wM cA ad Y) H locs := hw
  have hl : lv_has ls 7 [(0, .ref (ad 0)), (1, .int x_1), (4, .int x_4)] := hl
  show W p l e rmX2_hasBy s m args below meth c H locs 0 0 (MQ below (QI D cA A z.1 (wM cA ad z.2)) args s 0 0 A) (F0 m 52 ls [.int y_0])
  have hx := C.1.1
  have hb := C.1.2.1
  have h : (cl (fX2_wordsOf (Y 1) x_1) (fun r1 => cl (fX2_bits r1) (fun r2 => some (((r2 - x_4) + y_0), Y)))) = some z := h
  refine lv_istore (lv' := [(6, .int y_0), (0, .ref (ad 0)), (1, .int x_1), (4, .int x_4)]) hx hb dX2_hasBy_52 hl (by decide) rfl (fun ls hl => ?_)
  refine lv_aload_n hx hb dX2_hasBy_54 rfl (lv_at hl 1 rfl) ?_
  refine tGet (T := TX2) (N := 13) (ci := 2) C hw inX2 1 0 rfl (by decide) kf_RX2_13 rfl rfl rfl dX2_hasBy_55 ?_
  refine lv_iload_n hx hb dX2_hasBy_58 rfl (lv_at hl 2 rfl) ?_
  obtain ⟨r1, hr1, h⟩ := cl_some h
  refine cSi (ws2 := (wM cA ad Y)) (As := [.ref (ad 2), .int x_1]) (rest := []) C hw jM1r (kX2_wordsOf (ad 2) hr1) kl_RX2_91 kt_yX2_wordsOf kn_RX2 kc_yX2_wordsOf ⟨rfl, rfl⟩ hdX2_wordsOf ⟨Nat.le_of_ble_eq_true rfl, Nat.le_of_ble_eq_true rfl⟩ rfl hl.1 (Nat.le_of_ble_eq_true rfl) dX2_hasBy_59 ⟨Nat.zero_le _, Nat.zero_le _⟩ (fun H locs hw => ?_)
  obtain ⟨r2, hr2, h⟩ := cl_some h
  refine cSi (ws2 := (wM cA ad Y)) (As := [.int r1]) (rest := []) C hw jnE (kX2_bits hr2) kl_RX2_94 kt_yX2_bits kn_RX2 kc_yX2_bits ⟨rfl, rfl⟩ hdX2_bits ⟨Nat.le_of_ble_eq_true rfl, Nat.le_of_ble_eq_true rfl⟩ rfl hl.1 (Nat.le_of_ble_eq_true rfl) dX2_hasBy_62 ⟨Nat.zero_le _, Nat.zero_le _⟩ (fun H locs hw => ?_)
  refine lv_iload hx hb dX2_hasBy_65 (lv_at hl 3 rfl) ?_
  refine lv_isub hx hb dX2_hasBy_67 ?_
  refine lv_iload hx hb dX2_hasBy_68 (lv_at hl 0 rfl) ?_
  refine lv_iadd hx hb dX2_hasBy_70 ?_
  obtain rfl := some_e h
  exact rtI C hr hw dX2_hasBy_71
set_option maxHeartbeats 4000000 in
set_option maxRecDepth 100000 in
theorem kX2_hasBy_51 (C : Cx p s m args meth c cX2_hasBy 7 RX2 D cA g A) (hr : meth.sig.returnType = (some .int)) {z : (Int32 × VS)} (x : (VS) × (Int32) × (Int32)) (h : fX2_hasBy_51 x = some z) : GX2_hasBy_51 p l e s m args below meth c D cA A ad z x := by
  obtain ⟨Y, x_1, x_4⟩ := x
  intro H locs ls hw hl
  have hw : Wd D A s.heap (wM cA ad Y) H locs := hw
  have hl : lv_has ls 7 [(0, .ref (ad 0)), (1, .int x_1), (4, .int x_4)] := hl
  have hx := C.1.1
  have hb := C.1.2.1
  have h : (fX2_hasBy_52 (Y, x_1, x_4, 0)) = some z := h
  refine lv_iconst (v := 0) hx hb dX2_hasBy_51 (by decide) ?_
  exact kX2_hasBy_52 C hr (Y, x_1, x_4, 0) h _ _ _ hw (lv_sub hl [0, 1, 2] rfl)
set_option maxHeartbeats 4000000 in
set_option maxRecDepth 100000 in
theorem kX2_hasBy (ad : Nat → Nat) {Y : VS} {a_1 : Int32} {a_2 : Int32} {a_3 : Int32} {a_4 : Int32} {a_5 : Int32} {z : (Int32 × VS)} (h : fX2_hasBy Y a_1 a_2 a_3 a_4 a_5 = some z) : MI l D cA g yX2_hasBy (Cond.code yX2_hasBy cX2_hasBy 7 (some .int) :: lw_g) rmX2_hasBy [.ref (ad 0), .int a_1, .int a_2, .int a_3, .int a_4, .int a_5] (wM cA ad Y) z.1 (wM cA ad z.2) := by
  intro sz
  refine Met.ofW (cc := cX2_hasBy) (maxL := 7) (ret := (some .int)) (by decide) rfl ?_
  intro p e s m args below meth c s₁ B hml hv
  obtain ⟨rfl, C, hr, hw⟩ := ent B hml hv
  generalize va_A (wM cA ad Y) sz = A at C hw ⊢
  have hl := lv_entry ([.ref (ad 0), .int a_1, .int a_2, .int a_3, .int a_4, .int a_5]) (n := 7) (Nat.le_of_ble_eq_true rfl)
  rw [lg_entry_eq]
  generalize (lg_sl ([.ref (ad 0), .int a_1, .int a_2, .int a_3, .int a_4, .int a_5]) ++ List.replicate (7 - (lg_sl ([.ref (ad 0), .int a_1, .int a_2, .int a_3, .int a_4, .int a_5])).length) Slot.unset).toArray = ls at hl ⊢
  have hl : lv_has ls 7 [(0, .ref (ad 0)), (1, .int a_1), (2, .int a_2), (3, .int a_3), (4, .int a_4), (5, .int a_5)] := hl
  have hx := C.1.1
  have hb := C.1.2.1
  have h : (cl (fX2_copies (Y 0) (Y 1)) (fun w1 => bn (up Y 1 w1) (fun w2 => cl (fX2_nightsOn (w2 1) a_5 a_3) (fun w3 => bn (up w2 1 w3) (fun w4 => cl (fX2_wordsOf (w4 1) a_1) (fun r5 => if r5 = 63 then cl (fX2_wordsOf (w4 1) a_2) (fun r7 => if r7 = 63 then fX2_hasBy_51 (w4, a_1, a_4) else fX2_hasBy_52 (w4, a_1, a_4, 3)) else fX2_hasBy_51 (w4, a_1, a_4))))))) = some z := h
  refine lv_aload_n hx hb dX2_hasBy_0 rfl (lv_at hl 0 rfl) ?_
  refine tGet (T := TX2) (N := 13) (ci := 2) C hw inX2 0 0 rfl (by decide) kf_RX2_9 rfl rfl rfl dX2_hasBy_1 ?_
  refine lv_aload_n hx hb dX2_hasBy_4 rfl (lv_at hl 0 rfl) ?_
  refine tGet (T := TX2) (N := 13) (ci := 2) C hw inX2 1 0 rfl (by decide) kf_RX2_13 rfl rfl rfl dX2_hasBy_5 ?_
  obtain ⟨w1, hw1, h⟩ := cl_some h
  obtain ⟨w2, ew2⟩ : ∃ y : VS, y = up Y 1 w1 := ⟨_, rfl⟩
  replace h := bn_some h ew2
  refine cSv (ws2 := (wM cA ad w2)) (As := [.ref (ad 1), .ref (ad 2)]) (rest := []) C hw (by rw [ew2]; exact jMM01) (kX2_copies (ad 1) (ad 2) hw1) kl_RX2_134 kt_yX2_copies kn_RX2 kc_yX2_copies ⟨rfl, rfl⟩ hdX2_copies ⟨Nat.le_of_ble_eq_true rfl, Nat.le_of_ble_eq_true rfl⟩ rfl hl.1 (Nat.le_of_ble_eq_true rfl) dX2_hasBy_8 ⟨Nat.zero_le _, Nat.zero_le _⟩ (fun H locs hw => ?_)
  refine lv_aload_n hx hb dX2_hasBy_11 rfl (lv_at hl 0 rfl) ?_
  refine tGet (T := TX2) (N := 13) (ci := 2) C hw inX2 1 0 rfl (by decide) kf_RX2_13 rfl rfl rfl dX2_hasBy_12 ?_
  refine lv_iload hx hb dX2_hasBy_15 (lv_at hl 5 rfl) ?_
  refine lv_iload_n hx hb dX2_hasBy_17 rfl (lv_at hl 3 rfl) ?_
  obtain ⟨w3, hw3, h⟩ := cl_some h
  obtain ⟨w4, ew4⟩ : ∃ y : VS, y = up w2 1 w3 := ⟨_, rfl⟩
  replace h := bn_some h ew4
  refine cSv (ws2 := (wM cA ad w4)) (As := [.ref (ad 2), .int a_5, .int a_3]) (rest := []) C hw (by rw [ew4]; exact jM1) (kX2_nightsOn (ad 2) hw3) kl_RX2_128 kt_yX2_nightsOn kn_RX2 kc_yX2_nightsOn ⟨rfl, rfl⟩ hdX2_nightsOn ⟨Nat.le_of_ble_eq_true rfl, Nat.le_of_ble_eq_true rfl⟩ rfl hl.1 (Nat.le_of_ble_eq_true rfl) dX2_hasBy_18 ⟨Nat.zero_le _, Nat.zero_le _⟩ (fun H locs hw => ?_)
  refine lv_aload_n hx hb dX2_hasBy_21 rfl (lv_at hl 0 rfl) ?_
  refine tGet (T := TX2) (N := 13) (ci := 2) C hw inX2 1 0 rfl (by decide) kf_RX2_13 rfl rfl rfl dX2_hasBy_22 ?_
  refine lv_iload_n hx hb dX2_hasBy_25 rfl (lv_at hl 1 rfl) ?_
  obtain ⟨r5, hr5, h⟩ := cl_some h
  refine cSi (ws2 := (wM cA ad w4)) (As := [.ref (ad 2), .int a_1]) (rest := []) C hw jM1r (kX2_wordsOf (ad 2) hr5) kl_RX2_91 kt_yX2_wordsOf kn_RX2 kc_yX2_wordsOf ⟨rfl, rfl⟩ hdX2_wordsOf ⟨Nat.le_of_ble_eq_true rfl, Nat.le_of_ble_eq_true rfl⟩ rfl hl.1 (Nat.le_of_ble_eq_true rfl) dX2_hasBy_26 ⟨Nat.zero_le _, Nat.zero_le _⟩ (fun H locs hw => ?_)
  refine lv_bipush (v := 63) hx hb dX2_hasBy_29 (by decide) ?_
  refine lv_icmp_ne (tgt := 51) hx hb dX2_hasBy_31 (by decide) (fun c6 => ?_) (fun c6 => ?_)
  · replace h := (if_neg c6).symm.trans h
    exact kX2_hasBy_51 C hr (w4, a_1, a_4) h _ _ _ hw (lv_sub hl [0, 1, 4] rfl)
  · replace h := (if_pos c6).symm.trans h
    refine lv_aload_n hx hb dX2_hasBy_34 rfl (lv_at hl 0 rfl) ?_
    refine tGet (T := TX2) (N := 13) (ci := 2) C hw inX2 1 0 rfl (by decide) kf_RX2_13 rfl rfl rfl dX2_hasBy_35 ?_
    refine lv_iload_n hx hb dX2_hasBy_38 rfl (lv_at hl 2 rfl) ?_
    obtain ⟨r7, hr7, h⟩ := cl_some h
    refine cSi (ws2 := (wM cA ad w4)) (As := [.ref (ad 2), .int a_2]) (rest := []) C hw jM1r (kX2_wordsOf (ad 2) hr7) kl_RX2_91 kt_yX2_wordsOf kn_RX2 kc_yX2_wordsOf ⟨rfl, rfl⟩ hdX2_wordsOf ⟨Nat.le_of_ble_eq_true rfl, Nat.le_of_ble_eq_true rfl⟩ rfl hl.1 (Nat.le_of_ble_eq_true rfl) dX2_hasBy_39 ⟨Nat.zero_le _, Nat.zero_le _⟩ (fun H locs hw => ?_)
    refine lv_bipush (v := 63) hx hb dX2_hasBy_42 (by decide) ?_
    refine lv_icmp_eq (tgt := 51) hx hb dX2_hasBy_44 (by decide) (fun c8 => ?_) (fun c8 => ?_)
    · replace h := (if_pos c8).symm.trans h
      exact kX2_hasBy_51 C hr (w4, a_1, a_4) h _ _ _ hw (lv_sub hl [0, 1, 4] rfl)
    · replace h := (if_neg c8).symm.trans h
      refine lv_iconst (v := 3) hx hb dX2_hasBy_47 (by decide) ?_
      refine lv_goto (tgt := 52) hx hb dX2_hasBy_48 (by decide) ?_
      exact kX2_hasBy_52 C hr (w4, a_1, a_4, 3) h _ _ _ hw (lv_sub hl [0, 1, 4] rfl)
abbrev rmX2_lookingBy : Room := { frames := 0, cells := 0, slots := 0, locals := 0 }
theorem hdX2_lookingBy : yX2_lookingBy.cls ≠ "java/lang/invoke/MethodHandle" ∧ yX2_lookingBy.cls ≠ "java/lang/invoke/VarHandle" ∧ (parseMethodDescriptor yX2_lookingBy.desc).map (fun d => d.parameters.length) = some 4 := by decide +kernel
def fX2_lookingBy (a_0 : Int32) (a_1 : Int32) (a_2 : Int32) (a_3 : Int32) : Option Int32 := some (((((1 : Int32) - a_1) <<< (a_0 &&& 31)) ||| (((1 : Int32) - a_3) <<< (a_2 &&& 31))) ^^^ (-1 : Int32))
set_option maxHeartbeats 4000000 in
set_option maxRecDepth 100000 in
theorem kX2_lookingBy  {a_0 : Int32} {a_1 : Int32} {a_2 : Int32} {a_3 : Int32} {z : Int32} (h : fX2_lookingBy a_0 a_1 a_2 a_3 = some z) : MI l D cA g yX2_lookingBy (Cond.code yX2_lookingBy cX2_lookingBy 4 (some .int) :: lw_g) rmX2_lookingBy [.int a_0, .int a_1, .int a_2, .int a_3] ([] : va_W) z ([] : va_W) := by
  intro sz
  refine Met.ofW (cc := cX2_lookingBy) (maxL := 4) (ret := (some .int)) (by decide) rfl ?_
  intro p e s m args below meth c s₁ B hml hv
  obtain ⟨rfl, C, hr, hw⟩ := ent B hml hv
  generalize va_A ([] : va_W) sz = A at C hw ⊢
  have hl := lv_entry ([.int a_0, .int a_1, .int a_2, .int a_3]) (n := 4) (Nat.le_of_ble_eq_true rfl)
  rw [lg_entry_eq]
  generalize (lg_sl ([.int a_0, .int a_1, .int a_2, .int a_3]) ++ List.replicate (4 - (lg_sl ([.int a_0, .int a_1, .int a_2, .int a_3])).length) Slot.unset).toArray = ls at hl ⊢
  have hl : lv_has ls 4 [(0, .int a_0), (1, .int a_1), (2, .int a_2), (3, .int a_3)] := hl
  have hx := C.1.1
  have hb := C.1.2.1
  have h : (some (((((1 : Int32) - a_1) <<< (a_0 &&& 31)) ||| (((1 : Int32) - a_3) <<< (a_2 &&& 31))) ^^^ (-1 : Int32))) = some z := h
  refine lv_iconst (v := 1) hx hb dX2_lookingBy_0 (by decide) ?_
  refine lv_iload_n hx hb dX2_lookingBy_1 rfl (lv_at hl 1 rfl) ?_
  refine lv_isub hx hb dX2_lookingBy_2 ?_
  refine lv_iload_n hx hb dX2_lookingBy_3 rfl (lv_at hl 0 rfl) ?_
  refine lv_ishl hx hb dX2_lookingBy_4 ?_
  refine lv_iconst (v := 1) hx hb dX2_lookingBy_5 (by decide) ?_
  refine lv_iload_n hx hb dX2_lookingBy_6 rfl (lv_at hl 3 rfl) ?_
  refine lv_isub hx hb dX2_lookingBy_7 ?_
  refine lv_iload_n hx hb dX2_lookingBy_8 rfl (lv_at hl 2 rfl) ?_
  refine lv_ishl hx hb dX2_lookingBy_9 ?_
  refine lv_ior hx hb dX2_lookingBy_10 ?_
  refine lv_iconst (v := (-1)) hx hb dX2_lookingBy_11 (by decide) ?_
  refine lv_ixor hx hb dX2_lookingBy_12 ?_
  obtain rfl := some_e h
  exact rtI C hr hw dX2_lookingBy_13
abbrev rmX2_two : Room := { frames := 8, cells := 0, slots := 0, locals := 186 }
theorem hdX2_two : yX2_two.cls = RX2 ∧ yX2_two.cls ≠ "java/lang/invoke/MethodHandle" ∧ yX2_two.cls ≠ "java/lang/invoke/VarHandle" ∧ (parseMethodDescriptor yX2_two.desc).map (fun d => d.parameters.length) = some 3 := by decide +kernel
def GX2_two_159 (p : Program) (l : Launch) (e : Env) (s : State) (m : MethodId) (args : Array Value) (below : List Frame) (meth : Method) (c : Code) (D : va_G) (cA : ClassId) (A : Nat → Prop) (ad : Nat → Nat) (z : (Int32 × VS)) (x : (VS) × (Int32) × (Int32) × (Int32) × (Int32)) : Prop := ∀ (H : Heap) (locs : List Loc) (ls : Array Slot), Wd D A s.heap (wM cA ad x.1) H locs → lv_has ls 9 [(0, .ref (ad 0)), (1, .int x.2.1), (2, .int x.2.2.1), (3, .int x.2.2.2.1), (5, .int x.2.2.2.2)] → W p l e rmX2_two s m args below meth c H locs 0 0 (MQ below (QI D cA A z.1 (wM cA ad z.2)) args s 0 0 A) (F0 m 159 ls [])
def GX2_two_49 (p : Program) (l : Launch) (e : Env) (s : State) (m : MethodId) (args : Array Value) (below : List Frame) (meth : Method) (c : Code) (D : va_G) (cA : ClassId) (A : Nat → Prop) (ad : Nat → Nat) (z : (Int32 × VS)) (x : (VS) × (Int32) × (Int32) × (Int32) × (Int32)) : Prop := ∀ (H : Heap) (locs : List Loc) (ls : Array Slot), Wd D A s.heap (wM cA ad x.1) H locs → lv_has ls 9 [(0, .ref (ad 0)), (1, .int x.2.1), (2, .int x.2.2.1), (3, .int x.2.2.2.1), (5, .int x.2.2.2.2)] → W p l e rmX2_two s m args below meth c H locs 0 0 (MQ below (QI D cA A z.1 (wM cA ad z.2)) args s 0 0 A) (F0 m 49 ls [])
def GX2_two_32 (p : Program) (l : Launch) (e : Env) (s : State) (m : MethodId) (args : Array Value) (below : List Frame) (meth : Method) (c : Code) (D : va_G) (cA : ClassId) (A : Nat → Prop) (ad : Nat → Nat) (z : (Int32 × VS)) (x : (VS) × (Int32) × (Int32) × (Int32) × (Int32)) : Prop := ∀ (H : Heap) (locs : List Loc) (ls : Array Slot), Wd D A s.heap (wM cA ad x.1) H locs → lv_has ls 9 [(0, .ref (ad 0)), (1, .int x.2.1), (2, .int x.2.2.1), (3, .int x.2.2.2.1)] → W p l e rmX2_two s m args below meth c H locs 0 0 (MQ below (QI D cA A z.1 (wM cA ad z.2)) args s 0 0 A) (F0 m 32 ls [.int x.2.2.2.2])
def GX2_two_31 (p : Program) (l : Launch) (e : Env) (s : State) (m : MethodId) (args : Array Value) (below : List Frame) (meth : Method) (c : Code) (D : va_G) (cA : ClassId) (A : Nat → Prop) (ad : Nat → Nat) (z : (Int32 × VS)) (x : (VS) × (Int32) × (Int32) × (Int32)) : Prop := ∀ (H : Heap) (locs : List Loc) (ls : Array Slot), Wd D A s.heap (wM cA ad x.1) H locs → lv_has ls 9 [(0, .ref (ad 0)), (1, .int x.2.1), (2, .int x.2.2.1), (3, .int x.2.2.2)] → W p l e rmX2_two s m args below meth c H locs 0 0 (MQ below (QI D cA A z.1 (wM cA ad z.2)) args s 0 0 A) (F0 m 31 ls [])
def fX2_two_159 (k49 : ((VS) × (Int32) × (Int32) × (Int32) × (Int32)) → Option (Int32 × VS)) : ((VS) × (Int32) × (Int32) × (Int32) × (Int32)) → Option (Int32 × VS) := fun x => match x with | (Y, x_1, x_2, x_3, x_5) => bn (x_5 + 1) (fun x1 => k49 (Y, x_1, x_2, x_3, x1))
def fX2_two_49 (k49 : ((VS) × (Int32) × (Int32) × (Int32) × (Int32)) → Option (Int32 × VS)) : ((VS) × (Int32) × (Int32) × (Int32) × (Int32)) → Option (Int32 × VS) := fun x => match x with | (Y, x_1, x_2, x_3, x_5) => if 4 ≤ x_5 then some ((-9), Y) else bn (x_5 / (2 : Int32)) (fun x2 => bn (x_5 - x_5 / (2 : Int32) * (2 : Int32)) (fun x3 => cl (fX2_lookingBy x_1 x2 x_2 x3) (fun r4 => cl (fX2_lookingBy x_1 ((1 : Int32) - x2) x_2 x3) (fun r5 => cl (fX2_hasBy Y x_1 x_2 r5 ((1 : Int32) - x2) x_3) (fun q6 => cl (fX2_hasBy q6.2 x_1 x_2 r4 x2 x_3) (fun q7 => if q7.1 < q6.1 then fX2_two_159 k49 (q7.2, x_1, x_2, x_3, x_5) else cl (fX2_lookingBy x_1 x2 x_2 ((1 : Int32) - x3)) (fun r9 => cl (fX2_hasBy q7.2 x_2 x_1 r9 ((1 : Int32) - x3) x_3) (fun q10 => cl (fX2_hasBy q10.2 x_2 x_1 r4 x3 x_3) (fun q11 => if q11.1 < q10.1 then fX2_two_159 k49 (q11.2, x_1, x_2, x_3, x_5) else some ((((10 : Int32) * x2) + x3), q11.2))))))))))
def fX2_two_32 : ((VS) × (Int32) × (Int32) × (Int32) × (Int32)) → Option (Int32 × VS) := fun x => match x with | (Y, x_1, x_2, x_3, y_0) => if y_0 = 0 then lp (fX2_two_49) 5000 (Y, x_1, x_2, x_3, 0) else cl (fX2_no Y y_0) (fun q2 => some (q2.1, q2.2))
def fX2_two_31 : ((VS) × (Int32) × (Int32) × (Int32)) → Option (Int32 × VS) := fun x => match x with | (Y, x_1, x_2, x_3) => fX2_two_32 (Y, x_1, x_2, x_3, (-1))
def fX2_two (Y : VS) (a_1 : Int32) (a_2 : Int32) (a_3 : Int32) : Option (Int32 × VS) := cl (fX2_isReader Y a_1) (fun r1 => if r1 = 0 then fX2_two_31 (Y, a_1, a_2, a_3) else cl (fX2_isReader Y a_2) (fun r3 => if r3 = 0 then fX2_two_31 (Y, a_1, a_2, a_3) else if a_1 = a_2 then fX2_two_31 (Y, a_1, a_2, a_3) else cl (fX2_wrongBy a_3 0 30) (fun r6 => fX2_two_32 (Y, a_1, a_2, a_3, r6))))
set_option maxHeartbeats 4000000 in
set_option maxRecDepth 100000 in
theorem kX2_two_159 (C : Cx p s m args meth c cX2_two 9 RX2 D cA g A) (hr : meth.sig.returnType = (some .int)) {z : (Int32 × VS)} (k49 : ((VS) × (Int32) × (Int32) × (Int32) × (Int32)) → Option (Int32 × VS)) (hk49 : ∀ x, k49 x = some z → GX2_two_49 p l e s m args below meth c D cA A ad z x) (x : (VS) × (Int32) × (Int32) × (Int32) × (Int32)) (h : fX2_two_159 k49 x = some z) : GX2_two_159 p l e s m args below meth c D cA A ad z x := by
  obtain ⟨Y, x_1, x_2, x_3, x_5⟩ := x
  intro H locs ls hw hl
  have hw : Wd D A s.heap (wM cA ad Y) H locs := hw
  have hl : lv_has ls 9 [(0, .ref (ad 0)), (1, .int x_1), (2, .int x_2), (3, .int x_3), (5, .int x_5)] := hl
  have hx := C.1.1
  have hb := C.1.2.1
  have h : (bn (x_5 + 1) (fun x1 => k49 (Y, x_1, x_2, x_3, x1))) = some z := h
  obtain ⟨x1, ex1⟩ : ∃ y : Int32, y = x_5 + 1 := ⟨_, rfl⟩
  replace h := bn_some h ex1
  refine lv_iinc (v := x1) (lv' := [(5, .int x1), (0, .ref (ad 0)), (1, .int x_1), (2, .int x_2), (3, .int x_3)]) hx hb dX2_two_159 hl (k := 4) rfl (by rw [ex1]; rfl) (by decide) rfl (fun ls hl => ?_)
  refine lv_goto (tgt := 49) hx hb dX2_two_162 (by decide) ?_
  exact hk49 (Y, x_1, x_2, x_3, x1) h _ _ _ hw (lv_sub hl [1, 2, 3, 4, 0] rfl)
set_option maxHeartbeats 4000000 in
set_option maxRecDepth 100000 in
theorem kX2_two_49 (C : Cx p s m args meth c cX2_two 9 RX2 D cA g A) (hr : meth.sig.returnType = (some .int)) {z : (Int32 × VS)} (k49 : ((VS) × (Int32) × (Int32) × (Int32) × (Int32)) → Option (Int32 × VS)) (hk49 : ∀ x, k49 x = some z → GX2_two_49 p l e s m args below meth c D cA A ad z x) (x : (VS) × (Int32) × (Int32) × (Int32) × (Int32)) (h : fX2_two_49 k49 x = some z) : GX2_two_49 p l e s m args below meth c D cA A ad z x := by
  obtain ⟨Y, x_1, x_2, x_3, x_5⟩ := x
  intro H locs ls hw hl
  have hw : Wd D A s.heap (wM cA ad Y) H locs := hw
  have hl : lv_has ls 9 [(0, .ref (ad 0)), (1, .int x_1), (2, .int x_2), (3, .int x_3), (5, .int x_5)] := hl
  have hx := C.1.1
  have hb := C.1.2.1
  have h : (if 4 ≤ x_5 then some ((-9), Y) else bn (x_5 / (2 : Int32)) (fun x2 => bn (x_5 - x_5 / (2 : Int32) * (2 : Int32)) (fun x3 => cl (fX2_lookingBy x_1 x2 x_2 x3) (fun r4 => cl (fX2_lookingBy x_1 ((1 : Int32) - x2) x_2 x3) (fun r5 => cl (fX2_hasBy Y x_1 x_2 r5 ((1 : Int32) - x2) x_3) (fun q6 => cl (fX2_hasBy q6.2 x_1 x_2 r4 x2 x_3) (fun q7 => if q7.1 < q6.1 then fX2_two_159 k49 (q7.2, x_1, x_2, x_3, x_5) else cl (fX2_lookingBy x_1 x2 x_2 ((1 : Int32) - x3)) (fun r9 => cl (fX2_hasBy q7.2 x_2 x_1 r9 ((1 : Int32) - x3) x_3) (fun q10 => cl (fX2_hasBy q10.2 x_2 x_1 r4 x3 x_3) (fun q11 => if q11.1 < q10.1 then fX2_two_159 k49 (q11.2, x_1, x_2, x_3, x_5) else some ((((10 : Int32) * x2) + x3), q11.2))))))))))) = some z := h
  refine lv_iload hx hb dX2_two_49 (lv_at hl 4 rfl) ?_
  refine lv_iconst (v := 4) hx hb dX2_two_51 (by decide) ?_
  refine lv_icmp_ge (tgt := 165) hx hb dX2_two_52 (by decide) (fun c1 => ?_) (fun c1 => ?_)
  · replace h := (if_pos c1).symm.trans h
    refine lv_bipush (v := (-9)) hx hb dX2_two_165 (by decide) ?_
    obtain rfl := some_e h
    exact rtI C hr hw dX2_two_167
  · replace h := (if_neg c1).symm.trans h
    refine lv_iload hx hb dX2_two_55 (lv_at hl 4 rfl) ?_
    refine lv_iconst (v := 2) hx hb dX2_two_57 (by decide) ?_
    refine lv_idiv hx hb dX2_two_58 (by decide) ?_
    refine lv_topi (fun x2 ex2 => ?_)
    replace h := bn_some h ex2
    refine lv_istore (lv' := [(6, .int x2), (0, .ref (ad 0)), (1, .int x_1), (2, .int x_2), (3, .int x_3), (5, .int x_5)]) hx hb dX2_two_59 hl (by decide) rfl (fun ls hl => ?_)
    refine lv_iload hx hb dX2_two_61 (lv_at hl 5 rfl) ?_
    refine lv_iconst (v := 2) hx hb dX2_two_63 (by decide) ?_
    refine lv_irem hx hb dX2_two_64 (by decide) ?_
    refine lv_topi (fun x3 ex3 => ?_)
    replace h := bn_some h ex3
    refine lv_istore (lv' := [(7, .int x3), (6, .int x2), (0, .ref (ad 0)), (1, .int x_1), (2, .int x_2), (3, .int x_3), (5, .int x_5)]) hx hb dX2_two_65 hl (by decide) rfl (fun ls hl => ?_)
    refine lv_iload_n hx hb dX2_two_67 rfl (lv_at hl 3 rfl) ?_
    refine lv_iload hx hb dX2_two_68 (lv_at hl 1 rfl) ?_
    refine lv_iload_n hx hb dX2_two_70 rfl (lv_at hl 4 rfl) ?_
    refine lv_iload hx hb dX2_two_71 (lv_at hl 0 rfl) ?_
    obtain ⟨r4, hr4, h⟩ := cl_some h
    refine cSi (ws2 := (wM cA ad Y)) (As := [.int x_1, .int x2, .int x_2, .int x3]) (rest := []) C hw jnE (kX2_lookingBy hr4) kl_RX2_196 kt_yX2_lookingBy kn_RX2 kc_yX2_lookingBy ⟨rfl, rfl⟩ hdX2_lookingBy ⟨Nat.le_of_ble_eq_true rfl, Nat.le_of_ble_eq_true rfl⟩ rfl hl.1 (Nat.le_of_ble_eq_true rfl) dX2_two_73 ⟨Nat.zero_le _, Nat.zero_le _⟩ (fun H locs hw => ?_)
    refine lv_istore (lv' := [(8, .int r4), (7, .int x3), (6, .int x2), (0, .ref (ad 0)), (1, .int x_1), (2, .int x_2), (3, .int x_3), (5, .int x_5)]) hx hb dX2_two_76 hl (by decide) rfl (fun ls hl => ?_)
    refine lv_aload_n hx hb dX2_two_78 rfl (lv_at hl 3 rfl) ?_
    refine lv_iload_n hx hb dX2_two_79 rfl (lv_at hl 4 rfl) ?_
    refine lv_iload_n hx hb dX2_two_80 rfl (lv_at hl 5 rfl) ?_
    refine lv_iload_n hx hb dX2_two_81 rfl (lv_at hl 4 rfl) ?_
    refine lv_iconst (v := 1) hx hb dX2_two_82 (by decide) ?_
    refine lv_iload hx hb dX2_two_83 (lv_at hl 2 rfl) ?_
    refine lv_isub hx hb dX2_two_85 ?_
    refine lv_iload_n hx hb dX2_two_86 rfl (lv_at hl 5 rfl) ?_
    refine lv_iload hx hb dX2_two_87 (lv_at hl 1 rfl) ?_
    obtain ⟨r5, hr5, h⟩ := cl_some h
    refine cSi (ws2 := (wM cA ad Y)) (As := [.int x_1, .int ((1 : Int32) - x2), .int x_2, .int x3]) (rest := [.int x_2, .int x_1, .ref (ad 0)]) C hw jnE (kX2_lookingBy hr5) kl_RX2_196 kt_yX2_lookingBy kn_RX2 kc_yX2_lookingBy ⟨rfl, rfl⟩ hdX2_lookingBy ⟨Nat.le_of_ble_eq_true rfl, Nat.le_of_ble_eq_true rfl⟩ rfl hl.1 (Nat.le_of_ble_eq_true rfl) dX2_two_89 ⟨Nat.zero_le _, Nat.zero_le _⟩ (fun H locs hw => ?_)
    refine lv_iconst (v := 1) hx hb dX2_two_92 (by decide) ?_
    refine lv_iload hx hb dX2_two_93 (lv_at hl 2 rfl) ?_
    refine lv_isub hx hb dX2_two_95 ?_
    refine lv_iload_n hx hb dX2_two_96 rfl (lv_at hl 6 rfl) ?_
    obtain ⟨q6, hq6, h⟩ := cl_some h
    refine cVi (ws2 := (wM cA ad q6.2)) (As := [.int x_1, .int x_2, .int r5, .int ((1 : Int32) - x2), .int x_3]) (rest := []) C hw jnW (kX2_hasBy ad hq6) kl_RX2_200 ki_yX2_hasBy ks_yX2_hasBy kn_RX2 kc_yX2_hasBy ⟨rfl, rfl⟩ hdX2_hasBy ⟨Nat.le_of_ble_eq_true rfl, Nat.le_of_ble_eq_true rfl⟩ (ci := 2) (q0 := 0) rfl rfl rfl rfl hl.1 (Nat.le_of_ble_eq_true rfl) dX2_two_97 ⟨Nat.zero_le _, Nat.zero_le _⟩ (fun H locs hw => ?_)
    refine lv_aload_n hx hb dX2_two_100 rfl (lv_at hl 3 rfl) ?_
    refine lv_iload_n hx hb dX2_two_101 rfl (lv_at hl 4 rfl) ?_
    refine lv_iload_n hx hb dX2_two_102 rfl (lv_at hl 5 rfl) ?_
    refine lv_iload hx hb dX2_two_103 (lv_at hl 0 rfl) ?_
    refine lv_iload hx hb dX2_two_105 (lv_at hl 2 rfl) ?_
    refine lv_iload_n hx hb dX2_two_107 rfl (lv_at hl 6 rfl) ?_
    obtain ⟨q7, hq7, h⟩ := cl_some h
    refine cVi (ws2 := (wM cA ad q7.2)) (As := [.int x_1, .int x_2, .int r4, .int x2, .int x_3]) (rest := [.int q6.1]) C hw jnW (kX2_hasBy ad hq7) kl_RX2_200 ki_yX2_hasBy ks_yX2_hasBy kn_RX2 kc_yX2_hasBy ⟨rfl, rfl⟩ hdX2_hasBy ⟨Nat.le_of_ble_eq_true rfl, Nat.le_of_ble_eq_true rfl⟩ (ci := 2) (q0 := 0) rfl rfl rfl rfl hl.1 (Nat.le_of_ble_eq_true rfl) dX2_two_108 ⟨Nat.zero_le _, Nat.zero_le _⟩ (fun H locs hw => ?_)
    refine lv_icmp_gt (tgt := 159) hx hb dX2_two_111 (by decide) (fun c8 => ?_) (fun c8 => ?_)
    · replace h := (if_pos c8).symm.trans h
      exact kX2_two_159 C hr k49 hk49 (q7.2, x_1, x_2, x_3, x_5) h _ _ _ hw (lv_sub hl [3, 4, 5, 6, 7] rfl)
    · replace h := (if_neg c8).symm.trans h
      refine lv_aload_n hx hb dX2_two_114 rfl (lv_at hl 3 rfl) ?_
      refine lv_iload_n hx hb dX2_two_115 rfl (lv_at hl 5 rfl) ?_
      refine lv_iload_n hx hb dX2_two_116 rfl (lv_at hl 4 rfl) ?_
      refine lv_iload_n hx hb dX2_two_117 rfl (lv_at hl 4 rfl) ?_
      refine lv_iload hx hb dX2_two_118 (lv_at hl 2 rfl) ?_
      refine lv_iload_n hx hb dX2_two_120 rfl (lv_at hl 5 rfl) ?_
      refine lv_iconst (v := 1) hx hb dX2_two_121 (by decide) ?_
      refine lv_iload hx hb dX2_two_122 (lv_at hl 1 rfl) ?_
      refine lv_isub hx hb dX2_two_124 ?_
      obtain ⟨r9, hr9, h⟩ := cl_some h
      refine cSi (ws2 := (wM cA ad q7.2)) (As := [.int x_1, .int x2, .int x_2, .int ((1 : Int32) - x3)]) (rest := [.int x_1, .int x_2, .ref (ad 0)]) C hw jnE (kX2_lookingBy hr9) kl_RX2_196 kt_yX2_lookingBy kn_RX2 kc_yX2_lookingBy ⟨rfl, rfl⟩ hdX2_lookingBy ⟨Nat.le_of_ble_eq_true rfl, Nat.le_of_ble_eq_true rfl⟩ rfl hl.1 (Nat.le_of_ble_eq_true rfl) dX2_two_125 ⟨Nat.zero_le _, Nat.zero_le _⟩ (fun H locs hw => ?_)
      refine lv_iconst (v := 1) hx hb dX2_two_128 (by decide) ?_
      refine lv_iload hx hb dX2_two_129 (lv_at hl 1 rfl) ?_
      refine lv_isub hx hb dX2_two_131 ?_
      refine lv_iload_n hx hb dX2_two_132 rfl (lv_at hl 6 rfl) ?_
      obtain ⟨q10, hq10, h⟩ := cl_some h
      refine cVi (ws2 := (wM cA ad q10.2)) (As := [.int x_2, .int x_1, .int r9, .int ((1 : Int32) - x3), .int x_3]) (rest := []) C hw jnW (kX2_hasBy ad hq10) kl_RX2_200 ki_yX2_hasBy ks_yX2_hasBy kn_RX2 kc_yX2_hasBy ⟨rfl, rfl⟩ hdX2_hasBy ⟨Nat.le_of_ble_eq_true rfl, Nat.le_of_ble_eq_true rfl⟩ (ci := 2) (q0 := 0) rfl rfl rfl rfl hl.1 (Nat.le_of_ble_eq_true rfl) dX2_two_133 ⟨Nat.zero_le _, Nat.zero_le _⟩ (fun H locs hw => ?_)
      refine lv_aload_n hx hb dX2_two_136 rfl (lv_at hl 3 rfl) ?_
      refine lv_iload_n hx hb dX2_two_137 rfl (lv_at hl 5 rfl) ?_
      refine lv_iload_n hx hb dX2_two_138 rfl (lv_at hl 4 rfl) ?_
      refine lv_iload hx hb dX2_two_139 (lv_at hl 0 rfl) ?_
      refine lv_iload hx hb dX2_two_141 (lv_at hl 1 rfl) ?_
      refine lv_iload_n hx hb dX2_two_143 rfl (lv_at hl 6 rfl) ?_
      obtain ⟨q11, hq11, h⟩ := cl_some h
      refine cVi (ws2 := (wM cA ad q11.2)) (As := [.int x_2, .int x_1, .int r4, .int x3, .int x_3]) (rest := [.int q10.1]) C hw jnW (kX2_hasBy ad hq11) kl_RX2_200 ki_yX2_hasBy ks_yX2_hasBy kn_RX2 kc_yX2_hasBy ⟨rfl, rfl⟩ hdX2_hasBy ⟨Nat.le_of_ble_eq_true rfl, Nat.le_of_ble_eq_true rfl⟩ (ci := 2) (q0 := 0) rfl rfl rfl rfl hl.1 (Nat.le_of_ble_eq_true rfl) dX2_two_144 ⟨Nat.zero_le _, Nat.zero_le _⟩ (fun H locs hw => ?_)
      refine lv_icmp_gt (tgt := 159) hx hb dX2_two_147 (by decide) (fun c12 => ?_) (fun c12 => ?_)
      · replace h := (if_pos c12).symm.trans h
        exact kX2_two_159 C hr k49 hk49 (q11.2, x_1, x_2, x_3, x_5) h _ _ _ hw (lv_sub hl [3, 4, 5, 6, 7] rfl)
      · replace h := (if_neg c12).symm.trans h
        refine lv_bipush (v := 10) hx hb dX2_two_150 (by decide) ?_
        refine lv_iload hx hb dX2_two_152 (lv_at hl 2 rfl) ?_
        refine lv_imul hx hb dX2_two_154 ?_
        refine lv_iload hx hb dX2_two_155 (lv_at hl 1 rfl) ?_
        refine lv_iadd hx hb dX2_two_157 ?_
        obtain rfl := some_e h
        exact rtI C hr hw dX2_two_158
theorem lX2_two_49 (C : Cx p s m args meth c cX2_two 9 RX2 D cA g A) (hr : meth.sig.returnType = (some .int)) {z : (Int32 × VS)} (n : Nat) (x : (VS) × (Int32) × (Int32) × (Int32) × (Int32)) (h : lp (fX2_two_49) n x = some z) : GX2_two_49 p l e s m args below meth c D cA A ad z x := lp_ok (GX2_two_49 p l e s m args below meth c D cA A ad z) (fun kq hkq x h => kX2_two_49 C hr kq hkq x h) n x h
set_option maxHeartbeats 4000000 in
set_option maxRecDepth 100000 in
theorem kX2_two_32 (C : Cx p s m args meth c cX2_two 9 RX2 D cA g A) (hr : meth.sig.returnType = (some .int)) {z : (Int32 × VS)} (x : (VS) × (Int32) × (Int32) × (Int32) × (Int32)) (h : fX2_two_32 x = some z) : GX2_two_32 p l e s m args below meth c D cA A ad z x := by
  obtain ⟨Y, x_1, x_2, x_3, y_0⟩ := x
  intro H locs ls hw hl
  have hw : Wd D A s.heap (wM cA ad Y) H locs := hw
  have hl : lv_has ls 9 [(0, .ref (ad 0)), (1, .int x_1), (2, .int x_2), (3, .int x_3)] := hl
  show W p l e rmX2_two s m args below meth c H locs 0 0 (MQ below (QI D cA A z.1 (wM cA ad z.2)) args s 0 0 A) (F0 m 32 ls [.int y_0])
  have hx := C.1.1
  have hb := C.1.2.1
  have h : (if y_0 = 0 then lp (fX2_two_49) 5000 (Y, x_1, x_2, x_3, 0) else cl (fX2_no Y y_0) (fun q2 => some (q2.1, q2.2))) = some z := h
  refine lv_istore (lv' := [(4, .int y_0), (0, .ref (ad 0)), (1, .int x_1), (2, .int x_2), (3, .int x_3)]) hx hb dX2_two_32 hl (by decide) rfl (fun ls hl => ?_)
  refine lv_iload hx hb dX2_two_34 (lv_at hl 0 rfl) ?_
  refine lv_if_eq (tgt := 46) hx hb dX2_two_36 (by decide) (fun c1 => ?_) (fun c1 => ?_)
  · replace h := (if_pos c1).symm.trans h
    refine lv_iconst (v := 0) hx hb dX2_two_46 (by decide) ?_
    refine lv_istore (lv' := [(5, .int 0), (4, .int y_0), (0, .ref (ad 0)), (1, .int x_1), (2, .int x_2), (3, .int x_3)]) hx hb dX2_two_47 hl (by decide) rfl (fun ls hl => ?_)
    exact lX2_two_49 C hr 5000 (Y, x_1, x_2, x_3, 0) h _ _ _ hw (lv_sub hl [2, 3, 4, 5, 0] rfl)
  · replace h := (if_neg c1).symm.trans h
    refine lv_aload_n hx hb dX2_two_39 rfl (lv_at hl 1 rfl) ?_
    refine lv_iload hx hb dX2_two_40 (lv_at hl 0 rfl) ?_
    obtain ⟨q2, hq2, h⟩ := cl_some h
    refine cVi (ws2 := (wM cA ad q2.2)) (As := [.int y_0]) (rest := []) C hw jnW (kX2_no ad hq2) kl_RX2_36 ki_yX2_no ks_yX2_no kn_RX2 kc_yX2_no ⟨rfl, rfl⟩ hdX2_no ⟨Nat.le_of_ble_eq_true rfl, Nat.le_of_ble_eq_true rfl⟩ (ci := 2) (q0 := 0) rfl rfl rfl rfl hl.1 (Nat.le_of_ble_eq_true rfl) dX2_two_42 ⟨Nat.zero_le _, Nat.zero_le _⟩ (fun H locs hw => ?_)
    obtain rfl := some_e h
    exact rtI C hr hw dX2_two_45
set_option maxHeartbeats 4000000 in
set_option maxRecDepth 100000 in
theorem kX2_two_31 (C : Cx p s m args meth c cX2_two 9 RX2 D cA g A) (hr : meth.sig.returnType = (some .int)) {z : (Int32 × VS)} (x : (VS) × (Int32) × (Int32) × (Int32)) (h : fX2_two_31 x = some z) : GX2_two_31 p l e s m args below meth c D cA A ad z x := by
  obtain ⟨Y, x_1, x_2, x_3⟩ := x
  intro H locs ls hw hl
  have hw : Wd D A s.heap (wM cA ad Y) H locs := hw
  have hl : lv_has ls 9 [(0, .ref (ad 0)), (1, .int x_1), (2, .int x_2), (3, .int x_3)] := hl
  have hx := C.1.1
  have hb := C.1.2.1
  have h : (fX2_two_32 (Y, x_1, x_2, x_3, (-1))) = some z := h
  refine lv_iconst (v := (-1)) hx hb dX2_two_31 (by decide) ?_
  exact kX2_two_32 C hr (Y, x_1, x_2, x_3, (-1)) h _ _ _ hw (lv_sub hl [0, 1, 2, 3] rfl)
set_option maxHeartbeats 4000000 in
set_option maxRecDepth 100000 in
theorem kX2_two (ad : Nat → Nat) {Y : VS} {a_1 : Int32} {a_2 : Int32} {a_3 : Int32} {z : (Int32 × VS)} (h : fX2_two Y a_1 a_2 a_3 = some z) : MI l D cA g yX2_two (Cond.code yX2_two cX2_two 9 (some .int) :: lw_g) rmX2_two [.ref (ad 0), .int a_1, .int a_2, .int a_3] (wM cA ad Y) z.1 (wM cA ad z.2) := by
  intro sz
  refine Met.ofW (cc := cX2_two) (maxL := 9) (ret := (some .int)) (by decide) rfl ?_
  intro p e s m args below meth c s₁ B hml hv
  obtain ⟨rfl, C, hr, hw⟩ := ent B hml hv
  generalize va_A (wM cA ad Y) sz = A at C hw ⊢
  have hl := lv_entry ([.ref (ad 0), .int a_1, .int a_2, .int a_3]) (n := 9) (Nat.le_of_ble_eq_true rfl)
  rw [lg_entry_eq]
  generalize (lg_sl ([.ref (ad 0), .int a_1, .int a_2, .int a_3]) ++ List.replicate (9 - (lg_sl ([.ref (ad 0), .int a_1, .int a_2, .int a_3])).length) Slot.unset).toArray = ls at hl ⊢
  have hl : lv_has ls 9 [(0, .ref (ad 0)), (1, .int a_1), (2, .int a_2), (3, .int a_3)] := hl
  have hx := C.1.1
  have hb := C.1.2.1
  have h : (cl (fX2_isReader Y a_1) (fun r1 => if r1 = 0 then fX2_two_31 (Y, a_1, a_2, a_3) else cl (fX2_isReader Y a_2) (fun r3 => if r3 = 0 then fX2_two_31 (Y, a_1, a_2, a_3) else if a_1 = a_2 then fX2_two_31 (Y, a_1, a_2, a_3) else cl (fX2_wrongBy a_3 0 30) (fun r6 => fX2_two_32 (Y, a_1, a_2, a_3, r6))))) = some z := h
  refine lv_aload_n hx hb dX2_two_0 rfl (lv_at hl 0 rfl) ?_
  refine lv_iload_n hx hb dX2_two_1 rfl (lv_at hl 1 rfl) ?_
  obtain ⟨r1, hr1, h⟩ := cl_some h
  refine cVi (ws2 := (wM cA ad Y)) (As := [.int a_1]) (rest := []) C hw jnW (kX2_isReader ad hr1) kl_RX2_147 ki_yX2_isReader ks_yX2_isReader kn_RX2 kc_yX2_isReader ⟨rfl, rfl⟩ hdX2_isReader ⟨Nat.le_of_ble_eq_true rfl, Nat.le_of_ble_eq_true rfl⟩ (ci := 2) (q0 := 0) rfl rfl rfl rfl hl.1 (Nat.le_of_ble_eq_true rfl) dX2_two_2 ⟨Nat.zero_le _, Nat.zero_le _⟩ (fun H locs hw => ?_)
  refine lv_if_eq (tgt := 31) hx hb dX2_two_5 (by decide) (fun c2 => ?_) (fun c2 => ?_)
  · replace h := (if_pos c2).symm.trans h
    exact kX2_two_31 C hr (Y, a_1, a_2, a_3) h _ _ _ hw (lv_sub hl [0, 1, 2, 3] rfl)
  · replace h := (if_neg c2).symm.trans h
    refine lv_aload_n hx hb dX2_two_8 rfl (lv_at hl 0 rfl) ?_
    refine lv_iload_n hx hb dX2_two_9 rfl (lv_at hl 2 rfl) ?_
    obtain ⟨r3, hr3, h⟩ := cl_some h
    refine cVi (ws2 := (wM cA ad Y)) (As := [.int a_2]) (rest := []) C hw jnW (kX2_isReader ad hr3) kl_RX2_147 ki_yX2_isReader ks_yX2_isReader kn_RX2 kc_yX2_isReader ⟨rfl, rfl⟩ hdX2_isReader ⟨Nat.le_of_ble_eq_true rfl, Nat.le_of_ble_eq_true rfl⟩ (ci := 2) (q0 := 0) rfl rfl rfl rfl hl.1 (Nat.le_of_ble_eq_true rfl) dX2_two_10 ⟨Nat.zero_le _, Nat.zero_le _⟩ (fun H locs hw => ?_)
    refine lv_if_eq (tgt := 31) hx hb dX2_two_13 (by decide) (fun c4 => ?_) (fun c4 => ?_)
    · replace h := (if_pos c4).symm.trans h
      exact kX2_two_31 C hr (Y, a_1, a_2, a_3) h _ _ _ hw (lv_sub hl [0, 1, 2, 3] rfl)
    · replace h := (if_neg c4).symm.trans h
      refine lv_iload_n hx hb dX2_two_16 rfl (lv_at hl 1 rfl) ?_
      refine lv_iload_n hx hb dX2_two_17 rfl (lv_at hl 2 rfl) ?_
      refine lv_icmp_eq (tgt := 31) hx hb dX2_two_18 (by decide) (fun c5 => ?_) (fun c5 => ?_)
      · replace h := (if_pos c5).symm.trans h
        exact kX2_two_31 C hr (Y, a_1, a_2, a_3) h _ _ _ hw (lv_sub hl [0, 1, 2, 3] rfl)
      · replace h := (if_neg c5).symm.trans h
        refine lv_iload_n hx hb dX2_two_21 rfl (lv_at hl 3 rfl) ?_
        refine lv_iconst (v := 0) hx hb dX2_two_22 (by decide) ?_
        refine lv_bipush (v := 30) hx hb dX2_two_23 (by decide) ?_
        obtain ⟨r6, hr6, h⟩ := cl_some h
        refine cSi (ws2 := (wM cA ad Y)) (As := [.int a_3, .int 0, .int 30]) (rest := []) C hw jnE (kX2_wrongBy hr6) kl_RX2_153 kt_yX2_wrongBy kn_RX2 kc_yX2_wrongBy ⟨rfl, rfl⟩ hdX2_wrongBy ⟨Nat.le_of_ble_eq_true rfl, Nat.le_of_ble_eq_true rfl⟩ rfl hl.1 (Nat.le_of_ble_eq_true rfl) dX2_two_25 ⟨Nat.zero_le _, Nat.zero_le _⟩ (fun H locs hw => ?_)
        refine lv_goto (tgt := 32) hx hb dX2_two_28 (by decide) ?_
        exact kX2_two_32 C hr (Y, a_1, a_2, a_3, r6) h _ _ _ hw (lv_sub hl [0, 1, 2, 3] rfl)
abbrev rmX2_gcd : Room := { frames := 0, cells := 0, slots := 0, locals := 0 }
theorem hdX2_gcd : yX2_gcd.cls ≠ "java/lang/invoke/MethodHandle" ∧ yX2_gcd.cls ≠ "java/lang/invoke/VarHandle" ∧ (parseMethodDescriptor yX2_gcd.desc).map (fun d => d.parameters.length) = some 2 := by decide +kernel
def GX2_gcd_6 (p : Program) (l : Launch) (e : Env) (s : State) (m : MethodId) (args : Array Value) (below : List Frame) (meth : Method) (c : Code) (D : va_G) (cA : ClassId) (A : Nat → Prop)  (z : Int64) (x : (Int64) × (Int64)) : Prop := ∀ (H : Heap) (locs : List Loc) (ls : Array Slot), Wd D A s.heap ([] : va_W) H locs → lv_has ls 10 [(4, .long x.1), (6, .long x.2)] → W p l e rmX2_gcd s m args below meth c H locs 0 0 (MQ below (QL D cA A z ([] : va_W)) args s 0 0 A) (F0 m 6 ls [])
def fX2_gcd_6 (k6 : ((Int64) × (Int64)) → Option Int64) : ((Int64) × (Int64)) → Option Int64 := fun x => match x with | (x_4, x_6) => if (lg_cmp x_6 (0 : Int64)) = 0 then some x_4 else dvl x_6 (bn (x_4 - x_4 / x_6 * x_6) (fun x3 => k6 (x_6, x3)))
def fX2_gcd (a_0 : Int64) (a_2 : Int64) : Option Int64 := lp (fX2_gcd_6) 5000 (a_0, a_2)
set_option maxHeartbeats 4000000 in
set_option maxRecDepth 100000 in
theorem kX2_gcd_6 (C : Cx p s m args meth c cX2_gcd 10 RX2 D cA g A) (hr : meth.sig.returnType = (some .long)) {z : Int64} (k6 : ((Int64) × (Int64)) → Option Int64) (hk6 : ∀ x, k6 x = some z → GX2_gcd_6 p l e s m args below meth c D cA A  z x) (x : (Int64) × (Int64)) (h : fX2_gcd_6 k6 x = some z) : GX2_gcd_6 p l e s m args below meth c D cA A  z x := by
  obtain ⟨x_4, x_6⟩ := x
  intro H locs ls hw hl
  have hw : Wd D A s.heap ([] : va_W) H locs := hw
  have hl : lv_has ls 10 [(4, .long x_4), (6, .long x_6)] := hl
  have hx := C.1.1
  have hb := C.1.2.1
  have h : (if (lg_cmp x_6 (0 : Int64)) = 0 then some x_4 else dvl x_6 (bn (x_4 - x_4 / x_6 * x_6) (fun x3 => k6 (x_6, x3)))) = some z := h
  refine lv_lload hx hb dX2_gcd_6 (lv_at hl 1 rfl) ?_
  refine lv_lconst (v := 0) hx hb dX2_gcd_8 (by decide) ?_
  refine W.lcmp hx hb dX2_gcd_9 ?_
  refine lv_if_eq (tgt := 31) hx hb dX2_gcd_10 (by decide) (fun c1 => ?_) (fun c1 => ?_)
  · replace h := (if_pos c1).symm.trans h
    refine lv_lload hx hb dX2_gcd_31 (lv_at hl 0 rfl) ?_
    obtain rfl := some_e h
    exact rtL C hr hw dX2_gcd_33
  · replace h := (if_neg c1).symm.trans h
    refine lv_lload hx hb dX2_gcd_13 (lv_at hl 0 rfl) ?_
    refine lv_lload hx hb dX2_gcd_15 (lv_at hl 1 rfl) ?_
    obtain ⟨hn2, h⟩ := dvl_some h
    refine lv_lrem hx hb dX2_gcd_17 hn2 ?_
    refine lv_topl (fun x3 ex3 => ?_)
    replace h := bn_some h ex3
    refine lv_lstore (lv' := [(8, .long x3), (4, .long x_4), (6, .long x_6)]) hx hb dX2_gcd_18 hl (by decide) rfl (fun ls hl => ?_)
    refine lv_lload hx hb dX2_gcd_20 (lv_at hl 2 rfl) ?_
    refine lv_lstore (lv' := [(4, .long x_6), (8, .long x3), (6, .long x_6)]) hx hb dX2_gcd_22 hl (by decide) rfl (fun ls hl => ?_)
    refine lv_lload hx hb dX2_gcd_24 (lv_at hl 1 rfl) ?_
    refine lv_lstore (lv' := [(6, .long x3), (4, .long x_6), (8, .long x3)]) hx hb dX2_gcd_26 hl (by decide) rfl (fun ls hl => ?_)
    refine lv_goto (tgt := 6) hx hb dX2_gcd_28 (by decide) ?_
    exact hk6 (x_6, x3) h _ _ _ hw (lv_sub hl [1, 0] rfl)
theorem lX2_gcd_6 (C : Cx p s m args meth c cX2_gcd 10 RX2 D cA g A) (hr : meth.sig.returnType = (some .long)) {z : Int64} (n : Nat) (x : (Int64) × (Int64)) (h : lp (fX2_gcd_6) n x = some z) : GX2_gcd_6 p l e s m args below meth c D cA A  z x := lp_ok (GX2_gcd_6 p l e s m args below meth c D cA A  z) (fun kq hkq x h => kX2_gcd_6 C hr kq hkq x h) n x h
set_option maxHeartbeats 4000000 in
set_option maxRecDepth 100000 in
theorem kX2_gcd  {a_0 : Int64} {a_2 : Int64} {z : Int64} (h : fX2_gcd a_0 a_2 = some z) : ML l D cA g yX2_gcd (Cond.code yX2_gcd cX2_gcd 10 (some .long) :: lw_g) rmX2_gcd [.long a_0, .long a_2] ([] : va_W) z ([] : va_W) := by
  intro sz
  refine Met.ofW (cc := cX2_gcd) (maxL := 10) (ret := (some .long)) (by decide) rfl ?_
  intro p e s m args below meth c s₁ B hml hv
  obtain ⟨rfl, C, hr, hw⟩ := ent B hml hv
  generalize va_A ([] : va_W) sz = A at C hw ⊢
  have hl := lv_entry ([.long a_0, .long a_2]) (n := 10) (Nat.le_of_ble_eq_true rfl)
  rw [lg_entry_eq]
  generalize (lg_sl ([.long a_0, .long a_2]) ++ List.replicate (10 - (lg_sl ([.long a_0, .long a_2])).length) Slot.unset).toArray = ls at hl ⊢
  have hl : lv_has ls 10 [(0, .long a_0), (2, .long a_2)] := hl
  have hx := C.1.1
  have hb := C.1.2.1
  have h : (lp (fX2_gcd_6) 5000 (a_0, a_2)) = some z := h
  refine lv_lload_n hx hb dX2_gcd_0 rfl (lv_at hl 0 rfl) ?_
  refine lv_lstore (lv' := [(4, .long a_0), (0, .long a_0), (2, .long a_2)]) hx hb dX2_gcd_1 hl (by decide) rfl (fun ls hl => ?_)
  refine lv_lload_n hx hb dX2_gcd_3 rfl (lv_at hl 2 rfl) ?_
  refine lv_lstore (lv' := [(6, .long a_2), (4, .long a_0), (0, .long a_0), (2, .long a_2)]) hx hb dX2_gcd_4 hl (by decide) rfl (fun ls hl => ?_)
  exact lX2_gcd_6 C hr 5000 (a_0, a_2) h _ _ _ hw (lv_sub hl [1, 0] rfl)
abbrev rmX2_partOf : Room := { frames := 1, cells := 0, slots := 0, locals := 29 }
theorem hdX2_partOf : yX2_partOf.cls ≠ "java/lang/invoke/MethodHandle" ∧ yX2_partOf.cls ≠ "java/lang/invoke/VarHandle" ∧ (parseMethodDescriptor yX2_partOf.desc).map (fun d => d.parameters.length) = some 3 := by decide +kernel
def GX2_partOf_20 (p : Program) (l : Launch) (e : Env) (s : State) (m : MethodId) (args : Array Value) (below : List Frame) (meth : Method) (c : Code) (D : va_G) (cA : ClassId) (A : Nat → Prop)  (z : Int64) (x : (Int64) × (Int64) × (Int64)) : Prop := ∀ (H : Heap) (locs : List Loc) (ls : Array Slot), Wd D A s.heap ([] : va_W) H locs → lv_has ls 5 [(0, .long x.1), (2, .long x.2.1)] → W p l e rmX2_partOf s m args below meth c H locs 0 0 (MQ below (QL D cA A z ([] : va_W)) args s 0 0 A) (F0 m 20 ls [.long x.2.2])
def fX2_partOf_20 : ((Int64) × (Int64) × (Int64)) → Option Int64 := fun x => match x with | (x_0, x_2, y_0) => cl (fX2_gcd x_0 x_2) (fun r1 => dvl r1 (some (y_0 / r1)))
def fX2_partOf (a_0 : Int64) (a_2 : Int64) (a_4 : Int32) : Option Int64 := if (lg_cmp a_0 (0 : Int64)) = 0 then some ((a_4 : Int32).toInt64) else if a_4 = 0 then fX2_partOf_20 (a_0, a_2, a_0) else fX2_partOf_20 (a_0, a_2, a_2)
set_option maxHeartbeats 4000000 in
set_option maxRecDepth 100000 in
theorem kX2_partOf_20 (C : Cx p s m args meth c cX2_partOf 5 RX2 D cA g A) (hr : meth.sig.returnType = (some .long)) {z : Int64} (x : (Int64) × (Int64) × (Int64)) (h : fX2_partOf_20 x = some z) : GX2_partOf_20 p l e s m args below meth c D cA A  z x := by
  obtain ⟨x_0, x_2, y_0⟩ := x
  intro H locs ls hw hl
  have hw : Wd D A s.heap ([] : va_W) H locs := hw
  have hl : lv_has ls 5 [(0, .long x_0), (2, .long x_2)] := hl
  show W p l e rmX2_partOf s m args below meth c H locs 0 0 (MQ below (QL D cA A z ([] : va_W)) args s 0 0 A) (F0 m 20 ls [.long y_0])
  have hx := C.1.1
  have hb := C.1.2.1
  have h : (cl (fX2_gcd x_0 x_2) (fun r1 => dvl r1 (some (y_0 / r1)))) = some z := h
  refine lv_lload_n hx hb dX2_partOf_20 rfl (lv_at hl 0 rfl) ?_
  refine lv_lload_n hx hb dX2_partOf_21 rfl (lv_at hl 1 rfl) ?_
  obtain ⟨r1, hr1, h⟩ := cl_some h
  refine cSl (ws2 := ([] : va_W)) (As := [.long x_0, .long x_2]) (rest := [.long y_0]) C hw jnE (kX2_gcd hr1) kl_RX2_204 kt_yX2_gcd kn_RX2 kc_yX2_gcd ⟨rfl, rfl⟩ hdX2_gcd ⟨Nat.le_of_ble_eq_true rfl, Nat.le_of_ble_eq_true rfl⟩ rfl hl.1 (Nat.le_of_ble_eq_true rfl) dX2_partOf_22 ⟨Nat.zero_le _, Nat.zero_le _⟩ (fun H locs hw => ?_)
  obtain ⟨hn2, h⟩ := dvl_some h
  refine lv_ldiv hx hb dX2_partOf_25 hn2 ?_
  obtain rfl := some_e h
  exact rtL C hr hw dX2_partOf_26
set_option maxHeartbeats 4000000 in
set_option maxRecDepth 100000 in
theorem kX2_partOf  {a_0 : Int64} {a_2 : Int64} {a_4 : Int32} {z : Int64} (h : fX2_partOf a_0 a_2 a_4 = some z) : ML l D cA g yX2_partOf (Cond.code yX2_partOf cX2_partOf 5 (some .long) :: lw_g) rmX2_partOf [.long a_0, .long a_2, .int a_4] ([] : va_W) z ([] : va_W) := by
  intro sz
  refine Met.ofW (cc := cX2_partOf) (maxL := 5) (ret := (some .long)) (by decide) rfl ?_
  intro p e s m args below meth c s₁ B hml hv
  obtain ⟨rfl, C, hr, hw⟩ := ent B hml hv
  generalize va_A ([] : va_W) sz = A at C hw ⊢
  have hl := lv_entry ([.long a_0, .long a_2, .int a_4]) (n := 5) (Nat.le_of_ble_eq_true rfl)
  rw [lg_entry_eq]
  generalize (lg_sl ([.long a_0, .long a_2, .int a_4]) ++ List.replicate (5 - (lg_sl ([.long a_0, .long a_2, .int a_4])).length) Slot.unset).toArray = ls at hl ⊢
  have hl : lv_has ls 5 [(0, .long a_0), (2, .long a_2), (4, .int a_4)] := hl
  have hx := C.1.1
  have hb := C.1.2.1
  have h : (if (lg_cmp a_0 (0 : Int64)) = 0 then some ((a_4 : Int32).toInt64) else if a_4 = 0 then fX2_partOf_20 (a_0, a_2, a_0) else fX2_partOf_20 (a_0, a_2, a_2)) = some z := h
  refine lv_lload_n hx hb dX2_partOf_0 rfl (lv_at hl 0 rfl) ?_
  refine lv_lconst (v := 0) hx hb dX2_partOf_1 (by decide) ?_
  refine W.lcmp hx hb dX2_partOf_2 ?_
  refine lv_if_ne (tgt := 10) hx hb dX2_partOf_3 (by decide) (fun c1 => ?_) (fun c1 => ?_)
  · replace h := (if_neg c1).symm.trans h
    refine lv_iload hx hb dX2_partOf_10 (lv_at hl 2 rfl) ?_
    refine lv_if_ne (tgt := 19) hx hb dX2_partOf_12 (by decide) (fun c2 => ?_) (fun c2 => ?_)
    · replace h := (if_neg c2).symm.trans h
      refine lv_lload_n hx hb dX2_partOf_19 rfl (lv_at hl 1 rfl) ?_
      exact kX2_partOf_20 C hr (a_0, a_2, a_2) h _ _ _ hw (lv_sub hl [0, 1] rfl)
    · replace h := (if_pos c2).symm.trans h
      refine lv_lload_n hx hb dX2_partOf_15 rfl (lv_at hl 0 rfl) ?_
      refine lv_goto (tgt := 20) hx hb dX2_partOf_16 (by decide) ?_
      exact kX2_partOf_20 C hr (a_0, a_2, a_0) h _ _ _ hw (lv_sub hl [0, 1] rfl)
  · replace h := (if_pos c1).symm.trans h
    refine lv_iload hx hb dX2_partOf_6 (lv_at hl 2 rfl) ?_
    refine lv_i2l (v := (a_4 : Int32).toInt64) hx hb dX2_partOf_8 rfl ?_
    obtain rfl := some_e h
    exact rtL C hr hw dX2_partOf_9
abbrev rmX2_rain : Room := { frames := 6, cells := 0, slots := 0, locals := 137 }
theorem hdX2_rain : yX2_rain.cls = RX2 ∧ yX2_rain.cls ≠ "java/lang/invoke/MethodHandle" ∧ yX2_rain.cls ≠ "java/lang/invoke/VarHandle" ∧ (parseMethodDescriptor yX2_rain.desc).map (fun d => d.parameters.length) = some 4 := by decide +kernel
def GX2_rain_23 (p : Program) (l : Launch) (e : Env) (s : State) (m : MethodId) (args : Array Value) (below : List Frame) (meth : Method) (c : Code) (D : va_G) (cA : ClassId) (A : Nat → Prop) (ad : Nat → Nat) (z : (Int64 × VS)) (x : (VS)) : Prop := ∀ (H : Heap) (locs : List Loc) (ls : Array Slot), Wd D A s.heap (wM cA ad x) H locs → lv_has ls 13 [(0, .ref (ad 0))] → W p l e rmX2_rain s m args below meth c H locs 0 0 (MQ below (QL D cA A z.1 (wM cA ad z.2)) args s 0 0 A) (F0 m 23 ls [])
def GX2_rain_42 (p : Program) (l : Launch) (e : Env) (s : State) (m : MethodId) (args : Array Value) (below : List Frame) (meth : Method) (c : Code) (D : va_G) (cA : ClassId) (A : Nat → Prop) (ad : Nat → Nat) (z : (Int64 × VS)) (x : (VS)) : Prop := ∀ (H : Heap) (locs : List Loc) (ls : Array Slot), Wd D A s.heap (wM cA ad x) H locs → lv_has ls 13 [(0, .ref (ad 0))] → W p l e rmX2_rain s m args below meth c H locs 0 0 (MQ below (QL D cA A z.1 (wM cA ad z.2)) args s 0 0 A) (F0 m 42 ls [])
def GX2_rain_200 (p : Program) (l : Launch) (e : Env) (s : State) (m : MethodId) (args : Array Value) (below : List Frame) (meth : Method) (c : Code) (D : va_G) (cA : ClassId) (A : Nat → Prop) (ad : Nat → Nat) (z : (Int64 × VS)) (x : (VS) × (Int32) × (Int32) × (Int32) × (Int32) × (Int64) × (Int32) × (Int64) × (Int64)) : Prop := ∀ (H : Heap) (locs : List Loc) (ls : Array Slot), Wd D A s.heap (wM cA ad x.1) H locs → lv_has ls 13 [(0, .ref (ad 0)), (1, .int x.2.1), (2, .int x.2.2.1), (3, .int x.2.2.2.1), (4, .int x.2.2.2.2.1), (7, .long x.2.2.2.2.2.1), (9, .int x.2.2.2.2.2.2.1)] → W p l e rmX2_rain s m args below meth c H locs 0 0 (MQ below (QL D cA A z.1 (wM cA ad z.2)) args s 0 0 A) (F0 m 200 ls [.long x.2.2.2.2.2.2.2.1, .long x.2.2.2.2.2.2.2.2])
def GX2_rain_170 (p : Program) (l : Launch) (e : Env) (s : State) (m : MethodId) (args : Array Value) (below : List Frame) (meth : Method) (c : Code) (D : va_G) (cA : ClassId) (A : Nat → Prop) (ad : Nat → Nat) (z : (Int64 × VS)) (x : (VS) × (Int32) × (Int32) × (Int32) × (Int32) × (Int64) × (Int64) × (Int32) × (Int64) × (Int32) × (Int32)) : Prop := ∀ (H : Heap) (locs : List Loc) (ls : Array Slot), Wd D A s.heap (wM cA ad x.1) H locs → lv_has ls 13 [(0, .ref (ad 0)), (1, .int x.2.1), (2, .int x.2.2.1), (3, .int x.2.2.2.1), (4, .int x.2.2.2.2.1), (5, .long x.2.2.2.2.2.1), (7, .long x.2.2.2.2.2.2.1), (9, .int x.2.2.2.2.2.2.2.1), (10, .long x.2.2.2.2.2.2.2.2.1), (12, .int x.2.2.2.2.2.2.2.2.2.1)] → W p l e rmX2_rain s m args below meth c H locs 0 0 (MQ below (QL D cA A z.1 (wM cA ad z.2)) args s 0 0 A) (F0 m 170 ls [.int x.2.2.2.2.2.2.2.2.2.2, .ref (ad 2)])
def GX2_rain_148 (p : Program) (l : Launch) (e : Env) (s : State) (m : MethodId) (args : Array Value) (below : List Frame) (meth : Method) (c : Code) (D : va_G) (cA : ClassId) (A : Nat → Prop) (ad : Nat → Nat) (z : (Int64 × VS)) (x : (VS) × (Int32) × (Int32) × (Int32) × (Int32) × (Int64) × (Int64) × (Int32) × (Int32) × (Int64) × (Int64)) : Prop := ∀ (H : Heap) (locs : List Loc) (ls : Array Slot), Wd D A s.heap (wM cA ad x.1) H locs → lv_has ls 13 [(0, .ref (ad 0)), (1, .int x.2.1), (2, .int x.2.2.1), (3, .int x.2.2.2.1), (4, .int x.2.2.2.2.1), (5, .long x.2.2.2.2.2.1), (7, .long x.2.2.2.2.2.2.1), (9, .int x.2.2.2.2.2.2.2.1), (12, .int x.2.2.2.2.2.2.2.2.1)] → W p l e rmX2_rain s m args below meth c H locs 0 0 (MQ below (QL D cA A z.1 (wM cA ad z.2)) args s 0 0 A) (F0 m 148 ls [.long x.2.2.2.2.2.2.2.2.2.1, .long x.2.2.2.2.2.2.2.2.2.2])
def GX2_rain_122 (p : Program) (l : Launch) (e : Env) (s : State) (m : MethodId) (args : Array Value) (below : List Frame) (meth : Method) (c : Code) (D : va_G) (cA : ClassId) (A : Nat → Prop) (ad : Nat → Nat) (z : (Int64 × VS)) (x : (VS) × (Int32) × (Int32) × (Int32) × (Int32) × (Int64) × (Int64) × (Int32) × (Int64) × (Int32)) : Prop := ∀ (H : Heap) (locs : List Loc) (ls : Array Slot), Wd D A s.heap (wM cA ad x.1) H locs → lv_has ls 13 [(0, .ref (ad 0)), (1, .int x.2.1), (2, .int x.2.2.1), (3, .int x.2.2.2.1), (4, .int x.2.2.2.2.1), (5, .long x.2.2.2.2.2.1), (7, .long x.2.2.2.2.2.2.1), (9, .int x.2.2.2.2.2.2.2.1), (10, .long x.2.2.2.2.2.2.2.2.1), (12, .int x.2.2.2.2.2.2.2.2.2)] → W p l e rmX2_rain s m args below meth c H locs 0 0 (MQ below (QL D cA A z.1 (wM cA ad z.2)) args s 0 0 A) (F0 m 122 ls [])
def GX2_rain_97 (p : Program) (l : Launch) (e : Env) (s : State) (m : MethodId) (args : Array Value) (below : List Frame) (meth : Method) (c : Code) (D : va_G) (cA : ClassId) (A : Nat → Prop) (ad : Nat → Nat) (z : (Int64 × VS)) (x : (VS) × (Int32) × (Int32) × (Int32) × (Int32) × (Int64) × (Int64) × (Int32)) : Prop := ∀ (H : Heap) (locs : List Loc) (ls : Array Slot), Wd D A s.heap (wM cA ad x.1) H locs → lv_has ls 13 [(0, .ref (ad 0)), (1, .int x.2.1), (2, .int x.2.2.1), (3, .int x.2.2.2.1), (4, .int x.2.2.2.2.1), (5, .long x.2.2.2.2.2.1), (7, .long x.2.2.2.2.2.2.1), (9, .int x.2.2.2.2.2.2.2)] → W p l e rmX2_rain s m args below meth c H locs 0 0 (MQ below (QL D cA A z.1 (wM cA ad z.2)) args s 0 0 A) (F0 m 97 ls [])
def GX2_rain_75 (p : Program) (l : Launch) (e : Env) (s : State) (m : MethodId) (args : Array Value) (below : List Frame) (meth : Method) (c : Code) (D : va_G) (cA : ClassId) (A : Nat → Prop) (ad : Nat → Nat) (z : (Int64 × VS)) (x : (VS) × (Int32) × (Int32) × (Int32) × (Int32) × (Int64) × (Int64) × (Int32)) : Prop := ∀ (H : Heap) (locs : List Loc) (ls : Array Slot), Wd D A s.heap (wM cA ad x.1) H locs → lv_has ls 13 [(0, .ref (ad 0)), (1, .int x.2.1), (2, .int x.2.2.1), (3, .int x.2.2.2.1), (4, .int x.2.2.2.2.1), (5, .long x.2.2.2.2.2.1), (7, .long x.2.2.2.2.2.2.1), (9, .int x.2.2.2.2.2.2.2)] → W p l e rmX2_rain s m args below meth c H locs 0 0 (MQ below (QL D cA A z.1 (wM cA ad z.2)) args s 0 0 A) (F0 m 75 ls [])
def fX2_rain_23 : ((VS)) → Option (Int64 × VS) := fun Y => cl (fX2_noWide Y (-4)) (fun q1 => some (q1.1, q1.2))
def fX2_rain_42 : ((VS)) → Option (Int64 × VS) := fun Y => cl (fX2_noWide Y (-6)) (fun q1 => some (q1.1, q1.2))
def fX2_rain_200 (k97 : ((VS) × (Int32) × (Int32) × (Int32) × (Int32) × (Int64) × (Int64) × (Int32)) → Option (Int64 × VS)) : ((VS) × (Int32) × (Int32) × (Int32) × (Int32) × (Int64) × (Int32) × (Int64) × (Int64)) → Option (Int64 × VS) := fun x => match x with | (Y, x_1, x_2, x_3, x_4, x_7, x_9, y_0, y_1) => bn (y_1 + y_0) (fun x1 => bn (x_9 + 1) (fun x2 => k97 (Y, x_1, x_2, x_3, x_4, x1, x_7, x2)))
def fX2_rain_170 (k97 : ((VS) × (Int32) × (Int32) × (Int32) × (Int32) × (Int64) × (Int64) × (Int32)) → Option (Int64 × VS)) (k122 : ((VS) × (Int32) × (Int32) × (Int32) × (Int32) × (Int64) × (Int64) × (Int32) × (Int64) × (Int32)) → Option (Int64 × VS)) : ((VS) × (Int32) × (Int32) × (Int32) × (Int32) × (Int64) × (Int64) × (Int32) × (Int64) × (Int32) × (Int32)) → Option (Int64 × VS) := fun x => match x with | (Y, x_1, x_2, x_3, x_4, x_5, x_7, x_9, x_10, x_12, y_0) => cl (fX2_night (Y 1) y_0) (fun w1 => bn (up Y 1 w1) (fun w2 => bn (x_12 + 1) (fun x3 => k122 (w2, x_1, x_2, x_3, x_4, x_5, x_7, x_9, x_10, x3))))
def fX2_rain_148 (k97 : ((VS) × (Int32) × (Int32) × (Int32) × (Int32) × (Int64) × (Int64) × (Int32)) → Option (Int64 × VS)) (k122 : ((VS) × (Int32) × (Int32) × (Int32) × (Int32) × (Int64) × (Int64) × (Int32) × (Int64) × (Int32)) → Option (Int64 × VS)) : ((VS) × (Int32) × (Int32) × (Int32) × (Int32) × (Int64) × (Int64) × (Int32) × (Int32) × (Int64) × (Int64)) → Option (Int64 × VS) := fun x => match x with | (Y, x_1, x_2, x_3, x_4, x_5, x_7, x_9, x_12, y_0, y_1) => bn (y_1 * y_0) (fun x1 => cl (fX2_has x_9 x_12) (fun r2 => if r2 = 0 then fX2_rain_170 k97 k122 (Y, x_1, x_2, x_3, x_4, x_5, x_7, x_9, x1, x_12, (-1)) else fX2_rain_170 k97 k122 (Y, x_1, x_2, x_3, x_4, x_5, x_7, x_9, x1, x_12, 0)))
def fX2_rain_122 (k97 : ((VS) × (Int32) × (Int32) × (Int32) × (Int32) × (Int64) × (Int64) × (Int32)) → Option (Int64 × VS)) (k122 : ((VS) × (Int32) × (Int32) × (Int32) × (Int32) × (Int64) × (Int64) × (Int32) × (Int64) × (Int32)) → Option (Int64 × VS)) : ((VS) × (Int32) × (Int32) × (Int32) × (Int32) × (Int64) × (Int64) × (Int32) × (Int64) × (Int32)) → Option (Int64 × VS) := fun x => match x with | (Y, x_1, x_2, x_3, x_4, x_5, x_7, x_9, x_10, x_12) => if x_2 ≤ x_12 then cl (fX2_wordsOf (Y 1) x_1) (fun r2 => if r2 = 63 then fX2_rain_200 k97 (Y, x_1, x_2, x_3, x_4, x_7, x_9, x_10, x_5) else fX2_rain_200 k97 (Y, x_1, x_2, x_3, x_4, x_7, x_9, 0, x_5)) else cl (fX2_has x_9 x_12) (fun r4 => if r4 = 0 then fX2_rain_148 k97 k122 (Y, x_1, x_2, x_3, x_4, x_5, x_7, x_9, x_12, ((x_3 - (1 : Int32)) : Int32).toInt64, x_10) else fX2_rain_148 k97 k122 (Y, x_1, x_2, x_3, x_4, x_5, x_7, x_9, x_12, 1, x_10))
def fX2_rain_97 (k97 : ((VS) × (Int32) × (Int32) × (Int32) × (Int32) × (Int64) × (Int64) × (Int32)) → Option (Int64 × VS)) : ((VS) × (Int32) × (Int32) × (Int32) × (Int32) × (Int64) × (Int64) × (Int32)) → Option (Int64 × VS) := fun x => match x with | (Y, x_1, x_2, x_3, x_4, x_5, x_7, x_9) => if ((1 : Int32) <<< (x_2 &&& 31)) ≤ x_9 then cl (fX2_partOf x_5 x_7 x_4) (fun r2 => some (r2, Y)) else cl (fX2_copies (Y 0) (Y 1)) (fun w3 => bn (up Y 1 w3) (fun w4 => lp (fX2_rain_122 k97) 5000 (w4, x_1, x_2, x_3, x_4, x_5, x_7, x_9, 1, 0)))
def fX2_rain_75 (k75 : ((VS) × (Int32) × (Int32) × (Int32) × (Int32) × (Int64) × (Int64) × (Int32)) → Option (Int64 × VS)) : ((VS) × (Int32) × (Int32) × (Int32) × (Int32) × (Int64) × (Int64) × (Int32)) → Option (Int64 × VS) := fun x => match x with | (Y, x_1, x_2, x_3, x_4, x_5, x_7, x_9) => if x_2 ≤ x_9 then lp (fX2_rain_97) 5000 (Y, x_1, x_2, x_3, x_4, x_5, x_7, 0) else bn (x_7 * (x_3 : Int32).toInt64) (fun x2 => bn (x_9 + 1) (fun x3 => k75 (Y, x_1, x_2, x_3, x_4, x_5, x2, x3)))
def fX2_rain (Y : VS) (a_1 : Int32) (a_2 : Int32) (a_3 : Int32) (a_4 : Int32) : Option (Int64 × VS) := cl (fX2_isReader Y a_1) (fun r1 => if r1 = 0 then cl (fX2_noWide Y (-1)) (fun q10 => some (q10.1, q10.2)) else if a_2 < 0 then fX2_rain_23 Y else if 2 ≤ a_3 then if 7 < a_2 then fX2_rain_42 Y else if a_3 ≤ 20 then cl (fX2_isIn a_4 0 1) (fun r7 => if r7 = 0 then cl (fX2_noWide Y (-2)) (fun q9 => some (q9.1, q9.2)) else lp (fX2_rain_75) 5000 (Y, a_1, a_2, a_3, a_4, 0, 1, 0)) else fX2_rain_42 Y else fX2_rain_23 Y)
set_option maxHeartbeats 4000000 in
set_option maxRecDepth 100000 in
theorem kX2_rain_23 (C : Cx p s m args meth c cX2_rain 13 RX2 D cA g A) (hr : meth.sig.returnType = (some .long)) {z : (Int64 × VS)} (x : (VS)) (h : fX2_rain_23 x = some z) : GX2_rain_23 p l e s m args below meth c D cA A ad z x := by
  obtain ⟨Y, rfl⟩ : ∃ y, y = x := ⟨_, rfl⟩
  intro H locs ls hw hl
  have hw : Wd D A s.heap (wM cA ad Y) H locs := hw
  have hl : lv_has ls 13 [(0, .ref (ad 0))] := hl
  have hx := C.1.1
  have hb := C.1.2.1
  have h : (cl (fX2_noWide Y (-4)) (fun q1 => some (q1.1, q1.2))) = some z := h
  refine lv_aload_n hx hb dX2_rain_23 rfl (lv_at hl 0 rfl) ?_
  refine lv_bipush (v := (-4)) hx hb dX2_rain_24 (by decide) ?_
  obtain ⟨q1, hq1, h⟩ := cl_some h
  refine cVl (ws2 := (wM cA ad q1.2)) (As := [.int (-4)]) (rest := []) C hw jnW (kX2_noWide ad hq1) kl_RX2_208 ki_yX2_noWide ks_yX2_noWide kn_RX2 kc_yX2_noWide ⟨rfl, rfl⟩ hdX2_noWide ⟨Nat.le_of_ble_eq_true rfl, Nat.le_of_ble_eq_true rfl⟩ (ci := 2) (q0 := 0) rfl rfl rfl rfl hl.1 (Nat.le_of_ble_eq_true rfl) dX2_rain_26 ⟨Nat.zero_le _, Nat.zero_le _⟩ (fun H locs hw => ?_)
  obtain rfl := some_e h
  exact rtL C hr hw dX2_rain_29
set_option maxHeartbeats 4000000 in
set_option maxRecDepth 100000 in
theorem kX2_rain_42 (C : Cx p s m args meth c cX2_rain 13 RX2 D cA g A) (hr : meth.sig.returnType = (some .long)) {z : (Int64 × VS)} (x : (VS)) (h : fX2_rain_42 x = some z) : GX2_rain_42 p l e s m args below meth c D cA A ad z x := by
  obtain ⟨Y, rfl⟩ : ∃ y, y = x := ⟨_, rfl⟩
  intro H locs ls hw hl
  have hw : Wd D A s.heap (wM cA ad Y) H locs := hw
  have hl : lv_has ls 13 [(0, .ref (ad 0))] := hl
  have hx := C.1.1
  have hb := C.1.2.1
  have h : (cl (fX2_noWide Y (-6)) (fun q1 => some (q1.1, q1.2))) = some z := h
  refine lv_aload_n hx hb dX2_rain_42 rfl (lv_at hl 0 rfl) ?_
  refine lv_bipush (v := (-6)) hx hb dX2_rain_43 (by decide) ?_
  obtain ⟨q1, hq1, h⟩ := cl_some h
  refine cVl (ws2 := (wM cA ad q1.2)) (As := [.int (-6)]) (rest := []) C hw jnW (kX2_noWide ad hq1) kl_RX2_208 ki_yX2_noWide ks_yX2_noWide kn_RX2 kc_yX2_noWide ⟨rfl, rfl⟩ hdX2_noWide ⟨Nat.le_of_ble_eq_true rfl, Nat.le_of_ble_eq_true rfl⟩ (ci := 2) (q0 := 0) rfl rfl rfl rfl hl.1 (Nat.le_of_ble_eq_true rfl) dX2_rain_45 ⟨Nat.zero_le _, Nat.zero_le _⟩ (fun H locs hw => ?_)
  obtain rfl := some_e h
  exact rtL C hr hw dX2_rain_48
set_option maxHeartbeats 4000000 in
set_option maxRecDepth 100000 in
theorem kX2_rain_200 (C : Cx p s m args meth c cX2_rain 13 RX2 D cA g A) (hr : meth.sig.returnType = (some .long)) {z : (Int64 × VS)} (k97 : ((VS) × (Int32) × (Int32) × (Int32) × (Int32) × (Int64) × (Int64) × (Int32)) → Option (Int64 × VS)) (hk97 : ∀ x, k97 x = some z → GX2_rain_97 p l e s m args below meth c D cA A ad z x) (x : (VS) × (Int32) × (Int32) × (Int32) × (Int32) × (Int64) × (Int32) × (Int64) × (Int64)) (h : fX2_rain_200 k97 x = some z) : GX2_rain_200 p l e s m args below meth c D cA A ad z x := by
  obtain ⟨Y, x_1, x_2, x_3, x_4, x_7, x_9, y_0, y_1⟩ := x
  intro H locs ls hw hl
  have hw : Wd D A s.heap (wM cA ad Y) H locs := hw
  have hl : lv_has ls 13 [(0, .ref (ad 0)), (1, .int x_1), (2, .int x_2), (3, .int x_3), (4, .int x_4), (7, .long x_7), (9, .int x_9)] := hl
  show W p l e rmX2_rain s m args below meth c H locs 0 0 (MQ below (QL D cA A z.1 (wM cA ad z.2)) args s 0 0 A) (F0 m 200 ls [.long y_0, .long y_1])
  have hx := C.1.1
  have hb := C.1.2.1
  have h : (bn (y_1 + y_0) (fun x1 => bn (x_9 + 1) (fun x2 => k97 (Y, x_1, x_2, x_3, x_4, x1, x_7, x2)))) = some z := h
  refine lv_ladd hx hb dX2_rain_200 ?_
  refine lv_topl (fun x1 ex1 => ?_)
  replace h := bn_some h ex1
  refine lv_lstore (lv' := [(5, .long x1), (0, .ref (ad 0)), (1, .int x_1), (2, .int x_2), (3, .int x_3), (4, .int x_4), (7, .long x_7), (9, .int x_9)]) hx hb dX2_rain_201 hl (by decide) rfl (fun ls hl => ?_)
  obtain ⟨x2, ex2⟩ : ∃ y : Int32, y = x_9 + 1 := ⟨_, rfl⟩
  replace h := bn_some h ex2
  refine lv_iinc (v := x2) (lv' := [(9, .int x2), (5, .long x1), (0, .ref (ad 0)), (1, .int x_1), (2, .int x_2), (3, .int x_3), (4, .int x_4), (7, .long x_7)]) hx hb dX2_rain_203 hl (k := 7) rfl (by rw [ex2]; rfl) (by decide) rfl (fun ls hl => ?_)
  refine lv_goto (tgt := 97) hx hb dX2_rain_206 (by decide) ?_
  exact hk97 (Y, x_1, x_2, x_3, x_4, x1, x_7, x2) h _ _ _ hw (lv_sub hl [2, 3, 4, 5, 6, 1, 7, 0] rfl)
set_option maxHeartbeats 4000000 in
set_option maxRecDepth 100000 in
theorem kX2_rain_170 (C : Cx p s m args meth c cX2_rain 13 RX2 D cA g A) (hr : meth.sig.returnType = (some .long)) {z : (Int64 × VS)} (k97 : ((VS) × (Int32) × (Int32) × (Int32) × (Int32) × (Int64) × (Int64) × (Int32)) → Option (Int64 × VS)) (hk97 : ∀ x, k97 x = some z → GX2_rain_97 p l e s m args below meth c D cA A ad z x) (k122 : ((VS) × (Int32) × (Int32) × (Int32) × (Int32) × (Int64) × (Int64) × (Int32) × (Int64) × (Int32)) → Option (Int64 × VS)) (hk122 : ∀ x, k122 x = some z → GX2_rain_122 p l e s m args below meth c D cA A ad z x) (x : (VS) × (Int32) × (Int32) × (Int32) × (Int32) × (Int64) × (Int64) × (Int32) × (Int64) × (Int32) × (Int32)) (h : fX2_rain_170 k97 k122 x = some z) : GX2_rain_170 p l e s m args below meth c D cA A ad z x := by
  obtain ⟨Y, x_1, x_2, x_3, x_4, x_5, x_7, x_9, x_10, x_12, y_0⟩ := x
  intro H locs ls hw hl
  have hw : Wd D A s.heap (wM cA ad Y) H locs := hw
  have hl : lv_has ls 13 [(0, .ref (ad 0)), (1, .int x_1), (2, .int x_2), (3, .int x_3), (4, .int x_4), (5, .long x_5), (7, .long x_7), (9, .int x_9), (10, .long x_10), (12, .int x_12)] := hl
  show W p l e rmX2_rain s m args below meth c H locs 0 0 (MQ below (QL D cA A z.1 (wM cA ad z.2)) args s 0 0 A) (F0 m 170 ls [.int y_0, .ref (ad 2)])
  have hx := C.1.1
  have hb := C.1.2.1
  have h : (cl (fX2_night (Y 1) y_0) (fun w1 => bn (up Y 1 w1) (fun w2 => bn (x_12 + 1) (fun x3 => k122 (w2, x_1, x_2, x_3, x_4, x_5, x_7, x_9, x_10, x3))))) = some z := h
  obtain ⟨w1, hw1, h⟩ := cl_some h
  obtain ⟨w2, ew2⟩ : ∃ y : VS, y = up Y 1 w1 := ⟨_, rfl⟩
  replace h := bn_some h ew2
  refine cSv (ws2 := (wM cA ad w2)) (As := [.ref (ad 2), .int y_0]) (rest := []) C hw (by rw [ew2]; exact jM1) (kX2_night (ad 2) hw1) kl_RX2_87 kt_yX2_night kn_RX2 kc_yX2_night ⟨rfl, rfl⟩ hdX2_night ⟨Nat.le_of_ble_eq_true rfl, Nat.le_of_ble_eq_true rfl⟩ rfl hl.1 (Nat.le_of_ble_eq_true rfl) dX2_rain_170 ⟨Nat.zero_le _, Nat.zero_le _⟩ (fun H locs hw => ?_)
  obtain ⟨x3, ex3⟩ : ∃ y : Int32, y = x_12 + 1 := ⟨_, rfl⟩
  replace h := bn_some h ex3
  refine lv_iinc (v := x3) (lv' := [(12, .int x3), (0, .ref (ad 0)), (1, .int x_1), (2, .int x_2), (3, .int x_3), (4, .int x_4), (5, .long x_5), (7, .long x_7), (9, .int x_9), (10, .long x_10)]) hx hb dX2_rain_173 hl (k := 9) rfl (by rw [ex3]; rfl) (by decide) rfl (fun ls hl => ?_)
  refine lv_goto (tgt := 122) hx hb dX2_rain_176 (by decide) ?_
  exact hk122 (w2, x_1, x_2, x_3, x_4, x_5, x_7, x_9, x_10, x3) h _ _ _ hw (lv_sub hl [1, 2, 3, 4, 5, 6, 7, 8, 9, 0] rfl)
set_option maxHeartbeats 4000000 in
set_option maxRecDepth 100000 in
theorem kX2_rain_148 (C : Cx p s m args meth c cX2_rain 13 RX2 D cA g A) (hr : meth.sig.returnType = (some .long)) {z : (Int64 × VS)} (k97 : ((VS) × (Int32) × (Int32) × (Int32) × (Int32) × (Int64) × (Int64) × (Int32)) → Option (Int64 × VS)) (hk97 : ∀ x, k97 x = some z → GX2_rain_97 p l e s m args below meth c D cA A ad z x) (k122 : ((VS) × (Int32) × (Int32) × (Int32) × (Int32) × (Int64) × (Int64) × (Int32) × (Int64) × (Int32)) → Option (Int64 × VS)) (hk122 : ∀ x, k122 x = some z → GX2_rain_122 p l e s m args below meth c D cA A ad z x) (x : (VS) × (Int32) × (Int32) × (Int32) × (Int32) × (Int64) × (Int64) × (Int32) × (Int32) × (Int64) × (Int64)) (h : fX2_rain_148 k97 k122 x = some z) : GX2_rain_148 p l e s m args below meth c D cA A ad z x := by
  obtain ⟨Y, x_1, x_2, x_3, x_4, x_5, x_7, x_9, x_12, y_0, y_1⟩ := x
  intro H locs ls hw hl
  have hw : Wd D A s.heap (wM cA ad Y) H locs := hw
  have hl : lv_has ls 13 [(0, .ref (ad 0)), (1, .int x_1), (2, .int x_2), (3, .int x_3), (4, .int x_4), (5, .long x_5), (7, .long x_7), (9, .int x_9), (12, .int x_12)] := hl
  show W p l e rmX2_rain s m args below meth c H locs 0 0 (MQ below (QL D cA A z.1 (wM cA ad z.2)) args s 0 0 A) (F0 m 148 ls [.long y_0, .long y_1])
  have hx := C.1.1
  have hb := C.1.2.1
  have h : (bn (y_1 * y_0) (fun x1 => cl (fX2_has x_9 x_12) (fun r2 => if r2 = 0 then fX2_rain_170 k97 k122 (Y, x_1, x_2, x_3, x_4, x_5, x_7, x_9, x1, x_12, (-1)) else fX2_rain_170 k97 k122 (Y, x_1, x_2, x_3, x_4, x_5, x_7, x_9, x1, x_12, 0)))) = some z := h
  refine lv_lmul hx hb dX2_rain_148 ?_
  refine lv_topl (fun x1 ex1 => ?_)
  replace h := bn_some h ex1
  refine lv_lstore (lv' := [(10, .long x1), (0, .ref (ad 0)), (1, .int x_1), (2, .int x_2), (3, .int x_3), (4, .int x_4), (5, .long x_5), (7, .long x_7), (9, .int x_9), (12, .int x_12)]) hx hb dX2_rain_149 hl (by decide) rfl (fun ls hl => ?_)
  refine lv_aload_n hx hb dX2_rain_151 rfl (lv_at hl 1 rfl) ?_
  refine tGet (T := TX2) (N := 13) (ci := 2) C hw inX2 1 0 rfl (by decide) kf_RX2_13 rfl rfl rfl dX2_rain_152 ?_
  refine lv_iload hx hb dX2_rain_155 (lv_at hl 8 rfl) ?_
  refine lv_iload hx hb dX2_rain_157 (lv_at hl 9 rfl) ?_
  obtain ⟨r2, hr2, h⟩ := cl_some h
  refine cSi (ws2 := (wM cA ad Y)) (As := [.int x_9, .int x_12]) (rest := [.ref (ad 2)]) C hw jnE (kX2_has hr2) kl_RX2_65 kt_yX2_has kn_RX2 kc_yX2_has ⟨rfl, rfl⟩ hdX2_has ⟨Nat.le_of_ble_eq_true rfl, Nat.le_of_ble_eq_true rfl⟩ rfl hl.1 (Nat.le_of_ble_eq_true rfl) dX2_rain_159 ⟨Nat.zero_le _, Nat.zero_le _⟩ (fun H locs hw => ?_)
  refine lv_if_eq (tgt := 169) hx hb dX2_rain_162 (by decide) (fun c3 => ?_) (fun c3 => ?_)
  · replace h := (if_pos c3).symm.trans h
    refine lv_iconst (v := (-1)) hx hb dX2_rain_169 (by decide) ?_
    exact kX2_rain_170 C hr k97 hk97 k122 hk122 (Y, x_1, x_2, x_3, x_4, x_5, x_7, x_9, x1, x_12, (-1)) h _ _ _ hw (lv_sub hl [1, 2, 3, 4, 5, 6, 7, 8, 0, 9] rfl)
  · replace h := (if_neg c3).symm.trans h
    refine lv_iconst (v := 0) hx hb dX2_rain_165 (by decide) ?_
    refine lv_goto (tgt := 170) hx hb dX2_rain_166 (by decide) ?_
    exact kX2_rain_170 C hr k97 hk97 k122 hk122 (Y, x_1, x_2, x_3, x_4, x_5, x_7, x_9, x1, x_12, 0) h _ _ _ hw (lv_sub hl [1, 2, 3, 4, 5, 6, 7, 8, 0, 9] rfl)
set_option maxHeartbeats 4000000 in
set_option maxRecDepth 100000 in
theorem kX2_rain_122 (C : Cx p s m args meth c cX2_rain 13 RX2 D cA g A) (hr : meth.sig.returnType = (some .long)) {z : (Int64 × VS)} (k97 : ((VS) × (Int32) × (Int32) × (Int32) × (Int32) × (Int64) × (Int64) × (Int32)) → Option (Int64 × VS)) (hk97 : ∀ x, k97 x = some z → GX2_rain_97 p l e s m args below meth c D cA A ad z x) (k122 : ((VS) × (Int32) × (Int32) × (Int32) × (Int32) × (Int64) × (Int64) × (Int32) × (Int64) × (Int32)) → Option (Int64 × VS)) (hk122 : ∀ x, k122 x = some z → GX2_rain_122 p l e s m args below meth c D cA A ad z x) (x : (VS) × (Int32) × (Int32) × (Int32) × (Int32) × (Int64) × (Int64) × (Int32) × (Int64) × (Int32)) (h : fX2_rain_122 k97 k122 x = some z) : GX2_rain_122 p l e s m args below meth c D cA A ad z x := by
  obtain ⟨Y, x_1, x_2, x_3, x_4, x_5, x_7, x_9, x_10, x_12⟩ := x
  intro H locs ls hw hl
  have hw : Wd D A s.heap (wM cA ad Y) H locs := hw
  have hl : lv_has ls 13 [(0, .ref (ad 0)), (1, .int x_1), (2, .int x_2), (3, .int x_3), (4, .int x_4), (5, .long x_5), (7, .long x_7), (9, .int x_9), (10, .long x_10), (12, .int x_12)] := hl
  have hx := C.1.1
  have hb := C.1.2.1
  have h : (if x_2 ≤ x_12 then cl (fX2_wordsOf (Y 1) x_1) (fun r2 => if r2 = 63 then fX2_rain_200 k97 (Y, x_1, x_2, x_3, x_4, x_7, x_9, x_10, x_5) else fX2_rain_200 k97 (Y, x_1, x_2, x_3, x_4, x_7, x_9, 0, x_5)) else cl (fX2_has x_9 x_12) (fun r4 => if r4 = 0 then fX2_rain_148 k97 k122 (Y, x_1, x_2, x_3, x_4, x_5, x_7, x_9, x_12, ((x_3 - (1 : Int32)) : Int32).toInt64, x_10) else fX2_rain_148 k97 k122 (Y, x_1, x_2, x_3, x_4, x_5, x_7, x_9, x_12, 1, x_10))) = some z := h
  refine lv_iload hx hb dX2_rain_122 (lv_at hl 9 rfl) ?_
  refine lv_iload_n hx hb dX2_rain_124 rfl (lv_at hl 2 rfl) ?_
  refine lv_icmp_ge (tgt := 179) hx hb dX2_rain_125 (by decide) (fun c1 => ?_) (fun c1 => ?_)
  · replace h := (if_pos c1).symm.trans h
    refine lv_lload hx hb dX2_rain_179 (lv_at hl 5 rfl) ?_
    refine lv_aload_n hx hb dX2_rain_181 rfl (lv_at hl 0 rfl) ?_
    refine tGet (T := TX2) (N := 13) (ci := 2) C hw inX2 1 0 rfl (by decide) kf_RX2_13 rfl rfl rfl dX2_rain_182 ?_
    refine lv_iload_n hx hb dX2_rain_185 rfl (lv_at hl 1 rfl) ?_
    obtain ⟨r2, hr2, h⟩ := cl_some h
    refine cSi (ws2 := (wM cA ad Y)) (As := [.ref (ad 2), .int x_1]) (rest := [.long x_5]) C hw jM1r (kX2_wordsOf (ad 2) hr2) kl_RX2_91 kt_yX2_wordsOf kn_RX2 kc_yX2_wordsOf ⟨rfl, rfl⟩ hdX2_wordsOf ⟨Nat.le_of_ble_eq_true rfl, Nat.le_of_ble_eq_true rfl⟩ rfl hl.1 (Nat.le_of_ble_eq_true rfl) dX2_rain_186 ⟨Nat.zero_le _, Nat.zero_le _⟩ (fun H locs hw => ?_)
    refine lv_bipush (v := 63) hx hb dX2_rain_189 (by decide) ?_
    refine lv_icmp_ne (tgt := 199) hx hb dX2_rain_191 (by decide) (fun c3 => ?_) (fun c3 => ?_)
    · replace h := (if_neg c3).symm.trans h
      refine lv_lconst (v := 0) hx hb dX2_rain_199 (by decide) ?_
      exact kX2_rain_200 C hr k97 hk97 (Y, x_1, x_2, x_3, x_4, x_7, x_9, 0, x_5) h _ _ _ hw (lv_sub hl [0, 1, 2, 3, 4, 6, 7] rfl)
    · replace h := (if_pos c3).symm.trans h
      refine lv_lload hx hb dX2_rain_194 (lv_at hl 8 rfl) ?_
      refine lv_goto (tgt := 200) hx hb dX2_rain_196 (by decide) ?_
      exact kX2_rain_200 C hr k97 hk97 (Y, x_1, x_2, x_3, x_4, x_7, x_9, x_10, x_5) h _ _ _ hw (lv_sub hl [0, 1, 2, 3, 4, 6, 7] rfl)
  · replace h := (if_neg c1).symm.trans h
    refine lv_lload hx hb dX2_rain_128 (lv_at hl 8 rfl) ?_
    refine lv_iload hx hb dX2_rain_130 (lv_at hl 7 rfl) ?_
    refine lv_iload hx hb dX2_rain_132 (lv_at hl 9 rfl) ?_
    obtain ⟨r4, hr4, h⟩ := cl_some h
    refine cSi (ws2 := (wM cA ad Y)) (As := [.int x_9, .int x_12]) (rest := [.long x_10]) C hw jnE (kX2_has hr4) kl_RX2_65 kt_yX2_has kn_RX2 kc_yX2_has ⟨rfl, rfl⟩ hdX2_has ⟨Nat.le_of_ble_eq_true rfl, Nat.le_of_ble_eq_true rfl⟩ rfl hl.1 (Nat.le_of_ble_eq_true rfl) dX2_rain_134 ⟨Nat.zero_le _, Nat.zero_le _⟩ (fun H locs hw => ?_)
    refine lv_if_eq (tgt := 144) hx hb dX2_rain_137 (by decide) (fun c5 => ?_) (fun c5 => ?_)
    · replace h := (if_pos c5).symm.trans h
      refine lv_iload_n hx hb dX2_rain_144 rfl (lv_at hl 3 rfl) ?_
      refine lv_iconst (v := 1) hx hb dX2_rain_145 (by decide) ?_
      refine lv_isub hx hb dX2_rain_146 ?_
      refine lv_i2l (v := ((x_3 - (1 : Int32)) : Int32).toInt64) hx hb dX2_rain_147 rfl ?_
      exact kX2_rain_148 C hr k97 hk97 k122 hk122 (Y, x_1, x_2, x_3, x_4, x_5, x_7, x_9, x_12, ((x_3 - (1 : Int32)) : Int32).toInt64, x_10) h _ _ _ hw (lv_sub hl [0, 1, 2, 3, 4, 5, 6, 7, 9] rfl)
    · replace h := (if_neg c5).symm.trans h
      refine lv_lconst (v := 1) hx hb dX2_rain_140 (by decide) ?_
      refine lv_goto (tgt := 148) hx hb dX2_rain_141 (by decide) ?_
      exact kX2_rain_148 C hr k97 hk97 k122 hk122 (Y, x_1, x_2, x_3, x_4, x_5, x_7, x_9, x_12, 1, x_10) h _ _ _ hw (lv_sub hl [0, 1, 2, 3, 4, 5, 6, 7, 9] rfl)
theorem lX2_rain_122 (C : Cx p s m args meth c cX2_rain 13 RX2 D cA g A) (hr : meth.sig.returnType = (some .long)) {z : (Int64 × VS)} (k97 : ((VS) × (Int32) × (Int32) × (Int32) × (Int32) × (Int64) × (Int64) × (Int32)) → Option (Int64 × VS)) (hk97 : ∀ x, k97 x = some z → GX2_rain_97 p l e s m args below meth c D cA A ad z x) (n : Nat) (x : (VS) × (Int32) × (Int32) × (Int32) × (Int32) × (Int64) × (Int64) × (Int32) × (Int64) × (Int32)) (h : lp (fX2_rain_122 k97) n x = some z) : GX2_rain_122 p l e s m args below meth c D cA A ad z x := lp_ok (GX2_rain_122 p l e s m args below meth c D cA A ad z) (fun kq hkq x h => kX2_rain_122 C hr k97 hk97 kq hkq x h) n x h
set_option maxHeartbeats 4000000 in
set_option maxRecDepth 100000 in
theorem kX2_rain_97 (C : Cx p s m args meth c cX2_rain 13 RX2 D cA g A) (hr : meth.sig.returnType = (some .long)) {z : (Int64 × VS)} (k97 : ((VS) × (Int32) × (Int32) × (Int32) × (Int32) × (Int64) × (Int64) × (Int32)) → Option (Int64 × VS)) (hk97 : ∀ x, k97 x = some z → GX2_rain_97 p l e s m args below meth c D cA A ad z x) (x : (VS) × (Int32) × (Int32) × (Int32) × (Int32) × (Int64) × (Int64) × (Int32)) (h : fX2_rain_97 k97 x = some z) : GX2_rain_97 p l e s m args below meth c D cA A ad z x := by
  obtain ⟨Y, x_1, x_2, x_3, x_4, x_5, x_7, x_9⟩ := x
  intro H locs ls hw hl
  have hw : Wd D A s.heap (wM cA ad Y) H locs := hw
  have hl : lv_has ls 13 [(0, .ref (ad 0)), (1, .int x_1), (2, .int x_2), (3, .int x_3), (4, .int x_4), (5, .long x_5), (7, .long x_7), (9, .int x_9)] := hl
  have hx := C.1.1
  have hb := C.1.2.1
  have h : (if ((1 : Int32) <<< (x_2 &&& 31)) ≤ x_9 then cl (fX2_partOf x_5 x_7 x_4) (fun r2 => some (r2, Y)) else cl (fX2_copies (Y 0) (Y 1)) (fun w3 => bn (up Y 1 w3) (fun w4 => lp (fX2_rain_122 k97) 5000 (w4, x_1, x_2, x_3, x_4, x_5, x_7, x_9, 1, 0)))) = some z := h
  refine lv_iload hx hb dX2_rain_97 (lv_at hl 7 rfl) ?_
  refine lv_iconst (v := 1) hx hb dX2_rain_99 (by decide) ?_
  refine lv_iload_n hx hb dX2_rain_100 rfl (lv_at hl 2 rfl) ?_
  refine lv_ishl hx hb dX2_rain_101 ?_
  refine lv_icmp_ge (tgt := 209) hx hb dX2_rain_102 (by decide) (fun c1 => ?_) (fun c1 => ?_)
  · replace h := (if_pos c1).symm.trans h
    refine lv_lload hx hb dX2_rain_209 (lv_at hl 5 rfl) ?_
    refine lv_lload hx hb dX2_rain_211 (lv_at hl 6 rfl) ?_
    refine lv_iload hx hb dX2_rain_213 (lv_at hl 4 rfl) ?_
    obtain ⟨r2, hr2, h⟩ := cl_some h
    refine cSl (ws2 := (wM cA ad Y)) (As := [.long x_5, .long x_7, .int x_4]) (rest := []) C hw jnE (kX2_partOf hr2) kl_RX2_212 kt_yX2_partOf kn_RX2 kc_yX2_partOf ⟨rfl, rfl⟩ hdX2_partOf ⟨Nat.le_of_ble_eq_true rfl, Nat.le_of_ble_eq_true rfl⟩ rfl hl.1 (Nat.le_of_ble_eq_true rfl) dX2_rain_215 ⟨Nat.zero_le _, Nat.zero_le _⟩ (fun H locs hw => ?_)
    obtain rfl := some_e h
    exact rtL C hr hw dX2_rain_218
  · replace h := (if_neg c1).symm.trans h
    refine lv_lconst (v := 1) hx hb dX2_rain_105 (by decide) ?_
    refine lv_lstore (lv' := [(10, .long 1), (0, .ref (ad 0)), (1, .int x_1), (2, .int x_2), (3, .int x_3), (4, .int x_4), (5, .long x_5), (7, .long x_7), (9, .int x_9)]) hx hb dX2_rain_106 hl (by decide) rfl (fun ls hl => ?_)
    refine lv_aload_n hx hb dX2_rain_108 rfl (lv_at hl 1 rfl) ?_
    refine tGet (T := TX2) (N := 13) (ci := 2) C hw inX2 0 0 rfl (by decide) kf_RX2_9 rfl rfl rfl dX2_rain_109 ?_
    refine lv_aload_n hx hb dX2_rain_112 rfl (lv_at hl 1 rfl) ?_
    refine tGet (T := TX2) (N := 13) (ci := 2) C hw inX2 1 0 rfl (by decide) kf_RX2_13 rfl rfl rfl dX2_rain_113 ?_
    obtain ⟨w3, hw3, h⟩ := cl_some h
    obtain ⟨w4, ew4⟩ : ∃ y : VS, y = up Y 1 w3 := ⟨_, rfl⟩
    replace h := bn_some h ew4
    refine cSv (ws2 := (wM cA ad w4)) (As := [.ref (ad 1), .ref (ad 2)]) (rest := []) C hw (by rw [ew4]; exact jMM01) (kX2_copies (ad 1) (ad 2) hw3) kl_RX2_134 kt_yX2_copies kn_RX2 kc_yX2_copies ⟨rfl, rfl⟩ hdX2_copies ⟨Nat.le_of_ble_eq_true rfl, Nat.le_of_ble_eq_true rfl⟩ rfl hl.1 (Nat.le_of_ble_eq_true rfl) dX2_rain_116 ⟨Nat.zero_le _, Nat.zero_le _⟩ (fun H locs hw => ?_)
    refine lv_iconst (v := 0) hx hb dX2_rain_119 (by decide) ?_
    refine lv_istore (lv' := [(12, .int 0), (10, .long 1), (0, .ref (ad 0)), (1, .int x_1), (2, .int x_2), (3, .int x_3), (4, .int x_4), (5, .long x_5), (7, .long x_7), (9, .int x_9)]) hx hb dX2_rain_120 hl (by decide) rfl (fun ls hl => ?_)
    exact lX2_rain_122 C hr k97 hk97 5000 (w4, x_1, x_2, x_3, x_4, x_5, x_7, x_9, 1, 0) h _ _ _ hw (lv_sub hl [2, 3, 4, 5, 6, 7, 8, 9, 1, 0] rfl)
theorem lX2_rain_97 (C : Cx p s m args meth c cX2_rain 13 RX2 D cA g A) (hr : meth.sig.returnType = (some .long)) {z : (Int64 × VS)} (n : Nat) (x : (VS) × (Int32) × (Int32) × (Int32) × (Int32) × (Int64) × (Int64) × (Int32)) (h : lp (fX2_rain_97) n x = some z) : GX2_rain_97 p l e s m args below meth c D cA A ad z x := lp_ok (GX2_rain_97 p l e s m args below meth c D cA A ad z) (fun kq hkq x h => kX2_rain_97 C hr kq hkq x h) n x h
set_option maxHeartbeats 4000000 in
set_option maxRecDepth 100000 in
theorem kX2_rain_75 (C : Cx p s m args meth c cX2_rain 13 RX2 D cA g A) (hr : meth.sig.returnType = (some .long)) {z : (Int64 × VS)} (k75 : ((VS) × (Int32) × (Int32) × (Int32) × (Int32) × (Int64) × (Int64) × (Int32)) → Option (Int64 × VS)) (hk75 : ∀ x, k75 x = some z → GX2_rain_75 p l e s m args below meth c D cA A ad z x) (x : (VS) × (Int32) × (Int32) × (Int32) × (Int32) × (Int64) × (Int64) × (Int32)) (h : fX2_rain_75 k75 x = some z) : GX2_rain_75 p l e s m args below meth c D cA A ad z x := by
  obtain ⟨Y, x_1, x_2, x_3, x_4, x_5, x_7, x_9⟩ := x
  intro H locs ls hw hl
  have hw : Wd D A s.heap (wM cA ad Y) H locs := hw
  have hl : lv_has ls 13 [(0, .ref (ad 0)), (1, .int x_1), (2, .int x_2), (3, .int x_3), (4, .int x_4), (5, .long x_5), (7, .long x_7), (9, .int x_9)] := hl
  have hx := C.1.1
  have hb := C.1.2.1
  have h : (if x_2 ≤ x_9 then lp (fX2_rain_97) 5000 (Y, x_1, x_2, x_3, x_4, x_5, x_7, 0) else bn (x_7 * (x_3 : Int32).toInt64) (fun x2 => bn (x_9 + 1) (fun x3 => k75 (Y, x_1, x_2, x_3, x_4, x_5, x2, x3)))) = some z := h
  refine lv_iload hx hb dX2_rain_75 (lv_at hl 7 rfl) ?_
  refine lv_iload_n hx hb dX2_rain_77 rfl (lv_at hl 2 rfl) ?_
  refine lv_icmp_ge (tgt := 94) hx hb dX2_rain_78 (by decide) (fun c1 => ?_) (fun c1 => ?_)
  · replace h := (if_pos c1).symm.trans h
    refine lv_iconst (v := 0) hx hb dX2_rain_94 (by decide) ?_
    refine lv_istore (lv' := [(9, .int 0), (0, .ref (ad 0)), (1, .int x_1), (2, .int x_2), (3, .int x_3), (4, .int x_4), (5, .long x_5), (7, .long x_7)]) hx hb dX2_rain_95 hl (by decide) rfl (fun ls hl => ?_)
    exact lX2_rain_97 C hr 5000 (Y, x_1, x_2, x_3, x_4, x_5, x_7, 0) h _ _ _ hw (lv_sub hl [1, 2, 3, 4, 5, 6, 7, 0] rfl)
  · replace h := (if_neg c1).symm.trans h
    refine lv_lload hx hb dX2_rain_81 (lv_at hl 6 rfl) ?_
    refine lv_iload_n hx hb dX2_rain_83 rfl (lv_at hl 3 rfl) ?_
    refine lv_i2l (v := (x_3 : Int32).toInt64) hx hb dX2_rain_84 rfl ?_
    refine lv_lmul hx hb dX2_rain_85 ?_
    refine lv_topl (fun x2 ex2 => ?_)
    replace h := bn_some h ex2
    refine lv_lstore (lv' := [(7, .long x2), (0, .ref (ad 0)), (1, .int x_1), (2, .int x_2), (3, .int x_3), (4, .int x_4), (5, .long x_5), (9, .int x_9)]) hx hb dX2_rain_86 hl (by decide) rfl (fun ls hl => ?_)
    obtain ⟨x3, ex3⟩ : ∃ y : Int32, y = x_9 + 1 := ⟨_, rfl⟩
    replace h := bn_some h ex3
    refine lv_iinc (v := x3) (lv' := [(9, .int x3), (7, .long x2), (0, .ref (ad 0)), (1, .int x_1), (2, .int x_2), (3, .int x_3), (4, .int x_4), (5, .long x_5)]) hx hb dX2_rain_88 hl (k := 7) rfl (by rw [ex3]; rfl) (by decide) rfl (fun ls hl => ?_)
    refine lv_goto (tgt := 75) hx hb dX2_rain_91 (by decide) ?_
    exact hk75 (Y, x_1, x_2, x_3, x_4, x_5, x2, x3) h _ _ _ hw (lv_sub hl [2, 3, 4, 5, 6, 7, 1, 0] rfl)
theorem lX2_rain_75 (C : Cx p s m args meth c cX2_rain 13 RX2 D cA g A) (hr : meth.sig.returnType = (some .long)) {z : (Int64 × VS)} (n : Nat) (x : (VS) × (Int32) × (Int32) × (Int32) × (Int32) × (Int64) × (Int64) × (Int32)) (h : lp (fX2_rain_75) n x = some z) : GX2_rain_75 p l e s m args below meth c D cA A ad z x := lp_ok (GX2_rain_75 p l e s m args below meth c D cA A ad z) (fun kq hkq x h => kX2_rain_75 C hr kq hkq x h) n x h
set_option maxHeartbeats 4000000 in
set_option maxRecDepth 100000 in
theorem kX2_rain (ad : Nat → Nat) {Y : VS} {a_1 : Int32} {a_2 : Int32} {a_3 : Int32} {a_4 : Int32} {z : (Int64 × VS)} (h : fX2_rain Y a_1 a_2 a_3 a_4 = some z) : ML l D cA g yX2_rain (Cond.code yX2_rain cX2_rain 13 (some .long) :: lw_g) rmX2_rain [.ref (ad 0), .int a_1, .int a_2, .int a_3, .int a_4] (wM cA ad Y) z.1 (wM cA ad z.2) := by
  intro sz
  refine Met.ofW (cc := cX2_rain) (maxL := 13) (ret := (some .long)) (by decide) rfl ?_
  intro p e s m args below meth c s₁ B hml hv
  obtain ⟨rfl, C, hr, hw⟩ := ent B hml hv
  generalize va_A (wM cA ad Y) sz = A at C hw ⊢
  have hl := lv_entry ([.ref (ad 0), .int a_1, .int a_2, .int a_3, .int a_4]) (n := 13) (Nat.le_of_ble_eq_true rfl)
  rw [lg_entry_eq]
  generalize (lg_sl ([.ref (ad 0), .int a_1, .int a_2, .int a_3, .int a_4]) ++ List.replicate (13 - (lg_sl ([.ref (ad 0), .int a_1, .int a_2, .int a_3, .int a_4])).length) Slot.unset).toArray = ls at hl ⊢
  have hl : lv_has ls 13 [(0, .ref (ad 0)), (1, .int a_1), (2, .int a_2), (3, .int a_3), (4, .int a_4)] := hl
  have hx := C.1.1
  have hb := C.1.2.1
  have h : (cl (fX2_isReader Y a_1) (fun r1 => if r1 = 0 then cl (fX2_noWide Y (-1)) (fun q10 => some (q10.1, q10.2)) else if a_2 < 0 then fX2_rain_23 Y else if 2 ≤ a_3 then if 7 < a_2 then fX2_rain_42 Y else if a_3 ≤ 20 then cl (fX2_isIn a_4 0 1) (fun r7 => if r7 = 0 then cl (fX2_noWide Y (-2)) (fun q9 => some (q9.1, q9.2)) else lp (fX2_rain_75) 5000 (Y, a_1, a_2, a_3, a_4, 0, 1, 0)) else fX2_rain_42 Y else fX2_rain_23 Y)) = some z := h
  refine lv_aload_n hx hb dX2_rain_0 rfl (lv_at hl 0 rfl) ?_
  refine lv_iload_n hx hb dX2_rain_1 rfl (lv_at hl 1 rfl) ?_
  obtain ⟨r1, hr1, h⟩ := cl_some h
  refine cVi (ws2 := (wM cA ad Y)) (As := [.int a_1]) (rest := []) C hw jnW (kX2_isReader ad hr1) kl_RX2_147 ki_yX2_isReader ks_yX2_isReader kn_RX2 kc_yX2_isReader ⟨rfl, rfl⟩ hdX2_isReader ⟨Nat.le_of_ble_eq_true rfl, Nat.le_of_ble_eq_true rfl⟩ (ci := 2) (q0 := 0) rfl rfl rfl rfl hl.1 (Nat.le_of_ble_eq_true rfl) dX2_rain_2 ⟨Nat.zero_le _, Nat.zero_le _⟩ (fun H locs hw => ?_)
  refine lv_if_ne (tgt := 14) hx hb dX2_rain_5 (by decide) (fun c2 => ?_) (fun c2 => ?_)
  · replace h := (if_neg c2).symm.trans h
    refine lv_iload_n hx hb dX2_rain_14 rfl (lv_at hl 2 rfl) ?_
    refine lv_if_lt (tgt := 23) hx hb dX2_rain_15 (by decide) (fun c3 => ?_) (fun c3 => ?_)
    · replace h := (if_pos c3).symm.trans h
      exact kX2_rain_23 C hr Y h _ _ _ hw (lv_sub hl [0] rfl)
    · replace h := (if_neg c3).symm.trans h
      refine lv_iload_n hx hb dX2_rain_18 rfl (lv_at hl 3 rfl) ?_
      refine lv_iconst (v := 2) hx hb dX2_rain_19 (by decide) ?_
      refine lv_icmp_ge (tgt := 30) hx hb dX2_rain_20 (by decide) (fun c4 => ?_) (fun c4 => ?_)
      · replace h := (if_pos c4).symm.trans h
        refine lv_iload_n hx hb dX2_rain_30 rfl (lv_at hl 2 rfl) ?_
        refine lv_bipush (v := 7) hx hb dX2_rain_31 (by decide) ?_
        refine lv_icmp_gt (tgt := 42) hx hb dX2_rain_33 (by decide) (fun c5 => ?_) (fun c5 => ?_)
        · replace h := (if_pos c5).symm.trans h
          exact kX2_rain_42 C hr Y h _ _ _ hw (lv_sub hl [0] rfl)
        · replace h := (if_neg c5).symm.trans h
          refine lv_iload_n hx hb dX2_rain_36 rfl (lv_at hl 3 rfl) ?_
          refine lv_bipush (v := 20) hx hb dX2_rain_37 (by decide) ?_
          refine lv_icmp_le (tgt := 49) hx hb dX2_rain_39 (by decide) (fun c6 => ?_) (fun c6 => ?_)
          · replace h := (if_pos c6).symm.trans h
            refine lv_iload hx hb dX2_rain_49 (lv_at hl 4 rfl) ?_
            refine lv_iconst (v := 0) hx hb dX2_rain_51 (by decide) ?_
            refine lv_iconst (v := 1) hx hb dX2_rain_52 (by decide) ?_
            obtain ⟨r7, hr7, h⟩ := cl_some h
            refine cSi (ws2 := (wM cA ad Y)) (As := [.int a_4, .int 0, .int 1]) (rest := []) C hw jnE (kX2_isIn hr7) kl_RX2_40 kt_yX2_isIn kn_RX2 kc_yX2_isIn ⟨rfl, rfl⟩ hdX2_isIn ⟨Nat.le_of_ble_eq_true rfl, Nat.le_of_ble_eq_true rfl⟩ rfl hl.1 (Nat.le_of_ble_eq_true rfl) dX2_rain_53 ⟨Nat.zero_le _, Nat.zero_le _⟩ (fun H locs hw => ?_)
            refine lv_if_ne (tgt := 66) hx hb dX2_rain_56 (by decide) (fun c8 => ?_) (fun c8 => ?_)
            · replace h := (if_neg c8).symm.trans h
              refine lv_lconst (v := 0) hx hb dX2_rain_66 (by decide) ?_
              refine lv_lstore (lv' := [(5, .long 0), (0, .ref (ad 0)), (1, .int a_1), (2, .int a_2), (3, .int a_3), (4, .int a_4)]) hx hb dX2_rain_67 hl (by decide) rfl (fun ls hl => ?_)
              refine lv_lconst (v := 1) hx hb dX2_rain_69 (by decide) ?_
              refine lv_lstore (lv' := [(7, .long 1), (5, .long 0), (0, .ref (ad 0)), (1, .int a_1), (2, .int a_2), (3, .int a_3), (4, .int a_4)]) hx hb dX2_rain_70 hl (by decide) rfl (fun ls hl => ?_)
              refine lv_iconst (v := 0) hx hb dX2_rain_72 (by decide) ?_
              refine lv_istore (lv' := [(9, .int 0), (7, .long 1), (5, .long 0), (0, .ref (ad 0)), (1, .int a_1), (2, .int a_2), (3, .int a_3), (4, .int a_4)]) hx hb dX2_rain_73 hl (by decide) rfl (fun ls hl => ?_)
              exact lX2_rain_75 C hr 5000 (Y, a_1, a_2, a_3, a_4, 0, 1, 0) h _ _ _ hw (lv_sub hl [3, 4, 5, 6, 7, 2, 1, 0] rfl)
            · replace h := (if_pos c8).symm.trans h
              refine lv_aload_n hx hb dX2_rain_59 rfl (lv_at hl 0 rfl) ?_
              refine lv_bipush (v := (-2)) hx hb dX2_rain_60 (by decide) ?_
              obtain ⟨q9, hq9, h⟩ := cl_some h
              refine cVl (ws2 := (wM cA ad q9.2)) (As := [.int (-2)]) (rest := []) C hw jnW (kX2_noWide ad hq9) kl_RX2_208 ki_yX2_noWide ks_yX2_noWide kn_RX2 kc_yX2_noWide ⟨rfl, rfl⟩ hdX2_noWide ⟨Nat.le_of_ble_eq_true rfl, Nat.le_of_ble_eq_true rfl⟩ (ci := 2) (q0 := 0) rfl rfl rfl rfl hl.1 (Nat.le_of_ble_eq_true rfl) dX2_rain_62 ⟨Nat.zero_le _, Nat.zero_le _⟩ (fun H locs hw => ?_)
              obtain rfl := some_e h
              exact rtL C hr hw dX2_rain_65
          · replace h := (if_neg c6).symm.trans h
            exact kX2_rain_42 C hr Y h _ _ _ hw (lv_sub hl [0] rfl)
      · replace h := (if_neg c4).symm.trans h
        exact kX2_rain_23 C hr Y h _ _ _ hw (lv_sub hl [0] rfl)
  · replace h := (if_pos c2).symm.trans h
    refine lv_aload_n hx hb dX2_rain_8 rfl (lv_at hl 0 rfl) ?_
    refine lv_iconst (v := (-1)) hx hb dX2_rain_9 (by decide) ?_
    obtain ⟨q10, hq10, h⟩ := cl_some h
    refine cVl (ws2 := (wM cA ad q10.2)) (As := [.int (-1)]) (rest := []) C hw jnW (kX2_noWide ad hq10) kl_RX2_208 ki_yX2_noWide ks_yX2_noWide kn_RX2 kc_yX2_noWide ⟨rfl, rfl⟩ hdX2_noWide ⟨Nat.le_of_ble_eq_true rfl, Nat.le_of_ble_eq_true rfl⟩ (ci := 2) (q0 := 0) rfl rfl rfl rfl hl.1 (Nat.le_of_ble_eq_true rfl) dX2_rain_10 ⟨Nat.zero_le _, Nat.zero_le _⟩ (fun H locs hw => ?_)
    obtain rfl := some_e h
    exact rtL C hr hw dX2_rain_13
abbrev rmX2_mean : Room := { frames := 2, cells := 0, slots := 0, locals := 53 }
theorem hdX2_mean : yX2_mean.cls = RX2 ∧ yX2_mean.cls ≠ "java/lang/invoke/MethodHandle" ∧ yX2_mean.cls ≠ "java/lang/invoke/VarHandle" ∧ (parseMethodDescriptor yX2_mean.desc).map (fun d => d.parameters.length) = some 1 := by decide +kernel
def fX2_mean (Y : VS) (a_1 : Int32) : Option (Int64 × VS) := cl (fX2_isIn a_1 0 1) (fun r1 => if r1 = 0 then cl (fX2_noWide Y (-2)) (fun q3 => some (q3.1, q3.2)) else rd 81 (Y 0) 0 (fun r4 => cl (fX2_costOf Y (((1 : Int32) <<< (r4 &&& 31)) - (1 : Int32))) (fun r5 => rd 81 (Y 0) 0 (fun r6 => cl (fX2_partOf ((r5 : Int32).toInt64) ((r6 : Int32).toInt64) a_1) (fun r7 => some (r7, Y))))))
set_option maxHeartbeats 4000000 in
set_option maxRecDepth 100000 in
theorem kX2_mean (ad : Nat → Nat) {Y : VS} {a_1 : Int32} {z : (Int64 × VS)} (h : fX2_mean Y a_1 = some z) : ML l D cA g yX2_mean (Cond.code yX2_mean cX2_mean 2 (some .long) :: lw_g) rmX2_mean [.ref (ad 0), .int a_1] (wM cA ad Y) z.1 (wM cA ad z.2) := by
  intro sz
  refine Met.ofW (cc := cX2_mean) (maxL := 2) (ret := (some .long)) (by decide) rfl ?_
  intro p e s m args below meth c s₁ B hml hv
  obtain ⟨rfl, C, hr, hw⟩ := ent B hml hv
  generalize va_A (wM cA ad Y) sz = A at C hw ⊢
  have hl := lv_entry ([.ref (ad 0), .int a_1]) (n := 2) (Nat.le_of_ble_eq_true rfl)
  rw [lg_entry_eq]
  generalize (lg_sl ([.ref (ad 0), .int a_1]) ++ List.replicate (2 - (lg_sl ([.ref (ad 0), .int a_1])).length) Slot.unset).toArray = ls at hl ⊢
  have hl : lv_has ls 2 [(0, .ref (ad 0)), (1, .int a_1)] := hl
  have hx := C.1.1
  have hb := C.1.2.1
  have h : (cl (fX2_isIn a_1 0 1) (fun r1 => if r1 = 0 then cl (fX2_noWide Y (-2)) (fun q3 => some (q3.1, q3.2)) else rd 81 (Y 0) 0 (fun r4 => cl (fX2_costOf Y (((1 : Int32) <<< (r4 &&& 31)) - (1 : Int32))) (fun r5 => rd 81 (Y 0) 0 (fun r6 => cl (fX2_partOf ((r5 : Int32).toInt64) ((r6 : Int32).toInt64) a_1) (fun r7 => some (r7, Y))))))) = some z := h
  refine lv_iload_n hx hb dX2_mean_0 rfl (lv_at hl 1 rfl) ?_
  refine lv_iconst (v := 0) hx hb dX2_mean_1 (by decide) ?_
  refine lv_iconst (v := 1) hx hb dX2_mean_2 (by decide) ?_
  obtain ⟨r1, hr1, h⟩ := cl_some h
  refine cSi (ws2 := (wM cA ad Y)) (As := [.int a_1, .int 0, .int 1]) (rest := []) C hw jnE (kX2_isIn hr1) kl_RX2_40 kt_yX2_isIn kn_RX2 kc_yX2_isIn ⟨rfl, rfl⟩ hdX2_isIn ⟨Nat.le_of_ble_eq_true rfl, Nat.le_of_ble_eq_true rfl⟩ rfl hl.1 (Nat.le_of_ble_eq_true rfl) dX2_mean_3 ⟨Nat.zero_le _, Nat.zero_le _⟩ (fun H locs hw => ?_)
  refine lv_if_eq (tgt := 38) hx hb dX2_mean_6 (by decide) (fun c2 => ?_) (fun c2 => ?_)
  · replace h := (if_pos c2).symm.trans h
    refine lv_aload_n hx hb dX2_mean_38 rfl (lv_at hl 0 rfl) ?_
    refine lv_bipush (v := (-2)) hx hb dX2_mean_39 (by decide) ?_
    obtain ⟨q3, hq3, h⟩ := cl_some h
    refine cVl (ws2 := (wM cA ad q3.2)) (As := [.int (-2)]) (rest := []) C hw jnW (kX2_noWide ad hq3) kl_RX2_208 ki_yX2_noWide ks_yX2_noWide kn_RX2 kc_yX2_noWide ⟨rfl, rfl⟩ hdX2_noWide ⟨Nat.le_of_ble_eq_true rfl, Nat.le_of_ble_eq_true rfl⟩ (ci := 2) (q0 := 0) rfl rfl rfl rfl hl.1 (Nat.le_of_ble_eq_true rfl) dX2_mean_41 ⟨Nat.zero_le _, Nat.zero_le _⟩ (fun H locs hw => ?_)
    obtain rfl := some_e h
    exact rtL C hr hw dX2_mean_44
  · replace h := (if_neg c2).symm.trans h
    refine lv_aload_n hx hb dX2_mean_9 rfl (lv_at hl 0 rfl) ?_
    refine lv_iconst (v := 1) hx hb dX2_mean_10 (by decide) ?_
    refine lv_aload_n hx hb dX2_mean_11 rfl (lv_at hl 0 rfl) ?_
    refine tGet (T := TX2) (N := 13) (ci := 2) C hw inX2 0 0 rfl (by decide) kf_RX2_9 rfl rfl rfl dX2_mean_12 ?_
    refine lv_iconst (v := 0) hx hb dX2_mean_15 (by decide) ?_
    obtain ⟨r4, ir4, er4, h⟩ := rd_some h
    refine tLd C hw 1 rfl ir4 er4 dX2_mean_16 ?_
    refine lv_ishl hx hb dX2_mean_17 ?_
    refine lv_iconst (v := 1) hx hb dX2_mean_18 (by decide) ?_
    refine lv_isub hx hb dX2_mean_19 ?_
    obtain ⟨r5, hr5, h⟩ := cl_some h
    refine cVi (ws2 := (wM cA ad Y)) (As := [.int (((1 : Int32) <<< (r4 &&& 31)) - (1 : Int32))]) (rest := []) C hw jnW (kX2_costOf ad hr5) kl_RX2_177 ki_yX2_costOf ks_yX2_costOf kn_RX2 kc_yX2_costOf ⟨rfl, rfl⟩ hdX2_costOf ⟨Nat.le_of_ble_eq_true rfl, Nat.le_of_ble_eq_true rfl⟩ (ci := 2) (q0 := 0) rfl rfl rfl rfl hl.1 (Nat.le_of_ble_eq_true rfl) dX2_mean_20 ⟨Nat.zero_le _, Nat.zero_le _⟩ (fun H locs hw => ?_)
    refine lv_i2l (v := (r5 : Int32).toInt64) hx hb dX2_mean_23 rfl ?_
    refine lv_aload_n hx hb dX2_mean_24 rfl (lv_at hl 0 rfl) ?_
    refine tGet (T := TX2) (N := 13) (ci := 2) C hw inX2 0 0 rfl (by decide) kf_RX2_9 rfl rfl rfl dX2_mean_25 ?_
    refine lv_iconst (v := 0) hx hb dX2_mean_28 (by decide) ?_
    obtain ⟨r6, ir6, er6, h⟩ := rd_some h
    refine tLd C hw 1 rfl ir6 er6 dX2_mean_29 ?_
    refine lv_i2l (v := (r6 : Int32).toInt64) hx hb dX2_mean_30 rfl ?_
    refine lv_iload_n hx hb dX2_mean_31 rfl (lv_at hl 1 rfl) ?_
    obtain ⟨r7, hr7, h⟩ := cl_some h
    refine cSl (ws2 := (wM cA ad Y)) (As := [.long ((r5 : Int32).toInt64), .long ((r6 : Int32).toInt64), .int a_1]) (rest := []) C hw jnE (kX2_partOf hr7) kl_RX2_212 kt_yX2_partOf kn_RX2 kc_yX2_partOf ⟨rfl, rfl⟩ hdX2_partOf ⟨Nat.le_of_ble_eq_true rfl, Nat.le_of_ble_eq_true rfl⟩ rfl hl.1 (Nat.le_of_ble_eq_true rfl) dX2_mean_32 ⟨Nat.zero_le _, Nat.zero_le _⟩ (fun H locs hw => ?_)
    refine lv_goto (tgt := 44) hx hb dX2_mean_35 (by decide) ?_
    obtain rfl := some_e h
    exact rtL C hr hw dX2_mean_44
abbrev rmX2_isSaidSo : Room := { frames := 2, cells := 0, slots := 0, locals := 44 }
theorem hdX2_isSaidSo : yX2_isSaidSo.cls = RX2 ∧ yX2_isSaidSo.cls ≠ "java/lang/invoke/MethodHandle" ∧ yX2_isSaidSo.cls ≠ "java/lang/invoke/VarHandle" ∧ (parseMethodDescriptor yX2_isSaidSo.desc).map (fun d => d.parameters.length) = some 0 := by decide +kernel
def GX2_isSaidSo_46 (p : Program) (l : Launch) (e : Env) (s : State) (m : MethodId) (args : Array Value) (below : List Frame) (meth : Method) (c : Code) (D : va_G) (cA : ClassId) (A : Nat → Prop) (ad : Nat → Nat) (Y : VS) (z : Int32) (x : (Int32) × (Int32) × (Int32)) : Prop := ∀ (H : Heap) (locs : List Loc) (ls : Array Slot), Wd D A s.heap (wM cA ad Y) H locs → lv_has ls 3 [(0, .ref (ad 0)), (2, .int x.1)] → W p l e rmX2_isSaidSo s m args below meth c H locs 0 0 (MQ below (QI D cA A z (wM cA ad Y)) args s 0 0 A) (F0 m 46 ls [.int x.2.1, .int x.2.2])
def GX2_isSaidSo_45 (p : Program) (l : Launch) (e : Env) (s : State) (m : MethodId) (args : Array Value) (below : List Frame) (meth : Method) (c : Code) (D : va_G) (cA : ClassId) (A : Nat → Prop) (ad : Nat → Nat) (Y : VS) (z : Int32) (x : (Int32) × (Int32)) : Prop := ∀ (H : Heap) (locs : List Loc) (ls : Array Slot), Wd D A s.heap (wM cA ad Y) H locs → lv_has ls 3 [(0, .ref (ad 0)), (2, .int x.1)] → W p l e rmX2_isSaidSo s m args below meth c H locs 0 0 (MQ below (QI D cA A z (wM cA ad Y)) args s 0 0 A) (F0 m 45 ls [.int x.2])
def GX2_isSaidSo_4 (p : Program) (l : Launch) (e : Env) (s : State) (m : MethodId) (args : Array Value) (below : List Frame) (meth : Method) (c : Code) (D : va_G) (cA : ClassId) (A : Nat → Prop) (ad : Nat → Nat) (Y : VS) (z : Int32) (x : (Int32) × (Int32)) : Prop := ∀ (H : Heap) (locs : List Loc) (ls : Array Slot), Wd D A s.heap (wM cA ad Y) H locs → lv_has ls 3 [(0, .ref (ad 0)), (1, .int x.1), (2, .int x.2)] → W p l e rmX2_isSaidSo s m args below meth c H locs 0 0 (MQ below (QI D cA A z (wM cA ad Y)) args s 0 0 A) (F0 m 4 ls [])
def fX2_isSaidSo_46 (Y : VS) (k4 : ((Int32) × (Int32)) → Option Int32) : ((Int32) × (Int32) × (Int32)) → Option Int32 := fun x => match x with | (x_2, y_0, y_1) => bn (y_1 &&& y_0) (fun x1 => bn (x_2 + 1) (fun x2 => k4 (x1, x2)))
def fX2_isSaidSo_45 (Y : VS) (k4 : ((Int32) × (Int32)) → Option Int32) : ((Int32) × (Int32)) → Option Int32 := fun x => match x with | (x_2, y_0) => fX2_isSaidSo_46 Y k4 (x_2, 0, y_0)
def fX2_isSaidSo_4 (Y : VS) (k4 : ((Int32) × (Int32)) → Option Int32) : ((Int32) × (Int32)) → Option Int32 := fun x => match x with | (x_1, x_2) => if (Y 9 0) ≤ x_2 then bz x_1 (some x_1) else cl (fX2_isReader Y x_2) (fun r2 => if r2 = 0 then fX2_isSaidSo_45 Y k4 (x_2, x_1) else cl (fX2_wordsOf (Y 1) x_2) (fun r4 => cl (fX2_bits r4) (fun r5 => rd 16 (Y 6) x_2 (fun r6 => if r5 = r6 then fX2_isSaidSo_46 Y k4 (x_2, 1, x_1) else fX2_isSaidSo_45 Y k4 (x_2, x_1)))))
def fX2_isSaidSo (Y : VS) : Option Int32 := lp (fX2_isSaidSo_4 Y) 5000 (1, 0)
set_option maxHeartbeats 4000000 in
set_option maxRecDepth 100000 in
theorem kX2_isSaidSo_46 (C : Cx p s m args meth c cX2_isSaidSo 3 RX2 D cA g A) (hr : meth.sig.returnType = (some .boolean)) {z : Int32} (Y : VS) (k4 : ((Int32) × (Int32)) → Option Int32) (hk4 : ∀ x, k4 x = some z → GX2_isSaidSo_4 p l e s m args below meth c D cA A ad Y z x) (x : (Int32) × (Int32) × (Int32)) (h : fX2_isSaidSo_46 Y k4 x = some z) : GX2_isSaidSo_46 p l e s m args below meth c D cA A ad Y z x := by
  obtain ⟨x_2, y_0, y_1⟩ := x
  intro H locs ls hw hl
  have hw : Wd D A s.heap (wM cA ad Y) H locs := hw
  have hl : lv_has ls 3 [(0, .ref (ad 0)), (2, .int x_2)] := hl
  show W p l e rmX2_isSaidSo s m args below meth c H locs 0 0 (MQ below (QI D cA A z (wM cA ad Y)) args s 0 0 A) (F0 m 46 ls [.int y_0, .int y_1])
  have hx := C.1.1
  have hb := C.1.2.1
  have h : (bn (y_1 &&& y_0) (fun x1 => bn (x_2 + 1) (fun x2 => k4 (x1, x2)))) = some z := h
  refine lv_iand hx hb dX2_isSaidSo_46 ?_
  refine lv_topi (fun x1 ex1 => ?_)
  replace h := bn_some h ex1
  refine lv_istore_n (lv' := [(1, .int x1), (0, .ref (ad 0)), (2, .int x_2)]) hx hb dX2_isSaidSo_47 rfl hl (by decide) rfl (fun ls hl => ?_)
  obtain ⟨x2, ex2⟩ : ∃ y : Int32, y = x_2 + 1 := ⟨_, rfl⟩
  replace h := bn_some h ex2
  refine lv_iinc (v := x2) (lv' := [(2, .int x2), (1, .int x1), (0, .ref (ad 0))]) hx hb dX2_isSaidSo_48 hl (k := 2) rfl (by rw [ex2]; rfl) (by decide) rfl (fun ls hl => ?_)
  refine lv_goto (tgt := 4) hx hb dX2_isSaidSo_51 (by decide) ?_
  exact hk4 (x1, x2) h _ _ _ hw (lv_sub hl [2, 1, 0] rfl)
set_option maxHeartbeats 4000000 in
set_option maxRecDepth 100000 in
theorem kX2_isSaidSo_45 (C : Cx p s m args meth c cX2_isSaidSo 3 RX2 D cA g A) (hr : meth.sig.returnType = (some .boolean)) {z : Int32} (Y : VS) (k4 : ((Int32) × (Int32)) → Option Int32) (hk4 : ∀ x, k4 x = some z → GX2_isSaidSo_4 p l e s m args below meth c D cA A ad Y z x) (x : (Int32) × (Int32)) (h : fX2_isSaidSo_45 Y k4 x = some z) : GX2_isSaidSo_45 p l e s m args below meth c D cA A ad Y z x := by
  obtain ⟨x_2, y_0⟩ := x
  intro H locs ls hw hl
  have hw : Wd D A s.heap (wM cA ad Y) H locs := hw
  have hl : lv_has ls 3 [(0, .ref (ad 0)), (2, .int x_2)] := hl
  show W p l e rmX2_isSaidSo s m args below meth c H locs 0 0 (MQ below (QI D cA A z (wM cA ad Y)) args s 0 0 A) (F0 m 45 ls [.int y_0])
  have hx := C.1.1
  have hb := C.1.2.1
  have h : (fX2_isSaidSo_46 Y k4 (x_2, 0, y_0)) = some z := h
  refine lv_iconst (v := 0) hx hb dX2_isSaidSo_45 (by decide) ?_
  exact kX2_isSaidSo_46 C hr Y k4 hk4 (x_2, 0, y_0) h _ _ _ hw (lv_sub hl [0, 1] rfl)
set_option maxHeartbeats 4000000 in
set_option maxRecDepth 100000 in
theorem kX2_isSaidSo_4 (C : Cx p s m args meth c cX2_isSaidSo 3 RX2 D cA g A) (hr : meth.sig.returnType = (some .boolean)) {z : Int32} (Y : VS) (k4 : ((Int32) × (Int32)) → Option Int32) (hk4 : ∀ x, k4 x = some z → GX2_isSaidSo_4 p l e s m args below meth c D cA A ad Y z x) (x : (Int32) × (Int32)) (h : fX2_isSaidSo_4 Y k4 x = some z) : GX2_isSaidSo_4 p l e s m args below meth c D cA A ad Y z x := by
  obtain ⟨x_1, x_2⟩ := x
  intro H locs ls hw hl
  have hw : Wd D A s.heap (wM cA ad Y) H locs := hw
  have hl : lv_has ls 3 [(0, .ref (ad 0)), (1, .int x_1), (2, .int x_2)] := hl
  have hx := C.1.1
  have hb := C.1.2.1
  have h : (if (Y 9 0) ≤ x_2 then bz x_1 (some x_1) else cl (fX2_isReader Y x_2) (fun r2 => if r2 = 0 then fX2_isSaidSo_45 Y k4 (x_2, x_1) else cl (fX2_wordsOf (Y 1) x_2) (fun r4 => cl (fX2_bits r4) (fun r5 => rd 16 (Y 6) x_2 (fun r6 => if r5 = r6 then fX2_isSaidSo_46 Y k4 (x_2, 1, x_1) else fX2_isSaidSo_45 Y k4 (x_2, x_1)))))) = some z := h
  refine lv_iload_n hx hb dX2_isSaidSo_4 rfl (lv_at hl 2 rfl) ?_
  refine lv_aload_n hx hb dX2_isSaidSo_5 rfl (lv_at hl 0 rfl) ?_
  refine tGet (T := TX2) (N := 13) (ci := 2) C hw inX2 9 0 rfl (by decide) kf_RX2_216 rfl rfl rfl dX2_isSaidSo_6 ?_
  refine lv_icmp_ge (tgt := 54) hx hb dX2_isSaidSo_9 (by decide) (fun c1 => ?_) (fun c1 => ?_)
  · replace h := (if_pos c1).symm.trans h
    refine lv_iload_n hx hb dX2_isSaidSo_54 rfl (lv_at hl 1 rfl) ?_
    obtain ⟨hz, h⟩ := bz_some h
    obtain rfl := some_e h
    exact rtZ C hr hz hw dX2_isSaidSo_55
  · replace h := (if_neg c1).symm.trans h
    refine lv_iload_n hx hb dX2_isSaidSo_12 rfl (lv_at hl 1 rfl) ?_
    refine lv_aload_n hx hb dX2_isSaidSo_13 rfl (lv_at hl 0 rfl) ?_
    refine lv_iload_n hx hb dX2_isSaidSo_14 rfl (lv_at hl 2 rfl) ?_
    obtain ⟨r2, hr2, h⟩ := cl_some h
    refine cVi (ws2 := (wM cA ad Y)) (As := [.int x_2]) (rest := [.int x_1]) C hw jnW (kX2_isReader ad hr2) kl_RX2_147 ki_yX2_isReader ks_yX2_isReader kn_RX2 kc_yX2_isReader ⟨rfl, rfl⟩ hdX2_isReader ⟨Nat.le_of_ble_eq_true rfl, Nat.le_of_ble_eq_true rfl⟩ (ci := 2) (q0 := 0) rfl rfl rfl rfl hl.1 (Nat.le_of_ble_eq_true rfl) dX2_isSaidSo_15 ⟨Nat.zero_le _, Nat.zero_le _⟩ (fun H locs hw => ?_)
    refine lv_if_eq (tgt := 45) hx hb dX2_isSaidSo_18 (by decide) (fun c3 => ?_) (fun c3 => ?_)
    · replace h := (if_pos c3).symm.trans h
      exact kX2_isSaidSo_45 C hr Y k4 hk4 (x_2, x_1) h _ _ _ hw (lv_sub hl [0, 2] rfl)
    · replace h := (if_neg c3).symm.trans h
      refine lv_aload_n hx hb dX2_isSaidSo_21 rfl (lv_at hl 0 rfl) ?_
      refine tGet (T := TX2) (N := 13) (ci := 2) C hw inX2 1 0 rfl (by decide) kf_RX2_13 rfl rfl rfl dX2_isSaidSo_22 ?_
      refine lv_iload_n hx hb dX2_isSaidSo_25 rfl (lv_at hl 2 rfl) ?_
      obtain ⟨r4, hr4, h⟩ := cl_some h
      refine cSi (ws2 := (wM cA ad Y)) (As := [.ref (ad 2), .int x_2]) (rest := [.int x_1]) C hw jM1r (kX2_wordsOf (ad 2) hr4) kl_RX2_91 kt_yX2_wordsOf kn_RX2 kc_yX2_wordsOf ⟨rfl, rfl⟩ hdX2_wordsOf ⟨Nat.le_of_ble_eq_true rfl, Nat.le_of_ble_eq_true rfl⟩ rfl hl.1 (Nat.le_of_ble_eq_true rfl) dX2_isSaidSo_26 ⟨Nat.zero_le _, Nat.zero_le _⟩ (fun H locs hw => ?_)
      obtain ⟨r5, hr5, h⟩ := cl_some h
      refine cSi (ws2 := (wM cA ad Y)) (As := [.int r4]) (rest := [.int x_1]) C hw jnE (kX2_bits hr5) kl_RX2_94 kt_yX2_bits kn_RX2 kc_yX2_bits ⟨rfl, rfl⟩ hdX2_bits ⟨Nat.le_of_ble_eq_true rfl, Nat.le_of_ble_eq_true rfl⟩ rfl hl.1 (Nat.le_of_ble_eq_true rfl) dX2_isSaidSo_29 ⟨Nat.zero_le _, Nat.zero_le _⟩ (fun H locs hw => ?_)
      refine lv_aload_n hx hb dX2_isSaidSo_32 rfl (lv_at hl 0 rfl) ?_
      refine tGet (T := TX2) (N := 13) (ci := 2) C hw inX2 6 0 rfl (by decide) kf_RX2_25 rfl rfl rfl dX2_isSaidSo_33 ?_
      refine lv_iload_n hx hb dX2_isSaidSo_36 rfl (lv_at hl 2 rfl) ?_
      obtain ⟨r6, ir6, er6, h⟩ := rd_some h
      refine tLd C hw 6 rfl ir6 er6 dX2_isSaidSo_37 ?_
      refine lv_icmp_ne (tgt := 45) hx hb dX2_isSaidSo_38 (by decide) (fun c7 => ?_) (fun c7 => ?_)
      · replace h := (if_neg c7).symm.trans h
        exact kX2_isSaidSo_45 C hr Y k4 hk4 (x_2, x_1) h _ _ _ hw (lv_sub hl [0, 2] rfl)
      · replace h := (if_pos c7).symm.trans h
        refine lv_iconst (v := 1) hx hb dX2_isSaidSo_41 (by decide) ?_
        refine lv_goto (tgt := 46) hx hb dX2_isSaidSo_42 (by decide) ?_
        exact kX2_isSaidSo_46 C hr Y k4 hk4 (x_2, 1, x_1) h _ _ _ hw (lv_sub hl [0, 2] rfl)
theorem lX2_isSaidSo_4 (C : Cx p s m args meth c cX2_isSaidSo 3 RX2 D cA g A) (hr : meth.sig.returnType = (some .boolean)) {z : Int32} (Y : VS) (n : Nat) (x : (Int32) × (Int32)) (h : lp (fX2_isSaidSo_4 Y) n x = some z) : GX2_isSaidSo_4 p l e s m args below meth c D cA A ad Y z x := lp_ok (GX2_isSaidSo_4 p l e s m args below meth c D cA A ad Y z) (fun kq hkq x h => kX2_isSaidSo_4 C hr Y kq hkq x h) n x h
set_option maxHeartbeats 4000000 in
set_option maxRecDepth 100000 in
theorem kX2_isSaidSo (ad : Nat → Nat) {Y : VS} {z : Int32} (h : fX2_isSaidSo Y = some z) : MI l D cA g yX2_isSaidSo (Cond.code yX2_isSaidSo cX2_isSaidSo 3 (some .boolean) :: lw_g) rmX2_isSaidSo [.ref (ad 0)] (wM cA ad Y) z (wM cA ad Y) := by
  intro sz
  refine Met.ofW (cc := cX2_isSaidSo) (maxL := 3) (ret := (some .boolean)) (by decide) rfl ?_
  intro p e s m args below meth c s₁ B hml hv
  obtain ⟨rfl, C, hr, hw⟩ := ent B hml hv
  generalize va_A (wM cA ad Y) sz = A at C hw ⊢
  have hl := lv_entry ([.ref (ad 0)]) (n := 3) (Nat.le_of_ble_eq_true rfl)
  rw [lg_entry_eq]
  generalize (lg_sl ([.ref (ad 0)]) ++ List.replicate (3 - (lg_sl ([.ref (ad 0)])).length) Slot.unset).toArray = ls at hl ⊢
  have hl : lv_has ls 3 [(0, .ref (ad 0))] := hl
  have hx := C.1.1
  have hb := C.1.2.1
  have h : (lp (fX2_isSaidSo_4 Y) 5000 (1, 0)) = some z := h
  refine lv_iconst (v := 1) hx hb dX2_isSaidSo_0 (by decide) ?_
  refine lv_istore_n (lv' := [(1, .int 1), (0, .ref (ad 0))]) hx hb dX2_isSaidSo_1 rfl hl (by decide) rfl (fun ls hl => ?_)
  refine lv_iconst (v := 0) hx hb dX2_isSaidSo_2 (by decide) ?_
  refine lv_istore_n (lv' := [(2, .int 0), (1, .int 1), (0, .ref (ad 0))]) hx hb dX2_isSaidSo_3 rfl hl (by decide) rfl (fun ls hl => ?_)
  exact lX2_isSaidSo_4 C hr Y 5000 (1, 0) h _ _ _ hw (lv_sub hl [2, 1, 0] rfl)
abbrev rmX2_whatSaid : Room := { frames := 4, cells := 0, slots := 0, locals := 91 }
theorem hdX2_whatSaid : yX2_whatSaid.cls = RX2 ∧ yX2_whatSaid.cls ≠ "java/lang/invoke/MethodHandle" ∧ yX2_whatSaid.cls ≠ "java/lang/invoke/VarHandle" ∧ (parseMethodDescriptor yX2_whatSaid.desc).map (fun d => d.parameters.length) = some 2 := by decide +kernel
def GX2_whatSaid_107 (p : Program) (l : Launch) (e : Env) (s : State) (m : MethodId) (args : Array Value) (below : List Frame) (meth : Method) (c : Code) (D : va_G) (cA : ClassId) (A : Nat → Prop) (ad : Nat → Nat) (z : (Int32 × VS)) (x : (VS) × (Int32) × (Int32) × (Int32) × (Int32) × (Int32)) : Prop := ∀ (H : Heap) (locs : List Loc) (ls : Array Slot), Wd D A s.heap (wM cA ad x.1) H locs → lv_has ls 5 [(0, .ref (ad 0)), (1, .int x.2.1), (2, .int x.2.2.1), (4, .int x.2.2.2.1)] → W p l e rmX2_whatSaid s m args below meth c H locs 0 0 (MQ below (QI D cA A z.1 (wM cA ad z.2)) args s 0 0 A) (F0 m 107 ls [.int x.2.2.2.2.1, .int x.2.2.2.2.2])
def GX2_whatSaid_76 (p : Program) (l : Launch) (e : Env) (s : State) (m : MethodId) (args : Array Value) (below : List Frame) (meth : Method) (c : Code) (D : va_G) (cA : ClassId) (A : Nat → Prop) (ad : Nat → Nat) (z : (Int32 × VS)) (x : (VS) × (Int32) × (Int32) × (Int32) × (Int32) × (Int32) × (Int32)) : Prop := ∀ (H : Heap) (locs : List Loc) (ls : Array Slot), Wd D A s.heap (wM cA ad x.1) H locs → lv_has ls 5 [(0, .ref (ad 0)), (1, .int x.2.1), (2, .int x.2.2.1), (3, .int x.2.2.2.1), (4, .int x.2.2.2.2.1)] → W p l e rmX2_whatSaid s m args below meth c H locs 0 0 (MQ below (QI D cA A z.1 (wM cA ad z.2)) args s 0 0 A) (F0 m 76 ls [.int x.2.2.2.2.2.1, .int x.2.2.2.2.2.2, .ref (ad 2)])
def GX2_whatSaid_48 (p : Program) (l : Launch) (e : Env) (s : State) (m : MethodId) (args : Array Value) (below : List Frame) (meth : Method) (c : Code) (D : va_G) (cA : ClassId) (A : Nat → Prop) (ad : Nat → Nat) (z : (Int32 × VS)) (x : (VS) × (Int32) × (Int32) × (Int32) × (Int32) × (Int32) × (Int32)) : Prop := ∀ (H : Heap) (locs : List Loc) (ls : Array Slot), Wd D A s.heap (wM cA ad x.1) H locs → lv_has ls 5 [(0, .ref (ad 0)), (1, .int x.2.1), (2, .int x.2.2.1), (3, .int x.2.2.2.1), (4, .int x.2.2.2.2.1)] → W p l e rmX2_whatSaid s m args below meth c H locs 0 0 (MQ below (QI D cA A z.1 (wM cA ad z.2)) args s 0 0 A) (F0 m 48 ls [.int x.2.2.2.2.2.1, .int x.2.2.2.2.2.2])
def GX2_whatSaid_35 (p : Program) (l : Launch) (e : Env) (s : State) (m : MethodId) (args : Array Value) (below : List Frame) (meth : Method) (c : Code) (D : va_G) (cA : ClassId) (A : Nat → Prop) (ad : Nat → Nat) (z : (Int32 × VS)) (x : (VS) × (Int32) × (Int32) × (Int32) × (Int32)) : Prop := ∀ (H : Heap) (locs : List Loc) (ls : Array Slot), Wd D A s.heap (wM cA ad x.1) H locs → lv_has ls 5 [(0, .ref (ad 0)), (1, .int x.2.1), (2, .int x.2.2.1), (3, .int x.2.2.2.1), (4, .int x.2.2.2.2)] → W p l e rmX2_whatSaid s m args below meth c H locs 0 0 (MQ below (QI D cA A z.1 (wM cA ad z.2)) args s 0 0 A) (F0 m 35 ls [])
def fX2_whatSaid_107 (k35 : ((VS) × (Int32) × (Int32) × (Int32) × (Int32)) → Option (Int32 × VS)) : ((VS) × (Int32) × (Int32) × (Int32) × (Int32) × (Int32)) → Option (Int32 × VS) := fun x => match x with | (Y, x_1, x_2, x_4, y_0, y_1) => bn (y_1 ||| y_0) (fun x1 => bn (x_4 + 1) (fun x2 => k35 (Y, x_1, x_2, x1, x2)))
def fX2_whatSaid_76 (k35 : ((VS) × (Int32) × (Int32) × (Int32) × (Int32)) → Option (Int32 × VS)) : ((VS) × (Int32) × (Int32) × (Int32) × (Int32) × (Int32) × (Int32)) → Option (Int32 × VS) := fun x => match x with | (Y, x_1, x_2, x_3, x_4, y_0, y_1) => cl (fX2_ofR y_1 y_0) (fun r1 => ck 81 r1 (bn (up Y 1 (upd (Y 1) (r1 : Int32).toNatClampNeg x_4)) (fun w2 => cl (fX2_bursts (w2 1) x_1 (-1)) (fun w3 => bn (up w2 1 w3) (fun w4 => cl (fX2_isSaidSo w4) (fun r5 => if r5 = 0 then fX2_whatSaid_107 k35 (w4, x_1, x_2, x_4, 0, x_3) else fX2_whatSaid_107 k35 (w4, x_1, x_2, x_4, ((1 : Int32) <<< (x_4 &&& 31)), x_3)))))))
def fX2_whatSaid_48 (k35 : ((VS) × (Int32) × (Int32) × (Int32) × (Int32)) → Option (Int32 × VS)) : ((VS) × (Int32) × (Int32) × (Int32) × (Int32) × (Int32) × (Int32)) → Option (Int32 × VS) := fun x => match x with | (Y, x_1, x_2, x_3, x_4, y_0, y_1) => if y_0 ≤ y_1 then some (x_3, Y) else cl (fX2_copies (Y 0) (Y 1)) (fun w2 => bn (up Y 1 w2) (fun w3 => if x_2 = 0 then fX2_whatSaid_76 k35 (w3, x_1, x_2, x_3, x_4, 2, x_1) else fX2_whatSaid_76 k35 (w3, x_1, x_2, x_3, x_4, 0, x_1)))
def fX2_whatSaid_35 (k35 : ((VS) × (Int32) × (Int32) × (Int32) × (Int32)) → Option (Int32 × VS)) : ((VS) × (Int32) × (Int32) × (Int32) × (Int32)) → Option (Int32 × VS) := fun x => match x with | (Y, x_1, x_2, x_3, x_4) => if x_2 = 0 then fX2_whatSaid_48 k35 (Y, x_1, x_2, x_3, x_4, 6, x_4) else fX2_whatSaid_48 k35 (Y, x_1, x_2, x_3, x_4, 6, x_4)
def fX2_whatSaid (Y : VS) (a_1 : Int32) (a_2 : Int32) : Option (Int32 × VS) := cl (fX2_isRocket Y a_1) (fun r1 => if r1 = 0 then cl (fX2_no Y (-1)) (fun q6 => some (q6.1, q6.2)) else cl (fX2_isIn a_2 0 1) (fun r3 => if r3 = 0 then cl (fX2_no Y (-2)) (fun q5 => some (q5.1, q5.2)) else lp (fX2_whatSaid_35) 5000 (Y, a_1, a_2, 0, 0)))
set_option maxHeartbeats 4000000 in
set_option maxRecDepth 100000 in
theorem kX2_whatSaid_107 (C : Cx p s m args meth c cX2_whatSaid 5 RX2 D cA g A) (hr : meth.sig.returnType = (some .int)) {z : (Int32 × VS)} (k35 : ((VS) × (Int32) × (Int32) × (Int32) × (Int32)) → Option (Int32 × VS)) (hk35 : ∀ x, k35 x = some z → GX2_whatSaid_35 p l e s m args below meth c D cA A ad z x) (x : (VS) × (Int32) × (Int32) × (Int32) × (Int32) × (Int32)) (h : fX2_whatSaid_107 k35 x = some z) : GX2_whatSaid_107 p l e s m args below meth c D cA A ad z x := by
  obtain ⟨Y, x_1, x_2, x_4, y_0, y_1⟩ := x
  intro H locs ls hw hl
  have hw : Wd D A s.heap (wM cA ad Y) H locs := hw
  have hl : lv_has ls 5 [(0, .ref (ad 0)), (1, .int x_1), (2, .int x_2), (4, .int x_4)] := hl
  show W p l e rmX2_whatSaid s m args below meth c H locs 0 0 (MQ below (QI D cA A z.1 (wM cA ad z.2)) args s 0 0 A) (F0 m 107 ls [.int y_0, .int y_1])
  have hx := C.1.1
  have hb := C.1.2.1
  have h : (bn (y_1 ||| y_0) (fun x1 => bn (x_4 + 1) (fun x2 => k35 (Y, x_1, x_2, x1, x2)))) = some z := h
  refine lv_ior hx hb dX2_whatSaid_107 ?_
  refine lv_topi (fun x1 ex1 => ?_)
  replace h := bn_some h ex1
  refine lv_istore_n (lv' := [(3, .int x1), (0, .ref (ad 0)), (1, .int x_1), (2, .int x_2), (4, .int x_4)]) hx hb dX2_whatSaid_108 rfl hl (by decide) rfl (fun ls hl => ?_)
  obtain ⟨x2, ex2⟩ : ∃ y : Int32, y = x_4 + 1 := ⟨_, rfl⟩
  replace h := bn_some h ex2
  refine lv_iinc (v := x2) (lv' := [(4, .int x2), (3, .int x1), (0, .ref (ad 0)), (1, .int x_1), (2, .int x_2)]) hx hb dX2_whatSaid_109 hl (k := 4) rfl (by rw [ex2]; rfl) (by decide) rfl (fun ls hl => ?_)
  refine lv_goto (tgt := 35) hx hb dX2_whatSaid_112 (by decide) ?_
  exact hk35 (Y, x_1, x_2, x1, x2) h _ _ _ hw (lv_sub hl [2, 3, 4, 1, 0] rfl)
set_option maxHeartbeats 4000000 in
set_option maxRecDepth 100000 in
theorem kX2_whatSaid_76 (C : Cx p s m args meth c cX2_whatSaid 5 RX2 D cA g A) (hr : meth.sig.returnType = (some .int)) {z : (Int32 × VS)} (k35 : ((VS) × (Int32) × (Int32) × (Int32) × (Int32)) → Option (Int32 × VS)) (hk35 : ∀ x, k35 x = some z → GX2_whatSaid_35 p l e s m args below meth c D cA A ad z x) (x : (VS) × (Int32) × (Int32) × (Int32) × (Int32) × (Int32) × (Int32)) (h : fX2_whatSaid_76 k35 x = some z) : GX2_whatSaid_76 p l e s m args below meth c D cA A ad z x := by
  obtain ⟨Y, x_1, x_2, x_3, x_4, y_0, y_1⟩ := x
  intro H locs ls hw hl
  have hw : Wd D A s.heap (wM cA ad Y) H locs := hw
  have hl : lv_has ls 5 [(0, .ref (ad 0)), (1, .int x_1), (2, .int x_2), (3, .int x_3), (4, .int x_4)] := hl
  show W p l e rmX2_whatSaid s m args below meth c H locs 0 0 (MQ below (QI D cA A z.1 (wM cA ad z.2)) args s 0 0 A) (F0 m 76 ls [.int y_0, .int y_1, .ref (ad 2)])
  have hx := C.1.1
  have hb := C.1.2.1
  have h : (cl (fX2_ofR y_1 y_0) (fun r1 => ck 81 r1 (bn (up Y 1 (upd (Y 1) (r1 : Int32).toNatClampNeg x_4)) (fun w2 => cl (fX2_bursts (w2 1) x_1 (-1)) (fun w3 => bn (up w2 1 w3) (fun w4 => cl (fX2_isSaidSo w4) (fun r5 => if r5 = 0 then fX2_whatSaid_107 k35 (w4, x_1, x_2, x_4, 0, x_3) else fX2_whatSaid_107 k35 (w4, x_1, x_2, x_4, ((1 : Int32) <<< (x_4 &&& 31)), x_3)))))))) = some z := h
  obtain ⟨r1, hr1, h⟩ := cl_some h
  refine cSi (ws2 := (wM cA ad Y)) (As := [.int y_1, .int y_0]) (rest := [.ref (ad 2)]) C hw jnE (kX2_ofR hr1) kl_RX2_44 kt_yX2_ofR kn_RX2 kc_yX2_ofR ⟨rfl, rfl⟩ hdX2_ofR ⟨Nat.le_of_ble_eq_true rfl, Nat.le_of_ble_eq_true rfl⟩ rfl hl.1 (Nat.le_of_ble_eq_true rfl) dX2_whatSaid_76 ⟨Nat.zero_le _, Nat.zero_le _⟩ (fun H locs hw => ?_)
  refine lv_iload hx hb dX2_whatSaid_79 (lv_at hl 4 rfl) ?_
  obtain ⟨iw2, h⟩ := ck_some h
  obtain ⟨w2, ew2⟩ : ∃ y : VS, y = up Y 1 (upd (Y 1) (r1 : Int32).toNatClampNeg x_4) := ⟨_, rfl⟩
  replace h := bn_some h ew2
  refine tSt (ws2 := (wM cA ad w2)) C hw 2 rfl iw2 (by rw [ew2]; rfl) dX2_whatSaid_81 (fun H locs hw => ?_)
  refine lv_aload_n hx hb dX2_whatSaid_82 rfl (lv_at hl 0 rfl) ?_
  refine tGet (T := TX2) (N := 13) (ci := 2) C hw inX2 1 0 rfl (by decide) kf_RX2_13 rfl rfl rfl dX2_whatSaid_83 ?_
  refine lv_iload_n hx hb dX2_whatSaid_86 rfl (lv_at hl 1 rfl) ?_
  refine lv_iconst (v := (-1)) hx hb dX2_whatSaid_87 (by decide) ?_
  obtain ⟨w3, hw3, h⟩ := cl_some h
  obtain ⟨w4, ew4⟩ : ∃ y : VS, y = up w2 1 w3 := ⟨_, rfl⟩
  replace h := bn_some h ew4
  refine cSv (ws2 := (wM cA ad w4)) (As := [.ref (ad 2), .int x_1, .int (-1)]) (rest := []) C hw (by rw [ew4]; exact jM1) (kX2_bursts (ad 2) hw3) kl_RX2_72 kt_yX2_bursts kn_RX2 kc_yX2_bursts ⟨rfl, rfl⟩ hdX2_bursts ⟨Nat.le_of_ble_eq_true rfl, Nat.le_of_ble_eq_true rfl⟩ rfl hl.1 (Nat.le_of_ble_eq_true rfl) dX2_whatSaid_88 ⟨Nat.zero_le _, Nat.zero_le _⟩ (fun H locs hw => ?_)
  refine lv_iload_n hx hb dX2_whatSaid_91 rfl (lv_at hl 3 rfl) ?_
  refine lv_aload_n hx hb dX2_whatSaid_92 rfl (lv_at hl 0 rfl) ?_
  obtain ⟨r5, hr5, h⟩ := cl_some h
  refine cVi (ws2 := (wM cA ad w4)) (As := []) (rest := [.int x_3]) C hw jnW (kX2_isSaidSo ad hr5) kl_RX2_219 ki_yX2_isSaidSo ks_yX2_isSaidSo kn_RX2 kc_yX2_isSaidSo ⟨rfl, rfl⟩ hdX2_isSaidSo ⟨Nat.le_of_ble_eq_true rfl, Nat.le_of_ble_eq_true rfl⟩ (ci := 2) (q0 := 0) rfl rfl rfl rfl hl.1 (Nat.le_of_ble_eq_true rfl) dX2_whatSaid_93 ⟨Nat.zero_le _, Nat.zero_le _⟩ (fun H locs hw => ?_)
  refine lv_if_eq (tgt := 106) hx hb dX2_whatSaid_96 (by decide) (fun c6 => ?_) (fun c6 => ?_)
  · replace h := (if_pos c6).symm.trans h
    refine lv_iconst (v := 0) hx hb dX2_whatSaid_106 (by decide) ?_
    exact kX2_whatSaid_107 C hr k35 hk35 (w4, x_1, x_2, x_4, 0, x_3) h _ _ _ hw (lv_sub hl [0, 1, 2, 4] rfl)
  · replace h := (if_neg c6).symm.trans h
    refine lv_iconst (v := 1) hx hb dX2_whatSaid_99 (by decide) ?_
    refine lv_iload hx hb dX2_whatSaid_100 (lv_at hl 4 rfl) ?_
    refine lv_ishl hx hb dX2_whatSaid_102 ?_
    refine lv_goto (tgt := 107) hx hb dX2_whatSaid_103 (by decide) ?_
    exact kX2_whatSaid_107 C hr k35 hk35 (w4, x_1, x_2, x_4, ((1 : Int32) <<< (x_4 &&& 31)), x_3) h _ _ _ hw (lv_sub hl [0, 1, 2, 4] rfl)
set_option maxHeartbeats 4000000 in
set_option maxRecDepth 100000 in
theorem kX2_whatSaid_48 (C : Cx p s m args meth c cX2_whatSaid 5 RX2 D cA g A) (hr : meth.sig.returnType = (some .int)) {z : (Int32 × VS)} (k35 : ((VS) × (Int32) × (Int32) × (Int32) × (Int32)) → Option (Int32 × VS)) (hk35 : ∀ x, k35 x = some z → GX2_whatSaid_35 p l e s m args below meth c D cA A ad z x) (x : (VS) × (Int32) × (Int32) × (Int32) × (Int32) × (Int32) × (Int32)) (h : fX2_whatSaid_48 k35 x = some z) : GX2_whatSaid_48 p l e s m args below meth c D cA A ad z x := by
  obtain ⟨Y, x_1, x_2, x_3, x_4, y_0, y_1⟩ := x
  intro H locs ls hw hl
  have hw : Wd D A s.heap (wM cA ad Y) H locs := hw
  have hl : lv_has ls 5 [(0, .ref (ad 0)), (1, .int x_1), (2, .int x_2), (3, .int x_3), (4, .int x_4)] := hl
  show W p l e rmX2_whatSaid s m args below meth c H locs 0 0 (MQ below (QI D cA A z.1 (wM cA ad z.2)) args s 0 0 A) (F0 m 48 ls [.int y_0, .int y_1])
  have hx := C.1.1
  have hb := C.1.2.1
  have h : (if y_0 ≤ y_1 then some (x_3, Y) else cl (fX2_copies (Y 0) (Y 1)) (fun w2 => bn (up Y 1 w2) (fun w3 => if x_2 = 0 then fX2_whatSaid_76 k35 (w3, x_1, x_2, x_3, x_4, 2, x_1) else fX2_whatSaid_76 k35 (w3, x_1, x_2, x_3, x_4, 0, x_1)))) = some z := h
  refine lv_icmp_ge (tgt := 115) hx hb dX2_whatSaid_48 (by decide) (fun c1 => ?_) (fun c1 => ?_)
  · replace h := (if_pos c1).symm.trans h
    refine lv_iload_n hx hb dX2_whatSaid_115 rfl (lv_at hl 3 rfl) ?_
    obtain rfl := some_e h
    exact rtI C hr hw dX2_whatSaid_116
  · replace h := (if_neg c1).symm.trans h
    refine lv_aload_n hx hb dX2_whatSaid_51 rfl (lv_at hl 0 rfl) ?_
    refine tGet (T := TX2) (N := 13) (ci := 2) C hw inX2 0 0 rfl (by decide) kf_RX2_9 rfl rfl rfl dX2_whatSaid_52 ?_
    refine lv_aload_n hx hb dX2_whatSaid_55 rfl (lv_at hl 0 rfl) ?_
    refine tGet (T := TX2) (N := 13) (ci := 2) C hw inX2 1 0 rfl (by decide) kf_RX2_13 rfl rfl rfl dX2_whatSaid_56 ?_
    obtain ⟨w2, hw2, h⟩ := cl_some h
    obtain ⟨w3, ew3⟩ : ∃ y : VS, y = up Y 1 w2 := ⟨_, rfl⟩
    replace h := bn_some h ew3
    refine cSv (ws2 := (wM cA ad w3)) (As := [.ref (ad 1), .ref (ad 2)]) (rest := []) C hw (by rw [ew3]; exact jMM01) (kX2_copies (ad 1) (ad 2) hw2) kl_RX2_134 kt_yX2_copies kn_RX2 kc_yX2_copies ⟨rfl, rfl⟩ hdX2_copies ⟨Nat.le_of_ble_eq_true rfl, Nat.le_of_ble_eq_true rfl⟩ rfl hl.1 (Nat.le_of_ble_eq_true rfl) dX2_whatSaid_59 ⟨Nat.zero_le _, Nat.zero_le _⟩ (fun H locs hw => ?_)
    refine lv_aload_n hx hb dX2_whatSaid_62 rfl (lv_at hl 0 rfl) ?_
    refine tGet (T := TX2) (N := 13) (ci := 2) C hw inX2 1 0 rfl (by decide) kf_RX2_13 rfl rfl rfl dX2_whatSaid_63 ?_
    refine lv_iload_n hx hb dX2_whatSaid_66 rfl (lv_at hl 1 rfl) ?_
    refine lv_iload_n hx hb dX2_whatSaid_67 rfl (lv_at hl 2 rfl) ?_
    refine lv_if_ne (tgt := 75) hx hb dX2_whatSaid_68 (by decide) (fun c4 => ?_) (fun c4 => ?_)
    · replace h := (if_neg c4).symm.trans h
      refine lv_iconst (v := 0) hx hb dX2_whatSaid_75 (by decide) ?_
      exact kX2_whatSaid_76 C hr k35 hk35 (w3, x_1, x_2, x_3, x_4, 0, x_1) h _ _ _ hw (lv_sub hl [0, 1, 2, 3, 4] rfl)
    · replace h := (if_pos c4).symm.trans h
      refine lv_iconst (v := 2) hx hb dX2_whatSaid_71 (by decide) ?_
      refine lv_goto (tgt := 76) hx hb dX2_whatSaid_72 (by decide) ?_
      exact kX2_whatSaid_76 C hr k35 hk35 (w3, x_1, x_2, x_3, x_4, 2, x_1) h _ _ _ hw (lv_sub hl [0, 1, 2, 3, 4] rfl)
set_option maxHeartbeats 4000000 in
set_option maxRecDepth 100000 in
theorem kX2_whatSaid_35 (C : Cx p s m args meth c cX2_whatSaid 5 RX2 D cA g A) (hr : meth.sig.returnType = (some .int)) {z : (Int32 × VS)} (k35 : ((VS) × (Int32) × (Int32) × (Int32) × (Int32)) → Option (Int32 × VS)) (hk35 : ∀ x, k35 x = some z → GX2_whatSaid_35 p l e s m args below meth c D cA A ad z x) (x : (VS) × (Int32) × (Int32) × (Int32) × (Int32)) (h : fX2_whatSaid_35 k35 x = some z) : GX2_whatSaid_35 p l e s m args below meth c D cA A ad z x := by
  obtain ⟨Y, x_1, x_2, x_3, x_4⟩ := x
  intro H locs ls hw hl
  have hw : Wd D A s.heap (wM cA ad Y) H locs := hw
  have hl : lv_has ls 5 [(0, .ref (ad 0)), (1, .int x_1), (2, .int x_2), (3, .int x_3), (4, .int x_4)] := hl
  have hx := C.1.1
  have hb := C.1.2.1
  have h : (if x_2 = 0 then fX2_whatSaid_48 k35 (Y, x_1, x_2, x_3, x_4, 6, x_4) else fX2_whatSaid_48 k35 (Y, x_1, x_2, x_3, x_4, 6, x_4)) = some z := h
  refine lv_iload hx hb dX2_whatSaid_35 (lv_at hl 4 rfl) ?_
  refine lv_iload_n hx hb dX2_whatSaid_37 rfl (lv_at hl 2 rfl) ?_
  refine lv_if_ne (tgt := 46) hx hb dX2_whatSaid_38 (by decide) (fun c1 => ?_) (fun c1 => ?_)
  · replace h := (if_neg c1).symm.trans h
    refine lv_bipush (v := 6) hx hb dX2_whatSaid_46 (by decide) ?_
    exact kX2_whatSaid_48 C hr k35 hk35 (Y, x_1, x_2, x_3, x_4, 6, x_4) h _ _ _ hw (lv_sub hl [0, 1, 2, 3, 4] rfl)
  · replace h := (if_pos c1).symm.trans h
    refine lv_bipush (v := 6) hx hb dX2_whatSaid_41 (by decide) ?_
    refine lv_goto (tgt := 48) hx hb dX2_whatSaid_43 (by decide) ?_
    exact kX2_whatSaid_48 C hr k35 hk35 (Y, x_1, x_2, x_3, x_4, 6, x_4) h _ _ _ hw (lv_sub hl [0, 1, 2, 3, 4] rfl)
theorem lX2_whatSaid_35 (C : Cx p s m args meth c cX2_whatSaid 5 RX2 D cA g A) (hr : meth.sig.returnType = (some .int)) {z : (Int32 × VS)} (n : Nat) (x : (VS) × (Int32) × (Int32) × (Int32) × (Int32)) (h : lp (fX2_whatSaid_35) n x = some z) : GX2_whatSaid_35 p l e s m args below meth c D cA A ad z x := lp_ok (GX2_whatSaid_35 p l e s m args below meth c D cA A ad z) (fun kq hkq x h => kX2_whatSaid_35 C hr kq hkq x h) n x h
set_option maxHeartbeats 4000000 in
set_option maxRecDepth 100000 in
theorem kX2_whatSaid (ad : Nat → Nat) {Y : VS} {a_1 : Int32} {a_2 : Int32} {z : (Int32 × VS)} (h : fX2_whatSaid Y a_1 a_2 = some z) : MI l D cA g yX2_whatSaid (Cond.code yX2_whatSaid cX2_whatSaid 5 (some .int) :: lw_g) rmX2_whatSaid [.ref (ad 0), .int a_1, .int a_2] (wM cA ad Y) z.1 (wM cA ad z.2) := by
  intro sz
  refine Met.ofW (cc := cX2_whatSaid) (maxL := 5) (ret := (some .int)) (by decide) rfl ?_
  intro p e s m args below meth c s₁ B hml hv
  obtain ⟨rfl, C, hr, hw⟩ := ent B hml hv
  generalize va_A (wM cA ad Y) sz = A at C hw ⊢
  have hl := lv_entry ([.ref (ad 0), .int a_1, .int a_2]) (n := 5) (Nat.le_of_ble_eq_true rfl)
  rw [lg_entry_eq]
  generalize (lg_sl ([.ref (ad 0), .int a_1, .int a_2]) ++ List.replicate (5 - (lg_sl ([.ref (ad 0), .int a_1, .int a_2])).length) Slot.unset).toArray = ls at hl ⊢
  have hl : lv_has ls 5 [(0, .ref (ad 0)), (1, .int a_1), (2, .int a_2)] := hl
  have hx := C.1.1
  have hb := C.1.2.1
  have h : (cl (fX2_isRocket Y a_1) (fun r1 => if r1 = 0 then cl (fX2_no Y (-1)) (fun q6 => some (q6.1, q6.2)) else cl (fX2_isIn a_2 0 1) (fun r3 => if r3 = 0 then cl (fX2_no Y (-2)) (fun q5 => some (q5.1, q5.2)) else lp (fX2_whatSaid_35) 5000 (Y, a_1, a_2, 0, 0)))) = some z := h
  refine lv_aload_n hx hb dX2_whatSaid_0 rfl (lv_at hl 0 rfl) ?_
  refine lv_iload_n hx hb dX2_whatSaid_1 rfl (lv_at hl 1 rfl) ?_
  obtain ⟨r1, hr1, h⟩ := cl_some h
  refine cVi (ws2 := (wM cA ad Y)) (As := [.int a_1]) (rest := []) C hw jnW (kX2_isRocket ad hr1) kl_RX2_124 ki_yX2_isRocket ks_yX2_isRocket kn_RX2 kc_yX2_isRocket ⟨rfl, rfl⟩ hdX2_isRocket ⟨Nat.le_of_ble_eq_true rfl, Nat.le_of_ble_eq_true rfl⟩ (ci := 2) (q0 := 0) rfl rfl rfl rfl hl.1 (Nat.le_of_ble_eq_true rfl) dX2_whatSaid_2 ⟨Nat.zero_le _, Nat.zero_le _⟩ (fun H locs hw => ?_)
  refine lv_if_ne (tgt := 14) hx hb dX2_whatSaid_5 (by decide) (fun c2 => ?_) (fun c2 => ?_)
  · replace h := (if_neg c2).symm.trans h
    refine lv_iload_n hx hb dX2_whatSaid_14 rfl (lv_at hl 2 rfl) ?_
    refine lv_iconst (v := 0) hx hb dX2_whatSaid_15 (by decide) ?_
    refine lv_iconst (v := 1) hx hb dX2_whatSaid_16 (by decide) ?_
    obtain ⟨r3, hr3, h⟩ := cl_some h
    refine cSi (ws2 := (wM cA ad Y)) (As := [.int a_2, .int 0, .int 1]) (rest := []) C hw jnE (kX2_isIn hr3) kl_RX2_40 kt_yX2_isIn kn_RX2 kc_yX2_isIn ⟨rfl, rfl⟩ hdX2_isIn ⟨Nat.le_of_ble_eq_true rfl, Nat.le_of_ble_eq_true rfl⟩ rfl hl.1 (Nat.le_of_ble_eq_true rfl) dX2_whatSaid_17 ⟨Nat.zero_le _, Nat.zero_le _⟩ (fun H locs hw => ?_)
    refine lv_if_ne (tgt := 30) hx hb dX2_whatSaid_20 (by decide) (fun c4 => ?_) (fun c4 => ?_)
    · replace h := (if_neg c4).symm.trans h
      refine lv_iconst (v := 0) hx hb dX2_whatSaid_30 (by decide) ?_
      refine lv_istore_n (lv' := [(3, .int 0), (0, .ref (ad 0)), (1, .int a_1), (2, .int a_2)]) hx hb dX2_whatSaid_31 rfl hl (by decide) rfl (fun ls hl => ?_)
      refine lv_iconst (v := 0) hx hb dX2_whatSaid_32 (by decide) ?_
      refine lv_istore (lv' := [(4, .int 0), (3, .int 0), (0, .ref (ad 0)), (1, .int a_1), (2, .int a_2)]) hx hb dX2_whatSaid_33 hl (by decide) rfl (fun ls hl => ?_)
      exact lX2_whatSaid_35 C hr 5000 (Y, a_1, a_2, 0, 0) h _ _ _ hw (lv_sub hl [2, 3, 4, 1, 0] rfl)
    · replace h := (if_pos c4).symm.trans h
      refine lv_aload_n hx hb dX2_whatSaid_23 rfl (lv_at hl 0 rfl) ?_
      refine lv_bipush (v := (-2)) hx hb dX2_whatSaid_24 (by decide) ?_
      obtain ⟨q5, hq5, h⟩ := cl_some h
      refine cVi (ws2 := (wM cA ad q5.2)) (As := [.int (-2)]) (rest := []) C hw jnW (kX2_no ad hq5) kl_RX2_36 ki_yX2_no ks_yX2_no kn_RX2 kc_yX2_no ⟨rfl, rfl⟩ hdX2_no ⟨Nat.le_of_ble_eq_true rfl, Nat.le_of_ble_eq_true rfl⟩ (ci := 2) (q0 := 0) rfl rfl rfl rfl hl.1 (Nat.le_of_ble_eq_true rfl) dX2_whatSaid_26 ⟨Nat.zero_le _, Nat.zero_le _⟩ (fun H locs hw => ?_)
      obtain rfl := some_e h
      exact rtI C hr hw dX2_whatSaid_29
  · replace h := (if_pos c2).symm.trans h
    refine lv_aload_n hx hb dX2_whatSaid_8 rfl (lv_at hl 0 rfl) ?_
    refine lv_iconst (v := (-1)) hx hb dX2_whatSaid_9 (by decide) ?_
    obtain ⟨q6, hq6, h⟩ := cl_some h
    refine cVi (ws2 := (wM cA ad q6.2)) (As := [.int (-1)]) (rest := []) C hw jnW (kX2_no ad hq6) kl_RX2_36 ki_yX2_no ks_yX2_no kn_RX2 kc_yX2_no ⟨rfl, rfl⟩ hdX2_no ⟨Nat.le_of_ble_eq_true rfl, Nat.le_of_ble_eq_true rfl⟩ (ci := 2) (q0 := 0) rfl rfl rfl rfl hl.1 (Nat.le_of_ble_eq_true rfl) dX2_whatSaid_10 ⟨Nat.zero_le _, Nat.zero_le _⟩ (fun H locs hw => ?_)
    obtain rfl := some_e h
    exact rtI C hr hw dX2_whatSaid_13
abbrev rmX2_row : Room := { frames := 1, cells := 0, slots := 0, locals := 22 }
theorem hdX2_row : yX2_row.cls = RX2 ∧ yX2_row.cls ≠ "java/lang/invoke/MethodHandle" ∧ yX2_row.cls ≠ "java/lang/invoke/VarHandle" ∧ (parseMethodDescriptor yX2_row.desc).map (fun d => d.parameters.length) = some 1 := by decide +kernel
def GX2_row_24 (p : Program) (l : Launch) (e : Env) (s : State) (m : MethodId) (args : Array Value) (below : List Frame) (meth : Method) (c : Code) (D : va_G) (cA : ClassId) (A : Nat → Prop) (ad : Nat → Nat) (z : (Int32 × VS)) (x : (VS) × (Int32) × (Int32)) : Prop := ∀ (H : Heap) (locs : List Loc) (ls : Array Slot), Wd D A s.heap (wM cA ad x.1) H locs → lv_has ls 3 [(0, .ref (ad 0)), (1, .int x.2.1), (2, .int x.2.2)] → W p l e rmX2_row s m args below meth c H locs 0 0 (MQ below (QI D cA A z.1 (wM cA ad z.2)) args s 0 0 A) (F0 m 24 ls [])
def fX2_row_24 : ((VS) × (Int32) × (Int32)) → Option (Int32 × VS) := fun x => match x with | (Y, x_1, x_2) => if x_2 = 0 then ck 16 (Y 9 0) (bn (up Y 6 (upd (Y 6) ((Y 9 0) : Int32).toNatClampNeg x_1)) (fun w2 => bn (up w2 9 (fun _ => ((w2 9 0) + (1 : Int32)))) (fun w3 => some ((w3 9 0), w3)))) else cl (fX2_no Y x_2) (fun q4 => some (q4.1, q4.2))
def fX2_row (Y : VS) (a_1 : Int32) : Option (Int32 × VS) := cl (fX2_wrongBy a_1 0 99) (fun r1 => if r1 = 0 then if (Y 9 0) = 16 then fX2_row_24 (Y, a_1, (-6)) else fX2_row_24 (Y, a_1, r1) else fX2_row_24 (Y, a_1, r1))
set_option maxHeartbeats 4000000 in
set_option maxRecDepth 100000 in
theorem kX2_row_24 (C : Cx p s m args meth c cX2_row 3 RX2 D cA g A) (hr : meth.sig.returnType = (some .int)) {z : (Int32 × VS)} (x : (VS) × (Int32) × (Int32)) (h : fX2_row_24 x = some z) : GX2_row_24 p l e s m args below meth c D cA A ad z x := by
  obtain ⟨Y, x_1, x_2⟩ := x
  intro H locs ls hw hl
  have hw : Wd D A s.heap (wM cA ad Y) H locs := hw
  have hl : lv_has ls 3 [(0, .ref (ad 0)), (1, .int x_1), (2, .int x_2)] := hl
  have hx := C.1.1
  have hb := C.1.2.1
  have h : (if x_2 = 0 then ck 16 (Y 9 0) (bn (up Y 6 (upd (Y 6) ((Y 9 0) : Int32).toNatClampNeg x_1)) (fun w2 => bn (up w2 9 (fun _ => ((w2 9 0) + (1 : Int32)))) (fun w3 => some ((w3 9 0), w3)))) else cl (fX2_no Y x_2) (fun q4 => some (q4.1, q4.2))) = some z := h
  refine lv_iload_n hx hb dX2_row_24 rfl (lv_at hl 2 rfl) ?_
  refine lv_if_eq (tgt := 34) hx hb dX2_row_25 (by decide) (fun c1 => ?_) (fun c1 => ?_)
  · replace h := (if_pos c1).symm.trans h
    refine lv_aload_n hx hb dX2_row_34 rfl (lv_at hl 0 rfl) ?_
    refine tGet (T := TX2) (N := 13) (ci := 2) C hw inX2 6 0 rfl (by decide) kf_RX2_25 rfl rfl rfl dX2_row_35 ?_
    refine lv_aload_n hx hb dX2_row_38 rfl (lv_at hl 0 rfl) ?_
    refine tGet (T := TX2) (N := 13) (ci := 2) C hw inX2 9 0 rfl (by decide) kf_RX2_216 rfl rfl rfl dX2_row_39 ?_
    refine lv_iload_n hx hb dX2_row_42 rfl (lv_at hl 1 rfl) ?_
    obtain ⟨iw2, h⟩ := ck_some h
    obtain ⟨w2, ew2⟩ : ∃ y : VS, y = up Y 6 (upd (Y 6) ((Y 9 0) : Int32).toNatClampNeg x_1) := ⟨_, rfl⟩
    replace h := bn_some h ew2
    refine tSt (ws2 := (wM cA ad w2)) C hw 6 rfl iw2 (by rw [ew2]; rfl) dX2_row_43 (fun H locs hw => ?_)
    refine lv_aload_n hx hb dX2_row_44 rfl (lv_at hl 0 rfl) ?_
    refine lv_dup hx hb dX2_row_45 rfl ?_
    refine tGet (T := TX2) (N := 13) (ci := 2) C hw inX2 9 0 rfl (by decide) kf_RX2_216 rfl rfl rfl dX2_row_46 ?_
    refine lv_iconst (v := 1) hx hb dX2_row_49 (by decide) ?_
    refine lv_iadd hx hb dX2_row_50 ?_
    obtain ⟨w3, ew3⟩ : ∃ y : VS, y = up w2 9 (fun _ => ((w2 9 0) + (1 : Int32))) := ⟨_, rfl⟩
    replace h := bn_some h ew3
    refine tPut (T := TX2) (N := 13) (ci := 2) (ws2 := (wM cA ad w3)) C hw inX2 tyX2 tyX2_ok nmX2 9 0 rfl (by decide) kf_RX2_216 rfl rfl rfl rfl rfl (Nat.le_of_ble_eq_true rfl) (by rw [ew3]; rfl) dX2_row_51 (fun H locs hw => ?_)
    refine lv_aload_n hx hb dX2_row_54 rfl (lv_at hl 0 rfl) ?_
    refine tGet (T := TX2) (N := 13) (ci := 2) C hw inX2 9 0 rfl (by decide) kf_RX2_216 rfl rfl rfl dX2_row_55 ?_
    obtain rfl := some_e h
    exact rtI C hr hw dX2_row_58
  · replace h := (if_neg c1).symm.trans h
    refine lv_aload_n hx hb dX2_row_28 rfl (lv_at hl 0 rfl) ?_
    refine lv_iload_n hx hb dX2_row_29 rfl (lv_at hl 2 rfl) ?_
    obtain ⟨q4, hq4, h⟩ := cl_some h
    refine cVi (ws2 := (wM cA ad q4.2)) (As := [.int x_2]) (rest := []) C hw jnW (kX2_no ad hq4) kl_RX2_36 ki_yX2_no ks_yX2_no kn_RX2 kc_yX2_no ⟨rfl, rfl⟩ hdX2_no ⟨Nat.le_of_ble_eq_true rfl, Nat.le_of_ble_eq_true rfl⟩ (ci := 2) (q0 := 0) rfl rfl rfl rfl hl.1 (Nat.le_of_ble_eq_true rfl) dX2_row_30 ⟨Nat.zero_le _, Nat.zero_le _⟩ (fun H locs hw => ?_)
    obtain rfl := some_e h
    exact rtI C hr hw dX2_row_33
set_option maxHeartbeats 4000000 in
set_option maxRecDepth 100000 in
theorem kX2_row (ad : Nat → Nat) {Y : VS} {a_1 : Int32} {z : (Int32 × VS)} (h : fX2_row Y a_1 = some z) : MI l D cA g yX2_row (Cond.code yX2_row cX2_row 3 (some .int) :: lw_g) rmX2_row [.ref (ad 0), .int a_1] (wM cA ad Y) z.1 (wM cA ad z.2) := by
  intro sz
  refine Met.ofW (cc := cX2_row) (maxL := 3) (ret := (some .int)) (by decide) rfl ?_
  intro p e s m args below meth c s₁ B hml hv
  obtain ⟨rfl, C, hr, hw⟩ := ent B hml hv
  generalize va_A (wM cA ad Y) sz = A at C hw ⊢
  have hl := lv_entry ([.ref (ad 0), .int a_1]) (n := 3) (Nat.le_of_ble_eq_true rfl)
  rw [lg_entry_eq]
  generalize (lg_sl ([.ref (ad 0), .int a_1]) ++ List.replicate (3 - (lg_sl ([.ref (ad 0), .int a_1])).length) Slot.unset).toArray = ls at hl ⊢
  have hl : lv_has ls 3 [(0, .ref (ad 0)), (1, .int a_1)] := hl
  have hx := C.1.1
  have hb := C.1.2.1
  have h : (cl (fX2_wrongBy a_1 0 99) (fun r1 => if r1 = 0 then if (Y 9 0) = 16 then fX2_row_24 (Y, a_1, (-6)) else fX2_row_24 (Y, a_1, r1) else fX2_row_24 (Y, a_1, r1))) = some z := h
  refine lv_iload_n hx hb dX2_row_0 rfl (lv_at hl 1 rfl) ?_
  refine lv_iconst (v := 0) hx hb dX2_row_1 (by decide) ?_
  refine lv_bipush (v := 99) hx hb dX2_row_2 (by decide) ?_
  obtain ⟨r1, hr1, h⟩ := cl_some h
  refine cSi (ws2 := (wM cA ad Y)) (As := [.int a_1, .int 0, .int 99]) (rest := []) C hw jnE (kX2_wrongBy hr1) kl_RX2_153 kt_yX2_wrongBy kn_RX2 kc_yX2_wrongBy ⟨rfl, rfl⟩ hdX2_wrongBy ⟨Nat.le_of_ble_eq_true rfl, Nat.le_of_ble_eq_true rfl⟩ rfl hl.1 (Nat.le_of_ble_eq_true rfl) dX2_row_4 ⟨Nat.zero_le _, Nat.zero_le _⟩ (fun H locs hw => ?_)
  refine lv_istore_n (lv' := [(2, .int r1), (0, .ref (ad 0)), (1, .int a_1)]) hx hb dX2_row_7 rfl hl (by decide) rfl (fun ls hl => ?_)
  refine lv_iload_n hx hb dX2_row_8 rfl (lv_at hl 0 rfl) ?_
  refine lv_if_ne (tgt := 24) hx hb dX2_row_9 (by decide) (fun c2 => ?_) (fun c2 => ?_)
  · replace h := (if_neg c2).symm.trans h
    exact kX2_row_24 C hr (Y, a_1, r1) h _ _ _ hw (lv_sub hl [1, 2, 0] rfl)
  · replace h := (if_pos c2).symm.trans h
    refine lv_aload_n hx hb dX2_row_12 rfl (lv_at hl 1 rfl) ?_
    refine tGet (T := TX2) (N := 13) (ci := 2) C hw inX2 9 0 rfl (by decide) kf_RX2_216 rfl rfl rfl dX2_row_13 ?_
    refine lv_bipush (v := 16) hx hb dX2_row_16 (by decide) ?_
    refine lv_icmp_ne (tgt := 24) hx hb dX2_row_18 (by decide) (fun c3 => ?_) (fun c3 => ?_)
    · replace h := (if_neg c3).symm.trans h
      exact kX2_row_24 C hr (Y, a_1, r1) h _ _ _ hw (lv_sub hl [1, 2, 0] rfl)
    · replace h := (if_pos c3).symm.trans h
      refine lv_bipush (v := (-6)) hx hb dX2_row_21 (by decide) ?_
      refine lv_istore_n (lv' := [(2, .int (-6)), (0, .ref (ad 0)), (1, .int a_1)]) hx hb dX2_row_23 rfl hl (by decide) rfl (fun ls hl => ?_)
      exact kX2_row_24 C hr (Y, a_1, (-6)) h _ _ _ hw (lv_sub hl [1, 2, 0] rfl)
abbrev rmX2_judge : Room := { frames := 6, cells := 0, slots := 0, locals := 137 }
theorem hdX2_judge : yX2_judge.cls = RX2 ∧ yX2_judge.cls ≠ "java/lang/invoke/MethodHandle" ∧ yX2_judge.cls ≠ "java/lang/invoke/VarHandle" ∧ (parseMethodDescriptor yX2_judge.desc).map (fun d => d.parameters.length) = some 0 := by decide +kernel
def GX2_judge_50 (p : Program) (l : Launch) (e : Env) (s : State) (m : MethodId) (args : Array Value) (below : List Frame) (meth : Method) (c : Code) (D : va_G) (cA : ClassId) (A : Nat → Prop) (ad : Nat → Nat) (z : (Int32 × VS)) (x : (VS) × (Int32) × (Int32) × (Int32)) : Prop := ∀ (H : Heap) (locs : List Loc) (ls : Array Slot), Wd D A s.heap (wM cA ad x.1) H locs → lv_has ls 3 [(0, .ref (ad 0)), (1, .int x.2.1), (2, .int x.2.2.1)] → W p l e rmX2_judge s m args below meth c H locs 0 0 (MQ below (QI D cA A z.1 (wM cA ad z.2)) args s 0 0 A) (F0 m 50 ls [.int x.2.2.2])
def GX2_judge_23 (p : Program) (l : Launch) (e : Env) (s : State) (m : MethodId) (args : Array Value) (below : List Frame) (meth : Method) (c : Code) (D : va_G) (cA : ClassId) (A : Nat → Prop) (ad : Nat → Nat) (z : (Int32 × VS)) (x : (VS) × (Int32) × (Int32)) : Prop := ∀ (H : Heap) (locs : List Loc) (ls : Array Slot), Wd D A s.heap (wM cA ad x.1) H locs → lv_has ls 3 [(0, .ref (ad 0)), (1, .int x.2.1), (2, .int x.2.2)] → W p l e rmX2_judge s m args below meth c H locs 0 0 (MQ below (QI D cA A z.1 (wM cA ad z.2)) args s 0 0 A) (F0 m 23 ls [])
def fX2_judge_50 (k23 : ((VS) × (Int32) × (Int32)) → Option (Int32 × VS)) : ((VS) × (Int32) × (Int32) × (Int32)) → Option (Int32 × VS) := fun x => match x with | (Y, x_1, x_2, y_0) => rd 16 (Y 6) x_2 (fun r1 => if y_0 = r1 then cl (fX2_night (Y 1) (-1)) (fun w3 => bn (up Y 1 w3) (fun w4 => bn (x_2 + 1) (fun x5 => k23 (w4, x_1, x5)))) else some (x_2, Y))
def fX2_judge_23 (k23 : ((VS) × (Int32) × (Int32)) → Option (Int32 × VS)) : ((VS) × (Int32) × (Int32)) → Option (Int32 × VS) := fun x => match x with | (Y, x_1, x_2) => if x_1 ≤ x_2 then some ((-9), Y) else rd 81 (Y 1) 3 (fun r2 => if r2 ≤ 99 then rd 81 (Y 1) 3 (fun r4 => fX2_judge_50 k23 (Y, x_1, x_2, r4)) else fX2_judge_50 k23 (Y, x_1, x_2, 99))
def fX2_judge (Y : VS) : Option (Int32 × VS) := bn (Y 9 0) (fun x1 => bn (up Y 9 (fun _ => 0)) (fun w2 => cl (fX2_copies (w2 0) (w2 1)) (fun w3 => bn (up w2 1 w3) (fun w4 => lp (fX2_judge_23) 5000 (w4, x1, 0)))))
set_option maxHeartbeats 4000000 in
set_option maxRecDepth 100000 in
theorem kX2_judge_50 (C : Cx p s m args meth c cX2_judge 3 RX2 D cA g A) (hr : meth.sig.returnType = (some .int)) {z : (Int32 × VS)} (k23 : ((VS) × (Int32) × (Int32)) → Option (Int32 × VS)) (hk23 : ∀ x, k23 x = some z → GX2_judge_23 p l e s m args below meth c D cA A ad z x) (x : (VS) × (Int32) × (Int32) × (Int32)) (h : fX2_judge_50 k23 x = some z) : GX2_judge_50 p l e s m args below meth c D cA A ad z x := by
  obtain ⟨Y, x_1, x_2, y_0⟩ := x
  intro H locs ls hw hl
  have hw : Wd D A s.heap (wM cA ad Y) H locs := hw
  have hl : lv_has ls 3 [(0, .ref (ad 0)), (1, .int x_1), (2, .int x_2)] := hl
  show W p l e rmX2_judge s m args below meth c H locs 0 0 (MQ below (QI D cA A z.1 (wM cA ad z.2)) args s 0 0 A) (F0 m 50 ls [.int y_0])
  have hx := C.1.1
  have hb := C.1.2.1
  have h : (rd 16 (Y 6) x_2 (fun r1 => if y_0 = r1 then cl (fX2_night (Y 1) (-1)) (fun w3 => bn (up Y 1 w3) (fun w4 => bn (x_2 + 1) (fun x5 => k23 (w4, x_1, x5)))) else some (x_2, Y))) = some z := h
  refine lv_aload_n hx hb dX2_judge_50 rfl (lv_at hl 0 rfl) ?_
  refine tGet (T := TX2) (N := 13) (ci := 2) C hw inX2 6 0 rfl (by decide) kf_RX2_25 rfl rfl rfl dX2_judge_51 ?_
  refine lv_iload_n hx hb dX2_judge_54 rfl (lv_at hl 2 rfl) ?_
  obtain ⟨r1, ir1, er1, h⟩ := rd_some h
  refine tLd C hw 6 rfl ir1 er1 dX2_judge_55 ?_
  refine lv_icmp_eq (tgt := 61) hx hb dX2_judge_56 (by decide) (fun c2 => ?_) (fun c2 => ?_)
  · replace h := (if_pos c2).symm.trans h
    refine lv_aload_n hx hb dX2_judge_61 rfl (lv_at hl 0 rfl) ?_
    refine tGet (T := TX2) (N := 13) (ci := 2) C hw inX2 1 0 rfl (by decide) kf_RX2_13 rfl rfl rfl dX2_judge_62 ?_
    refine lv_iconst (v := (-1)) hx hb dX2_judge_65 (by decide) ?_
    obtain ⟨w3, hw3, h⟩ := cl_some h
    obtain ⟨w4, ew4⟩ : ∃ y : VS, y = up Y 1 w3 := ⟨_, rfl⟩
    replace h := bn_some h ew4
    refine cSv (ws2 := (wM cA ad w4)) (As := [.ref (ad 2), .int (-1)]) (rest := []) C hw (by rw [ew4]; exact jM1) (kX2_night (ad 2) hw3) kl_RX2_87 kt_yX2_night kn_RX2 kc_yX2_night ⟨rfl, rfl⟩ hdX2_night ⟨Nat.le_of_ble_eq_true rfl, Nat.le_of_ble_eq_true rfl⟩ rfl hl.1 (Nat.le_of_ble_eq_true rfl) dX2_judge_66 ⟨Nat.zero_le _, Nat.zero_le _⟩ (fun H locs hw => ?_)
    obtain ⟨x5, ex5⟩ : ∃ y : Int32, y = x_2 + 1 := ⟨_, rfl⟩
    replace h := bn_some h ex5
    refine lv_iinc (v := x5) (lv' := [(2, .int x5), (0, .ref (ad 0)), (1, .int x_1)]) hx hb dX2_judge_69 hl (k := 2) rfl (by rw [ex5]; rfl) (by decide) rfl (fun ls hl => ?_)
    refine lv_goto (tgt := 23) hx hb dX2_judge_72 (by decide) ?_
    exact hk23 (w4, x_1, x5) h _ _ _ hw (lv_sub hl [1, 2, 0] rfl)
  · replace h := (if_neg c2).symm.trans h
    refine lv_iload_n hx hb dX2_judge_59 rfl (lv_at hl 2 rfl) ?_
    obtain rfl := some_e h
    exact rtI C hr hw dX2_judge_60
set_option maxHeartbeats 4000000 in
set_option maxRecDepth 100000 in
theorem kX2_judge_23 (C : Cx p s m args meth c cX2_judge 3 RX2 D cA g A) (hr : meth.sig.returnType = (some .int)) {z : (Int32 × VS)} (k23 : ((VS) × (Int32) × (Int32)) → Option (Int32 × VS)) (hk23 : ∀ x, k23 x = some z → GX2_judge_23 p l e s m args below meth c D cA A ad z x) (x : (VS) × (Int32) × (Int32)) (h : fX2_judge_23 k23 x = some z) : GX2_judge_23 p l e s m args below meth c D cA A ad z x := by
  obtain ⟨Y, x_1, x_2⟩ := x
  intro H locs ls hw hl
  have hw : Wd D A s.heap (wM cA ad Y) H locs := hw
  have hl : lv_has ls 3 [(0, .ref (ad 0)), (1, .int x_1), (2, .int x_2)] := hl
  have hx := C.1.1
  have hb := C.1.2.1
  have h : (if x_1 ≤ x_2 then some ((-9), Y) else rd 81 (Y 1) 3 (fun r2 => if r2 ≤ 99 then rd 81 (Y 1) 3 (fun r4 => fX2_judge_50 k23 (Y, x_1, x_2, r4)) else fX2_judge_50 k23 (Y, x_1, x_2, 99))) = some z := h
  refine lv_iload_n hx hb dX2_judge_23 rfl (lv_at hl 2 rfl) ?_
  refine lv_iload_n hx hb dX2_judge_24 rfl (lv_at hl 1 rfl) ?_
  refine lv_icmp_ge (tgt := 75) hx hb dX2_judge_25 (by decide) (fun c1 => ?_) (fun c1 => ?_)
  · replace h := (if_pos c1).symm.trans h
    refine lv_bipush (v := (-9)) hx hb dX2_judge_75 (by decide) ?_
    obtain rfl := some_e h
    exact rtI C hr hw dX2_judge_77
  · replace h := (if_neg c1).symm.trans h
    refine lv_aload_n hx hb dX2_judge_28 rfl (lv_at hl 0 rfl) ?_
    refine tGet (T := TX2) (N := 13) (ci := 2) C hw inX2 1 0 rfl (by decide) kf_RX2_13 rfl rfl rfl dX2_judge_29 ?_
    refine lv_iconst (v := 3) hx hb dX2_judge_32 (by decide) ?_
    obtain ⟨r2, ir2, er2, h⟩ := rd_some h
    refine tLd C hw 2 rfl ir2 er2 dX2_judge_33 ?_
    refine lv_bipush (v := 99) hx hb dX2_judge_34 (by decide) ?_
    refine lv_icmp_le (tgt := 44) hx hb dX2_judge_36 (by decide) (fun c3 => ?_) (fun c3 => ?_)
    · replace h := (if_pos c3).symm.trans h
      refine lv_aload_n hx hb dX2_judge_44 rfl (lv_at hl 0 rfl) ?_
      refine tGet (T := TX2) (N := 13) (ci := 2) C hw inX2 1 0 rfl (by decide) kf_RX2_13 rfl rfl rfl dX2_judge_45 ?_
      refine lv_iconst (v := 3) hx hb dX2_judge_48 (by decide) ?_
      obtain ⟨r4, ir4, er4, h⟩ := rd_some h
      refine tLd C hw 2 rfl ir4 er4 dX2_judge_49 ?_
      exact kX2_judge_50 C hr k23 hk23 (Y, x_1, x_2, r4) h _ _ _ hw (lv_sub hl [0, 1, 2] rfl)
    · replace h := (if_neg c3).symm.trans h
      refine lv_bipush (v := 99) hx hb dX2_judge_39 (by decide) ?_
      refine lv_goto (tgt := 50) hx hb dX2_judge_41 (by decide) ?_
      exact kX2_judge_50 C hr k23 hk23 (Y, x_1, x_2, 99) h _ _ _ hw (lv_sub hl [0, 1, 2] rfl)
theorem lX2_judge_23 (C : Cx p s m args meth c cX2_judge 3 RX2 D cA g A) (hr : meth.sig.returnType = (some .int)) {z : (Int32 × VS)} (n : Nat) (x : (VS) × (Int32) × (Int32)) (h : lp (fX2_judge_23) n x = some z) : GX2_judge_23 p l e s m args below meth c D cA A ad z x := lp_ok (GX2_judge_23 p l e s m args below meth c D cA A ad z) (fun kq hkq x h => kX2_judge_23 C hr kq hkq x h) n x h
set_option maxHeartbeats 4000000 in
set_option maxRecDepth 100000 in
theorem kX2_judge (ad : Nat → Nat) {Y : VS} {z : (Int32 × VS)} (h : fX2_judge Y = some z) : MI l D cA g yX2_judge (Cond.code yX2_judge cX2_judge 3 (some .int) :: lw_g) rmX2_judge [.ref (ad 0)] (wM cA ad Y) z.1 (wM cA ad z.2) := by
  intro sz
  refine Met.ofW (cc := cX2_judge) (maxL := 3) (ret := (some .int)) (by decide) rfl ?_
  intro p e s m args below meth c s₁ B hml hv
  obtain ⟨rfl, C, hr, hw⟩ := ent B hml hv
  generalize va_A (wM cA ad Y) sz = A at C hw ⊢
  have hl := lv_entry ([.ref (ad 0)]) (n := 3) (Nat.le_of_ble_eq_true rfl)
  rw [lg_entry_eq]
  generalize (lg_sl ([.ref (ad 0)]) ++ List.replicate (3 - (lg_sl ([.ref (ad 0)])).length) Slot.unset).toArray = ls at hl ⊢
  have hl : lv_has ls 3 [(0, .ref (ad 0))] := hl
  have hx := C.1.1
  have hb := C.1.2.1
  have h : (bn (Y 9 0) (fun x1 => bn (up Y 9 (fun _ => 0)) (fun w2 => cl (fX2_copies (w2 0) (w2 1)) (fun w3 => bn (up w2 1 w3) (fun w4 => lp (fX2_judge_23) 5000 (w4, x1, 0)))))) = some z := h
  refine lv_aload_n hx hb dX2_judge_0 rfl (lv_at hl 0 rfl) ?_
  refine tGet (T := TX2) (N := 13) (ci := 2) C hw inX2 9 0 rfl (by decide) kf_RX2_216 rfl rfl rfl dX2_judge_1 ?_
  refine lv_topi (fun x1 ex1 => ?_)
  replace h := bn_some h ex1
  refine lv_istore_n (lv' := [(1, .int x1), (0, .ref (ad 0))]) hx hb dX2_judge_4 rfl hl (by decide) rfl (fun ls hl => ?_)
  refine lv_aload_n hx hb dX2_judge_5 rfl (lv_at hl 1 rfl) ?_
  refine lv_iconst (v := 0) hx hb dX2_judge_6 (by decide) ?_
  obtain ⟨w2, ew2⟩ : ∃ y : VS, y = up Y 9 (fun _ => 0) := ⟨_, rfl⟩
  replace h := bn_some h ew2
  refine tPut (T := TX2) (N := 13) (ci := 2) (ws2 := (wM cA ad w2)) C hw inX2 tyX2 tyX2_ok nmX2 9 0 rfl (by decide) kf_RX2_216 rfl rfl rfl rfl rfl (Nat.le_of_ble_eq_true rfl) (by rw [ew2]; rfl) dX2_judge_7 (fun H locs hw => ?_)
  refine lv_aload_n hx hb dX2_judge_10 rfl (lv_at hl 1 rfl) ?_
  refine tGet (T := TX2) (N := 13) (ci := 2) C hw inX2 0 0 rfl (by decide) kf_RX2_9 rfl rfl rfl dX2_judge_11 ?_
  refine lv_aload_n hx hb dX2_judge_14 rfl (lv_at hl 1 rfl) ?_
  refine tGet (T := TX2) (N := 13) (ci := 2) C hw inX2 1 0 rfl (by decide) kf_RX2_13 rfl rfl rfl dX2_judge_15 ?_
  obtain ⟨w3, hw3, h⟩ := cl_some h
  obtain ⟨w4, ew4⟩ : ∃ y : VS, y = up w2 1 w3 := ⟨_, rfl⟩
  replace h := bn_some h ew4
  refine cSv (ws2 := (wM cA ad w4)) (As := [.ref (ad 1), .ref (ad 2)]) (rest := []) C hw (by rw [ew4]; exact jMM01) (kX2_copies (ad 1) (ad 2) hw3) kl_RX2_134 kt_yX2_copies kn_RX2 kc_yX2_copies ⟨rfl, rfl⟩ hdX2_copies ⟨Nat.le_of_ble_eq_true rfl, Nat.le_of_ble_eq_true rfl⟩ rfl hl.1 (Nat.le_of_ble_eq_true rfl) dX2_judge_18 ⟨Nat.zero_le _, Nat.zero_le _⟩ (fun H locs hw => ?_)
  refine lv_iconst (v := 0) hx hb dX2_judge_21 (by decide) ?_
  refine lv_istore_n (lv' := [(2, .int 0), (1, .int x1), (0, .ref (ad 0))]) hx hb dX2_judge_22 rfl hl (by decide) rfl (fun ls hl => ?_)
  exact lX2_judge_23 C hr 5000 (w4, x1, 0) h _ _ _ hw (lv_sub hl [2, 1, 0] rfl)
end
