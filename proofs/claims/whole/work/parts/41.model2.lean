section
variable {p : Program} {l : Launch} {e : Env} {s : State} {m : MethodId} {args : Array Value} {below : List Frame} {meth : Method} {c : Code} {D : va_G} {cA : ClassId} {g : Nat → Nat} {A : Nat → Prop} {ad ad2 : Nat → Nat} {a0 a1 : Nat}
abbrev rmX2_valley : Room := { frames := 8, cells := 0, slots := 0, locals := 182 }
theorem hdX2_valley : yX2_valley.cls = RX2 ∧ yX2_valley.cls ≠ "java/lang/invoke/MethodHandle" ∧ yX2_valley.cls ≠ "java/lang/invoke/VarHandle" ∧ (parseMethodDescriptor yX2_valley.desc).map (fun d => d.parameters.length) = some 0 := by decide +kernel
def GX2_valley_128 (p : Program) (l : Launch) (e : Env) (s : State) (m : MethodId) (args : Array Value) (below : List Frame) (meth : Method) (c : Code) (D : va_G) (cA : ClassId) (A : Nat → Prop) (ad : Nat → Nat) (z : (Int32 × VS)) (x : (VS) × (Int32) × (Int32)) : Prop := ∀ (H : Heap) (locs : List Loc) (ls : Array Slot), Wd D A s.heap (wM cA ad x.1) H locs → lv_has ls 6 [(0, .ref (ad 0)), (1, .int x.2.1), (2, .int x.2.2)] → W p l e rmX2_valley s m args below meth c H locs 0 0 (MQ below (QI D cA A z.1 (wM cA ad z.2)) args s 0 0 A) (F0 m 128 ls [])
def GX2_valley_62 (p : Program) (l : Launch) (e : Env) (s : State) (m : MethodId) (args : Array Value) (below : List Frame) (meth : Method) (c : Code) (D : va_G) (cA : ClassId) (A : Nat → Prop) (ad : Nat → Nat) (z : (Int32 × VS)) (x : (VS) × (Int32) × (Int32)) : Prop := ∀ (H : Heap) (locs : List Loc) (ls : Array Slot), Wd D A s.heap (wM cA ad x.1) H locs → lv_has ls 6 [(0, .ref (ad 0)), (1, .int x.2.1), (2, .int x.2.2)] → W p l e rmX2_valley s m args below meth c H locs 0 0 (MQ below (QI D cA A z.1 (wM cA ad z.2)) args s 0 0 A) (F0 m 62 ls [])
def GX2_valley_46 (p : Program) (l : Launch) (e : Env) (s : State) (m : MethodId) (args : Array Value) (below : List Frame) (meth : Method) (c : Code) (D : va_G) (cA : ClassId) (A : Nat → Prop) (ad : Nat → Nat) (z : (Int32 × VS)) (x : (VS) × (Int32) × (Int32)) : Prop := ∀ (H : Heap) (locs : List Loc) (ls : Array Slot), Wd D A s.heap (wM cA ad x.1) H locs → lv_has ls 6 [(0, .ref (ad 0)), (1, .int x.2.1), (2, .int x.2.2)] → W p l e rmX2_valley s m args below meth c H locs 0 0 (MQ below (QI D cA A z.1 (wM cA ad z.2)) args s 0 0 A) (F0 m 46 ls [])
def GX2_valley_26 (p : Program) (l : Launch) (e : Env) (s : State) (m : MethodId) (args : Array Value) (below : List Frame) (meth : Method) (c : Code) (D : va_G) (cA : ClassId) (A : Nat → Prop) (ad : Nat → Nat) (z : (Int32 × VS)) (x : (VS) × (Int32) × (Int32)) : Prop := ∀ (H : Heap) (locs : List Loc) (ls : Array Slot), Wd D A s.heap (wM cA ad x.1) H locs → lv_has ls 6 [(0, .ref (ad 0)), (1, .int x.2.1), (2, .int x.2.2)] → W p l e rmX2_valley s m args below meth c H locs 0 0 (MQ below (QI D cA A z.1 (wM cA ad z.2)) args s 0 0 A) (F0 m 26 ls [])
def GX2_valley_10 (p : Program) (l : Launch) (e : Env) (s : State) (m : MethodId) (args : Array Value) (below : List Frame) (meth : Method) (c : Code) (D : va_G) (cA : ClassId) (A : Nat → Prop) (ad : Nat → Nat) (z : (Int32 × VS)) (x : (VS) × (Int32) × (Int32)) : Prop := ∀ (H : Heap) (locs : List Loc) (ls : Array Slot), Wd D A s.heap (wM cA ad x.1) H locs → lv_has ls 6 [(0, .ref (ad 0)), (1, .int x.2.1), (2, .int x.2.2)] → W p l e rmX2_valley s m args below meth c H locs 0 0 (MQ below (QI D cA A z.1 (wM cA ad z.2)) args s 0 0 A) (F0 m 10 ls [])
def fX2_valley_128 : ((VS) × (Int32) × (Int32)) → Option (Int32 × VS) := fun x => match x with | (Y, x_1, x_2) => bn (up Y 8 (fun _ => 0)) (fun w1 => if x_2 = (-9) then some (x_1, w1) else some (x_2, w1))
def fX2_valley_62 (k62 : ((VS) × (Int32) × (Int32)) → Option (Int32 × VS)) : ((VS) × (Int32) × (Int32)) → Option (Int32 × VS) := fun x => match x with | (Y, x_1, x_2) => if x_2 = (-9) then if (Y 8 0) ≤ (Y 10 0) then fX2_valley_128 (Y, x_1, x_2) else bn (Y 10 0) (fun x3 => cl (fX2_here Y) (fun r4 => cl (fX2_readsStatement Y) (fun q5 => bn q5.1 (fun x6 => cl (fX2_isDone q5.2 r4) (fun q7 => if q7.1 = 0 then bn ((-2000 : Int32) - x3) (fun x9 => cl (fX2_copies (q7.2 3) (q7.2 0)) (fun w10 => bn (up q7.2 0 w10) (fun w11 => k62 (w11, x_1, x9)))) else k62 (q7.2, x_1, x_2)))))) else fX2_valley_128 (Y, x_1, x_2)
def fX2_valley_46 : ((VS) × (Int32) × (Int32)) → Option (Int32 × VS) := fun x => match x with | (Y, x_1, x_2) => cl (fX2_copies (Y 0) (Y 3)) (fun w1 => bn (up Y 3 w1) (fun w2 => bn (up w2 10 (fun _ => 0)) (fun w3 => lp (fX2_valley_62) 5000 (w3, x_1, x_2))))
def fX2_valley_26 (k10 : ((VS) × (Int32) × (Int32)) → Option (Int32 × VS)) : ((VS) × (Int32) × (Int32)) → Option (Int32 × VS) := fun x => match x with | (Y, x_1, x_2) => bn (x_1 + 1) (fun x1 => if x_2 = (-9) then if (Y 10 0) < (Y 8 0) then k10 (Y, x1, x_2) else fX2_valley_46 (Y, x1, x_2) else fX2_valley_46 (Y, x1, x_2))
def fX2_valley_10 (k10 : ((VS) × (Int32) × (Int32)) → Option (Int32 × VS)) : ((VS) × (Int32) × (Int32)) → Option (Int32 × VS) := fun x => match x with | (Y, x_1, x_2) => cl (fX2_readsStatement Y) (fun q1 => if q1.1 = 0 then bn ((-1000 : Int32) - (q1.2 10 0)) (fun x3 => fX2_valley_26 k10 (q1.2, x_1, x3)) else fX2_valley_26 k10 (q1.2, x_1, x_2))
def fX2_valley (Y : VS) : Option (Int32 × VS) := bn (up Y 10 (fun _ => 0)) (fun w1 => lp (fX2_valley_10) 5000 (w1, 0, (-9)))
set_option maxHeartbeats 4000000 in
set_option maxRecDepth 100000 in
theorem kX2_valley_128 (C : Cx p s m args meth c cX2_valley 6 RX2 D cA g A) (hr : meth.sig.returnType = (some .int)) {z : (Int32 × VS)} (x : (VS) × (Int32) × (Int32)) (h : fX2_valley_128 x = some z) : GX2_valley_128 p l e s m args below meth c D cA A ad z x := by
  obtain ⟨Y, x_1, x_2⟩ := x
  intro H locs ls hw hl
  have hw : Wd D A s.heap (wM cA ad Y) H locs := hw
  have hl : lv_has ls 6 [(0, .ref (ad 0)), (1, .int x_1), (2, .int x_2)] := hl
  have hx := C.1.1
  have hb := C.1.2.1
  have h : (bn (up Y 8 (fun _ => 0)) (fun w1 => if x_2 = (-9) then some (x_1, w1) else some (x_2, w1))) = some z := h
  refine lv_aload_n hx hb dX2_valley_128 rfl (lv_at hl 0 rfl) ?_
  refine lv_iconst (v := 0) hx hb dX2_valley_129 (by decide) ?_
  obtain ⟨w1, ew1⟩ : ∃ y : VS, y = up Y 8 (fun _ => 0) := ⟨_, rfl⟩
  replace h := bn_some h ew1
  refine tPut (T := TX2) (N := 13) (ci := 2) (ws2 := (wM cA ad w1)) C hw inX2 tyX2 tyX2_ok nmX2 8 0 rfl (by decide) kf_RX2_97 rfl rfl rfl rfl rfl (Nat.le_of_ble_eq_true rfl) (by rw [ew1]; rfl) dX2_valley_130 (fun H locs hw => ?_)
  refine lv_iload_n hx hb dX2_valley_133 rfl (lv_at hl 2 rfl) ?_
  refine lv_bipush (v := (-9)) hx hb dX2_valley_134 (by decide) ?_
  refine lv_icmp_ne (tgt := 143) hx hb dX2_valley_136 (by decide) (fun c2 => ?_) (fun c2 => ?_)
  · replace h := (if_neg c2).symm.trans h
    refine lv_iload_n hx hb dX2_valley_143 rfl (lv_at hl 2 rfl) ?_
    obtain rfl := some_e h
    exact rtI C hr hw dX2_valley_144
  · replace h := (if_pos c2).symm.trans h
    refine lv_iload_n hx hb dX2_valley_139 rfl (lv_at hl 1 rfl) ?_
    refine lv_goto (tgt := 144) hx hb dX2_valley_140 (by decide) ?_
    obtain rfl := some_e h
    exact rtI C hr hw dX2_valley_144
set_option maxHeartbeats 4000000 in
set_option maxRecDepth 100000 in
theorem kX2_valley_62 (C : Cx p s m args meth c cX2_valley 6 RX2 D cA g A) (hr : meth.sig.returnType = (some .int)) {z : (Int32 × VS)} (k62 : ((VS) × (Int32) × (Int32)) → Option (Int32 × VS)) (hk62 : ∀ x, k62 x = some z → GX2_valley_62 p l e s m args below meth c D cA A ad z x) (x : (VS) × (Int32) × (Int32)) (h : fX2_valley_62 k62 x = some z) : GX2_valley_62 p l e s m args below meth c D cA A ad z x := by
  obtain ⟨Y, x_1, x_2⟩ := x
  intro H locs ls hw hl
  have hw : Wd D A s.heap (wM cA ad Y) H locs := hw
  have hl : lv_has ls 6 [(0, .ref (ad 0)), (1, .int x_1), (2, .int x_2)] := hl
  have hx := C.1.1
  have hb := C.1.2.1
  have h : (if x_2 = (-9) then if (Y 8 0) ≤ (Y 10 0) then fX2_valley_128 (Y, x_1, x_2) else bn (Y 10 0) (fun x3 => cl (fX2_here Y) (fun r4 => cl (fX2_readsStatement Y) (fun q5 => bn q5.1 (fun x6 => cl (fX2_isDone q5.2 r4) (fun q7 => if q7.1 = 0 then bn ((-2000 : Int32) - x3) (fun x9 => cl (fX2_copies (q7.2 3) (q7.2 0)) (fun w10 => bn (up q7.2 0 w10) (fun w11 => k62 (w11, x_1, x9)))) else k62 (q7.2, x_1, x_2)))))) else fX2_valley_128 (Y, x_1, x_2)) = some z := h
  refine lv_iload_n hx hb dX2_valley_62 rfl (lv_at hl 2 rfl) ?_
  refine lv_bipush (v := (-9)) hx hb dX2_valley_63 (by decide) ?_
  refine lv_icmp_ne (tgt := 128) hx hb dX2_valley_65 (by decide) (fun c1 => ?_) (fun c1 => ?_)
  · replace h := (if_neg c1).symm.trans h
    exact kX2_valley_128 C hr (Y, x_1, x_2) h _ _ _ hw (lv_sub hl [0, 1, 2] rfl)
  · replace h := (if_pos c1).symm.trans h
    refine lv_aload_n hx hb dX2_valley_68 rfl (lv_at hl 0 rfl) ?_
    refine tGet (T := TX2) (N := 13) (ci := 2) C hw inX2 10 0 rfl (by decide) kf_RX2_101 rfl rfl rfl dX2_valley_69 ?_
    refine lv_aload_n hx hb dX2_valley_72 rfl (lv_at hl 0 rfl) ?_
    refine tGet (T := TX2) (N := 13) (ci := 2) C hw inX2 8 0 rfl (by decide) kf_RX2_97 rfl rfl rfl dX2_valley_73 ?_
    refine lv_icmp_ge (tgt := 128) hx hb dX2_valley_76 (by decide) (fun c2 => ?_) (fun c2 => ?_)
    · replace h := (if_pos c2).symm.trans h
      exact kX2_valley_128 C hr (Y, x_1, x_2) h _ _ _ hw (lv_sub hl [0, 1, 2] rfl)
    · replace h := (if_neg c2).symm.trans h
      refine lv_aload_n hx hb dX2_valley_79 rfl (lv_at hl 0 rfl) ?_
      refine tGet (T := TX2) (N := 13) (ci := 2) C hw inX2 10 0 rfl (by decide) kf_RX2_101 rfl rfl rfl dX2_valley_80 ?_
      refine lv_topi (fun x3 ex3 => ?_)
      replace h := bn_some h ex3
      refine lv_istore_n (lv' := [(3, .int x3), (0, .ref (ad 0)), (1, .int x_1), (2, .int x_2)]) hx hb dX2_valley_83 rfl hl (by decide) rfl (fun ls hl => ?_)
      refine lv_aload_n hx hb dX2_valley_84 rfl (lv_at hl 1 rfl) ?_
      obtain ⟨r4, hr4, h⟩ := cl_some h
      refine cVi (ws2 := (wM cA ad Y)) (As := []) (rest := []) C hw jnW (kX2_here ad hr4) kl_RX2_104 ki_yX2_here ks_yX2_here kn_RX2 kc_yX2_here ⟨rfl, rfl⟩ hdX2_here ⟨Nat.le_of_ble_eq_true rfl, Nat.le_of_ble_eq_true rfl⟩ (ci := 2) (q0 := 0) rfl rfl rfl rfl hl.1 (Nat.le_of_ble_eq_true rfl) dX2_valley_85 ⟨Nat.zero_le _, Nat.zero_le _⟩ (fun H locs hw => ?_)
      refine lv_istore (lv' := [(4, .int r4), (3, .int x3), (0, .ref (ad 0)), (1, .int x_1), (2, .int x_2)]) hx hb dX2_valley_88 hl (by decide) rfl (fun ls hl => ?_)
      refine lv_aload_n hx hb dX2_valley_90 rfl (lv_at hl 2 rfl) ?_
      obtain ⟨q5, hq5, h⟩ := cl_some h
      refine cVi (ws2 := (wM cA ad q5.2)) (As := []) (rest := []) C hw jnW (kX2_readsStatement ad hq5) kl_RX2_131 ki_yX2_readsStatement ks_yX2_readsStatement kn_RX2 kc_yX2_readsStatement ⟨rfl, rfl⟩ hdX2_readsStatement ⟨Nat.le_of_ble_eq_true rfl, Nat.le_of_ble_eq_true rfl⟩ (ci := 2) (q0 := 0) rfl rfl rfl rfl hl.1 (Nat.le_of_ble_eq_true rfl) dX2_valley_91 ⟨Nat.zero_le _, Nat.zero_le _⟩ (fun H locs hw => ?_)
      refine lv_topi (fun x6 ex6 => ?_)
      replace h := bn_some h ex6
      refine lv_istore (lv' := [(5, .int x6), (4, .int r4), (3, .int x3), (0, .ref (ad 0)), (1, .int x_1), (2, .int x_2)]) hx hb dX2_valley_94 hl (by decide) rfl (fun ls hl => ?_)
      refine lv_aload_n hx hb dX2_valley_96 rfl (lv_at hl 3 rfl) ?_
      refine lv_iload hx hb dX2_valley_97 (lv_at hl 1 rfl) ?_
      obtain ⟨q7, hq7, h⟩ := cl_some h
      refine cVi (ws2 := (wM cA ad q7.2)) (As := [.int r4]) (rest := []) C hw jnW (kX2_isDone ad hq7) kl_RX2_138 ki_yX2_isDone ks_yX2_isDone kn_RX2 kc_yX2_isDone ⟨rfl, rfl⟩ hdX2_isDone ⟨Nat.le_of_ble_eq_true rfl, Nat.le_of_ble_eq_true rfl⟩ (ci := 2) (q0 := 0) rfl rfl rfl rfl hl.1 (Nat.le_of_ble_eq_true rfl) dX2_valley_99 ⟨Nat.zero_le _, Nat.zero_le _⟩ (fun H locs hw => ?_)
      refine lv_if_eq (tgt := 108) hx hb dX2_valley_102 (by decide) (fun c8 => ?_) (fun c8 => ?_)
      · replace h := (if_pos c8).symm.trans h
        refine lv_sipush (v := (-2000)) hx hb dX2_valley_108 (by decide) ?_
        refine lv_iload_n hx hb dX2_valley_111 rfl (lv_at hl 2 rfl) ?_
        refine lv_isub hx hb dX2_valley_112 ?_
        refine lv_topi (fun x9 ex9 => ?_)
        replace h := bn_some h ex9
        refine lv_istore_n (lv' := [(2, .int x9), (5, .int x6), (4, .int r4), (3, .int x3), (0, .ref (ad 0)), (1, .int x_1)]) hx hb dX2_valley_113 rfl hl (by decide) rfl (fun ls hl => ?_)
        refine lv_aload_n hx hb dX2_valley_114 rfl (lv_at hl 4 rfl) ?_
        refine tGet (T := TX2) (N := 13) (ci := 2) C hw inX2 3 0 rfl (by decide) kf_RX2_19 rfl rfl rfl dX2_valley_115 ?_
        refine lv_aload_n hx hb dX2_valley_118 rfl (lv_at hl 4 rfl) ?_
        refine tGet (T := TX2) (N := 13) (ci := 2) C hw inX2 0 0 rfl (by decide) kf_RX2_9 rfl rfl rfl dX2_valley_119 ?_
        obtain ⟨w10, hw10, h⟩ := cl_some h
        obtain ⟨w11, ew11⟩ : ∃ y : VS, y = up q7.2 0 w10 := ⟨_, rfl⟩
        replace h := bn_some h ew11
        refine cSv (ws2 := (wM cA ad w11)) (As := [.ref (ad 4), .ref (ad 1)]) (rest := []) C hw (by rw [ew11]; exact jMM30) (kX2_copies (ad 4) (ad 1) hw10) kl_RX2_134 kt_yX2_copies kn_RX2 kc_yX2_copies ⟨rfl, rfl⟩ hdX2_copies ⟨Nat.le_of_ble_eq_true rfl, Nat.le_of_ble_eq_true rfl⟩ rfl hl.1 (Nat.le_of_ble_eq_true rfl) dX2_valley_122 ⟨Nat.zero_le _, Nat.zero_le _⟩ (fun H locs hw => ?_)
        refine lv_goto (tgt := 62) hx hb dX2_valley_125 (by decide) ?_
        exact hk62 (w11, x_1, x9) h _ _ _ hw (lv_sub hl [4, 5, 0] rfl)
      · replace h := (if_neg c8).symm.trans h
        refine lv_goto (tgt := 62) hx hb dX2_valley_105 (by decide) ?_
        exact hk62 (q7.2, x_1, x_2) h _ _ _ hw (lv_sub hl [3, 4, 5] rfl)
theorem lX2_valley_62 (C : Cx p s m args meth c cX2_valley 6 RX2 D cA g A) (hr : meth.sig.returnType = (some .int)) {z : (Int32 × VS)} (n : Nat) (x : (VS) × (Int32) × (Int32)) (h : lp (fX2_valley_62) n x = some z) : GX2_valley_62 p l e s m args below meth c D cA A ad z x := lp_ok (GX2_valley_62 p l e s m args below meth c D cA A ad z) (fun kq hkq x h => kX2_valley_62 C hr kq hkq x h) n x h
set_option maxHeartbeats 4000000 in
set_option maxRecDepth 100000 in
theorem kX2_valley_46 (C : Cx p s m args meth c cX2_valley 6 RX2 D cA g A) (hr : meth.sig.returnType = (some .int)) {z : (Int32 × VS)} (x : (VS) × (Int32) × (Int32)) (h : fX2_valley_46 x = some z) : GX2_valley_46 p l e s m args below meth c D cA A ad z x := by
  obtain ⟨Y, x_1, x_2⟩ := x
  intro H locs ls hw hl
  have hw : Wd D A s.heap (wM cA ad Y) H locs := hw
  have hl : lv_has ls 6 [(0, .ref (ad 0)), (1, .int x_1), (2, .int x_2)] := hl
  have hx := C.1.1
  have hb := C.1.2.1
  have h : (cl (fX2_copies (Y 0) (Y 3)) (fun w1 => bn (up Y 3 w1) (fun w2 => bn (up w2 10 (fun _ => 0)) (fun w3 => lp (fX2_valley_62) 5000 (w3, x_1, x_2))))) = some z := h
  refine lv_aload_n hx hb dX2_valley_46 rfl (lv_at hl 0 rfl) ?_
  refine tGet (T := TX2) (N := 13) (ci := 2) C hw inX2 0 0 rfl (by decide) kf_RX2_9 rfl rfl rfl dX2_valley_47 ?_
  refine lv_aload_n hx hb dX2_valley_50 rfl (lv_at hl 0 rfl) ?_
  refine tGet (T := TX2) (N := 13) (ci := 2) C hw inX2 3 0 rfl (by decide) kf_RX2_19 rfl rfl rfl dX2_valley_51 ?_
  obtain ⟨w1, hw1, h⟩ := cl_some h
  obtain ⟨w2, ew2⟩ : ∃ y : VS, y = up Y 3 w1 := ⟨_, rfl⟩
  replace h := bn_some h ew2
  refine cSv (ws2 := (wM cA ad w2)) (As := [.ref (ad 1), .ref (ad 4)]) (rest := []) C hw (by rw [ew2]; exact jMM03) (kX2_copies (ad 1) (ad 4) hw1) kl_RX2_134 kt_yX2_copies kn_RX2 kc_yX2_copies ⟨rfl, rfl⟩ hdX2_copies ⟨Nat.le_of_ble_eq_true rfl, Nat.le_of_ble_eq_true rfl⟩ rfl hl.1 (Nat.le_of_ble_eq_true rfl) dX2_valley_54 ⟨Nat.zero_le _, Nat.zero_le _⟩ (fun H locs hw => ?_)
  refine lv_aload_n hx hb dX2_valley_57 rfl (lv_at hl 0 rfl) ?_
  refine lv_iconst (v := 0) hx hb dX2_valley_58 (by decide) ?_
  obtain ⟨w3, ew3⟩ : ∃ y : VS, y = up w2 10 (fun _ => 0) := ⟨_, rfl⟩
  replace h := bn_some h ew3
  refine tPut (T := TX2) (N := 13) (ci := 2) (ws2 := (wM cA ad w3)) C hw inX2 tyX2 tyX2_ok nmX2 10 0 rfl (by decide) kf_RX2_101 rfl rfl rfl rfl rfl (Nat.le_of_ble_eq_true rfl) (by rw [ew3]; rfl) dX2_valley_59 (fun H locs hw => ?_)
  exact lX2_valley_62 C hr 5000 (w3, x_1, x_2) h _ _ _ hw (lv_sub hl [0, 1, 2] rfl)
set_option maxHeartbeats 4000000 in
set_option maxRecDepth 100000 in
theorem kX2_valley_26 (C : Cx p s m args meth c cX2_valley 6 RX2 D cA g A) (hr : meth.sig.returnType = (some .int)) {z : (Int32 × VS)} (k10 : ((VS) × (Int32) × (Int32)) → Option (Int32 × VS)) (hk10 : ∀ x, k10 x = some z → GX2_valley_10 p l e s m args below meth c D cA A ad z x) (x : (VS) × (Int32) × (Int32)) (h : fX2_valley_26 k10 x = some z) : GX2_valley_26 p l e s m args below meth c D cA A ad z x := by
  obtain ⟨Y, x_1, x_2⟩ := x
  intro H locs ls hw hl
  have hw : Wd D A s.heap (wM cA ad Y) H locs := hw
  have hl : lv_has ls 6 [(0, .ref (ad 0)), (1, .int x_1), (2, .int x_2)] := hl
  have hx := C.1.1
  have hb := C.1.2.1
  have h : (bn (x_1 + 1) (fun x1 => if x_2 = (-9) then if (Y 10 0) < (Y 8 0) then k10 (Y, x1, x_2) else fX2_valley_46 (Y, x1, x_2) else fX2_valley_46 (Y, x1, x_2))) = some z := h
  obtain ⟨x1, ex1⟩ : ∃ y : Int32, y = x_1 + 1 := ⟨_, rfl⟩
  replace h := bn_some h ex1
  refine lv_iinc (v := x1) (lv' := [(1, .int x1), (0, .ref (ad 0)), (2, .int x_2)]) hx hb dX2_valley_26 hl (k := 1) rfl (by rw [ex1]; rfl) (by decide) rfl (fun ls hl => ?_)
  refine lv_iload_n hx hb dX2_valley_29 rfl (lv_at hl 2 rfl) ?_
  refine lv_bipush (v := (-9)) hx hb dX2_valley_30 (by decide) ?_
  refine lv_icmp_ne (tgt := 46) hx hb dX2_valley_32 (by decide) (fun c2 => ?_) (fun c2 => ?_)
  · replace h := (if_neg c2).symm.trans h
    exact kX2_valley_46 C hr (Y, x1, x_2) h _ _ _ hw (lv_sub hl [1, 0, 2] rfl)
  · replace h := (if_pos c2).symm.trans h
    refine lv_aload_n hx hb dX2_valley_35 rfl (lv_at hl 1 rfl) ?_
    refine tGet (T := TX2) (N := 13) (ci := 2) C hw inX2 10 0 rfl (by decide) kf_RX2_101 rfl rfl rfl dX2_valley_36 ?_
    refine lv_aload_n hx hb dX2_valley_39 rfl (lv_at hl 1 rfl) ?_
    refine tGet (T := TX2) (N := 13) (ci := 2) C hw inX2 8 0 rfl (by decide) kf_RX2_97 rfl rfl rfl dX2_valley_40 ?_
    refine lv_icmp_lt (tgt := 10) hx hb dX2_valley_43 (by decide) (fun c3 => ?_) (fun c3 => ?_)
    · replace h := (if_pos c3).symm.trans h
      exact hk10 (Y, x1, x_2) h _ _ _ hw (lv_sub hl [1, 0, 2] rfl)
    · replace h := (if_neg c3).symm.trans h
      exact kX2_valley_46 C hr (Y, x1, x_2) h _ _ _ hw (lv_sub hl [1, 0, 2] rfl)
set_option maxHeartbeats 4000000 in
set_option maxRecDepth 100000 in
theorem kX2_valley_10 (C : Cx p s m args meth c cX2_valley 6 RX2 D cA g A) (hr : meth.sig.returnType = (some .int)) {z : (Int32 × VS)} (k10 : ((VS) × (Int32) × (Int32)) → Option (Int32 × VS)) (hk10 : ∀ x, k10 x = some z → GX2_valley_10 p l e s m args below meth c D cA A ad z x) (x : (VS) × (Int32) × (Int32)) (h : fX2_valley_10 k10 x = some z) : GX2_valley_10 p l e s m args below meth c D cA A ad z x := by
  obtain ⟨Y, x_1, x_2⟩ := x
  intro H locs ls hw hl
  have hw : Wd D A s.heap (wM cA ad Y) H locs := hw
  have hl : lv_has ls 6 [(0, .ref (ad 0)), (1, .int x_1), (2, .int x_2)] := hl
  have hx := C.1.1
  have hb := C.1.2.1
  have h : (cl (fX2_readsStatement Y) (fun q1 => if q1.1 = 0 then bn ((-1000 : Int32) - (q1.2 10 0)) (fun x3 => fX2_valley_26 k10 (q1.2, x_1, x3)) else fX2_valley_26 k10 (q1.2, x_1, x_2))) = some z := h
  refine lv_aload_n hx hb dX2_valley_10 rfl (lv_at hl 0 rfl) ?_
  obtain ⟨q1, hq1, h⟩ := cl_some h
  refine cVi (ws2 := (wM cA ad q1.2)) (As := []) (rest := []) C hw jnW (kX2_readsStatement ad hq1) kl_RX2_131 ki_yX2_readsStatement ks_yX2_readsStatement kn_RX2 kc_yX2_readsStatement ⟨rfl, rfl⟩ hdX2_readsStatement ⟨Nat.le_of_ble_eq_true rfl, Nat.le_of_ble_eq_true rfl⟩ (ci := 2) (q0 := 0) rfl rfl rfl rfl hl.1 (Nat.le_of_ble_eq_true rfl) dX2_valley_11 ⟨Nat.zero_le _, Nat.zero_le _⟩ (fun H locs hw => ?_)
  refine lv_if_ne (tgt := 26) hx hb dX2_valley_14 (by decide) (fun c2 => ?_) (fun c2 => ?_)
  · replace h := (if_neg c2).symm.trans h
    exact kX2_valley_26 C hr k10 hk10 (q1.2, x_1, x_2) h _ _ _ hw (lv_sub hl [0, 1, 2] rfl)
  · replace h := (if_pos c2).symm.trans h
    refine lv_sipush (v := (-1000)) hx hb dX2_valley_17 (by decide) ?_
    refine lv_aload_n hx hb dX2_valley_20 rfl (lv_at hl 0 rfl) ?_
    refine tGet (T := TX2) (N := 13) (ci := 2) C hw inX2 10 0 rfl (by decide) kf_RX2_101 rfl rfl rfl dX2_valley_21 ?_
    refine lv_isub hx hb dX2_valley_24 ?_
    refine lv_topi (fun x3 ex3 => ?_)
    replace h := bn_some h ex3
    refine lv_istore_n (lv' := [(2, .int x3), (0, .ref (ad 0)), (1, .int x_1)]) hx hb dX2_valley_25 rfl hl (by decide) rfl (fun ls hl => ?_)
    exact kX2_valley_26 C hr k10 hk10 (q1.2, x_1, x3) h _ _ _ hw (lv_sub hl [1, 2, 0] rfl)
theorem lX2_valley_10 (C : Cx p s m args meth c cX2_valley 6 RX2 D cA g A) (hr : meth.sig.returnType = (some .int)) {z : (Int32 × VS)} (n : Nat) (x : (VS) × (Int32) × (Int32)) (h : lp (fX2_valley_10) n x = some z) : GX2_valley_10 p l e s m args below meth c D cA A ad z x := lp_ok (GX2_valley_10 p l e s m args below meth c D cA A ad z) (fun kq hkq x h => kX2_valley_10 C hr kq hkq x h) n x h
set_option maxHeartbeats 4000000 in
set_option maxRecDepth 100000 in
theorem kX2_valley (ad : Nat → Nat) {Y : VS} {z : (Int32 × VS)} (h : fX2_valley Y = some z) : MI l D cA g yX2_valley (Cond.code yX2_valley cX2_valley 6 (some .int) :: lw_g) rmX2_valley [.ref (ad 0)] (wM cA ad Y) z.1 (wM cA ad z.2) := by
  intro sz
  refine Met.ofW (cc := cX2_valley) (maxL := 6) (ret := (some .int)) (by decide) rfl ?_
  intro p e s m args below meth c s₁ B hml hv
  obtain ⟨rfl, C, hr, hw⟩ := ent B hml hv
  generalize va_A (wM cA ad Y) sz = A at C hw ⊢
  have hl := lv_entry ([.ref (ad 0)]) (n := 6) (Nat.le_of_ble_eq_true rfl)
  rw [lg_entry_eq]
  generalize (lg_sl ([.ref (ad 0)]) ++ List.replicate (6 - (lg_sl ([.ref (ad 0)])).length) Slot.unset).toArray = ls at hl ⊢
  have hl : lv_has ls 6 [(0, .ref (ad 0))] := hl
  have hx := C.1.1
  have hb := C.1.2.1
  have h : (bn (up Y 10 (fun _ => 0)) (fun w1 => lp (fX2_valley_10) 5000 (w1, 0, (-9)))) = some z := h
  refine lv_aload_n hx hb dX2_valley_0 rfl (lv_at hl 0 rfl) ?_
  refine lv_iconst (v := 0) hx hb dX2_valley_1 (by decide) ?_
  obtain ⟨w1, ew1⟩ : ∃ y : VS, y = up Y 10 (fun _ => 0) := ⟨_, rfl⟩
  replace h := bn_some h ew1
  refine tPut (T := TX2) (N := 13) (ci := 2) (ws2 := (wM cA ad w1)) C hw inX2 tyX2 tyX2_ok nmX2 10 0 rfl (by decide) kf_RX2_101 rfl rfl rfl rfl rfl (Nat.le_of_ble_eq_true rfl) (by rw [ew1]; rfl) dX2_valley_2 (fun H locs hw => ?_)
  refine lv_iconst (v := 0) hx hb dX2_valley_5 (by decide) ?_
  refine lv_istore_n (lv' := [(1, .int 0), (0, .ref (ad 0))]) hx hb dX2_valley_6 rfl hl (by decide) rfl (fun ls hl => ?_)
  refine lv_bipush (v := (-9)) hx hb dX2_valley_7 (by decide) ?_
  refine lv_istore_n (lv' := [(2, .int (-9)), (1, .int 0), (0, .ref (ad 0))]) hx hb dX2_valley_9 rfl hl (by decide) rfl (fun ls hl => ?_)
  exact lX2_valley_10 C hr 5000 (w1, 0, (-9)) h _ _ _ hw (lv_sub hl [2, 1, 0] rfl)
abbrev rmX2_rocket : Room := { frames := 4, cells := 0, slots := 0, locals := 89 }
theorem hdX2_rocket : yX2_rocket.cls = RX2 ∧ yX2_rocket.cls ≠ "java/lang/invoke/MethodHandle" ∧ yX2_rocket.cls ≠ "java/lang/invoke/VarHandle" ∧ (parseMethodDescriptor yX2_rocket.desc).map (fun d => d.parameters.length) = some 2 := by decide +kernel
def GX2_rocket_88 (p : Program) (l : Launch) (e : Env) (s : State) (m : MethodId) (args : Array Value) (below : List Frame) (meth : Method) (c : Code) (D : va_G) (cA : ClassId) (A : Nat → Prop) (ad : Nat → Nat) (z : (Int32 × VS)) (x : (VS) × (Int32) × (Int32)) : Prop := ∀ (H : Heap) (locs : List Loc) (ls : Array Slot), Wd D A s.heap (wM cA ad x.1) H locs → lv_has ls 5 [(0, .ref (ad 0)), (1, .int x.2.1), (2, .int x.2.2)] → W p l e rmX2_rocket s m args below meth c H locs 0 0 (MQ below (QI D cA A z.1 (wM cA ad z.2)) args s 0 0 A) (F0 m 88 ls [])
def fX2_rocket_88 : ((VS) × (Int32) × (Int32)) → Option (Int32 × VS) := fun x => match x with | (Y, x_1, x_2) => cl (fX2_ofR x_1 x_2) (fun r1 => rd 81 (Y 0) r1 (fun r2 => some (r2, Y)))
def fX2_rocket (Y : VS) (a_1 : Int32) (a_2 : Int32) : Option (Int32 × VS) := cl (fX2_isRocket Y a_1) (fun r1 => if r1 = 0 then cl (fX2_no Y (-1)) (fun q22 => some (q22.1, q22.2)) else cl (fX2_ofR a_1 0) (fun r3 => rd 81 (Y 0) r3 (fun r4 => cl (fX2_ofR a_1 1) (fun r5 => rd 81 (Y 0) r5 (fun r6 => if a_2 = 0 then fX2_rocket_88 (Y, a_1, a_2) else if a_2 = 1 then fX2_rocket_88 (Y, a_1, a_2) else if a_2 = 2 then fX2_rocket_88 (Y, a_1, a_2) else if a_2 = 3 then fX2_rocket_88 (Y, a_1, a_2) else if a_2 = 4 then cl (fX2_costBy r4) (fun r12 => some (r12, Y)) else if a_2 = 5 then cl (fX2_reachBy r4 r6) (fun r14 => some (r14, Y)) else if a_2 = 6 then cl (fX2_darkBy r4 r6) (fun r16 => some (r16, Y)) else if a_2 = 7 then cl (fX2_burstsAt (Y 0) a_1) (fun r18 => some (r18, Y)) else if a_2 = 8 then cl (fX2_readers (Y 0) a_1) (fun r20 => some (r20, Y)) else cl (fX2_no Y (-2)) (fun q21 => some (q21.1, q21.2)))))))
set_option maxHeartbeats 4000000 in
set_option maxRecDepth 100000 in
theorem kX2_rocket_88 (C : Cx p s m args meth c cX2_rocket 5 RX2 D cA g A) (hr : meth.sig.returnType = (some .int)) {z : (Int32 × VS)} (x : (VS) × (Int32) × (Int32)) (h : fX2_rocket_88 x = some z) : GX2_rocket_88 p l e s m args below meth c D cA A ad z x := by
  obtain ⟨Y, x_1, x_2⟩ := x
  intro H locs ls hw hl
  have hw : Wd D A s.heap (wM cA ad Y) H locs := hw
  have hl : lv_has ls 5 [(0, .ref (ad 0)), (1, .int x_1), (2, .int x_2)] := hl
  have hx := C.1.1
  have hb := C.1.2.1
  have h : (cl (fX2_ofR x_1 x_2) (fun r1 => rd 81 (Y 0) r1 (fun r2 => some (r2, Y)))) = some z := h
  refine lv_aload_n hx hb dX2_rocket_88 rfl (lv_at hl 0 rfl) ?_
  refine tGet (T := TX2) (N := 13) (ci := 2) C hw inX2 0 0 rfl (by decide) kf_RX2_9 rfl rfl rfl dX2_rocket_89 ?_
  refine lv_iload_n hx hb dX2_rocket_92 rfl (lv_at hl 1 rfl) ?_
  refine lv_iload_n hx hb dX2_rocket_93 rfl (lv_at hl 2 rfl) ?_
  obtain ⟨r1, hr1, h⟩ := cl_some h
  refine cSi (ws2 := (wM cA ad Y)) (As := [.int x_1, .int x_2]) (rest := [.ref (ad 1)]) C hw jnE (kX2_ofR hr1) kl_RX2_44 kt_yX2_ofR kn_RX2 kc_yX2_ofR ⟨rfl, rfl⟩ hdX2_ofR ⟨Nat.le_of_ble_eq_true rfl, Nat.le_of_ble_eq_true rfl⟩ rfl hl.1 (Nat.le_of_ble_eq_true rfl) dX2_rocket_94 ⟨Nat.zero_le _, Nat.zero_le _⟩ (fun H locs hw => ?_)
  obtain ⟨r2, ir2, er2, h⟩ := rd_some h
  refine tLd C hw 1 rfl ir2 er2 dX2_rocket_97 ?_
  obtain rfl := some_e h
  exact rtI C hr hw dX2_rocket_98
set_option maxHeartbeats 4000000 in
set_option maxRecDepth 100000 in
theorem kX2_rocket (ad : Nat → Nat) {Y : VS} {a_1 : Int32} {a_2 : Int32} {z : (Int32 × VS)} (h : fX2_rocket Y a_1 a_2 = some z) : MI l D cA g yX2_rocket (Cond.code yX2_rocket cX2_rocket 5 (some .int) :: lw_g) rmX2_rocket [.ref (ad 0), .int a_1, .int a_2] (wM cA ad Y) z.1 (wM cA ad z.2) := by
  intro sz
  refine Met.ofW (cc := cX2_rocket) (maxL := 5) (ret := (some .int)) (by decide) rfl ?_
  intro p e s m args below meth c s₁ B hml hv
  obtain ⟨rfl, C, hr, hw⟩ := ent B hml hv
  generalize va_A (wM cA ad Y) sz = A at C hw ⊢
  have hl := lv_entry ([.ref (ad 0), .int a_1, .int a_2]) (n := 5) (Nat.le_of_ble_eq_true rfl)
  rw [lg_entry_eq]
  generalize (lg_sl ([.ref (ad 0), .int a_1, .int a_2]) ++ List.replicate (5 - (lg_sl ([.ref (ad 0), .int a_1, .int a_2])).length) Slot.unset).toArray = ls at hl ⊢
  have hl : lv_has ls 5 [(0, .ref (ad 0)), (1, .int a_1), (2, .int a_2)] := hl
  have hx := C.1.1
  have hb := C.1.2.1
  have h : (cl (fX2_isRocket Y a_1) (fun r1 => if r1 = 0 then cl (fX2_no Y (-1)) (fun q22 => some (q22.1, q22.2)) else cl (fX2_ofR a_1 0) (fun r3 => rd 81 (Y 0) r3 (fun r4 => cl (fX2_ofR a_1 1) (fun r5 => rd 81 (Y 0) r5 (fun r6 => if a_2 = 0 then fX2_rocket_88 (Y, a_1, a_2) else if a_2 = 1 then fX2_rocket_88 (Y, a_1, a_2) else if a_2 = 2 then fX2_rocket_88 (Y, a_1, a_2) else if a_2 = 3 then fX2_rocket_88 (Y, a_1, a_2) else if a_2 = 4 then cl (fX2_costBy r4) (fun r12 => some (r12, Y)) else if a_2 = 5 then cl (fX2_reachBy r4 r6) (fun r14 => some (r14, Y)) else if a_2 = 6 then cl (fX2_darkBy r4 r6) (fun r16 => some (r16, Y)) else if a_2 = 7 then cl (fX2_burstsAt (Y 0) a_1) (fun r18 => some (r18, Y)) else if a_2 = 8 then cl (fX2_readers (Y 0) a_1) (fun r20 => some (r20, Y)) else cl (fX2_no Y (-2)) (fun q21 => some (q21.1, q21.2)))))))) = some z := h
  refine lv_aload_n hx hb dX2_rocket_0 rfl (lv_at hl 0 rfl) ?_
  refine lv_iload_n hx hb dX2_rocket_1 rfl (lv_at hl 1 rfl) ?_
  obtain ⟨r1, hr1, h⟩ := cl_some h
  refine cVi (ws2 := (wM cA ad Y)) (As := [.int a_1]) (rest := []) C hw jnW (kX2_isRocket ad hr1) kl_RX2_124 ki_yX2_isRocket ks_yX2_isRocket kn_RX2 kc_yX2_isRocket ⟨rfl, rfl⟩ hdX2_isRocket ⟨Nat.le_of_ble_eq_true rfl, Nat.le_of_ble_eq_true rfl⟩ (ci := 2) (q0 := 0) rfl rfl rfl rfl hl.1 (Nat.le_of_ble_eq_true rfl) dX2_rocket_2 ⟨Nat.zero_le _, Nat.zero_le _⟩ (fun H locs hw => ?_)
  refine lv_if_ne (tgt := 14) hx hb dX2_rocket_5 (by decide) (fun c2 => ?_) (fun c2 => ?_)
  · replace h := (if_neg c2).symm.trans h
    refine lv_aload_n hx hb dX2_rocket_14 rfl (lv_at hl 0 rfl) ?_
    refine tGet (T := TX2) (N := 13) (ci := 2) C hw inX2 0 0 rfl (by decide) kf_RX2_9 rfl rfl rfl dX2_rocket_15 ?_
    refine lv_iload_n hx hb dX2_rocket_18 rfl (lv_at hl 1 rfl) ?_
    refine lv_iconst (v := 0) hx hb dX2_rocket_19 (by decide) ?_
    obtain ⟨r3, hr3, h⟩ := cl_some h
    refine cSi (ws2 := (wM cA ad Y)) (As := [.int a_1, .int 0]) (rest := [.ref (ad 1)]) C hw jnE (kX2_ofR hr3) kl_RX2_44 kt_yX2_ofR kn_RX2 kc_yX2_ofR ⟨rfl, rfl⟩ hdX2_ofR ⟨Nat.le_of_ble_eq_true rfl, Nat.le_of_ble_eq_true rfl⟩ rfl hl.1 (Nat.le_of_ble_eq_true rfl) dX2_rocket_20 ⟨Nat.zero_le _, Nat.zero_le _⟩ (fun H locs hw => ?_)
    obtain ⟨r4, ir4, er4, h⟩ := rd_some h
    refine tLd C hw 1 rfl ir4 er4 dX2_rocket_23 ?_
    refine lv_istore_n (lv' := [(3, .int r4), (0, .ref (ad 0)), (1, .int a_1), (2, .int a_2)]) hx hb dX2_rocket_24 rfl hl (by decide) rfl (fun ls hl => ?_)
    refine lv_aload_n hx hb dX2_rocket_25 rfl (lv_at hl 1 rfl) ?_
    refine tGet (T := TX2) (N := 13) (ci := 2) C hw inX2 0 0 rfl (by decide) kf_RX2_9 rfl rfl rfl dX2_rocket_26 ?_
    refine lv_iload_n hx hb dX2_rocket_29 rfl (lv_at hl 2 rfl) ?_
    refine lv_iconst (v := 1) hx hb dX2_rocket_30 (by decide) ?_
    obtain ⟨r5, hr5, h⟩ := cl_some h
    refine cSi (ws2 := (wM cA ad Y)) (As := [.int a_1, .int 1]) (rest := [.ref (ad 1)]) C hw jnE (kX2_ofR hr5) kl_RX2_44 kt_yX2_ofR kn_RX2 kc_yX2_ofR ⟨rfl, rfl⟩ hdX2_ofR ⟨Nat.le_of_ble_eq_true rfl, Nat.le_of_ble_eq_true rfl⟩ rfl hl.1 (Nat.le_of_ble_eq_true rfl) dX2_rocket_31 ⟨Nat.zero_le _, Nat.zero_le _⟩ (fun H locs hw => ?_)
    obtain ⟨r6, ir6, er6, h⟩ := rd_some h
    refine tLd C hw 1 rfl ir6 er6 dX2_rocket_34 ?_
    refine lv_istore (lv' := [(4, .int r6), (3, .int r4), (0, .ref (ad 0)), (1, .int a_1), (2, .int a_2)]) hx hb dX2_rocket_35 hl (by decide) rfl (fun ls hl => ?_)
    refine lv_iload_n hx hb dX2_rocket_37 rfl (lv_at hl 4 rfl) ?_
    by_cases c7 : a_2 = 0
    · replace h := (if_pos c7).symm.trans h
      refine lv_tableIn (tgt := 88) hx hb dX2_rocket_38 (by rw [c7]; decide) (by rw [c7]; decide) (by rw [c7]; rfl) (by decide) ?_
      exact kX2_rocket_88 C hr (Y, a_1, a_2) h _ _ _ hw (lv_sub hl [2, 3, 4] rfl)
    replace h := (if_neg c7).symm.trans h
    by_cases c8 : a_2 = 1
    · replace h := (if_pos c8).symm.trans h
      refine lv_tableIn (tgt := 88) hx hb dX2_rocket_38 (by rw [c8]; decide) (by rw [c8]; decide) (by rw [c8]; rfl) (by decide) ?_
      exact kX2_rocket_88 C hr (Y, a_1, a_2) h _ _ _ hw (lv_sub hl [2, 3, 4] rfl)
    replace h := (if_neg c8).symm.trans h
    by_cases c9 : a_2 = 2
    · replace h := (if_pos c9).symm.trans h
      refine lv_tableIn (tgt := 88) hx hb dX2_rocket_38 (by rw [c9]; decide) (by rw [c9]; decide) (by rw [c9]; rfl) (by decide) ?_
      exact kX2_rocket_88 C hr (Y, a_1, a_2) h _ _ _ hw (lv_sub hl [2, 3, 4] rfl)
    replace h := (if_neg c9).symm.trans h
    by_cases c10 : a_2 = 3
    · replace h := (if_pos c10).symm.trans h
      refine lv_tableIn (tgt := 88) hx hb dX2_rocket_38 (by rw [c10]; decide) (by rw [c10]; decide) (by rw [c10]; rfl) (by decide) ?_
      exact kX2_rocket_88 C hr (Y, a_1, a_2) h _ _ _ hw (lv_sub hl [2, 3, 4] rfl)
    replace h := (if_neg c10).symm.trans h
    by_cases c11 : a_2 = 4
    · replace h := (if_pos c11).symm.trans h
      refine lv_tableIn (tgt := 99) hx hb dX2_rocket_38 (by rw [c11]; decide) (by rw [c11]; decide) (by rw [c11]; rfl) (by decide) ?_
      refine lv_iload_n hx hb dX2_rocket_99 rfl (lv_at hl 1 rfl) ?_
      obtain ⟨r12, hr12, h⟩ := cl_some h
      refine cSi (ws2 := (wM cA ad Y)) (As := [.int r4]) (rest := []) C hw jnE (kX2_costBy hr12) kl_RX2_69 kt_yX2_costBy kn_RX2 kc_yX2_costBy ⟨rfl, rfl⟩ hdX2_costBy ⟨Nat.le_of_ble_eq_true rfl, Nat.le_of_ble_eq_true rfl⟩ rfl hl.1 (Nat.le_of_ble_eq_true rfl) dX2_rocket_100 ⟨Nat.zero_le _, Nat.zero_le _⟩ (fun H locs hw => ?_)
      obtain rfl := some_e h
      exact rtI C hr hw dX2_rocket_103
    replace h := (if_neg c11).symm.trans h
    by_cases c13 : a_2 = 5
    · replace h := (if_pos c13).symm.trans h
      refine lv_tableIn (tgt := 104) hx hb dX2_rocket_38 (by rw [c13]; decide) (by rw [c13]; decide) (by rw [c13]; rfl) (by decide) ?_
      refine lv_iload_n hx hb dX2_rocket_104 rfl (lv_at hl 1 rfl) ?_
      refine lv_iload hx hb dX2_rocket_105 (lv_at hl 0 rfl) ?_
      obtain ⟨r14, hr14, h⟩ := cl_some h
      refine cSi (ws2 := (wM cA ad Y)) (As := [.int r4, .int r6]) (rest := []) C hw jnE (kX2_reachBy hr14) kl_RX2_58 kt_yX2_reachBy kn_RX2 kc_yX2_reachBy ⟨rfl, rfl⟩ hdX2_reachBy ⟨Nat.le_of_ble_eq_true rfl, Nat.le_of_ble_eq_true rfl⟩ rfl hl.1 (Nat.le_of_ble_eq_true rfl) dX2_rocket_107 ⟨Nat.zero_le _, Nat.zero_le _⟩ (fun H locs hw => ?_)
      obtain rfl := some_e h
      exact rtI C hr hw dX2_rocket_110
    replace h := (if_neg c13).symm.trans h
    by_cases c15 : a_2 = 6
    · replace h := (if_pos c15).symm.trans h
      refine lv_tableIn (tgt := 111) hx hb dX2_rocket_38 (by rw [c15]; decide) (by rw [c15]; decide) (by rw [c15]; rfl) (by decide) ?_
      refine lv_iload_n hx hb dX2_rocket_111 rfl (lv_at hl 1 rfl) ?_
      refine lv_iload hx hb dX2_rocket_112 (lv_at hl 0 rfl) ?_
      obtain ⟨r16, hr16, h⟩ := cl_some h
      refine cSi (ws2 := (wM cA ad Y)) (As := [.int r4, .int r6]) (rest := []) C hw jnE (kX2_darkBy hr16) kl_RX2_141 kt_yX2_darkBy kn_RX2 kc_yX2_darkBy ⟨rfl, rfl⟩ hdX2_darkBy ⟨Nat.le_of_ble_eq_true rfl, Nat.le_of_ble_eq_true rfl⟩ rfl hl.1 (Nat.le_of_ble_eq_true rfl) dX2_rocket_114 ⟨Nat.zero_le _, Nat.zero_le _⟩ (fun H locs hw => ?_)
      obtain rfl := some_e h
      exact rtI C hr hw dX2_rocket_117
    replace h := (if_neg c15).symm.trans h
    by_cases c17 : a_2 = 7
    · replace h := (if_pos c17).symm.trans h
      refine lv_tableIn (tgt := 118) hx hb dX2_rocket_38 (by rw [c17]; decide) (by rw [c17]; decide) (by rw [c17]; rfl) (by decide) ?_
      refine lv_aload_n hx hb dX2_rocket_118 rfl (lv_at hl 2 rfl) ?_
      refine tGet (T := TX2) (N := 13) (ci := 2) C hw inX2 0 0 rfl (by decide) kf_RX2_9 rfl rfl rfl dX2_rocket_119 ?_
      refine lv_iload_n hx hb dX2_rocket_122 rfl (lv_at hl 3 rfl) ?_
      obtain ⟨r18, hr18, h⟩ := cl_some h
      refine cSi (ws2 := (wM cA ad Y)) (As := [.ref (ad 1), .int a_1]) (rest := []) C hw jM0r (kX2_burstsAt (ad 1) hr18) kl_RX2_51 kt_yX2_burstsAt kn_RX2 kc_yX2_burstsAt ⟨rfl, rfl⟩ hdX2_burstsAt ⟨Nat.le_of_ble_eq_true rfl, Nat.le_of_ble_eq_true rfl⟩ rfl hl.1 (Nat.le_of_ble_eq_true rfl) dX2_rocket_123 ⟨Nat.zero_le _, Nat.zero_le _⟩ (fun H locs hw => ?_)
      obtain rfl := some_e h
      exact rtI C hr hw dX2_rocket_126
    replace h := (if_neg c17).symm.trans h
    by_cases c19 : a_2 = 8
    · replace h := (if_pos c19).symm.trans h
      refine lv_tableIn (tgt := 127) hx hb dX2_rocket_38 (by rw [c19]; decide) (by rw [c19]; decide) (by rw [c19]; rfl) (by decide) ?_
      refine lv_aload_n hx hb dX2_rocket_127 rfl (lv_at hl 2 rfl) ?_
      refine tGet (T := TX2) (N := 13) (ci := 2) C hw inX2 0 0 rfl (by decide) kf_RX2_9 rfl rfl rfl dX2_rocket_128 ?_
      refine lv_iload_n hx hb dX2_rocket_131 rfl (lv_at hl 3 rfl) ?_
      obtain ⟨r20, hr20, h⟩ := cl_some h
      refine cSi (ws2 := (wM cA ad Y)) (As := [.ref (ad 1), .int a_1]) (rest := []) C hw jM0r (kX2_readers (ad 1) hr20) kl_RX2_144 kt_yX2_readers kn_RX2 kc_yX2_readers ⟨rfl, rfl⟩ hdX2_readers ⟨Nat.le_of_ble_eq_true rfl, Nat.le_of_ble_eq_true rfl⟩ rfl hl.1 (Nat.le_of_ble_eq_true rfl) dX2_rocket_132 ⟨Nat.zero_le _, Nat.zero_le _⟩ (fun H locs hw => ?_)
      obtain rfl := some_e h
      exact rtI C hr hw dX2_rocket_135
    replace h := (if_neg c19).symm.trans h
    have hout : (a_2 : Int32).toInt < 0 ∨ 8 < (a_2 : Int32).toInt := sw_out (fun k h1 h2 => by
      have hk : k = 0 ∨ k = 1 ∨ k = 2 ∨ k = 3 ∨ k = 4 ∨ k = 5 ∨ k = 6 ∨ k = 7 ∨ k = 8 := by omega
      rcases hk with rfl | rfl | rfl | rfl | rfl | rfl | rfl | rfl | rfl
      · exact sw_ne c7 (by decide)
      · exact sw_ne c8 (by decide)
      · exact sw_ne c9 (by decide)
      · exact sw_ne c10 (by decide)
      · exact sw_ne c11 (by decide)
      · exact sw_ne c13 (by decide)
      · exact sw_ne c15 (by decide)
      · exact sw_ne c17 (by decide)
      · exact sw_ne c19 (by decide))
    refine lv_tableOut (tgt := 136) hx hb dX2_rocket_38 hout (by decide) ?_
    refine lv_aload_n hx hb dX2_rocket_136 rfl (lv_at hl 2 rfl) ?_
    refine lv_bipush (v := (-2)) hx hb dX2_rocket_137 (by decide) ?_
    obtain ⟨q21, hq21, h⟩ := cl_some h
    refine cVi (ws2 := (wM cA ad q21.2)) (As := [.int (-2)]) (rest := []) C hw jnW (kX2_no ad hq21) kl_RX2_36 ki_yX2_no ks_yX2_no kn_RX2 kc_yX2_no ⟨rfl, rfl⟩ hdX2_no ⟨Nat.le_of_ble_eq_true rfl, Nat.le_of_ble_eq_true rfl⟩ (ci := 2) (q0 := 0) rfl rfl rfl rfl hl.1 (Nat.le_of_ble_eq_true rfl) dX2_rocket_139 ⟨Nat.zero_le _, Nat.zero_le _⟩ (fun H locs hw => ?_)
    obtain rfl := some_e h
    exact rtI C hr hw dX2_rocket_142
  · replace h := (if_pos c2).symm.trans h
    refine lv_aload_n hx hb dX2_rocket_8 rfl (lv_at hl 0 rfl) ?_
    refine lv_iconst (v := (-1)) hx hb dX2_rocket_9 (by decide) ?_
    obtain ⟨q22, hq22, h⟩ := cl_some h
    refine cVi (ws2 := (wM cA ad q22.2)) (As := [.int (-1)]) (rest := []) C hw jnW (kX2_no ad hq22) kl_RX2_36 ki_yX2_no ks_yX2_no kn_RX2 kc_yX2_no ⟨rfl, rfl⟩ hdX2_no ⟨Nat.le_of_ble_eq_true rfl, Nat.le_of_ble_eq_true rfl⟩ (ci := 2) (q0 := 0) rfl rfl rfl rfl hl.1 (Nat.le_of_ble_eq_true rfl) dX2_rocket_10 ⟨Nat.zero_le _, Nat.zero_le _⟩ (fun H locs hw => ?_)
    obtain rfl := some_e h
    exact rtI C hr hw dX2_rocket_13
abbrev rmX2_reader : Room := { frames := 2, cells := 0, slots := 0, locals := 44 }
theorem hdX2_reader : yX2_reader.cls = RX2 ∧ yX2_reader.cls ≠ "java/lang/invoke/MethodHandle" ∧ yX2_reader.cls ≠ "java/lang/invoke/VarHandle" ∧ (parseMethodDescriptor yX2_reader.desc).map (fun d => d.parameters.length) = some 2 := by decide +kernel
def fX2_reader (Y : VS) (a_1 : Int32) (a_2 : Int32) : Option (Int32 × VS) := cl (fX2_isReader Y a_1) (fun r1 => if r1 = 0 then cl (fX2_no Y (-1)) (fun q10 => some (q10.1, q10.2)) else if a_2 = 2 then cl (fX2_wordsOf (Y 0) a_1) (fun r9 => some (r9, Y)) else cl (fX2_isIn a_2 0 1) (fun r4 => if r4 = 0 then cl (fX2_no Y (-2)) (fun q6 => some (q6.1, q6.2)) else cl (fX2_ofP a_1 a_2) (fun r7 => rd 81 (Y 0) r7 (fun r8 => some (r8, Y)))))
set_option maxHeartbeats 4000000 in
set_option maxRecDepth 100000 in
theorem kX2_reader (ad : Nat → Nat) {Y : VS} {a_1 : Int32} {a_2 : Int32} {z : (Int32 × VS)} (h : fX2_reader Y a_1 a_2 = some z) : MI l D cA g yX2_reader (Cond.code yX2_reader cX2_reader 3 (some .int) :: lw_g) rmX2_reader [.ref (ad 0), .int a_1, .int a_2] (wM cA ad Y) z.1 (wM cA ad z.2) := by
  intro sz
  refine Met.ofW (cc := cX2_reader) (maxL := 3) (ret := (some .int)) (by decide) rfl ?_
  intro p e s m args below meth c s₁ B hml hv
  obtain ⟨rfl, C, hr, hw⟩ := ent B hml hv
  generalize va_A (wM cA ad Y) sz = A at C hw ⊢
  have hl := lv_entry ([.ref (ad 0), .int a_1, .int a_2]) (n := 3) (Nat.le_of_ble_eq_true rfl)
  rw [lg_entry_eq]
  generalize (lg_sl ([.ref (ad 0), .int a_1, .int a_2]) ++ List.replicate (3 - (lg_sl ([.ref (ad 0), .int a_1, .int a_2])).length) Slot.unset).toArray = ls at hl ⊢
  have hl : lv_has ls 3 [(0, .ref (ad 0)), (1, .int a_1), (2, .int a_2)] := hl
  have hx := C.1.1
  have hb := C.1.2.1
  have h : (cl (fX2_isReader Y a_1) (fun r1 => if r1 = 0 then cl (fX2_no Y (-1)) (fun q10 => some (q10.1, q10.2)) else if a_2 = 2 then cl (fX2_wordsOf (Y 0) a_1) (fun r9 => some (r9, Y)) else cl (fX2_isIn a_2 0 1) (fun r4 => if r4 = 0 then cl (fX2_no Y (-2)) (fun q6 => some (q6.1, q6.2)) else cl (fX2_ofP a_1 a_2) (fun r7 => rd 81 (Y 0) r7 (fun r8 => some (r8, Y)))))) = some z := h
  refine lv_aload_n hx hb dX2_reader_0 rfl (lv_at hl 0 rfl) ?_
  refine lv_iload_n hx hb dX2_reader_1 rfl (lv_at hl 1 rfl) ?_
  obtain ⟨r1, hr1, h⟩ := cl_some h
  refine cVi (ws2 := (wM cA ad Y)) (As := [.int a_1]) (rest := []) C hw jnW (kX2_isReader ad hr1) kl_RX2_147 ki_yX2_isReader ks_yX2_isReader kn_RX2 kc_yX2_isReader ⟨rfl, rfl⟩ hdX2_isReader ⟨Nat.le_of_ble_eq_true rfl, Nat.le_of_ble_eq_true rfl⟩ (ci := 2) (q0 := 0) rfl rfl rfl rfl hl.1 (Nat.le_of_ble_eq_true rfl) dX2_reader_2 ⟨Nat.zero_le _, Nat.zero_le _⟩ (fun H locs hw => ?_)
  refine lv_if_ne (tgt := 14) hx hb dX2_reader_5 (by decide) (fun c2 => ?_) (fun c2 => ?_)
  · replace h := (if_neg c2).symm.trans h
    refine lv_iload_n hx hb dX2_reader_14 rfl (lv_at hl 2 rfl) ?_
    refine lv_iconst (v := 2) hx hb dX2_reader_15 (by decide) ?_
    refine lv_icmp_ne (tgt := 30) hx hb dX2_reader_16 (by decide) (fun c3 => ?_) (fun c3 => ?_)
    · replace h := (if_neg c3).symm.trans h
      refine lv_iload_n hx hb dX2_reader_30 rfl (lv_at hl 2 rfl) ?_
      refine lv_iconst (v := 0) hx hb dX2_reader_31 (by decide) ?_
      refine lv_iconst (v := 1) hx hb dX2_reader_32 (by decide) ?_
      obtain ⟨r4, hr4, h⟩ := cl_some h
      refine cSi (ws2 := (wM cA ad Y)) (As := [.int a_2, .int 0, .int 1]) (rest := []) C hw jnE (kX2_isIn hr4) kl_RX2_40 kt_yX2_isIn kn_RX2 kc_yX2_isIn ⟨rfl, rfl⟩ hdX2_isIn ⟨Nat.le_of_ble_eq_true rfl, Nat.le_of_ble_eq_true rfl⟩ rfl hl.1 (Nat.le_of_ble_eq_true rfl) dX2_reader_33 ⟨Nat.zero_le _, Nat.zero_le _⟩ (fun H locs hw => ?_)
      refine lv_if_eq (tgt := 52) hx hb dX2_reader_36 (by decide) (fun c5 => ?_) (fun c5 => ?_)
      · replace h := (if_pos c5).symm.trans h
        refine lv_aload_n hx hb dX2_reader_52 rfl (lv_at hl 0 rfl) ?_
        refine lv_bipush (v := (-2)) hx hb dX2_reader_53 (by decide) ?_
        obtain ⟨q6, hq6, h⟩ := cl_some h
        refine cVi (ws2 := (wM cA ad q6.2)) (As := [.int (-2)]) (rest := []) C hw jnW (kX2_no ad hq6) kl_RX2_36 ki_yX2_no ks_yX2_no kn_RX2 kc_yX2_no ⟨rfl, rfl⟩ hdX2_no ⟨Nat.le_of_ble_eq_true rfl, Nat.le_of_ble_eq_true rfl⟩ (ci := 2) (q0 := 0) rfl rfl rfl rfl hl.1 (Nat.le_of_ble_eq_true rfl) dX2_reader_55 ⟨Nat.zero_le _, Nat.zero_le _⟩ (fun H locs hw => ?_)
        obtain rfl := some_e h
        exact rtI C hr hw dX2_reader_58
      · replace h := (if_neg c5).symm.trans h
        refine lv_aload_n hx hb dX2_reader_39 rfl (lv_at hl 0 rfl) ?_
        refine tGet (T := TX2) (N := 13) (ci := 2) C hw inX2 0 0 rfl (by decide) kf_RX2_9 rfl rfl rfl dX2_reader_40 ?_
        refine lv_iload_n hx hb dX2_reader_43 rfl (lv_at hl 1 rfl) ?_
        refine lv_iload_n hx hb dX2_reader_44 rfl (lv_at hl 2 rfl) ?_
        obtain ⟨r7, hr7, h⟩ := cl_some h
        refine cSi (ws2 := (wM cA ad Y)) (As := [.int a_1, .int a_2]) (rest := [.ref (ad 1)]) C hw jnE (kX2_ofP hr7) kl_RX2_48 kt_yX2_ofP kn_RX2 kc_yX2_ofP ⟨rfl, rfl⟩ hdX2_ofP ⟨Nat.le_of_ble_eq_true rfl, Nat.le_of_ble_eq_true rfl⟩ rfl hl.1 (Nat.le_of_ble_eq_true rfl) dX2_reader_45 ⟨Nat.zero_le _, Nat.zero_le _⟩ (fun H locs hw => ?_)
        obtain ⟨r8, ir8, er8, h⟩ := rd_some h
        refine tLd C hw 1 rfl ir8 er8 dX2_reader_48 ?_
        refine lv_goto (tgt := 58) hx hb dX2_reader_49 (by decide) ?_
        obtain rfl := some_e h
        exact rtI C hr hw dX2_reader_58
    · replace h := (if_pos c3).symm.trans h
      refine lv_aload_n hx hb dX2_reader_19 rfl (lv_at hl 0 rfl) ?_
      refine tGet (T := TX2) (N := 13) (ci := 2) C hw inX2 0 0 rfl (by decide) kf_RX2_9 rfl rfl rfl dX2_reader_20 ?_
      refine lv_iload_n hx hb dX2_reader_23 rfl (lv_at hl 1 rfl) ?_
      obtain ⟨r9, hr9, h⟩ := cl_some h
      refine cSi (ws2 := (wM cA ad Y)) (As := [.ref (ad 1), .int a_1]) (rest := []) C hw jM0r (kX2_wordsOf (ad 1) hr9) kl_RX2_91 kt_yX2_wordsOf kn_RX2 kc_yX2_wordsOf ⟨rfl, rfl⟩ hdX2_wordsOf ⟨Nat.le_of_ble_eq_true rfl, Nat.le_of_ble_eq_true rfl⟩ rfl hl.1 (Nat.le_of_ble_eq_true rfl) dX2_reader_24 ⟨Nat.zero_le _, Nat.zero_le _⟩ (fun H locs hw => ?_)
      refine lv_goto (tgt := 58) hx hb dX2_reader_27 (by decide) ?_
      obtain rfl := some_e h
      exact rtI C hr hw dX2_reader_58
  · replace h := (if_pos c2).symm.trans h
    refine lv_aload_n hx hb dX2_reader_8 rfl (lv_at hl 0 rfl) ?_
    refine lv_iconst (v := (-1)) hx hb dX2_reader_9 (by decide) ?_
    obtain ⟨q10, hq10, h⟩ := cl_some h
    refine cVi (ws2 := (wM cA ad q10.2)) (As := [.int (-1)]) (rest := []) C hw jnW (kX2_no ad hq10) kl_RX2_36 ki_yX2_no ks_yX2_no kn_RX2 kc_yX2_no ⟨rfl, rfl⟩ hdX2_no ⟨Nat.le_of_ble_eq_true rfl, Nat.le_of_ble_eq_true rfl⟩ (ci := 2) (q0 := 0) rfl rfl rfl rfl hl.1 (Nat.le_of_ble_eq_true rfl) dX2_reader_10 ⟨Nat.zero_le _, Nat.zero_le _⟩ (fun H locs hw => ?_)
    obtain rfl := some_e h
    exact rtI C hr hw dX2_reader_13
abbrev rmX2_keeps : Room := { frames := 2, cells := 0, slots := 0, locals := 43 }
theorem hdX2_keeps : yX2_keeps.cls = RX2 ∧ yX2_keeps.cls ≠ "java/lang/invoke/MethodHandle" ∧ yX2_keeps.cls ≠ "java/lang/invoke/VarHandle" ∧ (parseMethodDescriptor yX2_keeps.desc).map (fun d => d.parameters.length) = some 2 := by decide +kernel
def GX2_keeps_32 (p : Program) (l : Launch) (e : Env) (s : State) (m : MethodId) (args : Array Value) (below : List Frame) (meth : Method) (c : Code) (D : va_G) (cA : ClassId) (A : Nat → Prop) (ad : Nat → Nat) (z : (Int32 × VS)) (x : (VS)) : Prop := ∀ (H : Heap) (locs : List Loc) (ls : Array Slot), Wd D A s.heap (wM cA ad x) H locs → lv_has ls 3 [(0, .ref (ad 0))] → W p l e rmX2_keeps s m args below meth c H locs 0 0 (MQ below (QI D cA A z.1 (wM cA ad z.2)) args s 0 0 A) (F0 m 32 ls [])
def fX2_keeps_32 : ((VS)) → Option (Int32 × VS) := fun Y => cl (fX2_no Y (-1)) (fun q1 => some (q1.1, q1.2))
def fX2_keeps (Y : VS) (a_1 : Int32) (a_2 : Int32) : Option (Int32 × VS) := cl (fX2_isReader Y a_1) (fun r1 => if r1 = 0 then fX2_keeps_32 Y else cl (fX2_isIn a_2 0 5) (fun r3 => if r3 = 0 then fX2_keeps_32 Y else cl (fX2_ofP a_1 ((2 : Int32) + a_2)) (fun r5 => rd 81 (Y 0) r5 (fun r6 => some (r6, Y)))))
set_option maxHeartbeats 4000000 in
set_option maxRecDepth 100000 in
theorem kX2_keeps_32 (C : Cx p s m args meth c cX2_keeps 3 RX2 D cA g A) (hr : meth.sig.returnType = (some .int)) {z : (Int32 × VS)} (x : (VS)) (h : fX2_keeps_32 x = some z) : GX2_keeps_32 p l e s m args below meth c D cA A ad z x := by
  obtain ⟨Y, rfl⟩ : ∃ y, y = x := ⟨_, rfl⟩
  intro H locs ls hw hl
  have hw : Wd D A s.heap (wM cA ad Y) H locs := hw
  have hl : lv_has ls 3 [(0, .ref (ad 0))] := hl
  have hx := C.1.1
  have hb := C.1.2.1
  have h : (cl (fX2_no Y (-1)) (fun q1 => some (q1.1, q1.2))) = some z := h
  refine lv_aload_n hx hb dX2_keeps_32 rfl (lv_at hl 0 rfl) ?_
  refine lv_iconst (v := (-1)) hx hb dX2_keeps_33 (by decide) ?_
  obtain ⟨q1, hq1, h⟩ := cl_some h
  refine cVi (ws2 := (wM cA ad q1.2)) (As := [.int (-1)]) (rest := []) C hw jnW (kX2_no ad hq1) kl_RX2_36 ki_yX2_no ks_yX2_no kn_RX2 kc_yX2_no ⟨rfl, rfl⟩ hdX2_no ⟨Nat.le_of_ble_eq_true rfl, Nat.le_of_ble_eq_true rfl⟩ (ci := 2) (q0 := 0) rfl rfl rfl rfl hl.1 (Nat.le_of_ble_eq_true rfl) dX2_keeps_34 ⟨Nat.zero_le _, Nat.zero_le _⟩ (fun H locs hw => ?_)
  obtain rfl := some_e h
  exact rtI C hr hw dX2_keeps_37
set_option maxHeartbeats 4000000 in
set_option maxRecDepth 100000 in
theorem kX2_keeps (ad : Nat → Nat) {Y : VS} {a_1 : Int32} {a_2 : Int32} {z : (Int32 × VS)} (h : fX2_keeps Y a_1 a_2 = some z) : MI l D cA g yX2_keeps (Cond.code yX2_keeps cX2_keeps 3 (some .int) :: lw_g) rmX2_keeps [.ref (ad 0), .int a_1, .int a_2] (wM cA ad Y) z.1 (wM cA ad z.2) := by
  intro sz
  refine Met.ofW (cc := cX2_keeps) (maxL := 3) (ret := (some .int)) (by decide) rfl ?_
  intro p e s m args below meth c s₁ B hml hv
  obtain ⟨rfl, C, hr, hw⟩ := ent B hml hv
  generalize va_A (wM cA ad Y) sz = A at C hw ⊢
  have hl := lv_entry ([.ref (ad 0), .int a_1, .int a_2]) (n := 3) (Nat.le_of_ble_eq_true rfl)
  rw [lg_entry_eq]
  generalize (lg_sl ([.ref (ad 0), .int a_1, .int a_2]) ++ List.replicate (3 - (lg_sl ([.ref (ad 0), .int a_1, .int a_2])).length) Slot.unset).toArray = ls at hl ⊢
  have hl : lv_has ls 3 [(0, .ref (ad 0)), (1, .int a_1), (2, .int a_2)] := hl
  have hx := C.1.1
  have hb := C.1.2.1
  have h : (cl (fX2_isReader Y a_1) (fun r1 => if r1 = 0 then fX2_keeps_32 Y else cl (fX2_isIn a_2 0 5) (fun r3 => if r3 = 0 then fX2_keeps_32 Y else cl (fX2_ofP a_1 ((2 : Int32) + a_2)) (fun r5 => rd 81 (Y 0) r5 (fun r6 => some (r6, Y)))))) = some z := h
  refine lv_aload_n hx hb dX2_keeps_0 rfl (lv_at hl 0 rfl) ?_
  refine lv_iload_n hx hb dX2_keeps_1 rfl (lv_at hl 1 rfl) ?_
  obtain ⟨r1, hr1, h⟩ := cl_some h
  refine cVi (ws2 := (wM cA ad Y)) (As := [.int a_1]) (rest := []) C hw jnW (kX2_isReader ad hr1) kl_RX2_147 ki_yX2_isReader ks_yX2_isReader kn_RX2 kc_yX2_isReader ⟨rfl, rfl⟩ hdX2_isReader ⟨Nat.le_of_ble_eq_true rfl, Nat.le_of_ble_eq_true rfl⟩ (ci := 2) (q0 := 0) rfl rfl rfl rfl hl.1 (Nat.le_of_ble_eq_true rfl) dX2_keeps_2 ⟨Nat.zero_le _, Nat.zero_le _⟩ (fun H locs hw => ?_)
  refine lv_if_eq (tgt := 32) hx hb dX2_keeps_5 (by decide) (fun c2 => ?_) (fun c2 => ?_)
  · replace h := (if_pos c2).symm.trans h
    exact kX2_keeps_32 C hr Y h _ _ _ hw (lv_sub hl [0] rfl)
  · replace h := (if_neg c2).symm.trans h
    refine lv_iload_n hx hb dX2_keeps_8 rfl (lv_at hl 2 rfl) ?_
    refine lv_iconst (v := 0) hx hb dX2_keeps_9 (by decide) ?_
    refine lv_iconst (v := 5) hx hb dX2_keeps_10 (by decide) ?_
    obtain ⟨r3, hr3, h⟩ := cl_some h
    refine cSi (ws2 := (wM cA ad Y)) (As := [.int a_2, .int 0, .int 5]) (rest := []) C hw jnE (kX2_isIn hr3) kl_RX2_40 kt_yX2_isIn kn_RX2 kc_yX2_isIn ⟨rfl, rfl⟩ hdX2_isIn ⟨Nat.le_of_ble_eq_true rfl, Nat.le_of_ble_eq_true rfl⟩ rfl hl.1 (Nat.le_of_ble_eq_true rfl) dX2_keeps_11 ⟨Nat.zero_le _, Nat.zero_le _⟩ (fun H locs hw => ?_)
    refine lv_if_eq (tgt := 32) hx hb dX2_keeps_14 (by decide) (fun c4 => ?_) (fun c4 => ?_)
    · replace h := (if_pos c4).symm.trans h
      exact kX2_keeps_32 C hr Y h _ _ _ hw (lv_sub hl [0] rfl)
    · replace h := (if_neg c4).symm.trans h
      refine lv_aload_n hx hb dX2_keeps_17 rfl (lv_at hl 0 rfl) ?_
      refine tGet (T := TX2) (N := 13) (ci := 2) C hw inX2 0 0 rfl (by decide) kf_RX2_9 rfl rfl rfl dX2_keeps_18 ?_
      refine lv_iload_n hx hb dX2_keeps_21 rfl (lv_at hl 1 rfl) ?_
      refine lv_iconst (v := 2) hx hb dX2_keeps_22 (by decide) ?_
      refine lv_iload_n hx hb dX2_keeps_23 rfl (lv_at hl 2 rfl) ?_
      refine lv_iadd hx hb dX2_keeps_24 ?_
      obtain ⟨r5, hr5, h⟩ := cl_some h
      refine cSi (ws2 := (wM cA ad Y)) (As := [.int a_1, .int ((2 : Int32) + a_2)]) (rest := [.ref (ad 1)]) C hw jnE (kX2_ofP hr5) kl_RX2_48 kt_yX2_ofP kn_RX2 kc_yX2_ofP ⟨rfl, rfl⟩ hdX2_ofP ⟨Nat.le_of_ble_eq_true rfl, Nat.le_of_ble_eq_true rfl⟩ rfl hl.1 (Nat.le_of_ble_eq_true rfl) dX2_keeps_25 ⟨Nat.zero_le _, Nat.zero_le _⟩ (fun H locs hw => ?_)
      obtain ⟨r6, ir6, er6, h⟩ := rd_some h
      refine tLd C hw 1 rfl ir6 er6 dX2_keeps_28 ?_
      refine lv_goto (tgt := 37) hx hb dX2_keeps_29 (by decide) ?_
      obtain rfl := some_e h
      exact rtI C hr hw dX2_keeps_37
abbrev rmX2_sends : Room := { frames := 5, cells := 0, slots := 0, locals := 113 }
theorem hdX2_sends : yX2_sends.cls = RX2 ∧ yX2_sends.cls ≠ "java/lang/invoke/MethodHandle" ∧ yX2_sends.cls ≠ "java/lang/invoke/VarHandle" ∧ (parseMethodDescriptor yX2_sends.desc).map (fun d => d.parameters.length) = some 1 := by decide +kernel
def fX2_sends (Y : VS) (a_1 : Int32) : Option (Int32 × VS) := cl (fX2_isRocket Y a_1) (fun r1 => if r1 = 0 then cl (fX2_no Y (-1)) (fun q9 => some (q9.1, q9.2)) else cl (fX2_canGo (Y 0) a_1) (fun r3 => if r3 = 0 then cl (fX2_no Y (-3)) (fun q8 => some (q8.1, q8.2)) else cl (fX2_sendsIn (Y 0) a_1 (-1)) (fun w5 => bn (up Y 0 w5) (fun w6 => rd 81 (w6 0) 3 (fun r7 => some (r7, w6))))))
set_option maxHeartbeats 4000000 in
set_option maxRecDepth 100000 in
theorem kX2_sends (ad : Nat → Nat) {Y : VS} {a_1 : Int32} {z : (Int32 × VS)} (h : fX2_sends Y a_1 = some z) : MI l D cA g yX2_sends (Cond.code yX2_sends cX2_sends 2 (some .int) :: lw_g) rmX2_sends [.ref (ad 0), .int a_1] (wM cA ad Y) z.1 (wM cA ad z.2) := by
  intro sz
  refine Met.ofW (cc := cX2_sends) (maxL := 2) (ret := (some .int)) (by decide) rfl ?_
  intro p e s m args below meth c s₁ B hml hv
  obtain ⟨rfl, C, hr, hw⟩ := ent B hml hv
  generalize va_A (wM cA ad Y) sz = A at C hw ⊢
  have hl := lv_entry ([.ref (ad 0), .int a_1]) (n := 2) (Nat.le_of_ble_eq_true rfl)
  rw [lg_entry_eq]
  generalize (lg_sl ([.ref (ad 0), .int a_1]) ++ List.replicate (2 - (lg_sl ([.ref (ad 0), .int a_1])).length) Slot.unset).toArray = ls at hl ⊢
  have hl : lv_has ls 2 [(0, .ref (ad 0)), (1, .int a_1)] := hl
  have hx := C.1.1
  have hb := C.1.2.1
  have h : (cl (fX2_isRocket Y a_1) (fun r1 => if r1 = 0 then cl (fX2_no Y (-1)) (fun q9 => some (q9.1, q9.2)) else cl (fX2_canGo (Y 0) a_1) (fun r3 => if r3 = 0 then cl (fX2_no Y (-3)) (fun q8 => some (q8.1, q8.2)) else cl (fX2_sendsIn (Y 0) a_1 (-1)) (fun w5 => bn (up Y 0 w5) (fun w6 => rd 81 (w6 0) 3 (fun r7 => some (r7, w6))))))) = some z := h
  refine lv_aload_n hx hb dX2_sends_0 rfl (lv_at hl 0 rfl) ?_
  refine lv_iload_n hx hb dX2_sends_1 rfl (lv_at hl 1 rfl) ?_
  obtain ⟨r1, hr1, h⟩ := cl_some h
  refine cVi (ws2 := (wM cA ad Y)) (As := [.int a_1]) (rest := []) C hw jnW (kX2_isRocket ad hr1) kl_RX2_124 ki_yX2_isRocket ks_yX2_isRocket kn_RX2 kc_yX2_isRocket ⟨rfl, rfl⟩ hdX2_isRocket ⟨Nat.le_of_ble_eq_true rfl, Nat.le_of_ble_eq_true rfl⟩ (ci := 2) (q0 := 0) rfl rfl rfl rfl hl.1 (Nat.le_of_ble_eq_true rfl) dX2_sends_2 ⟨Nat.zero_le _, Nat.zero_le _⟩ (fun H locs hw => ?_)
  refine lv_if_ne (tgt := 14) hx hb dX2_sends_5 (by decide) (fun c2 => ?_) (fun c2 => ?_)
  · replace h := (if_neg c2).symm.trans h
    refine lv_aload_n hx hb dX2_sends_14 rfl (lv_at hl 0 rfl) ?_
    refine tGet (T := TX2) (N := 13) (ci := 2) C hw inX2 0 0 rfl (by decide) kf_RX2_9 rfl rfl rfl dX2_sends_15 ?_
    refine lv_iload_n hx hb dX2_sends_18 rfl (lv_at hl 1 rfl) ?_
    obtain ⟨r3, hr3, h⟩ := cl_some h
    refine cSi (ws2 := (wM cA ad Y)) (As := [.ref (ad 1), .int a_1]) (rest := []) C hw jM0r (kX2_canGo (ad 1) hr3) kl_RX2_76 kt_yX2_canGo kn_RX2 kc_yX2_canGo ⟨rfl, rfl⟩ hdX2_canGo ⟨Nat.le_of_ble_eq_true rfl, Nat.le_of_ble_eq_true rfl⟩ rfl hl.1 (Nat.le_of_ble_eq_true rfl) dX2_sends_19 ⟨Nat.zero_le _, Nat.zero_le _⟩ (fun H locs hw => ?_)
    refine lv_if_ne (tgt := 32) hx hb dX2_sends_22 (by decide) (fun c4 => ?_) (fun c4 => ?_)
    · replace h := (if_neg c4).symm.trans h
      refine lv_aload_n hx hb dX2_sends_32 rfl (lv_at hl 0 rfl) ?_
      refine tGet (T := TX2) (N := 13) (ci := 2) C hw inX2 0 0 rfl (by decide) kf_RX2_9 rfl rfl rfl dX2_sends_33 ?_
      refine lv_iload_n hx hb dX2_sends_36 rfl (lv_at hl 1 rfl) ?_
      refine lv_iconst (v := (-1)) hx hb dX2_sends_37 (by decide) ?_
      obtain ⟨w5, hw5, h⟩ := cl_some h
      obtain ⟨w6, ew6⟩ : ∃ y : VS, y = up Y 0 w5 := ⟨_, rfl⟩
      replace h := bn_some h ew6
      refine cSv (ws2 := (wM cA ad w6)) (As := [.ref (ad 1), .int a_1, .int (-1)]) (rest := []) C hw (by rw [ew6]; exact jM0) (kX2_sendsIn (ad 1) hw5) kl_RX2_84 kt_yX2_sendsIn kn_RX2 kc_yX2_sendsIn ⟨rfl, rfl⟩ hdX2_sendsIn ⟨Nat.le_of_ble_eq_true rfl, Nat.le_of_ble_eq_true rfl⟩ rfl hl.1 (Nat.le_of_ble_eq_true rfl) dX2_sends_38 ⟨Nat.zero_le _, Nat.zero_le _⟩ (fun H locs hw => ?_)
      refine lv_aload_n hx hb dX2_sends_41 rfl (lv_at hl 0 rfl) ?_
      refine tGet (T := TX2) (N := 13) (ci := 2) C hw inX2 0 0 rfl (by decide) kf_RX2_9 rfl rfl rfl dX2_sends_42 ?_
      refine lv_iconst (v := 3) hx hb dX2_sends_45 (by decide) ?_
      obtain ⟨r7, ir7, er7, h⟩ := rd_some h
      refine tLd C hw 1 rfl ir7 er7 dX2_sends_46 ?_
      obtain rfl := some_e h
      exact rtI C hr hw dX2_sends_47
    · replace h := (if_pos c4).symm.trans h
      refine lv_aload_n hx hb dX2_sends_25 rfl (lv_at hl 0 rfl) ?_
      refine lv_bipush (v := (-3)) hx hb dX2_sends_26 (by decide) ?_
      obtain ⟨q8, hq8, h⟩ := cl_some h
      refine cVi (ws2 := (wM cA ad q8.2)) (As := [.int (-3)]) (rest := []) C hw jnW (kX2_no ad hq8) kl_RX2_36 ki_yX2_no ks_yX2_no kn_RX2 kc_yX2_no ⟨rfl, rfl⟩ hdX2_no ⟨Nat.le_of_ble_eq_true rfl, Nat.le_of_ble_eq_true rfl⟩ (ci := 2) (q0 := 0) rfl rfl rfl rfl hl.1 (Nat.le_of_ble_eq_true rfl) dX2_sends_28 ⟨Nat.zero_le _, Nat.zero_le _⟩ (fun H locs hw => ?_)
      obtain rfl := some_e h
      exact rtI C hr hw dX2_sends_31
  · replace h := (if_pos c2).symm.trans h
    refine lv_aload_n hx hb dX2_sends_8 rfl (lv_at hl 0 rfl) ?_
    refine lv_iconst (v := (-1)) hx hb dX2_sends_9 (by decide) ?_
    obtain ⟨q9, hq9, h⟩ := cl_some h
    refine cVi (ws2 := (wM cA ad q9.2)) (As := [.int (-1)]) (rest := []) C hw jnW (kX2_no ad hq9) kl_RX2_36 ki_yX2_no ks_yX2_no kn_RX2 kc_yX2_no ⟨rfl, rfl⟩ hdX2_no ⟨Nat.le_of_ble_eq_true rfl, Nat.le_of_ble_eq_true rfl⟩ (ci := 2) (q0 := 0) rfl rfl rfl rfl hl.1 (Nat.le_of_ble_eq_true rfl) dX2_sends_10 ⟨Nat.zero_le _, Nat.zero_le _⟩ (fun H locs hw => ?_)
    obtain rfl := some_e h
    exact rtI C hr hw dX2_sends_13
abbrev rmX2_boxes : Room := { frames := 2, cells := 0, slots := 0, locals := 43 }
theorem hdX2_boxes : yX2_boxes.cls = RX2 ∧ yX2_boxes.cls ≠ "java/lang/invoke/MethodHandle" ∧ yX2_boxes.cls ≠ "java/lang/invoke/VarHandle" ∧ (parseMethodDescriptor yX2_boxes.desc).map (fun d => d.parameters.length) = some 1 := by decide +kernel
def fX2_boxes (Y : VS) (a_1 : Int32) : Option (Int32 × VS) := cl (fX2_isRocket Y a_1) (fun r1 => if r1 = 0 then cl (fX2_no Y (-1)) (fun q12 => some (q12.1, q12.2)) else cl (fX2_ofR a_1 3) (fun r3 => rd 81 (Y 0) r3 (fun r4 => if r4 = 0 then cl (fX2_no Y (-3)) (fun q11 => some (q11.1, q11.2)) else cl (fX2_ofR a_1 3) (fun r6 => ck 81 r6 (bn (up Y 0 (upd (Y 0) (r6 : Int32).toNatClampNeg 0)) (fun w7 => rd 81 (w7 0) 0 (fun r8 => cl (fX2_sentIn (w7 0)) (fun r9 => cl (fX2_bits r9) (fun r10 => some ((r8 - r10), w7))))))))))
set_option maxHeartbeats 4000000 in
set_option maxRecDepth 100000 in
theorem kX2_boxes (ad : Nat → Nat) {Y : VS} {a_1 : Int32} {z : (Int32 × VS)} (h : fX2_boxes Y a_1 = some z) : MI l D cA g yX2_boxes (Cond.code yX2_boxes cX2_boxes 2 (some .int) :: lw_g) rmX2_boxes [.ref (ad 0), .int a_1] (wM cA ad Y) z.1 (wM cA ad z.2) := by
  intro sz
  refine Met.ofW (cc := cX2_boxes) (maxL := 2) (ret := (some .int)) (by decide) rfl ?_
  intro p e s m args below meth c s₁ B hml hv
  obtain ⟨rfl, C, hr, hw⟩ := ent B hml hv
  generalize va_A (wM cA ad Y) sz = A at C hw ⊢
  have hl := lv_entry ([.ref (ad 0), .int a_1]) (n := 2) (Nat.le_of_ble_eq_true rfl)
  rw [lg_entry_eq]
  generalize (lg_sl ([.ref (ad 0), .int a_1]) ++ List.replicate (2 - (lg_sl ([.ref (ad 0), .int a_1])).length) Slot.unset).toArray = ls at hl ⊢
  have hl : lv_has ls 2 [(0, .ref (ad 0)), (1, .int a_1)] := hl
  have hx := C.1.1
  have hb := C.1.2.1
  have h : (cl (fX2_isRocket Y a_1) (fun r1 => if r1 = 0 then cl (fX2_no Y (-1)) (fun q12 => some (q12.1, q12.2)) else cl (fX2_ofR a_1 3) (fun r3 => rd 81 (Y 0) r3 (fun r4 => if r4 = 0 then cl (fX2_no Y (-3)) (fun q11 => some (q11.1, q11.2)) else cl (fX2_ofR a_1 3) (fun r6 => ck 81 r6 (bn (up Y 0 (upd (Y 0) (r6 : Int32).toNatClampNeg 0)) (fun w7 => rd 81 (w7 0) 0 (fun r8 => cl (fX2_sentIn (w7 0)) (fun r9 => cl (fX2_bits r9) (fun r10 => some ((r8 - r10), w7))))))))))) = some z := h
  refine lv_aload_n hx hb dX2_boxes_0 rfl (lv_at hl 0 rfl) ?_
  refine lv_iload_n hx hb dX2_boxes_1 rfl (lv_at hl 1 rfl) ?_
  obtain ⟨r1, hr1, h⟩ := cl_some h
  refine cVi (ws2 := (wM cA ad Y)) (As := [.int a_1]) (rest := []) C hw jnW (kX2_isRocket ad hr1) kl_RX2_124 ki_yX2_isRocket ks_yX2_isRocket kn_RX2 kc_yX2_isRocket ⟨rfl, rfl⟩ hdX2_isRocket ⟨Nat.le_of_ble_eq_true rfl, Nat.le_of_ble_eq_true rfl⟩ (ci := 2) (q0 := 0) rfl rfl rfl rfl hl.1 (Nat.le_of_ble_eq_true rfl) dX2_boxes_2 ⟨Nat.zero_le _, Nat.zero_le _⟩ (fun H locs hw => ?_)
  refine lv_if_ne (tgt := 14) hx hb dX2_boxes_5 (by decide) (fun c2 => ?_) (fun c2 => ?_)
  · replace h := (if_neg c2).symm.trans h
    refine lv_aload_n hx hb dX2_boxes_14 rfl (lv_at hl 0 rfl) ?_
    refine tGet (T := TX2) (N := 13) (ci := 2) C hw inX2 0 0 rfl (by decide) kf_RX2_9 rfl rfl rfl dX2_boxes_15 ?_
    refine lv_iload_n hx hb dX2_boxes_18 rfl (lv_at hl 1 rfl) ?_
    refine lv_iconst (v := 3) hx hb dX2_boxes_19 (by decide) ?_
    obtain ⟨r3, hr3, h⟩ := cl_some h
    refine cSi (ws2 := (wM cA ad Y)) (As := [.int a_1, .int 3]) (rest := [.ref (ad 1)]) C hw jnE (kX2_ofR hr3) kl_RX2_44 kt_yX2_ofR kn_RX2 kc_yX2_ofR ⟨rfl, rfl⟩ hdX2_ofR ⟨Nat.le_of_ble_eq_true rfl, Nat.le_of_ble_eq_true rfl⟩ rfl hl.1 (Nat.le_of_ble_eq_true rfl) dX2_boxes_20 ⟨Nat.zero_le _, Nat.zero_le _⟩ (fun H locs hw => ?_)
    obtain ⟨r4, ir4, er4, h⟩ := rd_some h
    refine tLd C hw 1 rfl ir4 er4 dX2_boxes_23 ?_
    refine lv_if_ne (tgt := 34) hx hb dX2_boxes_24 (by decide) (fun c5 => ?_) (fun c5 => ?_)
    · replace h := (if_neg c5).symm.trans h
      refine lv_aload_n hx hb dX2_boxes_34 rfl (lv_at hl 0 rfl) ?_
      refine tGet (T := TX2) (N := 13) (ci := 2) C hw inX2 0 0 rfl (by decide) kf_RX2_9 rfl rfl rfl dX2_boxes_35 ?_
      refine lv_iload_n hx hb dX2_boxes_38 rfl (lv_at hl 1 rfl) ?_
      refine lv_iconst (v := 3) hx hb dX2_boxes_39 (by decide) ?_
      obtain ⟨r6, hr6, h⟩ := cl_some h
      refine cSi (ws2 := (wM cA ad Y)) (As := [.int a_1, .int 3]) (rest := [.ref (ad 1)]) C hw jnE (kX2_ofR hr6) kl_RX2_44 kt_yX2_ofR kn_RX2 kc_yX2_ofR ⟨rfl, rfl⟩ hdX2_ofR ⟨Nat.le_of_ble_eq_true rfl, Nat.le_of_ble_eq_true rfl⟩ rfl hl.1 (Nat.le_of_ble_eq_true rfl) dX2_boxes_40 ⟨Nat.zero_le _, Nat.zero_le _⟩ (fun H locs hw => ?_)
      refine lv_iconst (v := 0) hx hb dX2_boxes_43 (by decide) ?_
      obtain ⟨iw7, h⟩ := ck_some h
      obtain ⟨w7, ew7⟩ : ∃ y : VS, y = up Y 0 (upd (Y 0) (r6 : Int32).toNatClampNeg 0) := ⟨_, rfl⟩
      replace h := bn_some h ew7
      refine tSt (ws2 := (wM cA ad w7)) C hw 1 rfl iw7 (by rw [ew7]; rfl) dX2_boxes_44 (fun H locs hw => ?_)
      refine lv_aload_n hx hb dX2_boxes_45 rfl (lv_at hl 0 rfl) ?_
      refine tGet (T := TX2) (N := 13) (ci := 2) C hw inX2 0 0 rfl (by decide) kf_RX2_9 rfl rfl rfl dX2_boxes_46 ?_
      refine lv_iconst (v := 0) hx hb dX2_boxes_49 (by decide) ?_
      obtain ⟨r8, ir8, er8, h⟩ := rd_some h
      refine tLd C hw 1 rfl ir8 er8 dX2_boxes_50 ?_
      refine lv_aload_n hx hb dX2_boxes_51 rfl (lv_at hl 0 rfl) ?_
      refine tGet (T := TX2) (N := 13) (ci := 2) C hw inX2 0 0 rfl (by decide) kf_RX2_9 rfl rfl rfl dX2_boxes_52 ?_
      obtain ⟨r9, hr9, h⟩ := cl_some h
      refine cSi (ws2 := (wM cA ad w7)) (As := [.ref (ad 1)]) (rest := [.int r8]) C hw jM0r (kX2_sentIn (ad 1) hr9) kl_RX2_150 kt_yX2_sentIn kn_RX2 kc_yX2_sentIn ⟨rfl, rfl⟩ hdX2_sentIn ⟨Nat.le_of_ble_eq_true rfl, Nat.le_of_ble_eq_true rfl⟩ rfl hl.1 (Nat.le_of_ble_eq_true rfl) dX2_boxes_55 ⟨Nat.zero_le _, Nat.zero_le _⟩ (fun H locs hw => ?_)
      obtain ⟨r10, hr10, h⟩ := cl_some h
      refine cSi (ws2 := (wM cA ad w7)) (As := [.int r9]) (rest := [.int r8]) C hw jnE (kX2_bits hr10) kl_RX2_94 kt_yX2_bits kn_RX2 kc_yX2_bits ⟨rfl, rfl⟩ hdX2_bits ⟨Nat.le_of_ble_eq_true rfl, Nat.le_of_ble_eq_true rfl⟩ rfl hl.1 (Nat.le_of_ble_eq_true rfl) dX2_boxes_58 ⟨Nat.zero_le _, Nat.zero_le _⟩ (fun H locs hw => ?_)
      refine lv_isub hx hb dX2_boxes_61 ?_
      obtain rfl := some_e h
      exact rtI C hr hw dX2_boxes_62
    · replace h := (if_pos c5).symm.trans h
      refine lv_aload_n hx hb dX2_boxes_27 rfl (lv_at hl 0 rfl) ?_
      refine lv_bipush (v := (-3)) hx hb dX2_boxes_28 (by decide) ?_
      obtain ⟨q11, hq11, h⟩ := cl_some h
      refine cVi (ws2 := (wM cA ad q11.2)) (As := [.int (-3)]) (rest := []) C hw jnW (kX2_no ad hq11) kl_RX2_36 ki_yX2_no ks_yX2_no kn_RX2 kc_yX2_no ⟨rfl, rfl⟩ hdX2_no ⟨Nat.le_of_ble_eq_true rfl, Nat.le_of_ble_eq_true rfl⟩ (ci := 2) (q0 := 0) rfl rfl rfl rfl hl.1 (Nat.le_of_ble_eq_true rfl) dX2_boxes_30 ⟨Nat.zero_le _, Nat.zero_le _⟩ (fun H locs hw => ?_)
      obtain rfl := some_e h
      exact rtI C hr hw dX2_boxes_33
  · replace h := (if_pos c2).symm.trans h
    refine lv_aload_n hx hb dX2_boxes_8 rfl (lv_at hl 0 rfl) ?_
    refine lv_iconst (v := (-1)) hx hb dX2_boxes_9 (by decide) ?_
    obtain ⟨q12, hq12, h⟩ := cl_some h
    refine cVi (ws2 := (wM cA ad q12.2)) (As := [.int (-1)]) (rest := []) C hw jnW (kX2_no ad hq12) kl_RX2_36 ki_yX2_no ks_yX2_no kn_RX2 kc_yX2_no ⟨rfl, rfl⟩ hdX2_no ⟨Nat.le_of_ble_eq_true rfl, Nat.le_of_ble_eq_true rfl⟩ (ci := 2) (q0 := 0) rfl rfl rfl rfl hl.1 (Nat.le_of_ble_eq_true rfl) dX2_boxes_10 ⟨Nat.zero_le _, Nat.zero_le _⟩ (fun H locs hw => ?_)
    obtain rfl := some_e h
    exact rtI C hr hw dX2_boxes_13
abbrev rmX2_wrongBy : Room := { frames := 0, cells := 0, slots := 0, locals := 0 }
theorem hdX2_wrongBy : yX2_wrongBy.cls ≠ "java/lang/invoke/MethodHandle" ∧ yX2_wrongBy.cls ≠ "java/lang/invoke/VarHandle" ∧ (parseMethodDescriptor yX2_wrongBy.desc).map (fun d => d.parameters.length) = some 3 := by decide +kernel
def fX2_wrongBy (a_0 : Int32) (a_1 : Int32) (a_2 : Int32) : Option Int32 := if a_1 ≤ a_0 then if a_0 ≤ a_2 then some 0 else some (-6) else some (-4)
set_option maxHeartbeats 4000000 in
set_option maxRecDepth 100000 in
theorem kX2_wrongBy  {a_0 : Int32} {a_1 : Int32} {a_2 : Int32} {z : Int32} (h : fX2_wrongBy a_0 a_1 a_2 = some z) : MI l D cA g yX2_wrongBy (Cond.code yX2_wrongBy cX2_wrongBy 3 (some .int) :: lw_g) rmX2_wrongBy [.int a_0, .int a_1, .int a_2] ([] : va_W) z ([] : va_W) := by
  intro sz
  refine Met.ofW (cc := cX2_wrongBy) (maxL := 3) (ret := (some .int)) (by decide) rfl ?_
  intro p e s m args below meth c s₁ B hml hv
  obtain ⟨rfl, C, hr, hw⟩ := ent B hml hv
  generalize va_A ([] : va_W) sz = A at C hw ⊢
  have hl := lv_entry ([.int a_0, .int a_1, .int a_2]) (n := 3) (Nat.le_of_ble_eq_true rfl)
  rw [lg_entry_eq]
  generalize (lg_sl ([.int a_0, .int a_1, .int a_2]) ++ List.replicate (3 - (lg_sl ([.int a_0, .int a_1, .int a_2])).length) Slot.unset).toArray = ls at hl ⊢
  have hl : lv_has ls 3 [(0, .int a_0), (1, .int a_1), (2, .int a_2)] := hl
  have hx := C.1.1
  have hb := C.1.2.1
  have h : (if a_1 ≤ a_0 then if a_0 ≤ a_2 then some 0 else some (-6) else some (-4)) = some z := h
  refine lv_iload_n hx hb dX2_wrongBy_0 rfl (lv_at hl 0 rfl) ?_
  refine lv_iload_n hx hb dX2_wrongBy_1 rfl (lv_at hl 1 rfl) ?_
  refine lv_icmp_ge (tgt := 10) hx hb dX2_wrongBy_2 (by decide) (fun c1 => ?_) (fun c1 => ?_)
  · replace h := (if_pos c1).symm.trans h
    refine lv_iload_n hx hb dX2_wrongBy_10 rfl (lv_at hl 0 rfl) ?_
    refine lv_iload_n hx hb dX2_wrongBy_11 rfl (lv_at hl 2 rfl) ?_
    refine lv_icmp_le (tgt := 20) hx hb dX2_wrongBy_12 (by decide) (fun c2 => ?_) (fun c2 => ?_)
    · replace h := (if_pos c2).symm.trans h
      refine lv_iconst (v := 0) hx hb dX2_wrongBy_20 (by decide) ?_
      obtain rfl := some_e h
      exact rtI C hr hw dX2_wrongBy_21
    · replace h := (if_neg c2).symm.trans h
      refine lv_bipush (v := (-6)) hx hb dX2_wrongBy_15 (by decide) ?_
      refine lv_goto (tgt := 21) hx hb dX2_wrongBy_17 (by decide) ?_
      obtain rfl := some_e h
      exact rtI C hr hw dX2_wrongBy_21
  · replace h := (if_neg c1).symm.trans h
    refine lv_bipush (v := (-4)) hx hb dX2_wrongBy_5 (by decide) ?_
    refine lv_goto (tgt := 21) hx hb dX2_wrongBy_7 (by decide) ?_
    obtain rfl := some_e h
    exact rtI C hr hw dX2_wrongBy_21
abbrev rmX2_sets : Room := { frames := 1, cells := 0, slots := 0, locals := 22 }
theorem hdX2_sets : yX2_sets.cls = RX2 ∧ yX2_sets.cls ≠ "java/lang/invoke/MethodHandle" ∧ yX2_sets.cls ≠ "java/lang/invoke/VarHandle" ∧ (parseMethodDescriptor yX2_sets.desc).map (fun d => d.parameters.length) = some 3 := by decide +kernel
def fX2_sets (Y : VS) (a_1 : Int32) (a_2 : Int32) (a_3 : Int32) : Option (Int32 × VS) := cl (fX2_wrongBy a_2 0 a_3) (fun r1 => if r1 = 0 then rd 81 (Y 0) a_1 (fun r3 => ck 81 a_1 (bn (up Y 0 (upd (Y 0) (a_1 : Int32).toNatClampNeg a_2)) (fun w4 => some (r3, w4)))) else cl (fX2_no Y r1) (fun q5 => some (q5.1, q5.2)))
set_option maxHeartbeats 4000000 in
set_option maxRecDepth 100000 in
theorem kX2_sets (ad : Nat → Nat) {Y : VS} {a_1 : Int32} {a_2 : Int32} {a_3 : Int32} {z : (Int32 × VS)} (h : fX2_sets Y a_1 a_2 a_3 = some z) : MI l D cA g yX2_sets (Cond.code yX2_sets cX2_sets 6 (some .int) :: lw_g) rmX2_sets [.ref (ad 0), .int a_1, .int a_2, .int a_3] (wM cA ad Y) z.1 (wM cA ad z.2) := by
  intro sz
  refine Met.ofW (cc := cX2_sets) (maxL := 6) (ret := (some .int)) (by decide) rfl ?_
  intro p e s m args below meth c s₁ B hml hv
  obtain ⟨rfl, C, hr, hw⟩ := ent B hml hv
  generalize va_A (wM cA ad Y) sz = A at C hw ⊢
  have hl := lv_entry ([.ref (ad 0), .int a_1, .int a_2, .int a_3]) (n := 6) (Nat.le_of_ble_eq_true rfl)
  rw [lg_entry_eq]
  generalize (lg_sl ([.ref (ad 0), .int a_1, .int a_2, .int a_3]) ++ List.replicate (6 - (lg_sl ([.ref (ad 0), .int a_1, .int a_2, .int a_3])).length) Slot.unset).toArray = ls at hl ⊢
  have hl : lv_has ls 6 [(0, .ref (ad 0)), (1, .int a_1), (2, .int a_2), (3, .int a_3)] := hl
  have hx := C.1.1
  have hb := C.1.2.1
  have h : (cl (fX2_wrongBy a_2 0 a_3) (fun r1 => if r1 = 0 then rd 81 (Y 0) a_1 (fun r3 => ck 81 a_1 (bn (up Y 0 (upd (Y 0) (a_1 : Int32).toNatClampNeg a_2)) (fun w4 => some (r3, w4)))) else cl (fX2_no Y r1) (fun q5 => some (q5.1, q5.2)))) = some z := h
  refine lv_iload_n hx hb dX2_sets_0 rfl (lv_at hl 2 rfl) ?_
  refine lv_iconst (v := 0) hx hb dX2_sets_1 (by decide) ?_
  refine lv_iload_n hx hb dX2_sets_2 rfl (lv_at hl 3 rfl) ?_
  obtain ⟨r1, hr1, h⟩ := cl_some h
  refine cSi (ws2 := (wM cA ad Y)) (As := [.int a_2, .int 0, .int a_3]) (rest := []) C hw jnE (kX2_wrongBy hr1) kl_RX2_153 kt_yX2_wrongBy kn_RX2 kc_yX2_wrongBy ⟨rfl, rfl⟩ hdX2_wrongBy ⟨Nat.le_of_ble_eq_true rfl, Nat.le_of_ble_eq_true rfl⟩ rfl hl.1 (Nat.le_of_ble_eq_true rfl) dX2_sets_3 ⟨Nat.zero_le _, Nat.zero_le _⟩ (fun H locs hw => ?_)
  refine lv_istore (lv' := [(4, .int r1), (0, .ref (ad 0)), (1, .int a_1), (2, .int a_2), (3, .int a_3)]) hx hb dX2_sets_6 hl (by decide) rfl (fun ls hl => ?_)
  refine lv_iload hx hb dX2_sets_8 (lv_at hl 0 rfl) ?_
  refine lv_if_eq (tgt := 20) hx hb dX2_sets_10 (by decide) (fun c2 => ?_) (fun c2 => ?_)
  · replace h := (if_pos c2).symm.trans h
    refine lv_aload_n hx hb dX2_sets_20 rfl (lv_at hl 1 rfl) ?_
    refine tGet (T := TX2) (N := 13) (ci := 2) C hw inX2 0 0 rfl (by decide) kf_RX2_9 rfl rfl rfl dX2_sets_21 ?_
    refine lv_iload_n hx hb dX2_sets_24 rfl (lv_at hl 2 rfl) ?_
    obtain ⟨r3, ir3, er3, h⟩ := rd_some h
    refine tLd C hw 1 rfl ir3 er3 dX2_sets_25 ?_
    refine lv_istore (lv' := [(5, .int r3), (4, .int r1), (0, .ref (ad 0)), (1, .int a_1), (2, .int a_2), (3, .int a_3)]) hx hb dX2_sets_26 hl (by decide) rfl (fun ls hl => ?_)
    refine lv_aload_n hx hb dX2_sets_28 rfl (lv_at hl 2 rfl) ?_
    refine tGet (T := TX2) (N := 13) (ci := 2) C hw inX2 0 0 rfl (by decide) kf_RX2_9 rfl rfl rfl dX2_sets_29 ?_
    refine lv_iload_n hx hb dX2_sets_32 rfl (lv_at hl 3 rfl) ?_
    refine lv_iload_n hx hb dX2_sets_33 rfl (lv_at hl 4 rfl) ?_
    obtain ⟨iw4, h⟩ := ck_some h
    obtain ⟨w4, ew4⟩ : ∃ y : VS, y = up Y 0 (upd (Y 0) (a_1 : Int32).toNatClampNeg a_2) := ⟨_, rfl⟩
    replace h := bn_some h ew4
    refine tSt (ws2 := (wM cA ad w4)) C hw 1 rfl iw4 (by rw [ew4]; rfl) dX2_sets_34 (fun H locs hw => ?_)
    refine lv_iload hx hb dX2_sets_35 (lv_at hl 0 rfl) ?_
    obtain rfl := some_e h
    exact rtI C hr hw dX2_sets_37
  · replace h := (if_neg c2).symm.trans h
    refine lv_aload_n hx hb dX2_sets_13 rfl (lv_at hl 1 rfl) ?_
    refine lv_iload hx hb dX2_sets_14 (lv_at hl 0 rfl) ?_
    obtain ⟨q5, hq5, h⟩ := cl_some h
    refine cVi (ws2 := (wM cA ad q5.2)) (As := [.int r1]) (rest := []) C hw jnW (kX2_no ad hq5) kl_RX2_36 ki_yX2_no ks_yX2_no kn_RX2 kc_yX2_no ⟨rfl, rfl⟩ hdX2_no ⟨Nat.le_of_ble_eq_true rfl, Nat.le_of_ble_eq_true rfl⟩ (ci := 2) (q0 := 0) rfl rfl rfl rfl hl.1 (Nat.le_of_ble_eq_true rfl) dX2_sets_16 ⟨Nat.zero_le _, Nat.zero_le _⟩ (fun H locs hw => ?_)
    obtain rfl := some_e h
    exact rtI C hr hw dX2_sets_19
abbrev rmX2_wind : Room := { frames := 2, cells := 0, slots := 0, locals := 47 }
theorem hdX2_wind : yX2_wind.cls = RX2 ∧ yX2_wind.cls ≠ "java/lang/invoke/MethodHandle" ∧ yX2_wind.cls ≠ "java/lang/invoke/VarHandle" ∧ (parseMethodDescriptor yX2_wind.desc).map (fun d => d.parameters.length) = some 1 := by decide +kernel
def fX2_wind (Y : VS) (a_1 : Int32) : Option (Int32 × VS) := cl (fX2_sets Y 4 a_1 9) (fun q1 => some (q1.1, q1.2))
set_option maxHeartbeats 4000000 in
set_option maxRecDepth 100000 in
theorem kX2_wind (ad : Nat → Nat) {Y : VS} {a_1 : Int32} {z : (Int32 × VS)} (h : fX2_wind Y a_1 = some z) : MI l D cA g yX2_wind (Cond.code yX2_wind cX2_wind 2 (some .int) :: lw_g) rmX2_wind [.ref (ad 0), .int a_1] (wM cA ad Y) z.1 (wM cA ad z.2) := by
  intro sz
  refine Met.ofW (cc := cX2_wind) (maxL := 2) (ret := (some .int)) (by decide) rfl ?_
  intro p e s m args below meth c s₁ B hml hv
  obtain ⟨rfl, C, hr, hw⟩ := ent B hml hv
  generalize va_A (wM cA ad Y) sz = A at C hw ⊢
  have hl := lv_entry ([.ref (ad 0), .int a_1]) (n := 2) (Nat.le_of_ble_eq_true rfl)
  rw [lg_entry_eq]
  generalize (lg_sl ([.ref (ad 0), .int a_1]) ++ List.replicate (2 - (lg_sl ([.ref (ad 0), .int a_1])).length) Slot.unset).toArray = ls at hl ⊢
  have hl : lv_has ls 2 [(0, .ref (ad 0)), (1, .int a_1)] := hl
  have hx := C.1.1
  have hb := C.1.2.1
  have h : (cl (fX2_sets Y 4 a_1 9) (fun q1 => some (q1.1, q1.2))) = some z := h
  refine lv_aload_n hx hb dX2_wind_0 rfl (lv_at hl 0 rfl) ?_
  refine lv_iconst (v := 4) hx hb dX2_wind_1 (by decide) ?_
  refine lv_iload_n hx hb dX2_wind_2 rfl (lv_at hl 1 rfl) ?_
  refine lv_bipush (v := 9) hx hb dX2_wind_3 (by decide) ?_
  obtain ⟨q1, hq1, h⟩ := cl_some h
  refine cVi (ws2 := (wM cA ad q1.2)) (As := [.int 4, .int a_1, .int 9]) (rest := []) C hw jnW (kX2_sets ad hq1) kl_RX2_157 ki_yX2_sets ks_yX2_sets kn_RX2 kc_yX2_sets ⟨rfl, rfl⟩ hdX2_sets ⟨Nat.le_of_ble_eq_true rfl, Nat.le_of_ble_eq_true rfl⟩ (ci := 2) (q0 := 0) rfl rfl rfl rfl hl.1 (Nat.le_of_ble_eq_true rfl) dX2_wind_5 ⟨Nat.zero_le _, Nat.zero_le _⟩ (fun H locs hw => ?_)
  obtain rfl := some_e h
  exact rtI C hr hw dX2_wind_8
abbrev rmX2_grant : Room := { frames := 2, cells := 0, slots := 0, locals := 47 }
theorem hdX2_grant : yX2_grant.cls = RX2 ∧ yX2_grant.cls ≠ "java/lang/invoke/MethodHandle" ∧ yX2_grant.cls ≠ "java/lang/invoke/VarHandle" ∧ (parseMethodDescriptor yX2_grant.desc).map (fun d => d.parameters.length) = some 1 := by decide +kernel
def fX2_grant (Y : VS) (a_1 : Int32) : Option (Int32 × VS) := cl (fX2_sets Y 3 a_1 999) (fun q1 => some (q1.1, q1.2))
set_option maxHeartbeats 4000000 in
set_option maxRecDepth 100000 in
theorem kX2_grant (ad : Nat → Nat) {Y : VS} {a_1 : Int32} {z : (Int32 × VS)} (h : fX2_grant Y a_1 = some z) : MI l D cA g yX2_grant (Cond.code yX2_grant cX2_grant 2 (some .int) :: lw_g) rmX2_grant [.ref (ad 0), .int a_1] (wM cA ad Y) z.1 (wM cA ad z.2) := by
  intro sz
  refine Met.ofW (cc := cX2_grant) (maxL := 2) (ret := (some .int)) (by decide) rfl ?_
  intro p e s m args below meth c s₁ B hml hv
  obtain ⟨rfl, C, hr, hw⟩ := ent B hml hv
  generalize va_A (wM cA ad Y) sz = A at C hw ⊢
  have hl := lv_entry ([.ref (ad 0), .int a_1]) (n := 2) (Nat.le_of_ble_eq_true rfl)
  rw [lg_entry_eq]
  generalize (lg_sl ([.ref (ad 0), .int a_1]) ++ List.replicate (2 - (lg_sl ([.ref (ad 0), .int a_1])).length) Slot.unset).toArray = ls at hl ⊢
  have hl : lv_has ls 2 [(0, .ref (ad 0)), (1, .int a_1)] := hl
  have hx := C.1.1
  have hb := C.1.2.1
  have h : (cl (fX2_sets Y 3 a_1 999) (fun q1 => some (q1.1, q1.2))) = some z := h
  refine lv_aload_n hx hb dX2_grant_0 rfl (lv_at hl 0 rfl) ?_
  refine lv_iconst (v := 3) hx hb dX2_grant_1 (by decide) ?_
  refine lv_iload_n hx hb dX2_grant_2 rfl (lv_at hl 1 rfl) ?_
  refine lv_sipush (v := 999) hx hb dX2_grant_3 (by decide) ?_
  obtain ⟨q1, hq1, h⟩ := cl_some h
  refine cVi (ws2 := (wM cA ad q1.2)) (As := [.int 3, .int a_1, .int 999]) (rest := []) C hw jnW (kX2_sets ad hq1) kl_RX2_157 ki_yX2_sets ks_yX2_sets kn_RX2 kc_yX2_sets ⟨rfl, rfl⟩ hdX2_sets ⟨Nat.le_of_ble_eq_true rfl, Nat.le_of_ble_eq_true rfl⟩ (ci := 2) (q0 := 0) rfl rfl rfl rfl hl.1 (Nat.le_of_ble_eq_true rfl) dX2_grant_6 ⟨Nat.zero_le _, Nat.zero_le _⟩ (fun H locs hw => ?_)
  obtain rfl := some_e h
  exact rtI C hr hw dX2_grant_9
abbrev rmX2_stands : Room := { frames := 2, cells := 0, slots := 0, locals := 47 }
theorem hdX2_stands : yX2_stands.cls = RX2 ∧ yX2_stands.cls ≠ "java/lang/invoke/MethodHandle" ∧ yX2_stands.cls ≠ "java/lang/invoke/VarHandle" ∧ (parseMethodDescriptor yX2_stands.desc).map (fun d => d.parameters.length) = some 2 := by decide +kernel
def GX2_stands_33 (p : Program) (l : Launch) (e : Env) (s : State) (m : MethodId) (args : Array Value) (below : List Frame) (meth : Method) (c : Code) (D : va_G) (cA : ClassId) (A : Nat → Prop) (ad : Nat → Nat) (z : (Int32 × VS)) (x : (VS)) : Prop := ∀ (H : Heap) (locs : List Loc) (ls : Array Slot), Wd D A s.heap (wM cA ad x) H locs → lv_has ls 3 [(0, .ref (ad 0))] → W p l e rmX2_stands s m args below meth c H locs 0 0 (MQ below (QI D cA A z.1 (wM cA ad z.2)) args s 0 0 A) (F0 m 33 ls [])
def fX2_stands_33 : ((VS)) → Option (Int32 × VS) := fun Y => cl (fX2_no Y (-1)) (fun q1 => some (q1.1, q1.2))
def fX2_stands (Y : VS) (a_1 : Int32) (a_2 : Int32) : Option (Int32 × VS) := cl (fX2_isReader Y a_1) (fun r1 => if r1 = 0 then fX2_stands_33 Y else cl (fX2_isIn a_2 0 19) (fun r3 => if r3 = 0 then fX2_stands_33 Y else cl (fX2_ofP a_1 0) (fun r5 => cl (fX2_sets Y r5 a_2 20) (fun q6 => some (q6.1, q6.2)))))
set_option maxHeartbeats 4000000 in
set_option maxRecDepth 100000 in
theorem kX2_stands_33 (C : Cx p s m args meth c cX2_stands 3 RX2 D cA g A) (hr : meth.sig.returnType = (some .int)) {z : (Int32 × VS)} (x : (VS)) (h : fX2_stands_33 x = some z) : GX2_stands_33 p l e s m args below meth c D cA A ad z x := by
  obtain ⟨Y, rfl⟩ : ∃ y, y = x := ⟨_, rfl⟩
  intro H locs ls hw hl
  have hw : Wd D A s.heap (wM cA ad Y) H locs := hw
  have hl : lv_has ls 3 [(0, .ref (ad 0))] := hl
  have hx := C.1.1
  have hb := C.1.2.1
  have h : (cl (fX2_no Y (-1)) (fun q1 => some (q1.1, q1.2))) = some z := h
  refine lv_aload_n hx hb dX2_stands_33 rfl (lv_at hl 0 rfl) ?_
  refine lv_iconst (v := (-1)) hx hb dX2_stands_34 (by decide) ?_
  obtain ⟨q1, hq1, h⟩ := cl_some h
  refine cVi (ws2 := (wM cA ad q1.2)) (As := [.int (-1)]) (rest := []) C hw jnW (kX2_no ad hq1) kl_RX2_36 ki_yX2_no ks_yX2_no kn_RX2 kc_yX2_no ⟨rfl, rfl⟩ hdX2_no ⟨Nat.le_of_ble_eq_true rfl, Nat.le_of_ble_eq_true rfl⟩ (ci := 2) (q0 := 0) rfl rfl rfl rfl hl.1 (Nat.le_of_ble_eq_true rfl) dX2_stands_35 ⟨Nat.zero_le _, Nat.zero_le _⟩ (fun H locs hw => ?_)
  obtain rfl := some_e h
  exact rtI C hr hw dX2_stands_38
set_option maxHeartbeats 4000000 in
set_option maxRecDepth 100000 in
theorem kX2_stands (ad : Nat → Nat) {Y : VS} {a_1 : Int32} {a_2 : Int32} {z : (Int32 × VS)} (h : fX2_stands Y a_1 a_2 = some z) : MI l D cA g yX2_stands (Cond.code yX2_stands cX2_stands 3 (some .int) :: lw_g) rmX2_stands [.ref (ad 0), .int a_1, .int a_2] (wM cA ad Y) z.1 (wM cA ad z.2) := by
  intro sz
  refine Met.ofW (cc := cX2_stands) (maxL := 3) (ret := (some .int)) (by decide) rfl ?_
  intro p e s m args below meth c s₁ B hml hv
  obtain ⟨rfl, C, hr, hw⟩ := ent B hml hv
  generalize va_A (wM cA ad Y) sz = A at C hw ⊢
  have hl := lv_entry ([.ref (ad 0), .int a_1, .int a_2]) (n := 3) (Nat.le_of_ble_eq_true rfl)
  rw [lg_entry_eq]
  generalize (lg_sl ([.ref (ad 0), .int a_1, .int a_2]) ++ List.replicate (3 - (lg_sl ([.ref (ad 0), .int a_1, .int a_2])).length) Slot.unset).toArray = ls at hl ⊢
  have hl : lv_has ls 3 [(0, .ref (ad 0)), (1, .int a_1), (2, .int a_2)] := hl
  have hx := C.1.1
  have hb := C.1.2.1
  have h : (cl (fX2_isReader Y a_1) (fun r1 => if r1 = 0 then fX2_stands_33 Y else cl (fX2_isIn a_2 0 19) (fun r3 => if r3 = 0 then fX2_stands_33 Y else cl (fX2_ofP a_1 0) (fun r5 => cl (fX2_sets Y r5 a_2 20) (fun q6 => some (q6.1, q6.2)))))) = some z := h
  refine lv_aload_n hx hb dX2_stands_0 rfl (lv_at hl 0 rfl) ?_
  refine lv_iload_n hx hb dX2_stands_1 rfl (lv_at hl 1 rfl) ?_
  obtain ⟨r1, hr1, h⟩ := cl_some h
  refine cVi (ws2 := (wM cA ad Y)) (As := [.int a_1]) (rest := []) C hw jnW (kX2_isReader ad hr1) kl_RX2_147 ki_yX2_isReader ks_yX2_isReader kn_RX2 kc_yX2_isReader ⟨rfl, rfl⟩ hdX2_isReader ⟨Nat.le_of_ble_eq_true rfl, Nat.le_of_ble_eq_true rfl⟩ (ci := 2) (q0 := 0) rfl rfl rfl rfl hl.1 (Nat.le_of_ble_eq_true rfl) dX2_stands_2 ⟨Nat.zero_le _, Nat.zero_le _⟩ (fun H locs hw => ?_)
  refine lv_if_eq (tgt := 33) hx hb dX2_stands_5 (by decide) (fun c2 => ?_) (fun c2 => ?_)
  · replace h := (if_pos c2).symm.trans h
    exact kX2_stands_33 C hr Y h _ _ _ hw (lv_sub hl [0] rfl)
  · replace h := (if_neg c2).symm.trans h
    refine lv_iload_n hx hb dX2_stands_8 rfl (lv_at hl 2 rfl) ?_
    refine lv_iconst (v := 0) hx hb dX2_stands_9 (by decide) ?_
    refine lv_bipush (v := 19) hx hb dX2_stands_10 (by decide) ?_
    obtain ⟨r3, hr3, h⟩ := cl_some h
    refine cSi (ws2 := (wM cA ad Y)) (As := [.int a_2, .int 0, .int 19]) (rest := []) C hw jnE (kX2_isIn hr3) kl_RX2_40 kt_yX2_isIn kn_RX2 kc_yX2_isIn ⟨rfl, rfl⟩ hdX2_isIn ⟨Nat.le_of_ble_eq_true rfl, Nat.le_of_ble_eq_true rfl⟩ rfl hl.1 (Nat.le_of_ble_eq_true rfl) dX2_stands_12 ⟨Nat.zero_le _, Nat.zero_le _⟩ (fun H locs hw => ?_)
    refine lv_if_eq (tgt := 33) hx hb dX2_stands_15 (by decide) (fun c4 => ?_) (fun c4 => ?_)
    · replace h := (if_pos c4).symm.trans h
      exact kX2_stands_33 C hr Y h _ _ _ hw (lv_sub hl [0] rfl)
    · replace h := (if_neg c4).symm.trans h
      refine lv_aload_n hx hb dX2_stands_18 rfl (lv_at hl 0 rfl) ?_
      refine lv_iload_n hx hb dX2_stands_19 rfl (lv_at hl 1 rfl) ?_
      refine lv_iconst (v := 0) hx hb dX2_stands_20 (by decide) ?_
      obtain ⟨r5, hr5, h⟩ := cl_some h
      refine cSi (ws2 := (wM cA ad Y)) (As := [.int a_1, .int 0]) (rest := [.ref (ad 0)]) C hw jnE (kX2_ofP hr5) kl_RX2_48 kt_yX2_ofP kn_RX2 kc_yX2_ofP ⟨rfl, rfl⟩ hdX2_ofP ⟨Nat.le_of_ble_eq_true rfl, Nat.le_of_ble_eq_true rfl⟩ rfl hl.1 (Nat.le_of_ble_eq_true rfl) dX2_stands_21 ⟨Nat.zero_le _, Nat.zero_le _⟩ (fun H locs hw => ?_)
      refine lv_iload_n hx hb dX2_stands_24 rfl (lv_at hl 2 rfl) ?_
      refine lv_bipush (v := 20) hx hb dX2_stands_25 (by decide) ?_
      obtain ⟨q6, hq6, h⟩ := cl_some h
      refine cVi (ws2 := (wM cA ad q6.2)) (As := [.int r5, .int a_2, .int 20]) (rest := []) C hw jnW (kX2_sets ad hq6) kl_RX2_157 ki_yX2_sets ks_yX2_sets kn_RX2 kc_yX2_sets ⟨rfl, rfl⟩ hdX2_sets ⟨Nat.le_of_ble_eq_true rfl, Nat.le_of_ble_eq_true rfl⟩ (ci := 2) (q0 := 0) rfl rfl rfl rfl hl.1 (Nat.le_of_ble_eq_true rfl) dX2_stands_27 ⟨Nat.zero_le _, Nat.zero_le _⟩ (fun H locs hw => ?_)
      refine lv_goto (tgt := 38) hx hb dX2_stands_30 (by decide) ?_
      obtain rfl := some_e h
      exact rtI C hr hw dX2_stands_38
abbrev rmX2_turn : Room := { frames := 2, cells := 0, slots := 0, locals := 43 }
theorem hdX2_turn : yX2_turn.cls = RX2 ∧ yX2_turn.cls ≠ "java/lang/invoke/MethodHandle" ∧ yX2_turn.cls ≠ "java/lang/invoke/VarHandle" ∧ (parseMethodDescriptor yX2_turn.desc).map (fun d => d.parameters.length) = some 3 := by decide +kernel
def GX2_turn_33 (p : Program) (l : Launch) (e : Env) (s : State) (m : MethodId) (args : Array Value) (below : List Frame) (meth : Method) (c : Code) (D : va_G) (cA : ClassId) (A : Nat → Prop) (ad : Nat → Nat) (z : (Int32 × VS)) (x : (VS) × (Int32) × (Int32) × (Int32) × (Int32)) : Prop := ∀ (H : Heap) (locs : List Loc) (ls : Array Slot), Wd D A s.heap (wM cA ad x.1) H locs → lv_has ls 6 [(0, .ref (ad 0)), (1, .int x.2.1), (2, .int x.2.2.1), (3, .int x.2.2.2.1)] → W p l e rmX2_turn s m args below meth c H locs 0 0 (MQ below (QI D cA A z.1 (wM cA ad z.2)) args s 0 0 A) (F0 m 33 ls [.int x.2.2.2.2])
def fX2_turn_33 : ((VS) × (Int32) × (Int32) × (Int32) × (Int32)) → Option (Int32 × VS) := fun x => match x with | (Y, x_1, x_2, x_3, y_0) => if y_0 = 0 then cl (fX2_ofR x_1 0) (fun r2 => rd 81 (Y 0) r2 (fun r3 => cl (fX2_ofR x_1 1) (fun r4 => rd 81 (Y 0) r4 (fun r5 => bn (((10 : Int32) * r3) + r5) (fun x6 => cl (fX2_ofR x_1 0) (fun r7 => ck 81 r7 (bn (up Y 0 (upd (Y 0) (r7 : Int32).toNatClampNeg x_2)) (fun w8 => cl (fX2_ofR x_1 1) (fun r9 => ck 81 r9 (bn (up w8 0 (upd (w8 0) (r9 : Int32).toNatClampNeg x_3)) (fun w10 => some (x6, w10)))))))))))) else cl (fX2_no Y y_0) (fun q11 => some (q11.1, q11.2))
def fX2_turn (Y : VS) (a_1 : Int32) (a_2 : Int32) (a_3 : Int32) : Option (Int32 × VS) := cl (fX2_isRocket Y a_1) (fun r1 => if r1 = 0 then fX2_turn_33 (Y, a_1, a_2, a_3, (-1)) else cl (fX2_isIn a_2 0 5) (fun r3 => if r3 = 0 then fX2_turn_33 (Y, a_1, a_2, a_3, (-2)) else cl (fX2_wrongBy a_3 0 9) (fun r5 => fX2_turn_33 (Y, a_1, a_2, a_3, r5))))
set_option maxHeartbeats 4000000 in
set_option maxRecDepth 100000 in
theorem kX2_turn_33 (C : Cx p s m args meth c cX2_turn 6 RX2 D cA g A) (hr : meth.sig.returnType = (some .int)) {z : (Int32 × VS)} (x : (VS) × (Int32) × (Int32) × (Int32) × (Int32)) (h : fX2_turn_33 x = some z) : GX2_turn_33 p l e s m args below meth c D cA A ad z x := by
  obtain ⟨Y, x_1, x_2, x_3, y_0⟩ := x
  intro H locs ls hw hl
  have hw : Wd D A s.heap (wM cA ad Y) H locs := hw
  have hl : lv_has ls 6 [(0, .ref (ad 0)), (1, .int x_1), (2, .int x_2), (3, .int x_3)] := hl
  show W p l e rmX2_turn s m args below meth c H locs 0 0 (MQ below (QI D cA A z.1 (wM cA ad z.2)) args s 0 0 A) (F0 m 33 ls [.int y_0])
  have hx := C.1.1
  have hb := C.1.2.1
  have h : (if y_0 = 0 then cl (fX2_ofR x_1 0) (fun r2 => rd 81 (Y 0) r2 (fun r3 => cl (fX2_ofR x_1 1) (fun r4 => rd 81 (Y 0) r4 (fun r5 => bn (((10 : Int32) * r3) + r5) (fun x6 => cl (fX2_ofR x_1 0) (fun r7 => ck 81 r7 (bn (up Y 0 (upd (Y 0) (r7 : Int32).toNatClampNeg x_2)) (fun w8 => cl (fX2_ofR x_1 1) (fun r9 => ck 81 r9 (bn (up w8 0 (upd (w8 0) (r9 : Int32).toNatClampNeg x_3)) (fun w10 => some (x6, w10)))))))))))) else cl (fX2_no Y y_0) (fun q11 => some (q11.1, q11.2))) = some z := h
  refine lv_istore (lv' := [(4, .int y_0), (0, .ref (ad 0)), (1, .int x_1), (2, .int x_2), (3, .int x_3)]) hx hb dX2_turn_33 hl (by decide) rfl (fun ls hl => ?_)
  refine lv_iload hx hb dX2_turn_35 (lv_at hl 0 rfl) ?_
  refine lv_if_eq (tgt := 47) hx hb dX2_turn_37 (by decide) (fun c1 => ?_) (fun c1 => ?_)
  · replace h := (if_pos c1).symm.trans h
    refine lv_bipush (v := 10) hx hb dX2_turn_47 (by decide) ?_
    refine lv_aload_n hx hb dX2_turn_49 rfl (lv_at hl 1 rfl) ?_
    refine tGet (T := TX2) (N := 13) (ci := 2) C hw inX2 0 0 rfl (by decide) kf_RX2_9 rfl rfl rfl dX2_turn_50 ?_
    refine lv_iload_n hx hb dX2_turn_53 rfl (lv_at hl 2 rfl) ?_
    refine lv_iconst (v := 0) hx hb dX2_turn_54 (by decide) ?_
    obtain ⟨r2, hr2, h⟩ := cl_some h
    refine cSi (ws2 := (wM cA ad Y)) (As := [.int x_1, .int 0]) (rest := [.ref (ad 1), .int 10]) C hw jnE (kX2_ofR hr2) kl_RX2_44 kt_yX2_ofR kn_RX2 kc_yX2_ofR ⟨rfl, rfl⟩ hdX2_ofR ⟨Nat.le_of_ble_eq_true rfl, Nat.le_of_ble_eq_true rfl⟩ rfl hl.1 (Nat.le_of_ble_eq_true rfl) dX2_turn_55 ⟨Nat.zero_le _, Nat.zero_le _⟩ (fun H locs hw => ?_)
    obtain ⟨r3, ir3, er3, h⟩ := rd_some h
    refine tLd C hw 1 rfl ir3 er3 dX2_turn_58 ?_
    refine lv_imul hx hb dX2_turn_59 ?_
    refine lv_aload_n hx hb dX2_turn_60 rfl (lv_at hl 1 rfl) ?_
    refine tGet (T := TX2) (N := 13) (ci := 2) C hw inX2 0 0 rfl (by decide) kf_RX2_9 rfl rfl rfl dX2_turn_61 ?_
    refine lv_iload_n hx hb dX2_turn_64 rfl (lv_at hl 2 rfl) ?_
    refine lv_iconst (v := 1) hx hb dX2_turn_65 (by decide) ?_
    obtain ⟨r4, hr4, h⟩ := cl_some h
    refine cSi (ws2 := (wM cA ad Y)) (As := [.int x_1, .int 1]) (rest := [.ref (ad 1), .int ((10 : Int32) * r3)]) C hw jnE (kX2_ofR hr4) kl_RX2_44 kt_yX2_ofR kn_RX2 kc_yX2_ofR ⟨rfl, rfl⟩ hdX2_ofR ⟨Nat.le_of_ble_eq_true rfl, Nat.le_of_ble_eq_true rfl⟩ rfl hl.1 (Nat.le_of_ble_eq_true rfl) dX2_turn_66 ⟨Nat.zero_le _, Nat.zero_le _⟩ (fun H locs hw => ?_)
    obtain ⟨r5, ir5, er5, h⟩ := rd_some h
    refine tLd C hw 1 rfl ir5 er5 dX2_turn_69 ?_
    refine lv_iadd hx hb dX2_turn_70 ?_
    refine lv_topi (fun x6 ex6 => ?_)
    replace h := bn_some h ex6
    refine lv_istore (lv' := [(5, .int x6), (4, .int y_0), (0, .ref (ad 0)), (1, .int x_1), (2, .int x_2), (3, .int x_3)]) hx hb dX2_turn_71 hl (by decide) rfl (fun ls hl => ?_)
    refine lv_aload_n hx hb dX2_turn_73 rfl (lv_at hl 2 rfl) ?_
    refine tGet (T := TX2) (N := 13) (ci := 2) C hw inX2 0 0 rfl (by decide) kf_RX2_9 rfl rfl rfl dX2_turn_74 ?_
    refine lv_iload_n hx hb dX2_turn_77 rfl (lv_at hl 3 rfl) ?_
    refine lv_iconst (v := 0) hx hb dX2_turn_78 (by decide) ?_
    obtain ⟨r7, hr7, h⟩ := cl_some h
    refine cSi (ws2 := (wM cA ad Y)) (As := [.int x_1, .int 0]) (rest := [.ref (ad 1)]) C hw jnE (kX2_ofR hr7) kl_RX2_44 kt_yX2_ofR kn_RX2 kc_yX2_ofR ⟨rfl, rfl⟩ hdX2_ofR ⟨Nat.le_of_ble_eq_true rfl, Nat.le_of_ble_eq_true rfl⟩ rfl hl.1 (Nat.le_of_ble_eq_true rfl) dX2_turn_79 ⟨Nat.zero_le _, Nat.zero_le _⟩ (fun H locs hw => ?_)
    refine lv_iload_n hx hb dX2_turn_82 rfl (lv_at hl 4 rfl) ?_
    obtain ⟨iw8, h⟩ := ck_some h
    obtain ⟨w8, ew8⟩ : ∃ y : VS, y = up Y 0 (upd (Y 0) (r7 : Int32).toNatClampNeg x_2) := ⟨_, rfl⟩
    replace h := bn_some h ew8
    refine tSt (ws2 := (wM cA ad w8)) C hw 1 rfl iw8 (by rw [ew8]; rfl) dX2_turn_83 (fun H locs hw => ?_)
    refine lv_aload_n hx hb dX2_turn_84 rfl (lv_at hl 2 rfl) ?_
    refine tGet (T := TX2) (N := 13) (ci := 2) C hw inX2 0 0 rfl (by decide) kf_RX2_9 rfl rfl rfl dX2_turn_85 ?_
    refine lv_iload_n hx hb dX2_turn_88 rfl (lv_at hl 3 rfl) ?_
    refine lv_iconst (v := 1) hx hb dX2_turn_89 (by decide) ?_
    obtain ⟨r9, hr9, h⟩ := cl_some h
    refine cSi (ws2 := (wM cA ad w8)) (As := [.int x_1, .int 1]) (rest := [.ref (ad 1)]) C hw jnE (kX2_ofR hr9) kl_RX2_44 kt_yX2_ofR kn_RX2 kc_yX2_ofR ⟨rfl, rfl⟩ hdX2_ofR ⟨Nat.le_of_ble_eq_true rfl, Nat.le_of_ble_eq_true rfl⟩ rfl hl.1 (Nat.le_of_ble_eq_true rfl) dX2_turn_90 ⟨Nat.zero_le _, Nat.zero_le _⟩ (fun H locs hw => ?_)
    refine lv_iload_n hx hb dX2_turn_93 rfl (lv_at hl 5 rfl) ?_
    obtain ⟨iw10, h⟩ := ck_some h
    obtain ⟨w10, ew10⟩ : ∃ y : VS, y = up w8 0 (upd (w8 0) (r9 : Int32).toNatClampNeg x_3) := ⟨_, rfl⟩
    replace h := bn_some h ew10
    refine tSt (ws2 := (wM cA ad w10)) C hw 1 rfl iw10 (by rw [ew10]; rfl) dX2_turn_94 (fun H locs hw => ?_)
    refine lv_iload hx hb dX2_turn_95 (lv_at hl 0 rfl) ?_
    obtain rfl := some_e h
    exact rtI C hr hw dX2_turn_97
  · replace h := (if_neg c1).symm.trans h
    refine lv_aload_n hx hb dX2_turn_40 rfl (lv_at hl 1 rfl) ?_
    refine lv_iload hx hb dX2_turn_41 (lv_at hl 0 rfl) ?_
    obtain ⟨q11, hq11, h⟩ := cl_some h
    refine cVi (ws2 := (wM cA ad q11.2)) (As := [.int y_0]) (rest := []) C hw jnW (kX2_no ad hq11) kl_RX2_36 ki_yX2_no ks_yX2_no kn_RX2 kc_yX2_no ⟨rfl, rfl⟩ hdX2_no ⟨Nat.le_of_ble_eq_true rfl, Nat.le_of_ble_eq_true rfl⟩ (ci := 2) (q0 := 0) rfl rfl rfl rfl hl.1 (Nat.le_of_ble_eq_true rfl) dX2_turn_43 ⟨Nat.zero_le _, Nat.zero_le _⟩ (fun H locs hw => ?_)
    obtain rfl := some_e h
    exact rtI C hr hw dX2_turn_46
set_option maxHeartbeats 4000000 in
set_option maxRecDepth 100000 in
theorem kX2_turn (ad : Nat → Nat) {Y : VS} {a_1 : Int32} {a_2 : Int32} {a_3 : Int32} {z : (Int32 × VS)} (h : fX2_turn Y a_1 a_2 a_3 = some z) : MI l D cA g yX2_turn (Cond.code yX2_turn cX2_turn 6 (some .int) :: lw_g) rmX2_turn [.ref (ad 0), .int a_1, .int a_2, .int a_3] (wM cA ad Y) z.1 (wM cA ad z.2) := by
  intro sz
  refine Met.ofW (cc := cX2_turn) (maxL := 6) (ret := (some .int)) (by decide) rfl ?_
  intro p e s m args below meth c s₁ B hml hv
  obtain ⟨rfl, C, hr, hw⟩ := ent B hml hv
  generalize va_A (wM cA ad Y) sz = A at C hw ⊢
  have hl := lv_entry ([.ref (ad 0), .int a_1, .int a_2, .int a_3]) (n := 6) (Nat.le_of_ble_eq_true rfl)
  rw [lg_entry_eq]
  generalize (lg_sl ([.ref (ad 0), .int a_1, .int a_2, .int a_3]) ++ List.replicate (6 - (lg_sl ([.ref (ad 0), .int a_1, .int a_2, .int a_3])).length) Slot.unset).toArray = ls at hl ⊢
  have hl : lv_has ls 6 [(0, .ref (ad 0)), (1, .int a_1), (2, .int a_2), (3, .int a_3)] := hl
  have hx := C.1.1
  have hb := C.1.2.1
  have h : (cl (fX2_isRocket Y a_1) (fun r1 => if r1 = 0 then fX2_turn_33 (Y, a_1, a_2, a_3, (-1)) else cl (fX2_isIn a_2 0 5) (fun r3 => if r3 = 0 then fX2_turn_33 (Y, a_1, a_2, a_3, (-2)) else cl (fX2_wrongBy a_3 0 9) (fun r5 => fX2_turn_33 (Y, a_1, a_2, a_3, r5))))) = some z := h
  refine lv_aload_n hx hb dX2_turn_0 rfl (lv_at hl 0 rfl) ?_
  refine lv_iload_n hx hb dX2_turn_1 rfl (lv_at hl 1 rfl) ?_
  obtain ⟨r1, hr1, h⟩ := cl_some h
  refine cVi (ws2 := (wM cA ad Y)) (As := [.int a_1]) (rest := []) C hw jnW (kX2_isRocket ad hr1) kl_RX2_124 ki_yX2_isRocket ks_yX2_isRocket kn_RX2 kc_yX2_isRocket ⟨rfl, rfl⟩ hdX2_isRocket ⟨Nat.le_of_ble_eq_true rfl, Nat.le_of_ble_eq_true rfl⟩ (ci := 2) (q0 := 0) rfl rfl rfl rfl hl.1 (Nat.le_of_ble_eq_true rfl) dX2_turn_2 ⟨Nat.zero_le _, Nat.zero_le _⟩ (fun H locs hw => ?_)
  refine lv_if_ne (tgt := 12) hx hb dX2_turn_5 (by decide) (fun c2 => ?_) (fun c2 => ?_)
  · replace h := (if_neg c2).symm.trans h
    refine lv_iload_n hx hb dX2_turn_12 rfl (lv_at hl 2 rfl) ?_
    refine lv_iconst (v := 0) hx hb dX2_turn_13 (by decide) ?_
    refine lv_iconst (v := 5) hx hb dX2_turn_14 (by decide) ?_
    obtain ⟨r3, hr3, h⟩ := cl_some h
    refine cSi (ws2 := (wM cA ad Y)) (As := [.int a_2, .int 0, .int 5]) (rest := []) C hw jnE (kX2_isIn hr3) kl_RX2_40 kt_yX2_isIn kn_RX2 kc_yX2_isIn ⟨rfl, rfl⟩ hdX2_isIn ⟨Nat.le_of_ble_eq_true rfl, Nat.le_of_ble_eq_true rfl⟩ rfl hl.1 (Nat.le_of_ble_eq_true rfl) dX2_turn_15 ⟨Nat.zero_le _, Nat.zero_le _⟩ (fun H locs hw => ?_)
    refine lv_if_ne (tgt := 26) hx hb dX2_turn_18 (by decide) (fun c4 => ?_) (fun c4 => ?_)
    · replace h := (if_neg c4).symm.trans h
      refine lv_iload_n hx hb dX2_turn_26 rfl (lv_at hl 3 rfl) ?_
      refine lv_iconst (v := 0) hx hb dX2_turn_27 (by decide) ?_
      refine lv_bipush (v := 9) hx hb dX2_turn_28 (by decide) ?_
      obtain ⟨r5, hr5, h⟩ := cl_some h
      refine cSi (ws2 := (wM cA ad Y)) (As := [.int a_3, .int 0, .int 9]) (rest := []) C hw jnE (kX2_wrongBy hr5) kl_RX2_153 kt_yX2_wrongBy kn_RX2 kc_yX2_wrongBy ⟨rfl, rfl⟩ hdX2_wrongBy ⟨Nat.le_of_ble_eq_true rfl, Nat.le_of_ble_eq_true rfl⟩ rfl hl.1 (Nat.le_of_ble_eq_true rfl) dX2_turn_30 ⟨Nat.zero_le _, Nat.zero_le _⟩ (fun H locs hw => ?_)
      exact kX2_turn_33 C hr (Y, a_1, a_2, a_3, r5) h _ _ _ hw (lv_sub hl [0, 1, 2, 3] rfl)
    · replace h := (if_pos c4).symm.trans h
      refine lv_bipush (v := (-2)) hx hb dX2_turn_21 (by decide) ?_
      refine lv_goto (tgt := 33) hx hb dX2_turn_23 (by decide) ?_
      exact kX2_turn_33 C hr (Y, a_1, a_2, a_3, (-2)) h _ _ _ hw (lv_sub hl [0, 1, 2, 3] rfl)
  · replace h := (if_pos c2).symm.trans h
    refine lv_iconst (v := (-1)) hx hb dX2_turn_8 (by decide) ?_
    refine lv_goto (tgt := 33) hx hb dX2_turn_9 (by decide) ?_
    exact kX2_turn_33 C hr (Y, a_1, a_2, a_3, (-1)) h _ _ _ hw (lv_sub hl [0, 1, 2, 3] rfl)
abbrev rmX2_nights : Room := { frames := 7, cells := 0, slots := 0, locals := 160 }
theorem hdX2_nights : yX2_nights.cls = RX2 ∧ yX2_nights.cls ≠ "java/lang/invoke/MethodHandle" ∧ yX2_nights.cls ≠ "java/lang/invoke/VarHandle" ∧ (parseMethodDescriptor yX2_nights.desc).map (fun d => d.parameters.length) = some 1 := by decide +kernel
def GX2_nights_32 (p : Program) (l : Launch) (e : Env) (s : State) (m : MethodId) (args : Array Value) (below : List Frame) (meth : Method) (c : Code) (D : va_G) (cA : ClassId) (A : Nat → Prop) (ad : Nat → Nat) (z : (Int32 × VS)) (x : (VS)) : Prop := ∀ (H : Heap) (locs : List Loc) (ls : Array Slot), Wd D A s.heap (wM cA ad x) H locs → lv_has ls 2 [(0, .ref (ad 0))] → W p l e rmX2_nights s m args below meth c H locs 0 0 (MQ below (QI D cA A z.1 (wM cA ad z.2)) args s 0 0 A) (F0 m 32 ls [])
def fX2_nights_32 : ((VS)) → Option (Int32 × VS) := fun Y => cl (fX2_no Y (-6)) (fun q1 => some (q1.1, q1.2))
def fX2_nights (Y : VS) (a_1 : Int32) : Option (Int32 × VS) := if 1 ≤ a_1 then if 60 < a_1 then fX2_nights_32 Y else rd 81 (Y 0) 2 (fun r3 => if (r3 + a_1) ≤ 999 then cl (fX2_nightsOn (Y 0) a_1 (-1)) (fun w5 => bn (up Y 0 w5) (fun w6 => rd 81 (w6 0) 3 (fun r7 => some (r7, w6)))) else fX2_nights_32 Y) else cl (fX2_no Y (-4)) (fun q8 => some (q8.1, q8.2))
set_option maxHeartbeats 4000000 in
set_option maxRecDepth 100000 in
theorem kX2_nights_32 (C : Cx p s m args meth c cX2_nights 2 RX2 D cA g A) (hr : meth.sig.returnType = (some .int)) {z : (Int32 × VS)} (x : (VS)) (h : fX2_nights_32 x = some z) : GX2_nights_32 p l e s m args below meth c D cA A ad z x := by
  obtain ⟨Y, rfl⟩ : ∃ y, y = x := ⟨_, rfl⟩
  intro H locs ls hw hl
  have hw : Wd D A s.heap (wM cA ad Y) H locs := hw
  have hl : lv_has ls 2 [(0, .ref (ad 0))] := hl
  have hx := C.1.1
  have hb := C.1.2.1
  have h : (cl (fX2_no Y (-6)) (fun q1 => some (q1.1, q1.2))) = some z := h
  refine lv_aload_n hx hb dX2_nights_32 rfl (lv_at hl 0 rfl) ?_
  refine lv_bipush (v := (-6)) hx hb dX2_nights_33 (by decide) ?_
  obtain ⟨q1, hq1, h⟩ := cl_some h
  refine cVi (ws2 := (wM cA ad q1.2)) (As := [.int (-6)]) (rest := []) C hw jnW (kX2_no ad hq1) kl_RX2_36 ki_yX2_no ks_yX2_no kn_RX2 kc_yX2_no ⟨rfl, rfl⟩ hdX2_no ⟨Nat.le_of_ble_eq_true rfl, Nat.le_of_ble_eq_true rfl⟩ (ci := 2) (q0 := 0) rfl rfl rfl rfl hl.1 (Nat.le_of_ble_eq_true rfl) dX2_nights_35 ⟨Nat.zero_le _, Nat.zero_le _⟩ (fun H locs hw => ?_)
  obtain rfl := some_e h
  exact rtI C hr hw dX2_nights_38
set_option maxHeartbeats 4000000 in
set_option maxRecDepth 100000 in
theorem kX2_nights (ad : Nat → Nat) {Y : VS} {a_1 : Int32} {z : (Int32 × VS)} (h : fX2_nights Y a_1 = some z) : MI l D cA g yX2_nights (Cond.code yX2_nights cX2_nights 2 (some .int) :: lw_g) rmX2_nights [.ref (ad 0), .int a_1] (wM cA ad Y) z.1 (wM cA ad z.2) := by
  intro sz
  refine Met.ofW (cc := cX2_nights) (maxL := 2) (ret := (some .int)) (by decide) rfl ?_
  intro p e s m args below meth c s₁ B hml hv
  obtain ⟨rfl, C, hr, hw⟩ := ent B hml hv
  generalize va_A (wM cA ad Y) sz = A at C hw ⊢
  have hl := lv_entry ([.ref (ad 0), .int a_1]) (n := 2) (Nat.le_of_ble_eq_true rfl)
  rw [lg_entry_eq]
  generalize (lg_sl ([.ref (ad 0), .int a_1]) ++ List.replicate (2 - (lg_sl ([.ref (ad 0), .int a_1])).length) Slot.unset).toArray = ls at hl ⊢
  have hl : lv_has ls 2 [(0, .ref (ad 0)), (1, .int a_1)] := hl
  have hx := C.1.1
  have hb := C.1.2.1
  have h : (if 1 ≤ a_1 then if 60 < a_1 then fX2_nights_32 Y else rd 81 (Y 0) 2 (fun r3 => if (r3 + a_1) ≤ 999 then cl (fX2_nightsOn (Y 0) a_1 (-1)) (fun w5 => bn (up Y 0 w5) (fun w6 => rd 81 (w6 0) 3 (fun r7 => some (r7, w6)))) else fX2_nights_32 Y) else cl (fX2_no Y (-4)) (fun q8 => some (q8.1, q8.2))) = some z := h
  refine lv_iload_n hx hb dX2_nights_0 rfl (lv_at hl 1 rfl) ?_
  refine lv_iconst (v := 1) hx hb dX2_nights_1 (by decide) ?_
  refine lv_icmp_ge (tgt := 12) hx hb dX2_nights_2 (by decide) (fun c1 => ?_) (fun c1 => ?_)
  · replace h := (if_pos c1).symm.trans h
    refine lv_iload_n hx hb dX2_nights_12 rfl (lv_at hl 1 rfl) ?_
    refine lv_bipush (v := 60) hx hb dX2_nights_13 (by decide) ?_
    refine lv_icmp_gt (tgt := 32) hx hb dX2_nights_15 (by decide) (fun c2 => ?_) (fun c2 => ?_)
    · replace h := (if_pos c2).symm.trans h
      exact kX2_nights_32 C hr Y h _ _ _ hw (lv_sub hl [0] rfl)
    · replace h := (if_neg c2).symm.trans h
      refine lv_aload_n hx hb dX2_nights_18 rfl (lv_at hl 0 rfl) ?_
      refine tGet (T := TX2) (N := 13) (ci := 2) C hw inX2 0 0 rfl (by decide) kf_RX2_9 rfl rfl rfl dX2_nights_19 ?_
      refine lv_iconst (v := 2) hx hb dX2_nights_22 (by decide) ?_
      obtain ⟨r3, ir3, er3, h⟩ := rd_some h
      refine tLd C hw 1 rfl ir3 er3 dX2_nights_23 ?_
      refine lv_iload_n hx hb dX2_nights_24 rfl (lv_at hl 1 rfl) ?_
      refine lv_iadd hx hb dX2_nights_25 ?_
      refine lv_sipush (v := 999) hx hb dX2_nights_26 (by decide) ?_
      refine lv_icmp_le (tgt := 39) hx hb dX2_nights_29 (by decide) (fun c4 => ?_) (fun c4 => ?_)
      · replace h := (if_pos c4).symm.trans h
        refine lv_aload_n hx hb dX2_nights_39 rfl (lv_at hl 0 rfl) ?_
        refine tGet (T := TX2) (N := 13) (ci := 2) C hw inX2 0 0 rfl (by decide) kf_RX2_9 rfl rfl rfl dX2_nights_40 ?_
        refine lv_iload_n hx hb dX2_nights_43 rfl (lv_at hl 1 rfl) ?_
        refine lv_iconst (v := (-1)) hx hb dX2_nights_44 (by decide) ?_
        obtain ⟨w5, hw5, h⟩ := cl_some h
        obtain ⟨w6, ew6⟩ : ∃ y : VS, y = up Y 0 w5 := ⟨_, rfl⟩
        replace h := bn_some h ew6
        refine cSv (ws2 := (wM cA ad w6)) (As := [.ref (ad 1), .int a_1, .int (-1)]) (rest := []) C hw (by rw [ew6]; exact jM0) (kX2_nightsOn (ad 1) hw5) kl_RX2_128 kt_yX2_nightsOn kn_RX2 kc_yX2_nightsOn ⟨rfl, rfl⟩ hdX2_nightsOn ⟨Nat.le_of_ble_eq_true rfl, Nat.le_of_ble_eq_true rfl⟩ rfl hl.1 (Nat.le_of_ble_eq_true rfl) dX2_nights_45 ⟨Nat.zero_le _, Nat.zero_le _⟩ (fun H locs hw => ?_)
        refine lv_aload_n hx hb dX2_nights_48 rfl (lv_at hl 0 rfl) ?_
        refine tGet (T := TX2) (N := 13) (ci := 2) C hw inX2 0 0 rfl (by decide) kf_RX2_9 rfl rfl rfl dX2_nights_49 ?_
        refine lv_iconst (v := 3) hx hb dX2_nights_52 (by decide) ?_
        obtain ⟨r7, ir7, er7, h⟩ := rd_some h
        refine tLd C hw 1 rfl ir7 er7 dX2_nights_53 ?_
        obtain rfl := some_e h
        exact rtI C hr hw dX2_nights_54
      · replace h := (if_neg c4).symm.trans h
        exact kX2_nights_32 C hr Y h _ _ _ hw (lv_sub hl [0] rfl)
  · replace h := (if_neg c1).symm.trans h
    refine lv_aload_n hx hb dX2_nights_5 rfl (lv_at hl 0 rfl) ?_
    refine lv_bipush (v := (-4)) hx hb dX2_nights_6 (by decide) ?_
    obtain ⟨q8, hq8, h⟩ := cl_some h
    refine cVi (ws2 := (wM cA ad q8.2)) (As := [.int (-4)]) (rest := []) C hw jnW (kX2_no ad hq8) kl_RX2_36 ki_yX2_no ks_yX2_no kn_RX2 kc_yX2_no ⟨rfl, rfl⟩ hdX2_no ⟨Nat.le_of_ble_eq_true rfl, Nat.le_of_ble_eq_true rfl⟩ (ci := 2) (q0 := 0) rfl rfl rfl rfl hl.1 (Nat.le_of_ble_eq_true rfl) dX2_nights_8 ⟨Nat.zero_le _, Nat.zero_le _⟩ (fun H locs hw => ?_)
    obtain rfl := some_e h
    exact rtI C hr hw dX2_nights_11
abbrev rmX2_takes : Room := { frames := 7, cells := 0, slots := 0, locals := 160 }
theorem hdX2_takes : yX2_takes.cls = RX2 ∧ yX2_takes.cls ≠ "java/lang/invoke/MethodHandle" ∧ yX2_takes.cls ≠ "java/lang/invoke/VarHandle" ∧ (parseMethodDescriptor yX2_takes.desc).map (fun d => d.parameters.length) = some 1 := by decide +kernel
def fX2_takes (Y : VS) (a_1 : Int32) : Option VS := cl (fX2_copies (Y 0) (Y 1)) (fun w1 => bn (up Y 1 w1) (fun w2 => cl (fX2_nightsOn (w2 1) a_1 (-1)) (fun w3 => bn (up w2 1 w3) (fun w4 => some w4))))
set_option maxHeartbeats 4000000 in
set_option maxRecDepth 100000 in
theorem kX2_takes (ad : Nat → Nat) {Y : VS} {a_1 : Int32} {z : VS} (h : fX2_takes Y a_1 = some z) : MV l D cA g yX2_takes (Cond.code yX2_takes cX2_takes 2 none :: lw_g) rmX2_takes [.ref (ad 0), .int a_1] (wM cA ad Y) (wM cA ad z) := by
  intro sz
  refine Met.ofW (cc := cX2_takes) (maxL := 2) (ret := none) (by decide) rfl ?_
  intro p e s m args below meth c s₁ B hml hv
  obtain ⟨rfl, C, hr, hw⟩ := ent B hml hv
  generalize va_A (wM cA ad Y) sz = A at C hw ⊢
  have hl := lv_entry ([.ref (ad 0), .int a_1]) (n := 2) (Nat.le_of_ble_eq_true rfl)
  rw [lg_entry_eq]
  generalize (lg_sl ([.ref (ad 0), .int a_1]) ++ List.replicate (2 - (lg_sl ([.ref (ad 0), .int a_1])).length) Slot.unset).toArray = ls at hl ⊢
  have hl : lv_has ls 2 [(0, .ref (ad 0)), (1, .int a_1)] := hl
  have hx := C.1.1
  have hb := C.1.2.1
  have h : (cl (fX2_copies (Y 0) (Y 1)) (fun w1 => bn (up Y 1 w1) (fun w2 => cl (fX2_nightsOn (w2 1) a_1 (-1)) (fun w3 => bn (up w2 1 w3) (fun w4 => some w4))))) = some z := h
  refine lv_aload_n hx hb dX2_takes_0 rfl (lv_at hl 0 rfl) ?_
  refine tGet (T := TX2) (N := 13) (ci := 2) C hw inX2 0 0 rfl (by decide) kf_RX2_9 rfl rfl rfl dX2_takes_1 ?_
  refine lv_aload_n hx hb dX2_takes_4 rfl (lv_at hl 0 rfl) ?_
  refine tGet (T := TX2) (N := 13) (ci := 2) C hw inX2 1 0 rfl (by decide) kf_RX2_13 rfl rfl rfl dX2_takes_5 ?_
  obtain ⟨w1, hw1, h⟩ := cl_some h
  obtain ⟨w2, ew2⟩ : ∃ y : VS, y = up Y 1 w1 := ⟨_, rfl⟩
  replace h := bn_some h ew2
  refine cSv (ws2 := (wM cA ad w2)) (As := [.ref (ad 1), .ref (ad 2)]) (rest := []) C hw (by rw [ew2]; exact jMM01) (kX2_copies (ad 1) (ad 2) hw1) kl_RX2_134 kt_yX2_copies kn_RX2 kc_yX2_copies ⟨rfl, rfl⟩ hdX2_copies ⟨Nat.le_of_ble_eq_true rfl, Nat.le_of_ble_eq_true rfl⟩ rfl hl.1 (Nat.le_of_ble_eq_true rfl) dX2_takes_8 ⟨Nat.zero_le _, Nat.zero_le _⟩ (fun H locs hw => ?_)
  refine lv_aload_n hx hb dX2_takes_11 rfl (lv_at hl 0 rfl) ?_
  refine tGet (T := TX2) (N := 13) (ci := 2) C hw inX2 1 0 rfl (by decide) kf_RX2_13 rfl rfl rfl dX2_takes_12 ?_
  refine lv_iload_n hx hb dX2_takes_15 rfl (lv_at hl 1 rfl) ?_
  refine lv_iconst (v := (-1)) hx hb dX2_takes_16 (by decide) ?_
  obtain ⟨w3, hw3, h⟩ := cl_some h
  obtain ⟨w4, ew4⟩ : ∃ y : VS, y = up w2 1 w3 := ⟨_, rfl⟩
  replace h := bn_some h ew4
  refine cSv (ws2 := (wM cA ad w4)) (As := [.ref (ad 2), .int a_1, .int (-1)]) (rest := []) C hw (by rw [ew4]; exact jM1) (kX2_nightsOn (ad 2) hw3) kl_RX2_128 kt_yX2_nightsOn kn_RX2 kc_yX2_nightsOn ⟨rfl, rfl⟩ hdX2_nightsOn ⟨Nat.le_of_ble_eq_true rfl, Nat.le_of_ble_eq_true rfl⟩ rfl hl.1 (Nat.le_of_ble_eq_true rfl) dX2_takes_17 ⟨Nat.zero_le _, Nat.zero_le _⟩ (fun H locs hw => ?_)
  obtain rfl := some_e h
  exact rtV C hr hw dX2_takes_20
abbrev rmX2_wordsThen : Room := { frames := 8, cells := 0, slots := 0, locals := 181 }
theorem hdX2_wordsThen : yX2_wordsThen.cls = RX2 ∧ yX2_wordsThen.cls ≠ "java/lang/invoke/MethodHandle" ∧ yX2_wordsThen.cls ≠ "java/lang/invoke/VarHandle" ∧ (parseMethodDescriptor yX2_wordsThen.desc).map (fun d => d.parameters.length) = some 2 := by decide +kernel
def GX2_wordsThen_19 (p : Program) (l : Launch) (e : Env) (s : State) (m : MethodId) (args : Array Value) (below : List Frame) (meth : Method) (c : Code) (D : va_G) (cA : ClassId) (A : Nat → Prop) (ad : Nat → Nat) (z : (Int32 × VS)) (x : (VS) × (Int32) × (Int32) × (Int32)) : Prop := ∀ (H : Heap) (locs : List Loc) (ls : Array Slot), Wd D A s.heap (wM cA ad x.1) H locs → lv_has ls 4 [(0, .ref (ad 0)), (1, .int x.2.1), (2, .int x.2.2.1)] → W p l e rmX2_wordsThen s m args below meth c H locs 0 0 (MQ below (QI D cA A z.1 (wM cA ad z.2)) args s 0 0 A) (F0 m 19 ls [.int x.2.2.2])
def fX2_wordsThen_19 : ((VS) × (Int32) × (Int32) × (Int32)) → Option (Int32 × VS) := fun x => match x with | (Y, x_1, x_2, y_0) => if y_0 = 0 then cl (fX2_takes Y x_2) (fun w2 => cl (fX2_wordsOf (w2 1) x_1) (fun r3 => some (r3, w2))) else cl (fX2_no Y y_0) (fun q4 => some (q4.1, q4.2))
def fX2_wordsThen (Y : VS) (a_1 : Int32) (a_2 : Int32) : Option (Int32 × VS) := cl (fX2_isReader Y a_1) (fun r1 => if r1 = 0 then fX2_wordsThen_19 (Y, a_1, a_2, (-1)) else cl (fX2_wrongBy a_2 0 60) (fun r3 => fX2_wordsThen_19 (Y, a_1, a_2, r3)))
set_option maxHeartbeats 4000000 in
set_option maxRecDepth 100000 in
theorem kX2_wordsThen_19 (C : Cx p s m args meth c cX2_wordsThen 4 RX2 D cA g A) (hr : meth.sig.returnType = (some .int)) {z : (Int32 × VS)} (x : (VS) × (Int32) × (Int32) × (Int32)) (h : fX2_wordsThen_19 x = some z) : GX2_wordsThen_19 p l e s m args below meth c D cA A ad z x := by
  obtain ⟨Y, x_1, x_2, y_0⟩ := x
  intro H locs ls hw hl
  have hw : Wd D A s.heap (wM cA ad Y) H locs := hw
  have hl : lv_has ls 4 [(0, .ref (ad 0)), (1, .int x_1), (2, .int x_2)] := hl
  show W p l e rmX2_wordsThen s m args below meth c H locs 0 0 (MQ below (QI D cA A z.1 (wM cA ad z.2)) args s 0 0 A) (F0 m 19 ls [.int y_0])
  have hx := C.1.1
  have hb := C.1.2.1
  have h : (if y_0 = 0 then cl (fX2_takes Y x_2) (fun w2 => cl (fX2_wordsOf (w2 1) x_1) (fun r3 => some (r3, w2))) else cl (fX2_no Y y_0) (fun q4 => some (q4.1, q4.2))) = some z := h
  refine lv_istore_n (lv' := [(3, .int y_0), (0, .ref (ad 0)), (1, .int x_1), (2, .int x_2)]) hx hb dX2_wordsThen_19 rfl hl (by decide) rfl (fun ls hl => ?_)
  refine lv_iload_n hx hb dX2_wordsThen_20 rfl (lv_at hl 0 rfl) ?_
  refine lv_if_eq (tgt := 30) hx hb dX2_wordsThen_21 (by decide) (fun c1 => ?_) (fun c1 => ?_)
  · replace h := (if_pos c1).symm.trans h
    refine lv_aload_n hx hb dX2_wordsThen_30 rfl (lv_at hl 1 rfl) ?_
    refine lv_iload_n hx hb dX2_wordsThen_31 rfl (lv_at hl 3 rfl) ?_
    obtain ⟨w2, hw2, h⟩ := cl_some h
    refine cVv (ws2 := (wM cA ad w2)) (As := [.int x_2]) (rest := []) C hw jnW (kX2_takes ad hw2) kl_RX2_160 ki_yX2_takes ks_yX2_takes kn_RX2 kc_yX2_takes ⟨rfl, rfl⟩ hdX2_takes ⟨Nat.le_of_ble_eq_true rfl, Nat.le_of_ble_eq_true rfl⟩ (ci := 2) (q0 := 0) rfl rfl rfl rfl hl.1 (Nat.le_of_ble_eq_true rfl) dX2_wordsThen_32 ⟨Nat.zero_le _, Nat.zero_le _⟩ (fun H locs hw => ?_)
    refine lv_aload_n hx hb dX2_wordsThen_35 rfl (lv_at hl 1 rfl) ?_
    refine tGet (T := TX2) (N := 13) (ci := 2) C hw inX2 1 0 rfl (by decide) kf_RX2_13 rfl rfl rfl dX2_wordsThen_36 ?_
    refine lv_iload_n hx hb dX2_wordsThen_39 rfl (lv_at hl 2 rfl) ?_
    obtain ⟨r3, hr3, h⟩ := cl_some h
    refine cSi (ws2 := (wM cA ad w2)) (As := [.ref (ad 2), .int x_1]) (rest := []) C hw jM1r (kX2_wordsOf (ad 2) hr3) kl_RX2_91 kt_yX2_wordsOf kn_RX2 kc_yX2_wordsOf ⟨rfl, rfl⟩ hdX2_wordsOf ⟨Nat.le_of_ble_eq_true rfl, Nat.le_of_ble_eq_true rfl⟩ rfl hl.1 (Nat.le_of_ble_eq_true rfl) dX2_wordsThen_40 ⟨Nat.zero_le _, Nat.zero_le _⟩ (fun H locs hw => ?_)
    obtain rfl := some_e h
    exact rtI C hr hw dX2_wordsThen_43
  · replace h := (if_neg c1).symm.trans h
    refine lv_aload_n hx hb dX2_wordsThen_24 rfl (lv_at hl 1 rfl) ?_
    refine lv_iload_n hx hb dX2_wordsThen_25 rfl (lv_at hl 0 rfl) ?_
    obtain ⟨q4, hq4, h⟩ := cl_some h
    refine cVi (ws2 := (wM cA ad q4.2)) (As := [.int y_0]) (rest := []) C hw jnW (kX2_no ad hq4) kl_RX2_36 ki_yX2_no ks_yX2_no kn_RX2 kc_yX2_no ⟨rfl, rfl⟩ hdX2_no ⟨Nat.le_of_ble_eq_true rfl, Nat.le_of_ble_eq_true rfl⟩ (ci := 2) (q0 := 0) rfl rfl rfl rfl hl.1 (Nat.le_of_ble_eq_true rfl) dX2_wordsThen_26 ⟨Nat.zero_le _, Nat.zero_le _⟩ (fun H locs hw => ?_)
    obtain rfl := some_e h
    exact rtI C hr hw dX2_wordsThen_29
set_option maxHeartbeats 4000000 in
set_option maxRecDepth 100000 in
theorem kX2_wordsThen (ad : Nat → Nat) {Y : VS} {a_1 : Int32} {a_2 : Int32} {z : (Int32 × VS)} (h : fX2_wordsThen Y a_1 a_2 = some z) : MI l D cA g yX2_wordsThen (Cond.code yX2_wordsThen cX2_wordsThen 4 (some .int) :: lw_g) rmX2_wordsThen [.ref (ad 0), .int a_1, .int a_2] (wM cA ad Y) z.1 (wM cA ad z.2) := by
  intro sz
  refine Met.ofW (cc := cX2_wordsThen) (maxL := 4) (ret := (some .int)) (by decide) rfl ?_
  intro p e s m args below meth c s₁ B hml hv
  obtain ⟨rfl, C, hr, hw⟩ := ent B hml hv
  generalize va_A (wM cA ad Y) sz = A at C hw ⊢
  have hl := lv_entry ([.ref (ad 0), .int a_1, .int a_2]) (n := 4) (Nat.le_of_ble_eq_true rfl)
  rw [lg_entry_eq]
  generalize (lg_sl ([.ref (ad 0), .int a_1, .int a_2]) ++ List.replicate (4 - (lg_sl ([.ref (ad 0), .int a_1, .int a_2])).length) Slot.unset).toArray = ls at hl ⊢
  have hl : lv_has ls 4 [(0, .ref (ad 0)), (1, .int a_1), (2, .int a_2)] := hl
  have hx := C.1.1
  have hb := C.1.2.1
  have h : (cl (fX2_isReader Y a_1) (fun r1 => if r1 = 0 then fX2_wordsThen_19 (Y, a_1, a_2, (-1)) else cl (fX2_wrongBy a_2 0 60) (fun r3 => fX2_wordsThen_19 (Y, a_1, a_2, r3)))) = some z := h
  refine lv_aload_n hx hb dX2_wordsThen_0 rfl (lv_at hl 0 rfl) ?_
  refine lv_iload_n hx hb dX2_wordsThen_1 rfl (lv_at hl 1 rfl) ?_
  obtain ⟨r1, hr1, h⟩ := cl_some h
  refine cVi (ws2 := (wM cA ad Y)) (As := [.int a_1]) (rest := []) C hw jnW (kX2_isReader ad hr1) kl_RX2_147 ki_yX2_isReader ks_yX2_isReader kn_RX2 kc_yX2_isReader ⟨rfl, rfl⟩ hdX2_isReader ⟨Nat.le_of_ble_eq_true rfl, Nat.le_of_ble_eq_true rfl⟩ (ci := 2) (q0 := 0) rfl rfl rfl rfl hl.1 (Nat.le_of_ble_eq_true rfl) dX2_wordsThen_2 ⟨Nat.zero_le _, Nat.zero_le _⟩ (fun H locs hw => ?_)
  refine lv_if_eq (tgt := 18) hx hb dX2_wordsThen_5 (by decide) (fun c2 => ?_) (fun c2 => ?_)
  · replace h := (if_pos c2).symm.trans h
    refine lv_iconst (v := (-1)) hx hb dX2_wordsThen_18 (by decide) ?_
    exact kX2_wordsThen_19 C hr (Y, a_1, a_2, (-1)) h _ _ _ hw (lv_sub hl [0, 1, 2] rfl)
  · replace h := (if_neg c2).symm.trans h
    refine lv_iload_n hx hb dX2_wordsThen_8 rfl (lv_at hl 2 rfl) ?_
    refine lv_iconst (v := 0) hx hb dX2_wordsThen_9 (by decide) ?_
    refine lv_bipush (v := 60) hx hb dX2_wordsThen_10 (by decide) ?_
    obtain ⟨r3, hr3, h⟩ := cl_some h
    refine cSi (ws2 := (wM cA ad Y)) (As := [.int a_2, .int 0, .int 60]) (rest := []) C hw jnE (kX2_wrongBy hr3) kl_RX2_153 kt_yX2_wrongBy kn_RX2 kc_yX2_wrongBy ⟨rfl, rfl⟩ hdX2_wrongBy ⟨Nat.le_of_ble_eq_true rfl, Nat.le_of_ble_eq_true rfl⟩ rfl hl.1 (Nat.le_of_ble_eq_true rfl) dX2_wordsThen_12 ⟨Nat.zero_le _, Nat.zero_le _⟩ (fun H locs hw => ?_)
    refine lv_goto (tgt := 19) hx hb dX2_wordsThen_15 (by decide) ?_
    exact kX2_wordsThen_19 C hr (Y, a_1, a_2, r3) h _ _ _ hw (lv_sub hl [0, 1, 2] rfl)
abbrev rmX2_then : Room := { frames := 8, cells := 0, slots := 0, locals := 181 }
theorem hdX2_then : yX2_then.cls = RX2 ∧ yX2_then.cls ≠ "java/lang/invoke/MethodHandle" ∧ yX2_then.cls ≠ "java/lang/invoke/VarHandle" ∧ (parseMethodDescriptor yX2_then.desc).map (fun d => d.parameters.length) = some 2 := by decide +kernel
def GX2_then_24 (p : Program) (l : Launch) (e : Env) (s : State) (m : MethodId) (args : Array Value) (below : List Frame) (meth : Method) (c : Code) (D : va_G) (cA : ClassId) (A : Nat → Prop) (ad : Nat → Nat) (z : (Int32 × VS)) (x : (VS) × (Int32) × (Int32) × (Int32)) : Prop := ∀ (H : Heap) (locs : List Loc) (ls : Array Slot), Wd D A s.heap (wM cA ad x.1) H locs → lv_has ls 4 [(0, .ref (ad 0)), (1, .int x.2.1), (2, .int x.2.2.1), (3, .int x.2.2.2)] → W p l e rmX2_then s m args below meth c H locs 0 0 (MQ below (QI D cA A z.1 (wM cA ad z.2)) args s 0 0 A) (F0 m 24 ls [])
def fX2_then_24 : ((VS) × (Int32) × (Int32) × (Int32)) → Option (Int32 × VS) := fun x => match x with | (Y, x_1, x_2, x_3) => if x_3 = 0 then cl (fX2_takes Y x_1) (fun w2 => if x_2 = 0 then rd 81 (w2 1) 3 (fun r5 => some (r5, w2)) else cl (fX2_sentIn (w2 1)) (fun r4 => some (r4, w2))) else cl (fX2_no Y x_3) (fun q6 => some (q6.1, q6.2))
def fX2_then (Y : VS) (a_1 : Int32) (a_2 : Int32) : Option (Int32 × VS) := cl (fX2_wrongBy a_1 0 60) (fun r1 => if r1 = 0 then cl (fX2_isIn a_2 0 1) (fun r3 => if r3 = 0 then fX2_then_24 (Y, a_1, a_2, (-2)) else fX2_then_24 (Y, a_1, a_2, r1)) else fX2_then_24 (Y, a_1, a_2, r1))
set_option maxHeartbeats 4000000 in
set_option maxRecDepth 100000 in
theorem kX2_then_24 (C : Cx p s m args meth c cX2_then 4 RX2 D cA g A) (hr : meth.sig.returnType = (some .int)) {z : (Int32 × VS)} (x : (VS) × (Int32) × (Int32) × (Int32)) (h : fX2_then_24 x = some z) : GX2_then_24 p l e s m args below meth c D cA A ad z x := by
  obtain ⟨Y, x_1, x_2, x_3⟩ := x
  intro H locs ls hw hl
  have hw : Wd D A s.heap (wM cA ad Y) H locs := hw
  have hl : lv_has ls 4 [(0, .ref (ad 0)), (1, .int x_1), (2, .int x_2), (3, .int x_3)] := hl
  have hx := C.1.1
  have hb := C.1.2.1
  have h : (if x_3 = 0 then cl (fX2_takes Y x_1) (fun w2 => if x_2 = 0 then rd 81 (w2 1) 3 (fun r5 => some (r5, w2)) else cl (fX2_sentIn (w2 1)) (fun r4 => some (r4, w2))) else cl (fX2_no Y x_3) (fun q6 => some (q6.1, q6.2))) = some z := h
  refine lv_iload_n hx hb dX2_then_24 rfl (lv_at hl 3 rfl) ?_
  refine lv_if_eq (tgt := 34) hx hb dX2_then_25 (by decide) (fun c1 => ?_) (fun c1 => ?_)
  · replace h := (if_pos c1).symm.trans h
    refine lv_aload_n hx hb dX2_then_34 rfl (lv_at hl 0 rfl) ?_
    refine lv_iload_n hx hb dX2_then_35 rfl (lv_at hl 1 rfl) ?_
    obtain ⟨w2, hw2, h⟩ := cl_some h
    refine cVv (ws2 := (wM cA ad w2)) (As := [.int x_1]) (rest := []) C hw jnW (kX2_takes ad hw2) kl_RX2_160 ki_yX2_takes ks_yX2_takes kn_RX2 kc_yX2_takes ⟨rfl, rfl⟩ hdX2_takes ⟨Nat.le_of_ble_eq_true rfl, Nat.le_of_ble_eq_true rfl⟩ (ci := 2) (q0 := 0) rfl rfl rfl rfl hl.1 (Nat.le_of_ble_eq_true rfl) dX2_then_36 ⟨Nat.zero_le _, Nat.zero_le _⟩ (fun H locs hw => ?_)
    refine lv_iload_n hx hb dX2_then_39 rfl (lv_at hl 2 rfl) ?_
    refine lv_if_ne (tgt := 52) hx hb dX2_then_40 (by decide) (fun c3 => ?_) (fun c3 => ?_)
    · replace h := (if_neg c3).symm.trans h
      refine lv_aload_n hx hb dX2_then_52 rfl (lv_at hl 0 rfl) ?_
      refine tGet (T := TX2) (N := 13) (ci := 2) C hw inX2 1 0 rfl (by decide) kf_RX2_13 rfl rfl rfl dX2_then_53 ?_
      obtain ⟨r4, hr4, h⟩ := cl_some h
      refine cSi (ws2 := (wM cA ad w2)) (As := [.ref (ad 2)]) (rest := []) C hw jM1r (kX2_sentIn (ad 2) hr4) kl_RX2_150 kt_yX2_sentIn kn_RX2 kc_yX2_sentIn ⟨rfl, rfl⟩ hdX2_sentIn ⟨Nat.le_of_ble_eq_true rfl, Nat.le_of_ble_eq_true rfl⟩ rfl hl.1 (Nat.le_of_ble_eq_true rfl) dX2_then_56 ⟨Nat.zero_le _, Nat.zero_le _⟩ (fun H locs hw => ?_)
      obtain rfl := some_e h
      exact rtI C hr hw dX2_then_59
    · replace h := (if_pos c3).symm.trans h
      refine lv_aload_n hx hb dX2_then_43 rfl (lv_at hl 0 rfl) ?_
      refine tGet (T := TX2) (N := 13) (ci := 2) C hw inX2 1 0 rfl (by decide) kf_RX2_13 rfl rfl rfl dX2_then_44 ?_
      refine lv_iconst (v := 3) hx hb dX2_then_47 (by decide) ?_
      obtain ⟨r5, ir5, er5, h⟩ := rd_some h
      refine tLd C hw 2 rfl ir5 er5 dX2_then_48 ?_
      refine lv_goto (tgt := 59) hx hb dX2_then_49 (by decide) ?_
      obtain rfl := some_e h
      exact rtI C hr hw dX2_then_59
  · replace h := (if_neg c1).symm.trans h
    refine lv_aload_n hx hb dX2_then_28 rfl (lv_at hl 0 rfl) ?_
    refine lv_iload_n hx hb dX2_then_29 rfl (lv_at hl 3 rfl) ?_
    obtain ⟨q6, hq6, h⟩ := cl_some h
    refine cVi (ws2 := (wM cA ad q6.2)) (As := [.int x_3]) (rest := []) C hw jnW (kX2_no ad hq6) kl_RX2_36 ki_yX2_no ks_yX2_no kn_RX2 kc_yX2_no ⟨rfl, rfl⟩ hdX2_no ⟨Nat.le_of_ble_eq_true rfl, Nat.le_of_ble_eq_true rfl⟩ (ci := 2) (q0 := 0) rfl rfl rfl rfl hl.1 (Nat.le_of_ble_eq_true rfl) dX2_then_30 ⟨Nat.zero_le _, Nat.zero_le _⟩ (fun H locs hw => ?_)
    obtain rfl := some_e h
    exact rtI C hr hw dX2_then_33
set_option maxHeartbeats 4000000 in
set_option maxRecDepth 100000 in
theorem kX2_then (ad : Nat → Nat) {Y : VS} {a_1 : Int32} {a_2 : Int32} {z : (Int32 × VS)} (h : fX2_then Y a_1 a_2 = some z) : MI l D cA g yX2_then (Cond.code yX2_then cX2_then 4 (some .int) :: lw_g) rmX2_then [.ref (ad 0), .int a_1, .int a_2] (wM cA ad Y) z.1 (wM cA ad z.2) := by
  intro sz
  refine Met.ofW (cc := cX2_then) (maxL := 4) (ret := (some .int)) (by decide) rfl ?_
  intro p e s m args below meth c s₁ B hml hv
  obtain ⟨rfl, C, hr, hw⟩ := ent B hml hv
  generalize va_A (wM cA ad Y) sz = A at C hw ⊢
  have hl := lv_entry ([.ref (ad 0), .int a_1, .int a_2]) (n := 4) (Nat.le_of_ble_eq_true rfl)
  rw [lg_entry_eq]
  generalize (lg_sl ([.ref (ad 0), .int a_1, .int a_2]) ++ List.replicate (4 - (lg_sl ([.ref (ad 0), .int a_1, .int a_2])).length) Slot.unset).toArray = ls at hl ⊢
  have hl : lv_has ls 4 [(0, .ref (ad 0)), (1, .int a_1), (2, .int a_2)] := hl
  have hx := C.1.1
  have hb := C.1.2.1
  have h : (cl (fX2_wrongBy a_1 0 60) (fun r1 => if r1 = 0 then cl (fX2_isIn a_2 0 1) (fun r3 => if r3 = 0 then fX2_then_24 (Y, a_1, a_2, (-2)) else fX2_then_24 (Y, a_1, a_2, r1)) else fX2_then_24 (Y, a_1, a_2, r1))) = some z := h
  refine lv_iload_n hx hb dX2_then_0 rfl (lv_at hl 1 rfl) ?_
  refine lv_iconst (v := 0) hx hb dX2_then_1 (by decide) ?_
  refine lv_bipush (v := 60) hx hb dX2_then_2 (by decide) ?_
  obtain ⟨r1, hr1, h⟩ := cl_some h
  refine cSi (ws2 := (wM cA ad Y)) (As := [.int a_1, .int 0, .int 60]) (rest := []) C hw jnE (kX2_wrongBy hr1) kl_RX2_153 kt_yX2_wrongBy kn_RX2 kc_yX2_wrongBy ⟨rfl, rfl⟩ hdX2_wrongBy ⟨Nat.le_of_ble_eq_true rfl, Nat.le_of_ble_eq_true rfl⟩ rfl hl.1 (Nat.le_of_ble_eq_true rfl) dX2_then_4 ⟨Nat.zero_le _, Nat.zero_le _⟩ (fun H locs hw => ?_)
  refine lv_istore_n (lv' := [(3, .int r1), (0, .ref (ad 0)), (1, .int a_1), (2, .int a_2)]) hx hb dX2_then_7 rfl hl (by decide) rfl (fun ls hl => ?_)
  refine lv_iload_n hx hb dX2_then_8 rfl (lv_at hl 0 rfl) ?_
  refine lv_if_ne (tgt := 24) hx hb dX2_then_9 (by decide) (fun c2 => ?_) (fun c2 => ?_)
  · replace h := (if_neg c2).symm.trans h
    exact kX2_then_24 C hr (Y, a_1, a_2, r1) h _ _ _ hw (lv_sub hl [1, 2, 3, 0] rfl)
  · replace h := (if_pos c2).symm.trans h
    refine lv_iload_n hx hb dX2_then_12 rfl (lv_at hl 3 rfl) ?_
    refine lv_iconst (v := 0) hx hb dX2_then_13 (by decide) ?_
    refine lv_iconst (v := 1) hx hb dX2_then_14 (by decide) ?_
    obtain ⟨r3, hr3, h⟩ := cl_some h
    refine cSi (ws2 := (wM cA ad Y)) (As := [.int a_2, .int 0, .int 1]) (rest := []) C hw jnE (kX2_isIn hr3) kl_RX2_40 kt_yX2_isIn kn_RX2 kc_yX2_isIn ⟨rfl, rfl⟩ hdX2_isIn ⟨Nat.le_of_ble_eq_true rfl, Nat.le_of_ble_eq_true rfl⟩ rfl hl.1 (Nat.le_of_ble_eq_true rfl) dX2_then_15 ⟨Nat.zero_le _, Nat.zero_le _⟩ (fun H locs hw => ?_)
    refine lv_if_ne (tgt := 24) hx hb dX2_then_18 (by decide) (fun c4 => ?_) (fun c4 => ?_)
    · replace h := (if_neg c4).symm.trans h
      exact kX2_then_24 C hr (Y, a_1, a_2, r1) h _ _ _ hw (lv_sub hl [1, 2, 3, 0] rfl)
    · replace h := (if_pos c4).symm.trans h
      refine lv_bipush (v := (-2)) hx hb dX2_then_21 (by decide) ?_
      refine lv_istore_n (lv' := [(3, .int (-2)), (0, .ref (ad 0)), (1, .int a_1), (2, .int a_2)]) hx hb dX2_then_23 rfl hl (by decide) rfl (fun ls hl => ?_)
      exact kX2_then_24 C hr (Y, a_1, a_2, (-2)) h _ _ _ hw (lv_sub hl [1, 2, 3, 0] rfl)
abbrev rmX2_wholeOf : Room := { frames := 6, cells := 0, slots := 0, locals := 137 }
theorem hdX2_wholeOf : yX2_wholeOf.cls = RX2 ∧ yX2_wholeOf.cls ≠ "java/lang/invoke/MethodHandle" ∧ yX2_wholeOf.cls ≠ "java/lang/invoke/VarHandle" ∧ (parseMethodDescriptor yX2_wholeOf.desc).map (fun d => d.parameters.length) = some 1 := by decide +kernel
def GX2_wholeOf_13 (p : Program) (l : Launch) (e : Env) (s : State) (m : MethodId) (args : Array Value) (below : List Frame) (meth : Method) (c : Code) (D : va_G) (cA : ClassId) (A : Nat → Prop) (ad : Nat → Nat) (z : (Int32 × VS)) (x : (VS) × (Int32) × (Int32)) : Prop := ∀ (H : Heap) (locs : List Loc) (ls : Array Slot), Wd D A s.heap (wM cA ad x.1) H locs → lv_has ls 3 [(0, .ref (ad 0)), (1, .int x.2.1), (2, .int x.2.2)] → W p l e rmX2_wholeOf s m args below meth c H locs 0 0 (MQ below (QI D cA A z.1 (wM cA ad z.2)) args s 0 0 A) (F0 m 13 ls [])
def fX2_wholeOf_13 (k13 : ((VS) × (Int32) × (Int32)) → Option (Int32 × VS)) : ((VS) × (Int32) × (Int32)) → Option (Int32 × VS) := fun x => match x with | (Y, x_1, x_2) => if 60 < x_2 then some ((-9), Y) else cl (fX2_wordsOf (Y 1) x_1) (fun r2 => if r2 = 63 then some (x_2, Y) else cl (fX2_night (Y 1) (-1)) (fun w4 => bn (up Y 1 w4) (fun w5 => bn (x_2 + 1) (fun x6 => k13 (w5, x_1, x6)))))
def fX2_wholeOf (Y : VS) (a_1 : Int32) : Option (Int32 × VS) := cl (fX2_copies (Y 0) (Y 1)) (fun w1 => bn (up Y 1 w1) (fun w2 => lp (fX2_wholeOf_13) 5000 (w2, a_1, 0)))
set_option maxHeartbeats 4000000 in
set_option maxRecDepth 100000 in
theorem kX2_wholeOf_13 (C : Cx p s m args meth c cX2_wholeOf 3 RX2 D cA g A) (hr : meth.sig.returnType = (some .int)) {z : (Int32 × VS)} (k13 : ((VS) × (Int32) × (Int32)) → Option (Int32 × VS)) (hk13 : ∀ x, k13 x = some z → GX2_wholeOf_13 p l e s m args below meth c D cA A ad z x) (x : (VS) × (Int32) × (Int32)) (h : fX2_wholeOf_13 k13 x = some z) : GX2_wholeOf_13 p l e s m args below meth c D cA A ad z x := by
  obtain ⟨Y, x_1, x_2⟩ := x
  intro H locs ls hw hl
  have hw : Wd D A s.heap (wM cA ad Y) H locs := hw
  have hl : lv_has ls 3 [(0, .ref (ad 0)), (1, .int x_1), (2, .int x_2)] := hl
  have hx := C.1.1
  have hb := C.1.2.1
  have h : (if 60 < x_2 then some ((-9), Y) else cl (fX2_wordsOf (Y 1) x_1) (fun r2 => if r2 = 63 then some (x_2, Y) else cl (fX2_night (Y 1) (-1)) (fun w4 => bn (up Y 1 w4) (fun w5 => bn (x_2 + 1) (fun x6 => k13 (w5, x_1, x6)))))) = some z := h
  refine lv_iload_n hx hb dX2_wholeOf_13 rfl (lv_at hl 2 rfl) ?_
  refine lv_bipush (v := 60) hx hb dX2_wholeOf_14 (by decide) ?_
  refine lv_icmp_gt (tgt := 48) hx hb dX2_wholeOf_16 (by decide) (fun c1 => ?_) (fun c1 => ?_)
  · replace h := (if_pos c1).symm.trans h
    refine lv_bipush (v := (-9)) hx hb dX2_wholeOf_48 (by decide) ?_
    obtain rfl := some_e h
    exact rtI C hr hw dX2_wholeOf_50
  · replace h := (if_neg c1).symm.trans h
    refine lv_aload_n hx hb dX2_wholeOf_19 rfl (lv_at hl 0 rfl) ?_
    refine tGet (T := TX2) (N := 13) (ci := 2) C hw inX2 1 0 rfl (by decide) kf_RX2_13 rfl rfl rfl dX2_wholeOf_20 ?_
    refine lv_iload_n hx hb dX2_wholeOf_23 rfl (lv_at hl 1 rfl) ?_
    obtain ⟨r2, hr2, h⟩ := cl_some h
    refine cSi (ws2 := (wM cA ad Y)) (As := [.ref (ad 2), .int x_1]) (rest := []) C hw jM1r (kX2_wordsOf (ad 2) hr2) kl_RX2_91 kt_yX2_wordsOf kn_RX2 kc_yX2_wordsOf ⟨rfl, rfl⟩ hdX2_wordsOf ⟨Nat.le_of_ble_eq_true rfl, Nat.le_of_ble_eq_true rfl⟩ rfl hl.1 (Nat.le_of_ble_eq_true rfl) dX2_wholeOf_24 ⟨Nat.zero_le _, Nat.zero_le _⟩ (fun H locs hw => ?_)
    refine lv_bipush (v := 63) hx hb dX2_wholeOf_27 (by decide) ?_
    refine lv_icmp_ne (tgt := 34) hx hb dX2_wholeOf_29 (by decide) (fun c3 => ?_) (fun c3 => ?_)
    · replace h := (if_neg c3).symm.trans h
      refine lv_aload_n hx hb dX2_wholeOf_34 rfl (lv_at hl 0 rfl) ?_
      refine tGet (T := TX2) (N := 13) (ci := 2) C hw inX2 1 0 rfl (by decide) kf_RX2_13 rfl rfl rfl dX2_wholeOf_35 ?_
      refine lv_iconst (v := (-1)) hx hb dX2_wholeOf_38 (by decide) ?_
      obtain ⟨w4, hw4, h⟩ := cl_some h
      obtain ⟨w5, ew5⟩ : ∃ y : VS, y = up Y 1 w4 := ⟨_, rfl⟩
      replace h := bn_some h ew5
      refine cSv (ws2 := (wM cA ad w5)) (As := [.ref (ad 2), .int (-1)]) (rest := []) C hw (by rw [ew5]; exact jM1) (kX2_night (ad 2) hw4) kl_RX2_87 kt_yX2_night kn_RX2 kc_yX2_night ⟨rfl, rfl⟩ hdX2_night ⟨Nat.le_of_ble_eq_true rfl, Nat.le_of_ble_eq_true rfl⟩ rfl hl.1 (Nat.le_of_ble_eq_true rfl) dX2_wholeOf_39 ⟨Nat.zero_le _, Nat.zero_le _⟩ (fun H locs hw => ?_)
      obtain ⟨x6, ex6⟩ : ∃ y : Int32, y = x_2 + 1 := ⟨_, rfl⟩
      replace h := bn_some h ex6
      refine lv_iinc (v := x6) (lv' := [(2, .int x6), (0, .ref (ad 0)), (1, .int x_1)]) hx hb dX2_wholeOf_42 hl (k := 2) rfl (by rw [ex6]; rfl) (by decide) rfl (fun ls hl => ?_)
      refine lv_goto (tgt := 13) hx hb dX2_wholeOf_45 (by decide) ?_
      exact hk13 (w5, x_1, x6) h _ _ _ hw (lv_sub hl [1, 2, 0] rfl)
    · replace h := (if_pos c3).symm.trans h
      refine lv_iload_n hx hb dX2_wholeOf_32 rfl (lv_at hl 2 rfl) ?_
      obtain rfl := some_e h
      exact rtI C hr hw dX2_wholeOf_33
theorem lX2_wholeOf_13 (C : Cx p s m args meth c cX2_wholeOf 3 RX2 D cA g A) (hr : meth.sig.returnType = (some .int)) {z : (Int32 × VS)} (n : Nat) (x : (VS) × (Int32) × (Int32)) (h : lp (fX2_wholeOf_13) n x = some z) : GX2_wholeOf_13 p l e s m args below meth c D cA A ad z x := lp_ok (GX2_wholeOf_13 p l e s m args below meth c D cA A ad z) (fun kq hkq x h => kX2_wholeOf_13 C hr kq hkq x h) n x h
set_option maxHeartbeats 4000000 in
set_option maxRecDepth 100000 in
theorem kX2_wholeOf (ad : Nat → Nat) {Y : VS} {a_1 : Int32} {z : (Int32 × VS)} (h : fX2_wholeOf Y a_1 = some z) : MI l D cA g yX2_wholeOf (Cond.code yX2_wholeOf cX2_wholeOf 3 (some .int) :: lw_g) rmX2_wholeOf [.ref (ad 0), .int a_1] (wM cA ad Y) z.1 (wM cA ad z.2) := by
  intro sz
  refine Met.ofW (cc := cX2_wholeOf) (maxL := 3) (ret := (some .int)) (by decide) rfl ?_
  intro p e s m args below meth c s₁ B hml hv
  obtain ⟨rfl, C, hr, hw⟩ := ent B hml hv
  generalize va_A (wM cA ad Y) sz = A at C hw ⊢
  have hl := lv_entry ([.ref (ad 0), .int a_1]) (n := 3) (Nat.le_of_ble_eq_true rfl)
  rw [lg_entry_eq]
  generalize (lg_sl ([.ref (ad 0), .int a_1]) ++ List.replicate (3 - (lg_sl ([.ref (ad 0), .int a_1])).length) Slot.unset).toArray = ls at hl ⊢
  have hl : lv_has ls 3 [(0, .ref (ad 0)), (1, .int a_1)] := hl
  have hx := C.1.1
  have hb := C.1.2.1
  have h : (cl (fX2_copies (Y 0) (Y 1)) (fun w1 => bn (up Y 1 w1) (fun w2 => lp (fX2_wholeOf_13) 5000 (w2, a_1, 0)))) = some z := h
  refine lv_aload_n hx hb dX2_wholeOf_0 rfl (lv_at hl 0 rfl) ?_
  refine tGet (T := TX2) (N := 13) (ci := 2) C hw inX2 0 0 rfl (by decide) kf_RX2_9 rfl rfl rfl dX2_wholeOf_1 ?_
  refine lv_aload_n hx hb dX2_wholeOf_4 rfl (lv_at hl 0 rfl) ?_
  refine tGet (T := TX2) (N := 13) (ci := 2) C hw inX2 1 0 rfl (by decide) kf_RX2_13 rfl rfl rfl dX2_wholeOf_5 ?_
  obtain ⟨w1, hw1, h⟩ := cl_some h
  obtain ⟨w2, ew2⟩ : ∃ y : VS, y = up Y 1 w1 := ⟨_, rfl⟩
  replace h := bn_some h ew2
  refine cSv (ws2 := (wM cA ad w2)) (As := [.ref (ad 1), .ref (ad 2)]) (rest := []) C hw (by rw [ew2]; exact jMM01) (kX2_copies (ad 1) (ad 2) hw1) kl_RX2_134 kt_yX2_copies kn_RX2 kc_yX2_copies ⟨rfl, rfl⟩ hdX2_copies ⟨Nat.le_of_ble_eq_true rfl, Nat.le_of_ble_eq_true rfl⟩ rfl hl.1 (Nat.le_of_ble_eq_true rfl) dX2_wholeOf_8 ⟨Nat.zero_le _, Nat.zero_le _⟩ (fun H locs hw => ?_)
  refine lv_iconst (v := 0) hx hb dX2_wholeOf_11 (by decide) ?_
  refine lv_istore_n (lv' := [(2, .int 0), (0, .ref (ad 0)), (1, .int a_1)]) hx hb dX2_wholeOf_12 rfl hl (by decide) rfl (fun ls hl => ?_)
  exact lX2_wholeOf_13 C hr 5000 (w2, a_1, 0) h _ _ _ hw (lv_sub hl [1, 2, 0] rfl)
abbrev rmX2_firstWhole : Room := { frames := 7, cells := 0, slots := 0, locals := 159 }
theorem hdX2_firstWhole : yX2_firstWhole.cls = RX2 ∧ yX2_firstWhole.cls ≠ "java/lang/invoke/MethodHandle" ∧ yX2_firstWhole.cls ≠ "java/lang/invoke/VarHandle" ∧ (parseMethodDescriptor yX2_firstWhole.desc).map (fun d => d.parameters.length) = some 0 := by decide +kernel
def GX2_firstWhole_44 (p : Program) (l : Launch) (e : Env) (s : State) (m : MethodId) (args : Array Value) (below : List Frame) (meth : Method) (c : Code) (D : va_G) (cA : ClassId) (A : Nat → Prop) (ad : Nat → Nat) (z : (Int32 × VS)) (x : (VS) × (Int32) × (Int32) × (Int32)) : Prop := ∀ (H : Heap) (locs : List Loc) (ls : Array Slot), Wd D A s.heap (wM cA ad x.1) H locs → lv_has ls 5 [(0, .ref (ad 0)), (1, .int x.2.1), (2, .int x.2.2.1), (3, .int x.2.2.2)] → W p l e rmX2_firstWhole s m args below meth c H locs 0 0 (MQ below (QI D cA A z.1 (wM cA ad z.2)) args s 0 0 A) (F0 m 44 ls [])
def GX2_firstWhole_8 (p : Program) (l : Launch) (e : Env) (s : State) (m : MethodId) (args : Array Value) (below : List Frame) (meth : Method) (c : Code) (D : va_G) (cA : ClassId) (A : Nat → Prop) (ad : Nat → Nat) (z : (Int32 × VS)) (x : (VS) × (Int32) × (Int32) × (Int32)) : Prop := ∀ (H : Heap) (locs : List Loc) (ls : Array Slot), Wd D A s.heap (wM cA ad x.1) H locs → lv_has ls 5 [(0, .ref (ad 0)), (1, .int x.2.1), (2, .int x.2.2.1), (3, .int x.2.2.2)] → W p l e rmX2_firstWhole s m args below meth c H locs 0 0 (MQ below (QI D cA A z.1 (wM cA ad z.2)) args s 0 0 A) (F0 m 8 ls [])
def fX2_firstWhole_44 (k8 : ((VS) × (Int32) × (Int32) × (Int32)) → Option (Int32 × VS)) : ((VS) × (Int32) × (Int32) × (Int32)) → Option (Int32 × VS) := fun x => match x with | (Y, x_1, x_2, x_3) => bn (x_3 + 1) (fun x1 => k8 (Y, x_1, x_2, x1))
def fX2_firstWhole_8 (k8 : ((VS) × (Int32) × (Int32) × (Int32)) → Option (Int32 × VS)) : ((VS) × (Int32) × (Int32) × (Int32)) → Option (Int32 × VS) := fun x => match x with | (Y, x_1, x_2, x_3) => rd 81 (Y 0) 1 (fun r1 => if r1 ≤ x_3 then some (x_1, Y) else cl (fX2_wholeOf Y x_3) (fun q3 => bn q3.1 (fun x4 => if x4 < 0 then fX2_firstWhole_44 k8 (q3.2, x_1, x_2, x_3) else if x4 < x_2 then fX2_firstWhole_44 k8 (q3.2, x_3, x4, x_3) else fX2_firstWhole_44 k8 (q3.2, x_1, x_2, x_3))))
def fX2_firstWhole (Y : VS) : Option (Int32 × VS) := lp (fX2_firstWhole_8) 5000 (Y, (-9), 1000000000, 0)
set_option maxHeartbeats 4000000 in
set_option maxRecDepth 100000 in
theorem kX2_firstWhole_44 (C : Cx p s m args meth c cX2_firstWhole 5 RX2 D cA g A) (hr : meth.sig.returnType = (some .int)) {z : (Int32 × VS)} (k8 : ((VS) × (Int32) × (Int32) × (Int32)) → Option (Int32 × VS)) (hk8 : ∀ x, k8 x = some z → GX2_firstWhole_8 p l e s m args below meth c D cA A ad z x) (x : (VS) × (Int32) × (Int32) × (Int32)) (h : fX2_firstWhole_44 k8 x = some z) : GX2_firstWhole_44 p l e s m args below meth c D cA A ad z x := by
  obtain ⟨Y, x_1, x_2, x_3⟩ := x
  intro H locs ls hw hl
  have hw : Wd D A s.heap (wM cA ad Y) H locs := hw
  have hl : lv_has ls 5 [(0, .ref (ad 0)), (1, .int x_1), (2, .int x_2), (3, .int x_3)] := hl
  have hx := C.1.1
  have hb := C.1.2.1
  have h : (bn (x_3 + 1) (fun x1 => k8 (Y, x_1, x_2, x1))) = some z := h
  obtain ⟨x1, ex1⟩ : ∃ y : Int32, y = x_3 + 1 := ⟨_, rfl⟩
  replace h := bn_some h ex1
  refine lv_iinc (v := x1) (lv' := [(3, .int x1), (0, .ref (ad 0)), (1, .int x_1), (2, .int x_2)]) hx hb dX2_firstWhole_44 hl (k := 3) rfl (by rw [ex1]; rfl) (by decide) rfl (fun ls hl => ?_)
  refine lv_goto (tgt := 8) hx hb dX2_firstWhole_47 (by decide) ?_
  exact hk8 (Y, x_1, x_2, x1) h _ _ _ hw (lv_sub hl [1, 2, 3, 0] rfl)
set_option maxHeartbeats 4000000 in
set_option maxRecDepth 100000 in
theorem kX2_firstWhole_8 (C : Cx p s m args meth c cX2_firstWhole 5 RX2 D cA g A) (hr : meth.sig.returnType = (some .int)) {z : (Int32 × VS)} (k8 : ((VS) × (Int32) × (Int32) × (Int32)) → Option (Int32 × VS)) (hk8 : ∀ x, k8 x = some z → GX2_firstWhole_8 p l e s m args below meth c D cA A ad z x) (x : (VS) × (Int32) × (Int32) × (Int32)) (h : fX2_firstWhole_8 k8 x = some z) : GX2_firstWhole_8 p l e s m args below meth c D cA A ad z x := by
  obtain ⟨Y, x_1, x_2, x_3⟩ := x
  intro H locs ls hw hl
  have hw : Wd D A s.heap (wM cA ad Y) H locs := hw
  have hl : lv_has ls 5 [(0, .ref (ad 0)), (1, .int x_1), (2, .int x_2), (3, .int x_3)] := hl
  have hx := C.1.1
  have hb := C.1.2.1
  have h : (rd 81 (Y 0) 1 (fun r1 => if r1 ≤ x_3 then some (x_1, Y) else cl (fX2_wholeOf Y x_3) (fun q3 => bn q3.1 (fun x4 => if x4 < 0 then fX2_firstWhole_44 k8 (q3.2, x_1, x_2, x_3) else if x4 < x_2 then fX2_firstWhole_44 k8 (q3.2, x_3, x4, x_3) else fX2_firstWhole_44 k8 (q3.2, x_1, x_2, x_3))))) = some z := h
  refine lv_iload_n hx hb dX2_firstWhole_8 rfl (lv_at hl 3 rfl) ?_
  refine lv_aload_n hx hb dX2_firstWhole_9 rfl (lv_at hl 0 rfl) ?_
  refine tGet (T := TX2) (N := 13) (ci := 2) C hw inX2 0 0 rfl (by decide) kf_RX2_9 rfl rfl rfl dX2_firstWhole_10 ?_
  refine lv_iconst (v := 1) hx hb dX2_firstWhole_13 (by decide) ?_
  obtain ⟨r1, ir1, er1, h⟩ := rd_some h
  refine tLd C hw 1 rfl ir1 er1 dX2_firstWhole_14 ?_
  refine lv_icmp_ge (tgt := 50) hx hb dX2_firstWhole_15 (by decide) (fun c2 => ?_) (fun c2 => ?_)
  · replace h := (if_pos c2).symm.trans h
    refine lv_iload_n hx hb dX2_firstWhole_50 rfl (lv_at hl 1 rfl) ?_
    obtain rfl := some_e h
    exact rtI C hr hw dX2_firstWhole_51
  · replace h := (if_neg c2).symm.trans h
    refine lv_aload_n hx hb dX2_firstWhole_18 rfl (lv_at hl 0 rfl) ?_
    refine lv_iload_n hx hb dX2_firstWhole_19 rfl (lv_at hl 3 rfl) ?_
    obtain ⟨q3, hq3, h⟩ := cl_some h
    refine cVi (ws2 := (wM cA ad q3.2)) (As := [.int x_3]) (rest := []) C hw jnW (kX2_wholeOf ad hq3) kl_RX2_165 ki_yX2_wholeOf ks_yX2_wholeOf kn_RX2 kc_yX2_wholeOf ⟨rfl, rfl⟩ hdX2_wholeOf ⟨Nat.le_of_ble_eq_true rfl, Nat.le_of_ble_eq_true rfl⟩ (ci := 2) (q0 := 0) rfl rfl rfl rfl hl.1 (Nat.le_of_ble_eq_true rfl) dX2_firstWhole_20 ⟨Nat.zero_le _, Nat.zero_le _⟩ (fun H locs hw => ?_)
    refine lv_topi (fun x4 ex4 => ?_)
    replace h := bn_some h ex4
    refine lv_istore (lv' := [(4, .int x4), (0, .ref (ad 0)), (1, .int x_1), (2, .int x_2), (3, .int x_3)]) hx hb dX2_firstWhole_23 hl (by decide) rfl (fun ls hl => ?_)
    refine lv_iload hx hb dX2_firstWhole_25 (lv_at hl 0 rfl) ?_
    refine lv_if_lt (tgt := 44) hx hb dX2_firstWhole_27 (by decide) (fun c5 => ?_) (fun c5 => ?_)
    · replace h := (if_pos c5).symm.trans h
      exact kX2_firstWhole_44 C hr k8 hk8 (q3.2, x_1, x_2, x_3) h _ _ _ hw (lv_sub hl [1, 2, 3, 4] rfl)
    · replace h := (if_neg c5).symm.trans h
      refine lv_iload hx hb dX2_firstWhole_30 (lv_at hl 0 rfl) ?_
      refine lv_iload_n hx hb dX2_firstWhole_32 rfl (lv_at hl 3 rfl) ?_
      refine lv_icmp_lt (tgt := 39) hx hb dX2_firstWhole_33 (by decide) (fun c6 => ?_) (fun c6 => ?_)
      · replace h := (if_pos c6).symm.trans h
        refine lv_iload_n hx hb dX2_firstWhole_39 rfl (lv_at hl 4 rfl) ?_
        refine lv_istore_n (lv' := [(1, .int x_3), (4, .int x4), (0, .ref (ad 0)), (2, .int x_2), (3, .int x_3)]) hx hb dX2_firstWhole_40 rfl hl (by decide) rfl (fun ls hl => ?_)
        refine lv_iload hx hb dX2_firstWhole_41 (lv_at hl 1 rfl) ?_
        refine lv_istore_n (lv' := [(2, .int x4), (1, .int x_3), (4, .int x4), (0, .ref (ad 0)), (3, .int x_3)]) hx hb dX2_firstWhole_43 rfl hl (by decide) rfl (fun ls hl => ?_)
        exact kX2_firstWhole_44 C hr k8 hk8 (q3.2, x_3, x4, x_3) h _ _ _ hw (lv_sub hl [3, 1, 0, 4] rfl)
      · replace h := (if_neg c6).symm.trans h
        refine lv_goto (tgt := 44) hx hb dX2_firstWhole_36 (by decide) ?_
        exact kX2_firstWhole_44 C hr k8 hk8 (q3.2, x_1, x_2, x_3) h _ _ _ hw (lv_sub hl [1, 2, 3, 4] rfl)
theorem lX2_firstWhole_8 (C : Cx p s m args meth c cX2_firstWhole 5 RX2 D cA g A) (hr : meth.sig.returnType = (some .int)) {z : (Int32 × VS)} (n : Nat) (x : (VS) × (Int32) × (Int32) × (Int32)) (h : lp (fX2_firstWhole_8) n x = some z) : GX2_firstWhole_8 p l e s m args below meth c D cA A ad z x := lp_ok (GX2_firstWhole_8 p l e s m args below meth c D cA A ad z) (fun kq hkq x h => kX2_firstWhole_8 C hr kq hkq x h) n x h
set_option maxHeartbeats 4000000 in
set_option maxRecDepth 100000 in
theorem kX2_firstWhole (ad : Nat → Nat) {Y : VS} {z : (Int32 × VS)} (h : fX2_firstWhole Y = some z) : MI l D cA g yX2_firstWhole (Cond.code yX2_firstWhole cX2_firstWhole 5 (some .int) :: lw_g) rmX2_firstWhole [.ref (ad 0)] (wM cA ad Y) z.1 (wM cA ad z.2) := by
  intro sz
  refine Met.ofW (cc := cX2_firstWhole) (maxL := 5) (ret := (some .int)) (by decide) rfl ?_
  intro p e s m args below meth c s₁ B hml hv
  obtain ⟨rfl, C, hr, hw⟩ := ent B hml hv
  generalize va_A (wM cA ad Y) sz = A at C hw ⊢
  have hl := lv_entry ([.ref (ad 0)]) (n := 5) (Nat.le_of_ble_eq_true rfl)
  rw [lg_entry_eq]
  generalize (lg_sl ([.ref (ad 0)]) ++ List.replicate (5 - (lg_sl ([.ref (ad 0)])).length) Slot.unset).toArray = ls at hl ⊢
  have hl : lv_has ls 5 [(0, .ref (ad 0))] := hl
  have hx := C.1.1
  have hb := C.1.2.1
  have h : (lp (fX2_firstWhole_8) 5000 (Y, (-9), 1000000000, 0)) = some z := h
  refine lv_bipush (v := (-9)) hx hb dX2_firstWhole_0 (by decide) ?_
  refine lv_istore_n (lv' := [(1, .int (-9)), (0, .ref (ad 0))]) hx hb dX2_firstWhole_2 rfl hl (by decide) rfl (fun ls hl => ?_)
  refine lv_ldc (v := 1000000000) hx hb C.1.2.2.2.1 (C.1.2.2.2.2 _ kk_RX2_164) dX2_firstWhole_3 ?_
  refine lv_istore_n (lv' := [(2, .int 1000000000), (1, .int (-9)), (0, .ref (ad 0))]) hx hb dX2_firstWhole_5 rfl hl (by decide) rfl (fun ls hl => ?_)
  refine lv_iconst (v := 0) hx hb dX2_firstWhole_6 (by decide) ?_
  refine lv_istore_n (lv' := [(3, .int 0), (2, .int 1000000000), (1, .int (-9)), (0, .ref (ad 0))]) hx hb dX2_firstWhole_7 rfl hl (by decide) rfl (fun ls hl => ?_)
  exact lX2_firstWhole_8 C hr 5000 (Y, (-9), 1000000000, 0) h _ _ _ hw (lv_sub hl [3, 2, 1, 0] rfl)
abbrev rmX2_whole : Room := { frames := 8, cells := 0, slots := 0, locals := 183 }
theorem hdX2_whole : yX2_whole.cls = RX2 ∧ yX2_whole.cls ≠ "java/lang/invoke/MethodHandle" ∧ yX2_whole.cls ≠ "java/lang/invoke/VarHandle" ∧ (parseMethodDescriptor yX2_whole.desc).map (fun d => d.parameters.length) = some 1 := by decide +kernel
def fX2_whole (Y : VS) (a_1 : Int32) : Option (Int32 × VS) := if a_1 = (-1) then cl (fX2_firstWhole Y) (fun q6 => some (q6.1, q6.2)) else cl (fX2_isReader Y a_1) (fun r2 => if r2 = 0 then cl (fX2_no Y (-1)) (fun q4 => some (q4.1, q4.2)) else cl (fX2_wholeOf Y a_1) (fun q5 => some (q5.1, q5.2)))
set_option maxHeartbeats 4000000 in
set_option maxRecDepth 100000 in
theorem kX2_whole (ad : Nat → Nat) {Y : VS} {a_1 : Int32} {z : (Int32 × VS)} (h : fX2_whole Y a_1 = some z) : MI l D cA g yX2_whole (Cond.code yX2_whole cX2_whole 2 (some .int) :: lw_g) rmX2_whole [.ref (ad 0), .int a_1] (wM cA ad Y) z.1 (wM cA ad z.2) := by
  intro sz
  refine Met.ofW (cc := cX2_whole) (maxL := 2) (ret := (some .int)) (by decide) rfl ?_
  intro p e s m args below meth c s₁ B hml hv
  obtain ⟨rfl, C, hr, hw⟩ := ent B hml hv
  generalize va_A (wM cA ad Y) sz = A at C hw ⊢
  have hl := lv_entry ([.ref (ad 0), .int a_1]) (n := 2) (Nat.le_of_ble_eq_true rfl)
  rw [lg_entry_eq]
  generalize (lg_sl ([.ref (ad 0), .int a_1]) ++ List.replicate (2 - (lg_sl ([.ref (ad 0), .int a_1])).length) Slot.unset).toArray = ls at hl ⊢
  have hl : lv_has ls 2 [(0, .ref (ad 0)), (1, .int a_1)] := hl
  have hx := C.1.1
  have hb := C.1.2.1
  have h : (if a_1 = (-1) then cl (fX2_firstWhole Y) (fun q6 => some (q6.1, q6.2)) else cl (fX2_isReader Y a_1) (fun r2 => if r2 = 0 then cl (fX2_no Y (-1)) (fun q4 => some (q4.1, q4.2)) else cl (fX2_wholeOf Y a_1) (fun q5 => some (q5.1, q5.2)))) = some z := h
  refine lv_iload_n hx hb dX2_whole_0 rfl (lv_at hl 1 rfl) ?_
  refine lv_iconst (v := (-1)) hx hb dX2_whole_1 (by decide) ?_
  refine lv_icmp_ne (tgt := 12) hx hb dX2_whole_2 (by decide) (fun c1 => ?_) (fun c1 => ?_)
  · replace h := (if_neg c1).symm.trans h
    refine lv_aload_n hx hb dX2_whole_12 rfl (lv_at hl 0 rfl) ?_
    refine lv_iload_n hx hb dX2_whole_13 rfl (lv_at hl 1 rfl) ?_
    obtain ⟨r2, hr2, h⟩ := cl_some h
    refine cVi (ws2 := (wM cA ad Y)) (As := [.int a_1]) (rest := []) C hw jnW (kX2_isReader ad hr2) kl_RX2_147 ki_yX2_isReader ks_yX2_isReader kn_RX2 kc_yX2_isReader ⟨rfl, rfl⟩ hdX2_isReader ⟨Nat.le_of_ble_eq_true rfl, Nat.le_of_ble_eq_true rfl⟩ (ci := 2) (q0 := 0) rfl rfl rfl rfl hl.1 (Nat.le_of_ble_eq_true rfl) dX2_whole_14 ⟨Nat.zero_le _, Nat.zero_le _⟩ (fun H locs hw => ?_)
    refine lv_if_eq (tgt := 28) hx hb dX2_whole_17 (by decide) (fun c3 => ?_) (fun c3 => ?_)
    · replace h := (if_pos c3).symm.trans h
      refine lv_aload_n hx hb dX2_whole_28 rfl (lv_at hl 0 rfl) ?_
      refine lv_iconst (v := (-1)) hx hb dX2_whole_29 (by decide) ?_
      obtain ⟨q4, hq4, h⟩ := cl_some h
      refine cVi (ws2 := (wM cA ad q4.2)) (As := [.int (-1)]) (rest := []) C hw jnW (kX2_no ad hq4) kl_RX2_36 ki_yX2_no ks_yX2_no kn_RX2 kc_yX2_no ⟨rfl, rfl⟩ hdX2_no ⟨Nat.le_of_ble_eq_true rfl, Nat.le_of_ble_eq_true rfl⟩ (ci := 2) (q0 := 0) rfl rfl rfl rfl hl.1 (Nat.le_of_ble_eq_true rfl) dX2_whole_30 ⟨Nat.zero_le _, Nat.zero_le _⟩ (fun H locs hw => ?_)
      obtain rfl := some_e h
      exact rtI C hr hw dX2_whole_33
    · replace h := (if_neg c3).symm.trans h
      refine lv_aload_n hx hb dX2_whole_20 rfl (lv_at hl 0 rfl) ?_
      refine lv_iload_n hx hb dX2_whole_21 rfl (lv_at hl 1 rfl) ?_
      obtain ⟨q5, hq5, h⟩ := cl_some h
      refine cVi (ws2 := (wM cA ad q5.2)) (As := [.int a_1]) (rest := []) C hw jnW (kX2_wholeOf ad hq5) kl_RX2_165 ki_yX2_wholeOf ks_yX2_wholeOf kn_RX2 kc_yX2_wholeOf ⟨rfl, rfl⟩ hdX2_wholeOf ⟨Nat.le_of_ble_eq_true rfl, Nat.le_of_ble_eq_true rfl⟩ (ci := 2) (q0 := 0) rfl rfl rfl rfl hl.1 (Nat.le_of_ble_eq_true rfl) dX2_whole_22 ⟨Nat.zero_le _, Nat.zero_le _⟩ (fun H locs hw => ?_)
      refine lv_goto (tgt := 33) hx hb dX2_whole_25 (by decide) ?_
      obtain rfl := some_e h
      exact rtI C hr hw dX2_whole_33
  · replace h := (if_pos c1).symm.trans h
    refine lv_aload_n hx hb dX2_whole_5 rfl (lv_at hl 0 rfl) ?_
    obtain ⟨q6, hq6, h⟩ := cl_some h
    refine cVi (ws2 := (wM cA ad q6.2)) (As := []) (rest := []) C hw jnW (kX2_firstWhole ad hq6) kl_RX2_168 ki_yX2_firstWhole ks_yX2_firstWhole kn_RX2 kc_yX2_firstWhole ⟨rfl, rfl⟩ hdX2_firstWhole ⟨Nat.le_of_ble_eq_true rfl, Nat.le_of_ble_eq_true rfl⟩ (ci := 2) (q0 := 0) rfl rfl rfl rfl hl.1 (Nat.le_of_ble_eq_true rfl) dX2_whole_6 ⟨Nat.zero_le _, Nat.zero_le _⟩ (fun H locs hw => ?_)
    refine lv_goto (tgt := 33) hx hb dX2_whole_9 (by decide) ?_
    obtain rfl := some_e h
    exact rtI C hr hw dX2_whole_33
abbrev rmX2_next : Room := { frames := 6, cells := 0, slots := 0, locals := 137 }
theorem hdX2_next : yX2_next.cls = RX2 ∧ yX2_next.cls ≠ "java/lang/invoke/MethodHandle" ∧ yX2_next.cls ≠ "java/lang/invoke/VarHandle" ∧ (parseMethodDescriptor yX2_next.desc).map (fun d => d.parameters.length) = some 1 := by decide +kernel
def GX2_next_41 (p : Program) (l : Launch) (e : Env) (s : State) (m : MethodId) (args : Array Value) (below : List Frame) (meth : Method) (c : Code) (D : va_G) (cA : ClassId) (A : Nat → Prop) (ad : Nat → Nat) (z : (Int32 × VS)) (x : (VS) × (Int32)) : Prop := ∀ (H : Heap) (locs : List Loc) (ls : Array Slot), Wd D A s.heap (wM cA ad x.1) H locs → lv_has ls 3 [(0, .ref (ad 0)), (2, .int x.2)] → W p l e rmX2_next s m args below meth c H locs 0 0 (MQ below (QI D cA A z.1 (wM cA ad z.2)) args s 0 0 A) (F0 m 41 ls [])
def fX2_next_41 (k41 : ((VS) × (Int32)) → Option (Int32 × VS)) : ((VS) × (Int32)) → Option (Int32 × VS) := fun x => match x with | (Y, x_2) => if 60 < x_2 then some ((-9), Y) else cl (fX2_nextOf (Y 1)) (fun r2 => if 0 ≤ r2 then cl (fX2_night (Y 1) (-1)) (fun w4 => bn (up Y 1 w4) (fun w5 => bn (x_2 + 1) (fun x6 => k41 (w5, x6)))) else some (x_2, Y))
def fX2_next (Y : VS) (a_1 : Int32) : Option (Int32 × VS) := cl (fX2_isIn a_1 0 1) (fun r1 => if r1 = 0 then cl (fX2_no Y (-2)) (fun q7 => some (q7.1, q7.2)) else if a_1 = 0 then cl (fX2_nextOf (Y 0)) (fun r6 => some (r6, Y)) else cl (fX2_copies (Y 0) (Y 1)) (fun w4 => bn (up Y 1 w4) (fun w5 => lp (fX2_next_41) 5000 (w5, 0))))
set_option maxHeartbeats 4000000 in
set_option maxRecDepth 100000 in
theorem kX2_next_41 (C : Cx p s m args meth c cX2_next 3 RX2 D cA g A) (hr : meth.sig.returnType = (some .int)) {z : (Int32 × VS)} (k41 : ((VS) × (Int32)) → Option (Int32 × VS)) (hk41 : ∀ x, k41 x = some z → GX2_next_41 p l e s m args below meth c D cA A ad z x) (x : (VS) × (Int32)) (h : fX2_next_41 k41 x = some z) : GX2_next_41 p l e s m args below meth c D cA A ad z x := by
  obtain ⟨Y, x_2⟩ := x
  intro H locs ls hw hl
  have hw : Wd D A s.heap (wM cA ad Y) H locs := hw
  have hl : lv_has ls 3 [(0, .ref (ad 0)), (2, .int x_2)] := hl
  have hx := C.1.1
  have hb := C.1.2.1
  have h : (if 60 < x_2 then some ((-9), Y) else cl (fX2_nextOf (Y 1)) (fun r2 => if 0 ≤ r2 then cl (fX2_night (Y 1) (-1)) (fun w4 => bn (up Y 1 w4) (fun w5 => bn (x_2 + 1) (fun x6 => k41 (w5, x6)))) else some (x_2, Y))) = some z := h
  refine lv_iload_n hx hb dX2_next_41 rfl (lv_at hl 1 rfl) ?_
  refine lv_bipush (v := 60) hx hb dX2_next_42 (by decide) ?_
  refine lv_icmp_gt (tgt := 73) hx hb dX2_next_44 (by decide) (fun c1 => ?_) (fun c1 => ?_)
  · replace h := (if_pos c1).symm.trans h
    refine lv_bipush (v := (-9)) hx hb dX2_next_73 (by decide) ?_
    obtain rfl := some_e h
    exact rtI C hr hw dX2_next_75
  · replace h := (if_neg c1).symm.trans h
    refine lv_aload_n hx hb dX2_next_47 rfl (lv_at hl 0 rfl) ?_
    refine tGet (T := TX2) (N := 13) (ci := 2) C hw inX2 1 0 rfl (by decide) kf_RX2_13 rfl rfl rfl dX2_next_48 ?_
    obtain ⟨r2, hr2, h⟩ := cl_some h
    refine cSi (ws2 := (wM cA ad Y)) (As := [.ref (ad 2)]) (rest := []) C hw jM1r (kX2_nextOf (ad 2) hr2) kl_RX2_80 kt_yX2_nextOf kn_RX2 kc_yX2_nextOf ⟨rfl, rfl⟩ hdX2_nextOf ⟨Nat.le_of_ble_eq_true rfl, Nat.le_of_ble_eq_true rfl⟩ rfl hl.1 (Nat.le_of_ble_eq_true rfl) dX2_next_51 ⟨Nat.zero_le _, Nat.zero_le _⟩ (fun H locs hw => ?_)
    refine lv_if_ge (tgt := 59) hx hb dX2_next_54 (by decide) (fun c3 => ?_) (fun c3 => ?_)
    · replace h := (if_pos c3).symm.trans h
      refine lv_aload_n hx hb dX2_next_59 rfl (lv_at hl 0 rfl) ?_
      refine tGet (T := TX2) (N := 13) (ci := 2) C hw inX2 1 0 rfl (by decide) kf_RX2_13 rfl rfl rfl dX2_next_60 ?_
      refine lv_iconst (v := (-1)) hx hb dX2_next_63 (by decide) ?_
      obtain ⟨w4, hw4, h⟩ := cl_some h
      obtain ⟨w5, ew5⟩ : ∃ y : VS, y = up Y 1 w4 := ⟨_, rfl⟩
      replace h := bn_some h ew5
      refine cSv (ws2 := (wM cA ad w5)) (As := [.ref (ad 2), .int (-1)]) (rest := []) C hw (by rw [ew5]; exact jM1) (kX2_night (ad 2) hw4) kl_RX2_87 kt_yX2_night kn_RX2 kc_yX2_night ⟨rfl, rfl⟩ hdX2_night ⟨Nat.le_of_ble_eq_true rfl, Nat.le_of_ble_eq_true rfl⟩ rfl hl.1 (Nat.le_of_ble_eq_true rfl) dX2_next_64 ⟨Nat.zero_le _, Nat.zero_le _⟩ (fun H locs hw => ?_)
      obtain ⟨x6, ex6⟩ : ∃ y : Int32, y = x_2 + 1 := ⟨_, rfl⟩
      replace h := bn_some h ex6
      refine lv_iinc (v := x6) (lv' := [(2, .int x6), (0, .ref (ad 0))]) hx hb dX2_next_67 hl (k := 1) rfl (by rw [ex6]; rfl) (by decide) rfl (fun ls hl => ?_)
      refine lv_goto (tgt := 41) hx hb dX2_next_70 (by decide) ?_
      exact hk41 (w5, x6) h _ _ _ hw (lv_sub hl [1, 0] rfl)
    · replace h := (if_neg c3).symm.trans h
      refine lv_iload_n hx hb dX2_next_57 rfl (lv_at hl 1 rfl) ?_
      obtain rfl := some_e h
      exact rtI C hr hw dX2_next_58
theorem lX2_next_41 (C : Cx p s m args meth c cX2_next 3 RX2 D cA g A) (hr : meth.sig.returnType = (some .int)) {z : (Int32 × VS)} (n : Nat) (x : (VS) × (Int32)) (h : lp (fX2_next_41) n x = some z) : GX2_next_41 p l e s m args below meth c D cA A ad z x := lp_ok (GX2_next_41 p l e s m args below meth c D cA A ad z) (fun kq hkq x h => kX2_next_41 C hr kq hkq x h) n x h
set_option maxHeartbeats 4000000 in
set_option maxRecDepth 100000 in
theorem kX2_next (ad : Nat → Nat) {Y : VS} {a_1 : Int32} {z : (Int32 × VS)} (h : fX2_next Y a_1 = some z) : MI l D cA g yX2_next (Cond.code yX2_next cX2_next 3 (some .int) :: lw_g) rmX2_next [.ref (ad 0), .int a_1] (wM cA ad Y) z.1 (wM cA ad z.2) := by
  intro sz
  refine Met.ofW (cc := cX2_next) (maxL := 3) (ret := (some .int)) (by decide) rfl ?_
  intro p e s m args below meth c s₁ B hml hv
  obtain ⟨rfl, C, hr, hw⟩ := ent B hml hv
  generalize va_A (wM cA ad Y) sz = A at C hw ⊢
  have hl := lv_entry ([.ref (ad 0), .int a_1]) (n := 3) (Nat.le_of_ble_eq_true rfl)
  rw [lg_entry_eq]
  generalize (lg_sl ([.ref (ad 0), .int a_1]) ++ List.replicate (3 - (lg_sl ([.ref (ad 0), .int a_1])).length) Slot.unset).toArray = ls at hl ⊢
  have hl : lv_has ls 3 [(0, .ref (ad 0)), (1, .int a_1)] := hl
  have hx := C.1.1
  have hb := C.1.2.1
  have h : (cl (fX2_isIn a_1 0 1) (fun r1 => if r1 = 0 then cl (fX2_no Y (-2)) (fun q7 => some (q7.1, q7.2)) else if a_1 = 0 then cl (fX2_nextOf (Y 0)) (fun r6 => some (r6, Y)) else cl (fX2_copies (Y 0) (Y 1)) (fun w4 => bn (up Y 1 w4) (fun w5 => lp (fX2_next_41) 5000 (w5, 0))))) = some z := h
  refine lv_iload_n hx hb dX2_next_0 rfl (lv_at hl 1 rfl) ?_
  refine lv_iconst (v := 0) hx hb dX2_next_1 (by decide) ?_
  refine lv_iconst (v := 1) hx hb dX2_next_2 (by decide) ?_
  obtain ⟨r1, hr1, h⟩ := cl_some h
  refine cSi (ws2 := (wM cA ad Y)) (As := [.int a_1, .int 0, .int 1]) (rest := []) C hw jnE (kX2_isIn hr1) kl_RX2_40 kt_yX2_isIn kn_RX2 kc_yX2_isIn ⟨rfl, rfl⟩ hdX2_isIn ⟨Nat.le_of_ble_eq_true rfl, Nat.le_of_ble_eq_true rfl⟩ rfl hl.1 (Nat.le_of_ble_eq_true rfl) dX2_next_3 ⟨Nat.zero_le _, Nat.zero_le _⟩ (fun H locs hw => ?_)
  refine lv_if_ne (tgt := 16) hx hb dX2_next_6 (by decide) (fun c2 => ?_) (fun c2 => ?_)
  · replace h := (if_neg c2).symm.trans h
    refine lv_iload_n hx hb dX2_next_16 rfl (lv_at hl 1 rfl) ?_
    refine lv_if_ne (tgt := 28) hx hb dX2_next_17 (by decide) (fun c3 => ?_) (fun c3 => ?_)
    · replace h := (if_neg c3).symm.trans h
      refine lv_aload_n hx hb dX2_next_28 rfl (lv_at hl 0 rfl) ?_
      refine tGet (T := TX2) (N := 13) (ci := 2) C hw inX2 0 0 rfl (by decide) kf_RX2_9 rfl rfl rfl dX2_next_29 ?_
      refine lv_aload_n hx hb dX2_next_32 rfl (lv_at hl 0 rfl) ?_
      refine tGet (T := TX2) (N := 13) (ci := 2) C hw inX2 1 0 rfl (by decide) kf_RX2_13 rfl rfl rfl dX2_next_33 ?_
      obtain ⟨w4, hw4, h⟩ := cl_some h
      obtain ⟨w5, ew5⟩ : ∃ y : VS, y = up Y 1 w4 := ⟨_, rfl⟩
      replace h := bn_some h ew5
      refine cSv (ws2 := (wM cA ad w5)) (As := [.ref (ad 1), .ref (ad 2)]) (rest := []) C hw (by rw [ew5]; exact jMM01) (kX2_copies (ad 1) (ad 2) hw4) kl_RX2_134 kt_yX2_copies kn_RX2 kc_yX2_copies ⟨rfl, rfl⟩ hdX2_copies ⟨Nat.le_of_ble_eq_true rfl, Nat.le_of_ble_eq_true rfl⟩ rfl hl.1 (Nat.le_of_ble_eq_true rfl) dX2_next_36 ⟨Nat.zero_le _, Nat.zero_le _⟩ (fun H locs hw => ?_)
      refine lv_iconst (v := 0) hx hb dX2_next_39 (by decide) ?_
      refine lv_istore_n (lv' := [(2, .int 0), (0, .ref (ad 0)), (1, .int a_1)]) hx hb dX2_next_40 rfl hl (by decide) rfl (fun ls hl => ?_)
      exact lX2_next_41 C hr 5000 (w5, 0) h _ _ _ hw (lv_sub hl [1, 0] rfl)
    · replace h := (if_pos c3).symm.trans h
      refine lv_aload_n hx hb dX2_next_20 rfl (lv_at hl 0 rfl) ?_
      refine tGet (T := TX2) (N := 13) (ci := 2) C hw inX2 0 0 rfl (by decide) kf_RX2_9 rfl rfl rfl dX2_next_21 ?_
      obtain ⟨r6, hr6, h⟩ := cl_some h
      refine cSi (ws2 := (wM cA ad Y)) (As := [.ref (ad 1)]) (rest := []) C hw jM0r (kX2_nextOf (ad 1) hr6) kl_RX2_80 kt_yX2_nextOf kn_RX2 kc_yX2_nextOf ⟨rfl, rfl⟩ hdX2_nextOf ⟨Nat.le_of_ble_eq_true rfl, Nat.le_of_ble_eq_true rfl⟩ rfl hl.1 (Nat.le_of_ble_eq_true rfl) dX2_next_24 ⟨Nat.zero_le _, Nat.zero_le _⟩ (fun H locs hw => ?_)
      obtain rfl := some_e h
      exact rtI C hr hw dX2_next_27
  · replace h := (if_pos c2).symm.trans h
    refine lv_aload_n hx hb dX2_next_9 rfl (lv_at hl 0 rfl) ?_
    refine lv_bipush (v := (-2)) hx hb dX2_next_10 (by decide) ?_
    obtain ⟨q7, hq7, h⟩ := cl_some h
    refine cVi (ws2 := (wM cA ad q7.2)) (As := [.int (-2)]) (rest := []) C hw jnW (kX2_no ad hq7) kl_RX2_36 ki_yX2_no ks_yX2_no kn_RX2 kc_yX2_no ⟨rfl, rfl⟩ hdX2_no ⟨Nat.le_of_ble_eq_true rfl, Nat.le_of_ble_eq_true rfl⟩ (ci := 2) (q0 := 0) rfl rfl rfl rfl hl.1 (Nat.le_of_ble_eq_true rfl) dX2_next_12 ⟨Nat.zero_le _, Nat.zero_le _⟩ (fun H locs hw => ?_)
    obtain rfl := some_e h
    exact rtI C hr hw dX2_next_15
abbrev rmX2_isWholeBy : Room := { frames := 4, cells := 0, slots := 0, locals := 91 }
theorem hdX2_isWholeBy : yX2_isWholeBy.cls = RX2 ∧ yX2_isWholeBy.cls ≠ "java/lang/invoke/MethodHandle" ∧ yX2_isWholeBy.cls ≠ "java/lang/invoke/VarHandle" ∧ (parseMethodDescriptor yX2_isWholeBy.desc).map (fun d => d.parameters.length) = some 2 := by decide +kernel
def GX2_isWholeBy_40 (p : Program) (l : Launch) (e : Env) (s : State) (m : MethodId) (args : Array Value) (below : List Frame) (meth : Method) (c : Code) (D : va_G) (cA : ClassId) (A : Nat → Prop) (ad : Nat → Nat) (z : (Int32 × VS)) (x : (VS) × (Int32) × (Int32) × (Int32)) : Prop := ∀ (H : Heap) (locs : List Loc) (ls : Array Slot), Wd D A s.heap (wM cA ad x.1) H locs → lv_has ls 4 [(0, .ref (ad 0)), (1, .int x.2.1), (2, .int x.2.2.1), (3, .int x.2.2.2)] → W p l e rmX2_isWholeBy s m args below meth c H locs 0 0 (MQ below (QI D cA A z.1 (wM cA ad z.2)) args s 0 0 A) (F0 m 40 ls [])
def GX2_isWholeBy_13 (p : Program) (l : Launch) (e : Env) (s : State) (m : MethodId) (args : Array Value) (below : List Frame) (meth : Method) (c : Code) (D : va_G) (cA : ClassId) (A : Nat → Prop) (ad : Nat → Nat) (z : (Int32 × VS)) (x : (VS) × (Int32) × (Int32) × (Int32)) : Prop := ∀ (H : Heap) (locs : List Loc) (ls : Array Slot), Wd D A s.heap (wM cA ad x.1) H locs → lv_has ls 4 [(0, .ref (ad 0)), (1, .int x.2.1), (2, .int x.2.2.1), (3, .int x.2.2.2)] → W p l e rmX2_isWholeBy s m args below meth c H locs 0 0 (MQ below (QI D cA A z.1 (wM cA ad z.2)) args s 0 0 A) (F0 m 13 ls [])
def fX2_isWholeBy_40 (k13 : ((VS) × (Int32) × (Int32) × (Int32)) → Option (Int32 × VS)) : ((VS) × (Int32) × (Int32) × (Int32)) → Option (Int32 × VS) := fun x => match x with | (Y, x_1, x_2, x_3) => bn (x_3 + 1) (fun x1 => k13 (Y, x_1, x_2, x1))
def fX2_isWholeBy_13 (k13 : ((VS) × (Int32) × (Int32) × (Int32)) → Option (Int32 × VS)) : ((VS) × (Int32) × (Int32) × (Int32)) → Option (Int32 × VS) := fun x => match x with | (Y, x_1, x_2, x_3) => rd 81 (Y 0) 0 (fun r1 => if r1 ≤ x_3 then cl (fX2_wordsOf (Y 1) x_2) (fun r3 => if r3 = 63 then some (1, Y) else some (0, Y)) else cl (fX2_has x_1 x_3) (fun r5 => if r5 = 0 then fX2_isWholeBy_40 k13 (Y, x_1, x_2, x_3) else cl (fX2_bursts (Y 1) x_3 (-1)) (fun w7 => bn (up Y 1 w7) (fun w8 => fX2_isWholeBy_40 k13 (w8, x_1, x_2, x_3)))))
def fX2_isWholeBy (Y : VS) (a_1 : Int32) (a_2 : Int32) : Option (Int32 × VS) := cl (fX2_copies (Y 0) (Y 1)) (fun w1 => bn (up Y 1 w1) (fun w2 => lp (fX2_isWholeBy_13) 5000 (w2, a_1, a_2, 0)))
set_option maxHeartbeats 4000000 in
set_option maxRecDepth 100000 in
theorem kX2_isWholeBy_40 (C : Cx p s m args meth c cX2_isWholeBy 4 RX2 D cA g A) (hr : meth.sig.returnType = (some .boolean)) {z : (Int32 × VS)} (k13 : ((VS) × (Int32) × (Int32) × (Int32)) → Option (Int32 × VS)) (hk13 : ∀ x, k13 x = some z → GX2_isWholeBy_13 p l e s m args below meth c D cA A ad z x) (x : (VS) × (Int32) × (Int32) × (Int32)) (h : fX2_isWholeBy_40 k13 x = some z) : GX2_isWholeBy_40 p l e s m args below meth c D cA A ad z x := by
  obtain ⟨Y, x_1, x_2, x_3⟩ := x
  intro H locs ls hw hl
  have hw : Wd D A s.heap (wM cA ad Y) H locs := hw
  have hl : lv_has ls 4 [(0, .ref (ad 0)), (1, .int x_1), (2, .int x_2), (3, .int x_3)] := hl
  have hx := C.1.1
  have hb := C.1.2.1
  have h : (bn (x_3 + 1) (fun x1 => k13 (Y, x_1, x_2, x1))) = some z := h
  obtain ⟨x1, ex1⟩ : ∃ y : Int32, y = x_3 + 1 := ⟨_, rfl⟩
  replace h := bn_some h ex1
  refine lv_iinc (v := x1) (lv' := [(3, .int x1), (0, .ref (ad 0)), (1, .int x_1), (2, .int x_2)]) hx hb dX2_isWholeBy_40 hl (k := 3) rfl (by rw [ex1]; rfl) (by decide) rfl (fun ls hl => ?_)
  refine lv_goto (tgt := 13) hx hb dX2_isWholeBy_43 (by decide) ?_
  exact hk13 (Y, x_1, x_2, x1) h _ _ _ hw (lv_sub hl [1, 2, 3, 0] rfl)
set_option maxHeartbeats 4000000 in
set_option maxRecDepth 100000 in
theorem kX2_isWholeBy_13 (C : Cx p s m args meth c cX2_isWholeBy 4 RX2 D cA g A) (hr : meth.sig.returnType = (some .boolean)) {z : (Int32 × VS)} (k13 : ((VS) × (Int32) × (Int32) × (Int32)) → Option (Int32 × VS)) (hk13 : ∀ x, k13 x = some z → GX2_isWholeBy_13 p l e s m args below meth c D cA A ad z x) (x : (VS) × (Int32) × (Int32) × (Int32)) (h : fX2_isWholeBy_13 k13 x = some z) : GX2_isWholeBy_13 p l e s m args below meth c D cA A ad z x := by
  obtain ⟨Y, x_1, x_2, x_3⟩ := x
  intro H locs ls hw hl
  have hw : Wd D A s.heap (wM cA ad Y) H locs := hw
  have hl : lv_has ls 4 [(0, .ref (ad 0)), (1, .int x_1), (2, .int x_2), (3, .int x_3)] := hl
  have hx := C.1.1
  have hb := C.1.2.1
  have h : (rd 81 (Y 0) 0 (fun r1 => if r1 ≤ x_3 then cl (fX2_wordsOf (Y 1) x_2) (fun r3 => if r3 = 63 then some (1, Y) else some (0, Y)) else cl (fX2_has x_1 x_3) (fun r5 => if r5 = 0 then fX2_isWholeBy_40 k13 (Y, x_1, x_2, x_3) else cl (fX2_bursts (Y 1) x_3 (-1)) (fun w7 => bn (up Y 1 w7) (fun w8 => fX2_isWholeBy_40 k13 (w8, x_1, x_2, x_3)))))) = some z := h
  refine lv_iload_n hx hb dX2_isWholeBy_13 rfl (lv_at hl 3 rfl) ?_
  refine lv_aload_n hx hb dX2_isWholeBy_14 rfl (lv_at hl 0 rfl) ?_
  refine tGet (T := TX2) (N := 13) (ci := 2) C hw inX2 0 0 rfl (by decide) kf_RX2_9 rfl rfl rfl dX2_isWholeBy_15 ?_
  refine lv_iconst (v := 0) hx hb dX2_isWholeBy_18 (by decide) ?_
  obtain ⟨r1, ir1, er1, h⟩ := rd_some h
  refine tLd C hw 1 rfl ir1 er1 dX2_isWholeBy_19 ?_
  refine lv_icmp_ge (tgt := 46) hx hb dX2_isWholeBy_20 (by decide) (fun c2 => ?_) (fun c2 => ?_)
  · replace h := (if_pos c2).symm.trans h
    refine lv_aload_n hx hb dX2_isWholeBy_46 rfl (lv_at hl 0 rfl) ?_
    refine tGet (T := TX2) (N := 13) (ci := 2) C hw inX2 1 0 rfl (by decide) kf_RX2_13 rfl rfl rfl dX2_isWholeBy_47 ?_
    refine lv_iload_n hx hb dX2_isWholeBy_50 rfl (lv_at hl 2 rfl) ?_
    obtain ⟨r3, hr3, h⟩ := cl_some h
    refine cSi (ws2 := (wM cA ad Y)) (As := [.ref (ad 2), .int x_2]) (rest := []) C hw jM1r (kX2_wordsOf (ad 2) hr3) kl_RX2_91 kt_yX2_wordsOf kn_RX2 kc_yX2_wordsOf ⟨rfl, rfl⟩ hdX2_wordsOf ⟨Nat.le_of_ble_eq_true rfl, Nat.le_of_ble_eq_true rfl⟩ rfl hl.1 (Nat.le_of_ble_eq_true rfl) dX2_isWholeBy_51 ⟨Nat.zero_le _, Nat.zero_le _⟩ (fun H locs hw => ?_)
    refine lv_bipush (v := 63) hx hb dX2_isWholeBy_54 (by decide) ?_
    refine lv_icmp_ne (tgt := 63) hx hb dX2_isWholeBy_56 (by decide) (fun c4 => ?_) (fun c4 => ?_)
    · replace h := (if_neg c4).symm.trans h
      refine lv_iconst (v := 0) hx hb dX2_isWholeBy_63 (by decide) ?_
      obtain rfl := some_e h
      exact rtZ C hr nz0 hw dX2_isWholeBy_64
    · replace h := (if_pos c4).symm.trans h
      refine lv_iconst (v := 1) hx hb dX2_isWholeBy_59 (by decide) ?_
      refine lv_goto (tgt := 64) hx hb dX2_isWholeBy_60 (by decide) ?_
      obtain rfl := some_e h
      exact rtZ C hr nz1 hw dX2_isWholeBy_64
  · replace h := (if_neg c2).symm.trans h
    refine lv_iload_n hx hb dX2_isWholeBy_23 rfl (lv_at hl 1 rfl) ?_
    refine lv_iload_n hx hb dX2_isWholeBy_24 rfl (lv_at hl 3 rfl) ?_
    obtain ⟨r5, hr5, h⟩ := cl_some h
    refine cSi (ws2 := (wM cA ad Y)) (As := [.int x_1, .int x_3]) (rest := []) C hw jnE (kX2_has hr5) kl_RX2_65 kt_yX2_has kn_RX2 kc_yX2_has ⟨rfl, rfl⟩ hdX2_has ⟨Nat.le_of_ble_eq_true rfl, Nat.le_of_ble_eq_true rfl⟩ rfl hl.1 (Nat.le_of_ble_eq_true rfl) dX2_isWholeBy_25 ⟨Nat.zero_le _, Nat.zero_le _⟩ (fun H locs hw => ?_)
    refine lv_if_eq (tgt := 40) hx hb dX2_isWholeBy_28 (by decide) (fun c6 => ?_) (fun c6 => ?_)
    · replace h := (if_pos c6).symm.trans h
      exact kX2_isWholeBy_40 C hr k13 hk13 (Y, x_1, x_2, x_3) h _ _ _ hw (lv_sub hl [0, 1, 2, 3] rfl)
    · replace h := (if_neg c6).symm.trans h
      refine lv_aload_n hx hb dX2_isWholeBy_31 rfl (lv_at hl 0 rfl) ?_
      refine tGet (T := TX2) (N := 13) (ci := 2) C hw inX2 1 0 rfl (by decide) kf_RX2_13 rfl rfl rfl dX2_isWholeBy_32 ?_
      refine lv_iload_n hx hb dX2_isWholeBy_35 rfl (lv_at hl 3 rfl) ?_
      refine lv_iconst (v := (-1)) hx hb dX2_isWholeBy_36 (by decide) ?_
      obtain ⟨w7, hw7, h⟩ := cl_some h
      obtain ⟨w8, ew8⟩ : ∃ y : VS, y = up Y 1 w7 := ⟨_, rfl⟩
      replace h := bn_some h ew8
      refine cSv (ws2 := (wM cA ad w8)) (As := [.ref (ad 2), .int x_3, .int (-1)]) (rest := []) C hw (by rw [ew8]; exact jM1) (kX2_bursts (ad 2) hw7) kl_RX2_72 kt_yX2_bursts kn_RX2 kc_yX2_bursts ⟨rfl, rfl⟩ hdX2_bursts ⟨Nat.le_of_ble_eq_true rfl, Nat.le_of_ble_eq_true rfl⟩ rfl hl.1 (Nat.le_of_ble_eq_true rfl) dX2_isWholeBy_37 ⟨Nat.zero_le _, Nat.zero_le _⟩ (fun H locs hw => ?_)
      exact kX2_isWholeBy_40 C hr k13 hk13 (w8, x_1, x_2, x_3) h _ _ _ hw (lv_sub hl [0, 1, 2, 3] rfl)
theorem lX2_isWholeBy_13 (C : Cx p s m args meth c cX2_isWholeBy 4 RX2 D cA g A) (hr : meth.sig.returnType = (some .boolean)) {z : (Int32 × VS)} (n : Nat) (x : (VS) × (Int32) × (Int32) × (Int32)) (h : lp (fX2_isWholeBy_13) n x = some z) : GX2_isWholeBy_13 p l e s m args below meth c D cA A ad z x := lp_ok (GX2_isWholeBy_13 p l e s m args below meth c D cA A ad z) (fun kq hkq x h => kX2_isWholeBy_13 C hr kq hkq x h) n x h
set_option maxHeartbeats 4000000 in
set_option maxRecDepth 100000 in
theorem kX2_isWholeBy (ad : Nat → Nat) {Y : VS} {a_1 : Int32} {a_2 : Int32} {z : (Int32 × VS)} (h : fX2_isWholeBy Y a_1 a_2 = some z) : MI l D cA g yX2_isWholeBy (Cond.code yX2_isWholeBy cX2_isWholeBy 4 (some .boolean) :: lw_g) rmX2_isWholeBy [.ref (ad 0), .int a_1, .int a_2] (wM cA ad Y) z.1 (wM cA ad z.2) := by
  intro sz
  refine Met.ofW (cc := cX2_isWholeBy) (maxL := 4) (ret := (some .boolean)) (by decide) rfl ?_
  intro p e s m args below meth c s₁ B hml hv
  obtain ⟨rfl, C, hr, hw⟩ := ent B hml hv
  generalize va_A (wM cA ad Y) sz = A at C hw ⊢
  have hl := lv_entry ([.ref (ad 0), .int a_1, .int a_2]) (n := 4) (Nat.le_of_ble_eq_true rfl)
  rw [lg_entry_eq]
  generalize (lg_sl ([.ref (ad 0), .int a_1, .int a_2]) ++ List.replicate (4 - (lg_sl ([.ref (ad 0), .int a_1, .int a_2])).length) Slot.unset).toArray = ls at hl ⊢
  have hl : lv_has ls 4 [(0, .ref (ad 0)), (1, .int a_1), (2, .int a_2)] := hl
  have hx := C.1.1
  have hb := C.1.2.1
  have h : (cl (fX2_copies (Y 0) (Y 1)) (fun w1 => bn (up Y 1 w1) (fun w2 => lp (fX2_isWholeBy_13) 5000 (w2, a_1, a_2, 0)))) = some z := h
  refine lv_aload_n hx hb dX2_isWholeBy_0 rfl (lv_at hl 0 rfl) ?_
  refine tGet (T := TX2) (N := 13) (ci := 2) C hw inX2 0 0 rfl (by decide) kf_RX2_9 rfl rfl rfl dX2_isWholeBy_1 ?_
  refine lv_aload_n hx hb dX2_isWholeBy_4 rfl (lv_at hl 0 rfl) ?_
  refine tGet (T := TX2) (N := 13) (ci := 2) C hw inX2 1 0 rfl (by decide) kf_RX2_13 rfl rfl rfl dX2_isWholeBy_5 ?_
  obtain ⟨w1, hw1, h⟩ := cl_some h
  obtain ⟨w2, ew2⟩ : ∃ y : VS, y = up Y 1 w1 := ⟨_, rfl⟩
  replace h := bn_some h ew2
  refine cSv (ws2 := (wM cA ad w2)) (As := [.ref (ad 1), .ref (ad 2)]) (rest := []) C hw (by rw [ew2]; exact jMM01) (kX2_copies (ad 1) (ad 2) hw1) kl_RX2_134 kt_yX2_copies kn_RX2 kc_yX2_copies ⟨rfl, rfl⟩ hdX2_copies ⟨Nat.le_of_ble_eq_true rfl, Nat.le_of_ble_eq_true rfl⟩ rfl hl.1 (Nat.le_of_ble_eq_true rfl) dX2_isWholeBy_8 ⟨Nat.zero_le _, Nat.zero_le _⟩ (fun H locs hw => ?_)
  refine lv_iconst (v := 0) hx hb dX2_isWholeBy_11 (by decide) ?_
  refine lv_istore_n (lv' := [(3, .int 0), (0, .ref (ad 0)), (1, .int a_1), (2, .int a_2)]) hx hb dX2_isWholeBy_12 rfl hl (by decide) rfl (fun ls hl => ?_)
  exact lX2_isWholeBy_13 C hr 5000 (w2, a_1, a_2, 0) h _ _ _ hw (lv_sub hl [1, 2, 3, 0] rfl)
abbrev rmX2_costOf : Room := { frames := 1, cells := 0, slots := 0, locals := 21 }
theorem hdX2_costOf : yX2_costOf.cls = RX2 ∧ yX2_costOf.cls ≠ "java/lang/invoke/MethodHandle" ∧ yX2_costOf.cls ≠ "java/lang/invoke/VarHandle" ∧ (parseMethodDescriptor yX2_costOf.desc).map (fun d => d.parameters.length) = some 1 := by decide +kernel
def GX2_costOf_40 (p : Program) (l : Launch) (e : Env) (s : State) (m : MethodId) (args : Array Value) (below : List Frame) (meth : Method) (c : Code) (D : va_G) (cA : ClassId) (A : Nat → Prop) (ad : Nat → Nat) (Y : VS) (z : Int32) (x : (Int32) × (Int32) × (Int32) × (Int32)) : Prop := ∀ (H : Heap) (locs : List Loc) (ls : Array Slot), Wd D A s.heap (wM cA ad Y) H locs → lv_has ls 4 [(0, .ref (ad 0)), (1, .int x.1), (3, .int x.2.1)] → W p l e rmX2_costOf s m args below meth c H locs 0 0 (MQ below (QI D cA A z (wM cA ad Y)) args s 0 0 A) (F0 m 40 ls [.int x.2.2.1, .int x.2.2.2])
def GX2_costOf_4 (p : Program) (l : Launch) (e : Env) (s : State) (m : MethodId) (args : Array Value) (below : List Frame) (meth : Method) (c : Code) (D : va_G) (cA : ClassId) (A : Nat → Prop) (ad : Nat → Nat) (Y : VS) (z : Int32) (x : (Int32) × (Int32) × (Int32)) : Prop := ∀ (H : Heap) (locs : List Loc) (ls : Array Slot), Wd D A s.heap (wM cA ad Y) H locs → lv_has ls 4 [(0, .ref (ad 0)), (1, .int x.1), (2, .int x.2.1), (3, .int x.2.2)] → W p l e rmX2_costOf s m args below meth c H locs 0 0 (MQ below (QI D cA A z (wM cA ad Y)) args s 0 0 A) (F0 m 4 ls [])
def fX2_costOf_40 (Y : VS) (k4 : ((Int32) × (Int32) × (Int32)) → Option Int32) : ((Int32) × (Int32) × (Int32) × (Int32)) → Option Int32 := fun x => match x with | (x_1, x_3, y_0, y_1) => bn (y_1 + y_0) (fun x1 => bn (x_3 + 1) (fun x2 => k4 (x_1, x1, x2)))
def fX2_costOf_4 (Y : VS) (k4 : ((Int32) × (Int32) × (Int32)) → Option Int32) : ((Int32) × (Int32) × (Int32)) → Option Int32 := fun x => match x with | (x_1, x_2, x_3) => rd 81 (Y 0) 0 (fun r1 => if r1 ≤ x_3 then some x_2 else cl (fX2_has x_1 x_3) (fun r3 => if r3 = 0 then fX2_costOf_40 Y k4 (x_1, x_3, 0, x_2) else cl (fX2_ofR x_3 0) (fun r5 => rd 81 (Y 0) r5 (fun r6 => cl (fX2_costBy r6) (fun r7 => fX2_costOf_40 Y k4 (x_1, x_3, r7, x_2))))))
def fX2_costOf (Y : VS) (a_1 : Int32) : Option Int32 := lp (fX2_costOf_4 Y) 5000 (a_1, 0, 0)
set_option maxHeartbeats 4000000 in
set_option maxRecDepth 100000 in
theorem kX2_costOf_40 (C : Cx p s m args meth c cX2_costOf 4 RX2 D cA g A) (hr : meth.sig.returnType = (some .int)) {z : Int32} (Y : VS) (k4 : ((Int32) × (Int32) × (Int32)) → Option Int32) (hk4 : ∀ x, k4 x = some z → GX2_costOf_4 p l e s m args below meth c D cA A ad Y z x) (x : (Int32) × (Int32) × (Int32) × (Int32)) (h : fX2_costOf_40 Y k4 x = some z) : GX2_costOf_40 p l e s m args below meth c D cA A ad Y z x := by
  obtain ⟨x_1, x_3, y_0, y_1⟩ := x
  intro H locs ls hw hl
  have hw : Wd D A s.heap (wM cA ad Y) H locs := hw
  have hl : lv_has ls 4 [(0, .ref (ad 0)), (1, .int x_1), (3, .int x_3)] := hl
  show W p l e rmX2_costOf s m args below meth c H locs 0 0 (MQ below (QI D cA A z (wM cA ad Y)) args s 0 0 A) (F0 m 40 ls [.int y_0, .int y_1])
  have hx := C.1.1
  have hb := C.1.2.1
  have h : (bn (y_1 + y_0) (fun x1 => bn (x_3 + 1) (fun x2 => k4 (x_1, x1, x2)))) = some z := h
  refine lv_iadd hx hb dX2_costOf_40 ?_
  refine lv_topi (fun x1 ex1 => ?_)
  replace h := bn_some h ex1
  refine lv_istore_n (lv' := [(2, .int x1), (0, .ref (ad 0)), (1, .int x_1), (3, .int x_3)]) hx hb dX2_costOf_41 rfl hl (by decide) rfl (fun ls hl => ?_)
  obtain ⟨x2, ex2⟩ : ∃ y : Int32, y = x_3 + 1 := ⟨_, rfl⟩
  replace h := bn_some h ex2
  refine lv_iinc (v := x2) (lv' := [(3, .int x2), (2, .int x1), (0, .ref (ad 0)), (1, .int x_1)]) hx hb dX2_costOf_42 hl (k := 3) rfl (by rw [ex2]; rfl) (by decide) rfl (fun ls hl => ?_)
  refine lv_goto (tgt := 4) hx hb dX2_costOf_45 (by decide) ?_
  exact hk4 (x_1, x1, x2) h _ _ _ hw (lv_sub hl [2, 3, 1, 0] rfl)
set_option maxHeartbeats 4000000 in
set_option maxRecDepth 100000 in
theorem kX2_costOf_4 (C : Cx p s m args meth c cX2_costOf 4 RX2 D cA g A) (hr : meth.sig.returnType = (some .int)) {z : Int32} (Y : VS) (k4 : ((Int32) × (Int32) × (Int32)) → Option Int32) (hk4 : ∀ x, k4 x = some z → GX2_costOf_4 p l e s m args below meth c D cA A ad Y z x) (x : (Int32) × (Int32) × (Int32)) (h : fX2_costOf_4 Y k4 x = some z) : GX2_costOf_4 p l e s m args below meth c D cA A ad Y z x := by
  obtain ⟨x_1, x_2, x_3⟩ := x
  intro H locs ls hw hl
  have hw : Wd D A s.heap (wM cA ad Y) H locs := hw
  have hl : lv_has ls 4 [(0, .ref (ad 0)), (1, .int x_1), (2, .int x_2), (3, .int x_3)] := hl
  have hx := C.1.1
  have hb := C.1.2.1
  have h : (rd 81 (Y 0) 0 (fun r1 => if r1 ≤ x_3 then some x_2 else cl (fX2_has x_1 x_3) (fun r3 => if r3 = 0 then fX2_costOf_40 Y k4 (x_1, x_3, 0, x_2) else cl (fX2_ofR x_3 0) (fun r5 => rd 81 (Y 0) r5 (fun r6 => cl (fX2_costBy r6) (fun r7 => fX2_costOf_40 Y k4 (x_1, x_3, r7, x_2))))))) = some z := h
  refine lv_iload_n hx hb dX2_costOf_4 rfl (lv_at hl 3 rfl) ?_
  refine lv_aload_n hx hb dX2_costOf_5 rfl (lv_at hl 0 rfl) ?_
  refine tGet (T := TX2) (N := 13) (ci := 2) C hw inX2 0 0 rfl (by decide) kf_RX2_9 rfl rfl rfl dX2_costOf_6 ?_
  refine lv_iconst (v := 0) hx hb dX2_costOf_9 (by decide) ?_
  obtain ⟨r1, ir1, er1, h⟩ := rd_some h
  refine tLd C hw 1 rfl ir1 er1 dX2_costOf_10 ?_
  refine lv_icmp_ge (tgt := 48) hx hb dX2_costOf_11 (by decide) (fun c2 => ?_) (fun c2 => ?_)
  · replace h := (if_pos c2).symm.trans h
    refine lv_iload_n hx hb dX2_costOf_48 rfl (lv_at hl 2 rfl) ?_
    obtain rfl := some_e h
    exact rtI C hr hw dX2_costOf_49
  · replace h := (if_neg c2).symm.trans h
    refine lv_iload_n hx hb dX2_costOf_14 rfl (lv_at hl 2 rfl) ?_
    refine lv_iload_n hx hb dX2_costOf_15 rfl (lv_at hl 1 rfl) ?_
    refine lv_iload_n hx hb dX2_costOf_16 rfl (lv_at hl 3 rfl) ?_
    obtain ⟨r3, hr3, h⟩ := cl_some h
    refine cSi (ws2 := (wM cA ad Y)) (As := [.int x_1, .int x_3]) (rest := [.int x_2]) C hw jnE (kX2_has hr3) kl_RX2_65 kt_yX2_has kn_RX2 kc_yX2_has ⟨rfl, rfl⟩ hdX2_has ⟨Nat.le_of_ble_eq_true rfl, Nat.le_of_ble_eq_true rfl⟩ rfl hl.1 (Nat.le_of_ble_eq_true rfl) dX2_costOf_17 ⟨Nat.zero_le _, Nat.zero_le _⟩ (fun H locs hw => ?_)
    refine lv_if_eq (tgt := 39) hx hb dX2_costOf_20 (by decide) (fun c4 => ?_) (fun c4 => ?_)
    · replace h := (if_pos c4).symm.trans h
      refine lv_iconst (v := 0) hx hb dX2_costOf_39 (by decide) ?_
      exact kX2_costOf_40 C hr Y k4 hk4 (x_1, x_3, 0, x_2) h _ _ _ hw (lv_sub hl [0, 1, 3] rfl)
    · replace h := (if_neg c4).symm.trans h
      refine lv_aload_n hx hb dX2_costOf_23 rfl (lv_at hl 0 rfl) ?_
      refine tGet (T := TX2) (N := 13) (ci := 2) C hw inX2 0 0 rfl (by decide) kf_RX2_9 rfl rfl rfl dX2_costOf_24 ?_
      refine lv_iload_n hx hb dX2_costOf_27 rfl (lv_at hl 3 rfl) ?_
      refine lv_iconst (v := 0) hx hb dX2_costOf_28 (by decide) ?_
      obtain ⟨r5, hr5, h⟩ := cl_some h
      refine cSi (ws2 := (wM cA ad Y)) (As := [.int x_3, .int 0]) (rest := [.ref (ad 1), .int x_2]) C hw jnE (kX2_ofR hr5) kl_RX2_44 kt_yX2_ofR kn_RX2 kc_yX2_ofR ⟨rfl, rfl⟩ hdX2_ofR ⟨Nat.le_of_ble_eq_true rfl, Nat.le_of_ble_eq_true rfl⟩ rfl hl.1 (Nat.le_of_ble_eq_true rfl) dX2_costOf_29 ⟨Nat.zero_le _, Nat.zero_le _⟩ (fun H locs hw => ?_)
      obtain ⟨r6, ir6, er6, h⟩ := rd_some h
      refine tLd C hw 1 rfl ir6 er6 dX2_costOf_32 ?_
      obtain ⟨r7, hr7, h⟩ := cl_some h
      refine cSi (ws2 := (wM cA ad Y)) (As := [.int r6]) (rest := [.int x_2]) C hw jnE (kX2_costBy hr7) kl_RX2_69 kt_yX2_costBy kn_RX2 kc_yX2_costBy ⟨rfl, rfl⟩ hdX2_costBy ⟨Nat.le_of_ble_eq_true rfl, Nat.le_of_ble_eq_true rfl⟩ rfl hl.1 (Nat.le_of_ble_eq_true rfl) dX2_costOf_33 ⟨Nat.zero_le _, Nat.zero_le _⟩ (fun H locs hw => ?_)
      refine lv_goto (tgt := 40) hx hb dX2_costOf_36 (by decide) ?_
      exact kX2_costOf_40 C hr Y k4 hk4 (x_1, x_3, r7, x_2) h _ _ _ hw (lv_sub hl [0, 1, 3] rfl)
theorem lX2_costOf_4 (C : Cx p s m args meth c cX2_costOf 4 RX2 D cA g A) (hr : meth.sig.returnType = (some .int)) {z : Int32} (Y : VS) (n : Nat) (x : (Int32) × (Int32) × (Int32)) (h : lp (fX2_costOf_4 Y) n x = some z) : GX2_costOf_4 p l e s m args below meth c D cA A ad Y z x := lp_ok (GX2_costOf_4 p l e s m args below meth c D cA A ad Y z) (fun kq hkq x h => kX2_costOf_4 C hr Y kq hkq x h) n x h
set_option maxHeartbeats 4000000 in
set_option maxRecDepth 100000 in
theorem kX2_costOf (ad : Nat → Nat) {Y : VS} {a_1 : Int32} {z : Int32} (h : fX2_costOf Y a_1 = some z) : MI l D cA g yX2_costOf (Cond.code yX2_costOf cX2_costOf 4 (some .int) :: lw_g) rmX2_costOf [.ref (ad 0), .int a_1] (wM cA ad Y) z (wM cA ad Y) := by
  intro sz
  refine Met.ofW (cc := cX2_costOf) (maxL := 4) (ret := (some .int)) (by decide) rfl ?_
  intro p e s m args below meth c s₁ B hml hv
  obtain ⟨rfl, C, hr, hw⟩ := ent B hml hv
  generalize va_A (wM cA ad Y) sz = A at C hw ⊢
  have hl := lv_entry ([.ref (ad 0), .int a_1]) (n := 4) (Nat.le_of_ble_eq_true rfl)
  rw [lg_entry_eq]
  generalize (lg_sl ([.ref (ad 0), .int a_1]) ++ List.replicate (4 - (lg_sl ([.ref (ad 0), .int a_1])).length) Slot.unset).toArray = ls at hl ⊢
  have hl : lv_has ls 4 [(0, .ref (ad 0)), (1, .int a_1)] := hl
  have hx := C.1.1
  have hb := C.1.2.1
  have h : (lp (fX2_costOf_4 Y) 5000 (a_1, 0, 0)) = some z := h
  refine lv_iconst (v := 0) hx hb dX2_costOf_0 (by decide) ?_
  refine lv_istore_n (lv' := [(2, .int 0), (0, .ref (ad 0)), (1, .int a_1)]) hx hb dX2_costOf_1 rfl hl (by decide) rfl (fun ls hl => ?_)
  refine lv_iconst (v := 0) hx hb dX2_costOf_2 (by decide) ?_
  refine lv_istore_n (lv' := [(3, .int 0), (2, .int 0), (0, .ref (ad 0)), (1, .int a_1)]) hx hb dX2_costOf_3 rfl hl (by decide) rfl (fun ls hl => ?_)
  exact lX2_costOf_4 C hr Y 5000 (a_1, 0, 0) h _ _ _ hw (lv_sub hl [2, 3, 1, 0] rfl)
abbrev rmX2_boxed : Room := { frames := 2, cells := 0, slots := 0, locals := 43 }
theorem hdX2_boxed : yX2_boxed.cls = RX2 ∧ yX2_boxed.cls ≠ "java/lang/invoke/MethodHandle" ∧ yX2_boxed.cls ≠ "java/lang/invoke/VarHandle" ∧ (parseMethodDescriptor yX2_boxed.desc).map (fun d => d.parameters.length) = some 0 := by decide +kernel
def fX2_boxed (Y : VS) : Option Int32 := rd 81 (Y 0) 0 (fun r1 => cl (fX2_sentIn (Y 0)) (fun r2 => some ((((1 : Int32) <<< (r1 &&& 31)) - (1 : Int32)) &&& (r2 ^^^ (-1 : Int32)))))
set_option maxHeartbeats 4000000 in
set_option maxRecDepth 100000 in
theorem kX2_boxed (ad : Nat → Nat) {Y : VS} {z : Int32} (h : fX2_boxed Y = some z) : MI l D cA g yX2_boxed (Cond.code yX2_boxed cX2_boxed 1 (some .int) :: lw_g) rmX2_boxed [.ref (ad 0)] (wM cA ad Y) z (wM cA ad Y) := by
  intro sz
  refine Met.ofW (cc := cX2_boxed) (maxL := 1) (ret := (some .int)) (by decide) rfl ?_
  intro p e s m args below meth c s₁ B hml hv
  obtain ⟨rfl, C, hr, hw⟩ := ent B hml hv
  generalize va_A (wM cA ad Y) sz = A at C hw ⊢
  have hl := lv_entry ([.ref (ad 0)]) (n := 1) (Nat.le_of_ble_eq_true rfl)
  rw [lg_entry_eq]
  generalize (lg_sl ([.ref (ad 0)]) ++ List.replicate (1 - (lg_sl ([.ref (ad 0)])).length) Slot.unset).toArray = ls at hl ⊢
  have hl : lv_has ls 1 [(0, .ref (ad 0))] := hl
  have hx := C.1.1
  have hb := C.1.2.1
  have h : (rd 81 (Y 0) 0 (fun r1 => cl (fX2_sentIn (Y 0)) (fun r2 => some ((((1 : Int32) <<< (r1 &&& 31)) - (1 : Int32)) &&& (r2 ^^^ (-1 : Int32)))))) = some z := h
  refine lv_iconst (v := 1) hx hb dX2_boxed_0 (by decide) ?_
  refine lv_aload_n hx hb dX2_boxed_1 rfl (lv_at hl 0 rfl) ?_
  refine tGet (T := TX2) (N := 13) (ci := 2) C hw inX2 0 0 rfl (by decide) kf_RX2_9 rfl rfl rfl dX2_boxed_2 ?_
  refine lv_iconst (v := 0) hx hb dX2_boxed_5 (by decide) ?_
  obtain ⟨r1, ir1, er1, h⟩ := rd_some h
  refine tLd C hw 1 rfl ir1 er1 dX2_boxed_6 ?_
  refine lv_ishl hx hb dX2_boxed_7 ?_
  refine lv_iconst (v := 1) hx hb dX2_boxed_8 (by decide) ?_
  refine lv_isub hx hb dX2_boxed_9 ?_
  refine lv_aload_n hx hb dX2_boxed_10 rfl (lv_at hl 0 rfl) ?_
  refine tGet (T := TX2) (N := 13) (ci := 2) C hw inX2 0 0 rfl (by decide) kf_RX2_9 rfl rfl rfl dX2_boxed_11 ?_
  obtain ⟨r2, hr2, h⟩ := cl_some h
  refine cSi (ws2 := (wM cA ad Y)) (As := [.ref (ad 1)]) (rest := [.int (((1 : Int32) <<< (r1 &&& 31)) - (1 : Int32))]) C hw jM0r (kX2_sentIn (ad 1) hr2) kl_RX2_150 kt_yX2_sentIn kn_RX2 kc_yX2_sentIn ⟨rfl, rfl⟩ hdX2_sentIn ⟨Nat.le_of_ble_eq_true rfl, Nat.le_of_ble_eq_true rfl⟩ rfl hl.1 (Nat.le_of_ble_eq_true rfl) dX2_boxed_14 ⟨Nat.zero_le _, Nat.zero_le _⟩ (fun H locs hw => ?_)
  refine lv_iconst (v := (-1)) hx hb dX2_boxed_17 (by decide) ?_
  refine lv_ixor hx hb dX2_boxed_18 ?_
  refine lv_iand hx hb dX2_boxed_19 ?_
  obtain rfl := some_e h
  exact rtI C hr hw dX2_boxed_20
abbrev rmX2_fewest : Room := { frames := 5, cells := 0, slots := 0, locals := 114 }
theorem hdX2_fewest : yX2_fewest.cls = RX2 ∧ yX2_fewest.cls ≠ "java/lang/invoke/MethodHandle" ∧ yX2_fewest.cls ≠ "java/lang/invoke/VarHandle" ∧ (parseMethodDescriptor yX2_fewest.desc).map (fun d => d.parameters.length) = some 2 := by decide +kernel
def GX2_fewest_135 (p : Program) (l : Launch) (e : Env) (s : State) (m : MethodId) (args : Array Value) (below : List Frame) (meth : Method) (c : Code) (D : va_G) (cA : ClassId) (A : Nat → Prop) (ad : Nat → Nat) (z : (Int32 × VS)) (x : (VS) × (Int32)) : Prop := ∀ (H : Heap) (locs : List Loc) (ls : Array Slot), Wd D A s.heap (wM cA ad x.1) H locs → lv_has ls 6 [(3, .int x.2)] → W p l e rmX2_fewest s m args below meth c H locs 0 0 (MQ below (QI D cA A z.1 (wM cA ad z.2)) args s 0 0 A) (F0 m 135 ls [])
def GX2_fewest_121 (p : Program) (l : Launch) (e : Env) (s : State) (m : MethodId) (args : Array Value) (below : List Frame) (meth : Method) (c : Code) (D : va_G) (cA : ClassId) (A : Nat → Prop) (ad : Nat → Nat) (z : (Int32 × VS)) (x : (VS) × (Int32) × (Int32) × (Int32) × (Int32) × (Int32)) : Prop := ∀ (H : Heap) (locs : List Loc) (ls : Array Slot), Wd D A s.heap (wM cA ad x.1) H locs → lv_has ls 6 [(0, .ref (ad 0)), (1, .int x.2.1), (2, .int x.2.2.1), (3, .int x.2.2.2.1), (4, .int x.2.2.2.2.1), (5, .int x.2.2.2.2.2)] → W p l e rmX2_fewest s m args below meth c H locs 0 0 (MQ below (QI D cA A z.1 (wM cA ad z.2)) args s 0 0 A) (F0 m 121 ls [])
def GX2_fewest_119 (p : Program) (l : Launch) (e : Env) (s : State) (m : MethodId) (args : Array Value) (below : List Frame) (meth : Method) (c : Code) (D : va_G) (cA : ClassId) (A : Nat → Prop) (ad : Nat → Nat) (z : (Int32 × VS)) (x : (VS) × (Int32) × (Int32) × (Int32) × (Int32) × (Int32)) : Prop := ∀ (H : Heap) (locs : List Loc) (ls : Array Slot), Wd D A s.heap (wM cA ad x.1) H locs → lv_has ls 6 [(0, .ref (ad 0)), (1, .int x.2.1), (2, .int x.2.2.1), (3, .int x.2.2.2.1), (5, .int x.2.2.2.2.1)] → W p l e rmX2_fewest s m args below meth c H locs 0 0 (MQ below (QI D cA A z.1 (wM cA ad z.2)) args s 0 0 A) (F0 m 119 ls [.int x.2.2.2.2.2])
def GX2_fewest_97 (p : Program) (l : Launch) (e : Env) (s : State) (m : MethodId) (args : Array Value) (below : List Frame) (meth : Method) (c : Code) (D : va_G) (cA : ClassId) (A : Nat → Prop) (ad : Nat → Nat) (z : (Int32 × VS)) (x : (VS) × (Int32) × (Int32) × (Int32) × (Int32) × (Int32)) : Prop := ∀ (H : Heap) (locs : List Loc) (ls : Array Slot), Wd D A s.heap (wM cA ad x.1) H locs → lv_has ls 6 [(0, .ref (ad 0)), (1, .int x.2.1), (2, .int x.2.2.1), (3, .int x.2.2.2.1), (4, .int x.2.2.2.2.1), (5, .int x.2.2.2.2.2)] → W p l e rmX2_fewest s m args below meth c H locs 0 0 (MQ below (QI D cA A z.1 (wM cA ad z.2)) args s 0 0 A) (F0 m 97 ls [])
def GX2_fewest_94 (p : Program) (l : Launch) (e : Env) (s : State) (m : MethodId) (args : Array Value) (below : List Frame) (meth : Method) (c : Code) (D : va_G) (cA : ClassId) (A : Nat → Prop) (ad : Nat → Nat) (z : (Int32 × VS)) (x : (VS) × (Int32) × (Int32) × (Int32) × (Int32)) : Prop := ∀ (H : Heap) (locs : List Loc) (ls : Array Slot), Wd D A s.heap (wM cA ad x.1) H locs → lv_has ls 6 [(0, .ref (ad 0)), (1, .int x.2.1), (2, .int x.2.2.1), (4, .int x.2.2.2.1), (5, .int x.2.2.2.2)] → W p l e rmX2_fewest s m args below meth c H locs 0 0 (MQ below (QI D cA A z.1 (wM cA ad z.2)) args s 0 0 A) (F0 m 94 ls [])
def GX2_fewest_40 (p : Program) (l : Launch) (e : Env) (s : State) (m : MethodId) (args : Array Value) (below : List Frame) (meth : Method) (c : Code) (D : va_G) (cA : ClassId) (A : Nat → Prop) (ad : Nat → Nat) (z : (Int32 × VS)) (x : (VS) × (Int32) × (Int32) × (Int32) × (Int32) × (Int32)) : Prop := ∀ (H : Heap) (locs : List Loc) (ls : Array Slot), Wd D A s.heap (wM cA ad x.1) H locs → lv_has ls 6 [(0, .ref (ad 0)), (1, .int x.2.1), (2, .int x.2.2.1), (3, .int x.2.2.2.1), (4, .int x.2.2.2.2.1), (5, .int x.2.2.2.2.2)] → W p l e rmX2_fewest s m args below meth c H locs 0 0 (MQ below (QI D cA A z.1 (wM cA ad z.2)) args s 0 0 A) (F0 m 40 ls [])
def fX2_fewest_135 : ((VS) × (Int32)) → Option (Int32 × VS) := fun x => match x with | (Y, x_3) => some (x_3, Y)
def fX2_fewest_121 (k40 : ((VS) × (Int32) × (Int32) × (Int32) × (Int32) × (Int32)) → Option (Int32 × VS)) : ((VS) × (Int32) × (Int32) × (Int32) × (Int32) × (Int32)) → Option (Int32 × VS) := fun x => match x with | (Y, x_1, x_2, x_3, x_4, x_5) => bn (x_5 + 1) (fun x1 => k40 (Y, x_1, x_2, x_3, x_4, x1))
def fX2_fewest_119 (k40 : ((VS) × (Int32) × (Int32) × (Int32) × (Int32) × (Int32)) → Option (Int32 × VS)) : ((VS) × (Int32) × (Int32) × (Int32) × (Int32) × (Int32)) → Option (Int32 × VS) := fun x => match x with | (Y, x_1, x_2, x_3, x_5, y_0) => fX2_fewest_121 k40 (Y, x_1, x_2, x_3, y_0, x_5)
def fX2_fewest_97 (k40 : ((VS) × (Int32) × (Int32) × (Int32) × (Int32) × (Int32)) → Option (Int32 × VS)) : ((VS) × (Int32) × (Int32) × (Int32) × (Int32) × (Int32)) → Option (Int32 × VS) := fun x => match x with | (Y, x_1, x_2, x_3, x_4, x_5) => cl (fX2_costOf Y x_5) (fun r1 => if x_4 ≤ r1 then fX2_fewest_119 k40 (Y, x_1, x_2, x_3, x_5, x_4) else cl (fX2_costOf Y x_5) (fun r3 => fX2_fewest_119 k40 (Y, x_1, x_2, x_3, x_5, r3)))
def fX2_fewest_94 (k40 : ((VS) × (Int32) × (Int32) × (Int32) × (Int32) × (Int32)) → Option (Int32 × VS)) : ((VS) × (Int32) × (Int32) × (Int32) × (Int32)) → Option (Int32 × VS) := fun x => match x with | (Y, x_1, x_2, x_4, x_5) => fX2_fewest_97 k40 (Y, x_1, x_2, x_5, x_4, x_5)
def fX2_fewest_40 (k40 : ((VS) × (Int32) × (Int32) × (Int32) × (Int32) × (Int32)) → Option (Int32 × VS)) : ((VS) × (Int32) × (Int32) × (Int32) × (Int32) × (Int32)) → Option (Int32 × VS) := fun x => match x with | (Y, x_1, x_2, x_3, x_4, x_5) => rd 81 (Y 0) 0 (fun r1 => if ((1 : Int32) <<< (r1 &&& 31)) ≤ x_5 then if x_3 < 0 then fX2_fewest_135 (Y, x_3) else if x_2 = 0 then fX2_fewest_135 (Y, x_3) else some (x_4, Y) else cl (fX2_boxed Y) (fun r5 => if (x_5 &&& (r5 ^^^ (-1 : Int32))) = 0 then cl (fX2_isWholeBy Y x_5 x_1) (fun q7 => if q7.1 = 0 then fX2_fewest_121 k40 (q7.2, x_1, x_2, x_3, x_4, x_5) else if x_3 < 0 then fX2_fewest_94 k40 (q7.2, x_1, x_2, x_4, x_5) else cl (fX2_bits x_5) (fun r10 => cl (fX2_bits x_3) (fun r11 => if r11 ≤ r10 then fX2_fewest_97 k40 (q7.2, x_1, x_2, x_3, x_4, x_5) else fX2_fewest_94 k40 (q7.2, x_1, x_2, x_4, x_5)))) else fX2_fewest_121 k40 (Y, x_1, x_2, x_3, x_4, x_5)))
def fX2_fewest (Y : VS) (a_1 : Int32) (a_2 : Int32) : Option (Int32 × VS) := cl (fX2_isReader Y a_1) (fun r1 => if r1 = 0 then cl (fX2_no Y (-1)) (fun q6 => some (q6.1, q6.2)) else cl (fX2_isIn a_2 0 1) (fun r3 => if r3 = 0 then cl (fX2_no Y (-2)) (fun q5 => some (q5.1, q5.2)) else lp (fX2_fewest_40) 5000 (Y, a_1, a_2, (-9), 1000000000, 0)))
set_option maxHeartbeats 4000000 in
set_option maxRecDepth 100000 in
theorem kX2_fewest_135 (C : Cx p s m args meth c cX2_fewest 6 RX2 D cA g A) (hr : meth.sig.returnType = (some .int)) {z : (Int32 × VS)} (x : (VS) × (Int32)) (h : fX2_fewest_135 x = some z) : GX2_fewest_135 p l e s m args below meth c D cA A ad z x := by
  obtain ⟨Y, x_3⟩ := x
  intro H locs ls hw hl
  have hw : Wd D A s.heap (wM cA ad Y) H locs := hw
  have hl : lv_has ls 6 [(3, .int x_3)] := hl
  have hx := C.1.1
  have hb := C.1.2.1
  have h : (some (x_3, Y)) = some z := h
  refine lv_iload_n hx hb dX2_fewest_135 rfl (lv_at hl 0 rfl) ?_
  refine lv_goto (tgt := 141) hx hb dX2_fewest_136 (by decide) ?_
  obtain rfl := some_e h
  exact rtI C hr hw dX2_fewest_141
set_option maxHeartbeats 4000000 in
set_option maxRecDepth 100000 in
theorem kX2_fewest_121 (C : Cx p s m args meth c cX2_fewest 6 RX2 D cA g A) (hr : meth.sig.returnType = (some .int)) {z : (Int32 × VS)} (k40 : ((VS) × (Int32) × (Int32) × (Int32) × (Int32) × (Int32)) → Option (Int32 × VS)) (hk40 : ∀ x, k40 x = some z → GX2_fewest_40 p l e s m args below meth c D cA A ad z x) (x : (VS) × (Int32) × (Int32) × (Int32) × (Int32) × (Int32)) (h : fX2_fewest_121 k40 x = some z) : GX2_fewest_121 p l e s m args below meth c D cA A ad z x := by
  obtain ⟨Y, x_1, x_2, x_3, x_4, x_5⟩ := x
  intro H locs ls hw hl
  have hw : Wd D A s.heap (wM cA ad Y) H locs := hw
  have hl : lv_has ls 6 [(0, .ref (ad 0)), (1, .int x_1), (2, .int x_2), (3, .int x_3), (4, .int x_4), (5, .int x_5)] := hl
  have hx := C.1.1
  have hb := C.1.2.1
  have h : (bn (x_5 + 1) (fun x1 => k40 (Y, x_1, x_2, x_3, x_4, x1))) = some z := h
  obtain ⟨x1, ex1⟩ : ∃ y : Int32, y = x_5 + 1 := ⟨_, rfl⟩
  replace h := bn_some h ex1
  refine lv_iinc (v := x1) (lv' := [(5, .int x1), (0, .ref (ad 0)), (1, .int x_1), (2, .int x_2), (3, .int x_3), (4, .int x_4)]) hx hb dX2_fewest_121 hl (k := 5) rfl (by rw [ex1]; rfl) (by decide) rfl (fun ls hl => ?_)
  refine lv_goto (tgt := 40) hx hb dX2_fewest_124 (by decide) ?_
  exact hk40 (Y, x_1, x_2, x_3, x_4, x1) h _ _ _ hw (lv_sub hl [1, 2, 3, 4, 5, 0] rfl)
set_option maxHeartbeats 4000000 in
set_option maxRecDepth 100000 in
theorem kX2_fewest_119 (C : Cx p s m args meth c cX2_fewest 6 RX2 D cA g A) (hr : meth.sig.returnType = (some .int)) {z : (Int32 × VS)} (k40 : ((VS) × (Int32) × (Int32) × (Int32) × (Int32) × (Int32)) → Option (Int32 × VS)) (hk40 : ∀ x, k40 x = some z → GX2_fewest_40 p l e s m args below meth c D cA A ad z x) (x : (VS) × (Int32) × (Int32) × (Int32) × (Int32) × (Int32)) (h : fX2_fewest_119 k40 x = some z) : GX2_fewest_119 p l e s m args below meth c D cA A ad z x := by
  obtain ⟨Y, x_1, x_2, x_3, x_5, y_0⟩ := x
  intro H locs ls hw hl
  have hw : Wd D A s.heap (wM cA ad Y) H locs := hw
  have hl : lv_has ls 6 [(0, .ref (ad 0)), (1, .int x_1), (2, .int x_2), (3, .int x_3), (5, .int x_5)] := hl
  show W p l e rmX2_fewest s m args below meth c H locs 0 0 (MQ below (QI D cA A z.1 (wM cA ad z.2)) args s 0 0 A) (F0 m 119 ls [.int y_0])
  have hx := C.1.1
  have hb := C.1.2.1
  have h : (fX2_fewest_121 k40 (Y, x_1, x_2, x_3, y_0, x_5)) = some z := h
  refine lv_istore (lv' := [(4, .int y_0), (0, .ref (ad 0)), (1, .int x_1), (2, .int x_2), (3, .int x_3), (5, .int x_5)]) hx hb dX2_fewest_119 hl (by decide) rfl (fun ls hl => ?_)
  exact kX2_fewest_121 C hr k40 hk40 (Y, x_1, x_2, x_3, y_0, x_5) h _ _ _ hw (lv_sub hl [1, 2, 3, 4, 0, 5] rfl)
set_option maxHeartbeats 4000000 in
set_option maxRecDepth 100000 in
theorem kX2_fewest_97 (C : Cx p s m args meth c cX2_fewest 6 RX2 D cA g A) (hr : meth.sig.returnType = (some .int)) {z : (Int32 × VS)} (k40 : ((VS) × (Int32) × (Int32) × (Int32) × (Int32) × (Int32)) → Option (Int32 × VS)) (hk40 : ∀ x, k40 x = some z → GX2_fewest_40 p l e s m args below meth c D cA A ad z x) (x : (VS) × (Int32) × (Int32) × (Int32) × (Int32) × (Int32)) (h : fX2_fewest_97 k40 x = some z) : GX2_fewest_97 p l e s m args below meth c D cA A ad z x := by
  obtain ⟨Y, x_1, x_2, x_3, x_4, x_5⟩ := x
  intro H locs ls hw hl
  have hw : Wd D A s.heap (wM cA ad Y) H locs := hw
  have hl : lv_has ls 6 [(0, .ref (ad 0)), (1, .int x_1), (2, .int x_2), (3, .int x_3), (4, .int x_4), (5, .int x_5)] := hl
  have hx := C.1.1
  have hb := C.1.2.1
  have h : (cl (fX2_costOf Y x_5) (fun r1 => if x_4 ≤ r1 then fX2_fewest_119 k40 (Y, x_1, x_2, x_3, x_5, x_4) else cl (fX2_costOf Y x_5) (fun r3 => fX2_fewest_119 k40 (Y, x_1, x_2, x_3, x_5, r3)))) = some z := h
  refine lv_aload_n hx hb dX2_fewest_97 rfl (lv_at hl 0 rfl) ?_
  refine lv_iload hx hb dX2_fewest_98 (lv_at hl 5 rfl) ?_
  obtain ⟨r1, hr1, h⟩ := cl_some h
  refine cVi (ws2 := (wM cA ad Y)) (As := [.int x_5]) (rest := []) C hw jnW (kX2_costOf ad hr1) kl_RX2_177 ki_yX2_costOf ks_yX2_costOf kn_RX2 kc_yX2_costOf ⟨rfl, rfl⟩ hdX2_costOf ⟨Nat.le_of_ble_eq_true rfl, Nat.le_of_ble_eq_true rfl⟩ (ci := 2) (q0 := 0) rfl rfl rfl rfl hl.1 (Nat.le_of_ble_eq_true rfl) dX2_fewest_100 ⟨Nat.zero_le _, Nat.zero_le _⟩ (fun H locs hw => ?_)
  refine lv_iload hx hb dX2_fewest_103 (lv_at hl 4 rfl) ?_
  refine lv_icmp_ge (tgt := 117) hx hb dX2_fewest_105 (by decide) (fun c2 => ?_) (fun c2 => ?_)
  · replace h := (if_pos c2).symm.trans h
    refine lv_iload hx hb dX2_fewest_117 (lv_at hl 4 rfl) ?_
    exact kX2_fewest_119 C hr k40 hk40 (Y, x_1, x_2, x_3, x_5, x_4) h _ _ _ hw (lv_sub hl [0, 1, 2, 3, 5] rfl)
  · replace h := (if_neg c2).symm.trans h
    refine lv_aload_n hx hb dX2_fewest_108 rfl (lv_at hl 0 rfl) ?_
    refine lv_iload hx hb dX2_fewest_109 (lv_at hl 5 rfl) ?_
    obtain ⟨r3, hr3, h⟩ := cl_some h
    refine cVi (ws2 := (wM cA ad Y)) (As := [.int x_5]) (rest := []) C hw jnW (kX2_costOf ad hr3) kl_RX2_177 ki_yX2_costOf ks_yX2_costOf kn_RX2 kc_yX2_costOf ⟨rfl, rfl⟩ hdX2_costOf ⟨Nat.le_of_ble_eq_true rfl, Nat.le_of_ble_eq_true rfl⟩ (ci := 2) (q0 := 0) rfl rfl rfl rfl hl.1 (Nat.le_of_ble_eq_true rfl) dX2_fewest_111 ⟨Nat.zero_le _, Nat.zero_le _⟩ (fun H locs hw => ?_)
    refine lv_goto (tgt := 119) hx hb dX2_fewest_114 (by decide) ?_
    exact kX2_fewest_119 C hr k40 hk40 (Y, x_1, x_2, x_3, x_5, r3) h _ _ _ hw (lv_sub hl [0, 1, 2, 3, 5] rfl)
set_option maxHeartbeats 4000000 in
set_option maxRecDepth 100000 in
theorem kX2_fewest_94 (C : Cx p s m args meth c cX2_fewest 6 RX2 D cA g A) (hr : meth.sig.returnType = (some .int)) {z : (Int32 × VS)} (k40 : ((VS) × (Int32) × (Int32) × (Int32) × (Int32) × (Int32)) → Option (Int32 × VS)) (hk40 : ∀ x, k40 x = some z → GX2_fewest_40 p l e s m args below meth c D cA A ad z x) (x : (VS) × (Int32) × (Int32) × (Int32) × (Int32)) (h : fX2_fewest_94 k40 x = some z) : GX2_fewest_94 p l e s m args below meth c D cA A ad z x := by
  obtain ⟨Y, x_1, x_2, x_4, x_5⟩ := x
  intro H locs ls hw hl
  have hw : Wd D A s.heap (wM cA ad Y) H locs := hw
  have hl : lv_has ls 6 [(0, .ref (ad 0)), (1, .int x_1), (2, .int x_2), (4, .int x_4), (5, .int x_5)] := hl
  have hx := C.1.1
  have hb := C.1.2.1
  have h : (fX2_fewest_97 k40 (Y, x_1, x_2, x_5, x_4, x_5)) = some z := h
  refine lv_iload hx hb dX2_fewest_94 (lv_at hl 4 rfl) ?_
  refine lv_istore_n (lv' := [(3, .int x_5), (0, .ref (ad 0)), (1, .int x_1), (2, .int x_2), (4, .int x_4), (5, .int x_5)]) hx hb dX2_fewest_96 rfl hl (by decide) rfl (fun ls hl => ?_)
  exact kX2_fewest_97 C hr k40 hk40 (Y, x_1, x_2, x_5, x_4, x_5) h _ _ _ hw (lv_sub hl [1, 2, 3, 0, 4, 5] rfl)
set_option maxHeartbeats 4000000 in
set_option maxRecDepth 100000 in
theorem kX2_fewest_40 (C : Cx p s m args meth c cX2_fewest 6 RX2 D cA g A) (hr : meth.sig.returnType = (some .int)) {z : (Int32 × VS)} (k40 : ((VS) × (Int32) × (Int32) × (Int32) × (Int32) × (Int32)) → Option (Int32 × VS)) (hk40 : ∀ x, k40 x = some z → GX2_fewest_40 p l e s m args below meth c D cA A ad z x) (x : (VS) × (Int32) × (Int32) × (Int32) × (Int32) × (Int32)) (h : fX2_fewest_40 k40 x = some z) : GX2_fewest_40 p l e s m args below meth c D cA A ad z x := by
  obtain ⟨Y, x_1, x_2, x_3, x_4, x_5⟩ := x
  intro H locs ls hw hl
  have hw : Wd D A s.heap (wM cA ad Y) H locs := hw
  have hl : lv_has ls 6 [(0, .ref (ad 0)), (1, .int x_1), (2, .int x_2), (3, .int x_3), (4, .int x_4), (5, .int x_5)] := hl
  have hx := C.1.1
  have hb := C.1.2.1
  have h : (rd 81 (Y 0) 0 (fun r1 => if ((1 : Int32) <<< (r1 &&& 31)) ≤ x_5 then if x_3 < 0 then fX2_fewest_135 (Y, x_3) else if x_2 = 0 then fX2_fewest_135 (Y, x_3) else some (x_4, Y) else cl (fX2_boxed Y) (fun r5 => if (x_5 &&& (r5 ^^^ (-1 : Int32))) = 0 then cl (fX2_isWholeBy Y x_5 x_1) (fun q7 => if q7.1 = 0 then fX2_fewest_121 k40 (q7.2, x_1, x_2, x_3, x_4, x_5) else if x_3 < 0 then fX2_fewest_94 k40 (q7.2, x_1, x_2, x_4, x_5) else cl (fX2_bits x_5) (fun r10 => cl (fX2_bits x_3) (fun r11 => if r11 ≤ r10 then fX2_fewest_97 k40 (q7.2, x_1, x_2, x_3, x_4, x_5) else fX2_fewest_94 k40 (q7.2, x_1, x_2, x_4, x_5)))) else fX2_fewest_121 k40 (Y, x_1, x_2, x_3, x_4, x_5)))) = some z := h
  refine lv_iload hx hb dX2_fewest_40 (lv_at hl 5 rfl) ?_
  refine lv_iconst (v := 1) hx hb dX2_fewest_42 (by decide) ?_
  refine lv_aload_n hx hb dX2_fewest_43 rfl (lv_at hl 0 rfl) ?_
  refine tGet (T := TX2) (N := 13) (ci := 2) C hw inX2 0 0 rfl (by decide) kf_RX2_9 rfl rfl rfl dX2_fewest_44 ?_
  refine lv_iconst (v := 0) hx hb dX2_fewest_47 (by decide) ?_
  obtain ⟨r1, ir1, er1, h⟩ := rd_some h
  refine tLd C hw 1 rfl ir1 er1 dX2_fewest_48 ?_
  refine lv_ishl hx hb dX2_fewest_49 ?_
  refine lv_icmp_ge (tgt := 127) hx hb dX2_fewest_50 (by decide) (fun c2 => ?_) (fun c2 => ?_)
  · replace h := (if_pos c2).symm.trans h
    refine lv_iload_n hx hb dX2_fewest_127 rfl (lv_at hl 3 rfl) ?_
    refine lv_if_lt (tgt := 135) hx hb dX2_fewest_128 (by decide) (fun c3 => ?_) (fun c3 => ?_)
    · replace h := (if_pos c3).symm.trans h
      exact kX2_fewest_135 C hr (Y, x_3) h _ _ _ hw (lv_sub hl [3] rfl)
    · replace h := (if_neg c3).symm.trans h
      refine lv_iload_n hx hb dX2_fewest_131 rfl (lv_at hl 2 rfl) ?_
      refine lv_if_ne (tgt := 139) hx hb dX2_fewest_132 (by decide) (fun c4 => ?_) (fun c4 => ?_)
      · replace h := (if_neg c4).symm.trans h
        refine lv_iload hx hb dX2_fewest_139 (lv_at hl 4 rfl) ?_
        obtain rfl := some_e h
        exact rtI C hr hw dX2_fewest_141
      · replace h := (if_pos c4).symm.trans h
        exact kX2_fewest_135 C hr (Y, x_3) h _ _ _ hw (lv_sub hl [3] rfl)
  · replace h := (if_neg c2).symm.trans h
    refine lv_iload hx hb dX2_fewest_53 (lv_at hl 5 rfl) ?_
    refine lv_aload_n hx hb dX2_fewest_55 rfl (lv_at hl 0 rfl) ?_
    obtain ⟨r5, hr5, h⟩ := cl_some h
    refine cVi (ws2 := (wM cA ad Y)) (As := []) (rest := [.int x_5]) C hw jnW (kX2_boxed ad hr5) kl_RX2_171 ki_yX2_boxed ks_yX2_boxed kn_RX2 kc_yX2_boxed ⟨rfl, rfl⟩ hdX2_boxed ⟨Nat.le_of_ble_eq_true rfl, Nat.le_of_ble_eq_true rfl⟩ (ci := 2) (q0 := 0) rfl rfl rfl rfl hl.1 (Nat.le_of_ble_eq_true rfl) dX2_fewest_56 ⟨Nat.zero_le _, Nat.zero_le _⟩ (fun H locs hw => ?_)
    refine lv_iconst (v := (-1)) hx hb dX2_fewest_59 (by decide) ?_
    refine lv_ixor hx hb dX2_fewest_60 ?_
    refine lv_iand hx hb dX2_fewest_61 ?_
    refine lv_if_ne (tgt := 121) hx hb dX2_fewest_62 (by decide) (fun c6 => ?_) (fun c6 => ?_)
    · replace h := (if_neg c6).symm.trans h
      exact kX2_fewest_121 C hr k40 hk40 (Y, x_1, x_2, x_3, x_4, x_5) h _ _ _ hw (lv_sub hl [0, 1, 2, 3, 4, 5] rfl)
    · replace h := (if_pos c6).symm.trans h
      refine lv_aload_n hx hb dX2_fewest_65 rfl (lv_at hl 0 rfl) ?_
      refine lv_iload hx hb dX2_fewest_66 (lv_at hl 5 rfl) ?_
      refine lv_iload_n hx hb dX2_fewest_68 rfl (lv_at hl 1 rfl) ?_
      obtain ⟨q7, hq7, h⟩ := cl_some h
      refine cVi (ws2 := (wM cA ad q7.2)) (As := [.int x_5, .int x_1]) (rest := []) C hw jnW (kX2_isWholeBy ad hq7) kl_RX2_174 ki_yX2_isWholeBy ks_yX2_isWholeBy kn_RX2 kc_yX2_isWholeBy ⟨rfl, rfl⟩ hdX2_isWholeBy ⟨Nat.le_of_ble_eq_true rfl, Nat.le_of_ble_eq_true rfl⟩ (ci := 2) (q0 := 0) rfl rfl rfl rfl hl.1 (Nat.le_of_ble_eq_true rfl) dX2_fewest_69 ⟨Nat.zero_le _, Nat.zero_le _⟩ (fun H locs hw => ?_)
      refine lv_if_ne (tgt := 78) hx hb dX2_fewest_72 (by decide) (fun c8 => ?_) (fun c8 => ?_)
      · replace h := (if_neg c8).symm.trans h
        refine lv_iload_n hx hb dX2_fewest_78 rfl (lv_at hl 3 rfl) ?_
        refine lv_if_lt (tgt := 94) hx hb dX2_fewest_79 (by decide) (fun c9 => ?_) (fun c9 => ?_)
        · replace h := (if_pos c9).symm.trans h
          exact kX2_fewest_94 C hr k40 hk40 (q7.2, x_1, x_2, x_4, x_5) h _ _ _ hw (lv_sub hl [0, 1, 2, 4, 5] rfl)
        · replace h := (if_neg c9).symm.trans h
          refine lv_iload hx hb dX2_fewest_82 (lv_at hl 5 rfl) ?_
          obtain ⟨r10, hr10, h⟩ := cl_some h
          refine cSi (ws2 := (wM cA ad q7.2)) (As := [.int x_5]) (rest := []) C hw jnE (kX2_bits hr10) kl_RX2_94 kt_yX2_bits kn_RX2 kc_yX2_bits ⟨rfl, rfl⟩ hdX2_bits ⟨Nat.le_of_ble_eq_true rfl, Nat.le_of_ble_eq_true rfl⟩ rfl hl.1 (Nat.le_of_ble_eq_true rfl) dX2_fewest_84 ⟨Nat.zero_le _, Nat.zero_le _⟩ (fun H locs hw => ?_)
          refine lv_iload_n hx hb dX2_fewest_87 rfl (lv_at hl 3 rfl) ?_
          obtain ⟨r11, hr11, h⟩ := cl_some h
          refine cSi (ws2 := (wM cA ad q7.2)) (As := [.int x_3]) (rest := [.int r10]) C hw jnE (kX2_bits hr11) kl_RX2_94 kt_yX2_bits kn_RX2 kc_yX2_bits ⟨rfl, rfl⟩ hdX2_bits ⟨Nat.le_of_ble_eq_true rfl, Nat.le_of_ble_eq_true rfl⟩ rfl hl.1 (Nat.le_of_ble_eq_true rfl) dX2_fewest_88 ⟨Nat.zero_le _, Nat.zero_le _⟩ (fun H locs hw => ?_)
          refine lv_icmp_ge (tgt := 97) hx hb dX2_fewest_91 (by decide) (fun c12 => ?_) (fun c12 => ?_)
          · replace h := (if_pos c12).symm.trans h
            exact kX2_fewest_97 C hr k40 hk40 (q7.2, x_1, x_2, x_3, x_4, x_5) h _ _ _ hw (lv_sub hl [0, 1, 2, 3, 4, 5] rfl)
          · replace h := (if_neg c12).symm.trans h
            exact kX2_fewest_94 C hr k40 hk40 (q7.2, x_1, x_2, x_4, x_5) h _ _ _ hw (lv_sub hl [0, 1, 2, 4, 5] rfl)
      · replace h := (if_pos c8).symm.trans h
        refine lv_goto (tgt := 121) hx hb dX2_fewest_75 (by decide) ?_
        exact kX2_fewest_121 C hr k40 hk40 (q7.2, x_1, x_2, x_3, x_4, x_5) h _ _ _ hw (lv_sub hl [0, 1, 2, 3, 4, 5] rfl)
theorem lX2_fewest_40 (C : Cx p s m args meth c cX2_fewest 6 RX2 D cA g A) (hr : meth.sig.returnType = (some .int)) {z : (Int32 × VS)} (n : Nat) (x : (VS) × (Int32) × (Int32) × (Int32) × (Int32) × (Int32)) (h : lp (fX2_fewest_40) n x = some z) : GX2_fewest_40 p l e s m args below meth c D cA A ad z x := lp_ok (GX2_fewest_40 p l e s m args below meth c D cA A ad z) (fun kq hkq x h => kX2_fewest_40 C hr kq hkq x h) n x h
set_option maxHeartbeats 4000000 in
set_option maxRecDepth 100000 in
theorem kX2_fewest (ad : Nat → Nat) {Y : VS} {a_1 : Int32} {a_2 : Int32} {z : (Int32 × VS)} (h : fX2_fewest Y a_1 a_2 = some z) : MI l D cA g yX2_fewest (Cond.code yX2_fewest cX2_fewest 6 (some .int) :: lw_g) rmX2_fewest [.ref (ad 0), .int a_1, .int a_2] (wM cA ad Y) z.1 (wM cA ad z.2) := by
  intro sz
  refine Met.ofW (cc := cX2_fewest) (maxL := 6) (ret := (some .int)) (by decide) rfl ?_
  intro p e s m args below meth c s₁ B hml hv
  obtain ⟨rfl, C, hr, hw⟩ := ent B hml hv
  generalize va_A (wM cA ad Y) sz = A at C hw ⊢
  have hl := lv_entry ([.ref (ad 0), .int a_1, .int a_2]) (n := 6) (Nat.le_of_ble_eq_true rfl)
  rw [lg_entry_eq]
  generalize (lg_sl ([.ref (ad 0), .int a_1, .int a_2]) ++ List.replicate (6 - (lg_sl ([.ref (ad 0), .int a_1, .int a_2])).length) Slot.unset).toArray = ls at hl ⊢
  have hl : lv_has ls 6 [(0, .ref (ad 0)), (1, .int a_1), (2, .int a_2)] := hl
  have hx := C.1.1
  have hb := C.1.2.1
  have h : (cl (fX2_isReader Y a_1) (fun r1 => if r1 = 0 then cl (fX2_no Y (-1)) (fun q6 => some (q6.1, q6.2)) else cl (fX2_isIn a_2 0 1) (fun r3 => if r3 = 0 then cl (fX2_no Y (-2)) (fun q5 => some (q5.1, q5.2)) else lp (fX2_fewest_40) 5000 (Y, a_1, a_2, (-9), 1000000000, 0)))) = some z := h
  refine lv_aload_n hx hb dX2_fewest_0 rfl (lv_at hl 0 rfl) ?_
  refine lv_iload_n hx hb dX2_fewest_1 rfl (lv_at hl 1 rfl) ?_
  obtain ⟨r1, hr1, h⟩ := cl_some h
  refine cVi (ws2 := (wM cA ad Y)) (As := [.int a_1]) (rest := []) C hw jnW (kX2_isReader ad hr1) kl_RX2_147 ki_yX2_isReader ks_yX2_isReader kn_RX2 kc_yX2_isReader ⟨rfl, rfl⟩ hdX2_isReader ⟨Nat.le_of_ble_eq_true rfl, Nat.le_of_ble_eq_true rfl⟩ (ci := 2) (q0 := 0) rfl rfl rfl rfl hl.1 (Nat.le_of_ble_eq_true rfl) dX2_fewest_2 ⟨Nat.zero_le _, Nat.zero_le _⟩ (fun H locs hw => ?_)
  refine lv_if_ne (tgt := 14) hx hb dX2_fewest_5 (by decide) (fun c2 => ?_) (fun c2 => ?_)
  · replace h := (if_neg c2).symm.trans h
    refine lv_iload_n hx hb dX2_fewest_14 rfl (lv_at hl 2 rfl) ?_
    refine lv_iconst (v := 0) hx hb dX2_fewest_15 (by decide) ?_
    refine lv_iconst (v := 1) hx hb dX2_fewest_16 (by decide) ?_
    obtain ⟨r3, hr3, h⟩ := cl_some h
    refine cSi (ws2 := (wM cA ad Y)) (As := [.int a_2, .int 0, .int 1]) (rest := []) C hw jnE (kX2_isIn hr3) kl_RX2_40 kt_yX2_isIn kn_RX2 kc_yX2_isIn ⟨rfl, rfl⟩ hdX2_isIn ⟨Nat.le_of_ble_eq_true rfl, Nat.le_of_ble_eq_true rfl⟩ rfl hl.1 (Nat.le_of_ble_eq_true rfl) dX2_fewest_17 ⟨Nat.zero_le _, Nat.zero_le _⟩ (fun H locs hw => ?_)
    refine lv_if_ne (tgt := 30) hx hb dX2_fewest_20 (by decide) (fun c4 => ?_) (fun c4 => ?_)
    · replace h := (if_neg c4).symm.trans h
      refine lv_bipush (v := (-9)) hx hb dX2_fewest_30 (by decide) ?_
      refine lv_istore_n (lv' := [(3, .int (-9)), (0, .ref (ad 0)), (1, .int a_1), (2, .int a_2)]) hx hb dX2_fewest_32 rfl hl (by decide) rfl (fun ls hl => ?_)
      refine lv_ldc (v := 1000000000) hx hb C.1.2.2.2.1 (C.1.2.2.2.2 _ kk_RX2_164) dX2_fewest_33 ?_
      refine lv_istore (lv' := [(4, .int 1000000000), (3, .int (-9)), (0, .ref (ad 0)), (1, .int a_1), (2, .int a_2)]) hx hb dX2_fewest_35 hl (by decide) rfl (fun ls hl => ?_)
      refine lv_iconst (v := 0) hx hb dX2_fewest_37 (by decide) ?_
      refine lv_istore (lv' := [(5, .int 0), (4, .int 1000000000), (3, .int (-9)), (0, .ref (ad 0)), (1, .int a_1), (2, .int a_2)]) hx hb dX2_fewest_38 hl (by decide) rfl (fun ls hl => ?_)
      exact lX2_fewest_40 C hr 5000 (Y, a_1, a_2, (-9), 1000000000, 0) h _ _ _ hw (lv_sub hl [3, 4, 5, 2, 1, 0] rfl)
    · replace h := (if_pos c4).symm.trans h
      refine lv_aload_n hx hb dX2_fewest_23 rfl (lv_at hl 0 rfl) ?_
      refine lv_bipush (v := (-2)) hx hb dX2_fewest_24 (by decide) ?_
      obtain ⟨q5, hq5, h⟩ := cl_some h
      refine cVi (ws2 := (wM cA ad q5.2)) (As := [.int (-2)]) (rest := []) C hw jnW (kX2_no ad hq5) kl_RX2_36 ki_yX2_no ks_yX2_no kn_RX2 kc_yX2_no ⟨rfl, rfl⟩ hdX2_no ⟨Nat.le_of_ble_eq_true rfl, Nat.le_of_ble_eq_true rfl⟩ (ci := 2) (q0 := 0) rfl rfl rfl rfl hl.1 (Nat.le_of_ble_eq_true rfl) dX2_fewest_26 ⟨Nat.zero_le _, Nat.zero_le _⟩ (fun H locs hw => ?_)
      obtain rfl := some_e h
      exact rtI C hr hw dX2_fewest_29
  · replace h := (if_pos c2).symm.trans h
    refine lv_aload_n hx hb dX2_fewest_8 rfl (lv_at hl 0 rfl) ?_
    refine lv_iconst (v := (-1)) hx hb dX2_fewest_9 (by decide) ?_
    obtain ⟨q6, hq6, h⟩ := cl_some h
    refine cVi (ws2 := (wM cA ad q6.2)) (As := [.int (-1)]) (rest := []) C hw jnW (kX2_no ad hq6) kl_RX2_36 ki_yX2_no ks_yX2_no kn_RX2 kc_yX2_no ⟨rfl, rfl⟩ hdX2_no ⟨Nat.le_of_ble_eq_true rfl, Nat.le_of_ble_eq_true rfl⟩ (ci := 2) (q0 := 0) rfl rfl rfl rfl hl.1 (Nat.le_of_ble_eq_true rfl) dX2_fewest_10 ⟨Nat.zero_le _, Nat.zero_le _⟩ (fun H locs hw => ?_)
    obtain rfl := some_e h
    exact rtI C hr hw dX2_fewest_13
abbrev rmX2_windBest : Room := { frames := 7, cells := 0, slots := 0, locals := 160 }
theorem hdX2_windBest : yX2_windBest.cls = RX2 ∧ yX2_windBest.cls ≠ "java/lang/invoke/MethodHandle" ∧ yX2_windBest.cls ≠ "java/lang/invoke/VarHandle" ∧ (parseMethodDescriptor yX2_windBest.desc).map (fun d => d.parameters.length) = some 2 := by decide +kernel
def GX2_windBest_106 (p : Program) (l : Launch) (e : Env) (s : State) (m : MethodId) (args : Array Value) (below : List Frame) (meth : Method) (c : Code) (D : va_G) (cA : ClassId) (A : Nat → Prop) (ad : Nat → Nat) (z : (Int32 × VS)) (x : (VS) × (Int32) × (Int32) × (Int32) × (Int32) × (Int32)) : Prop := ∀ (H : Heap) (locs : List Loc) (ls : Array Slot), Wd D A s.heap (wM cA ad x.1) H locs → lv_has ls 7 [(0, .ref (ad 0)), (1, .int x.2.1), (2, .int x.2.2.1), (4, .int x.2.2.2.1), (5, .int x.2.2.2.2.1), (6, .int x.2.2.2.2.2)] → W p l e rmX2_windBest s m args below meth c H locs 0 0 (MQ below (QI D cA A z.1 (wM cA ad z.2)) args s 0 0 A) (F0 m 106 ls [])
def GX2_windBest_43 (p : Program) (l : Launch) (e : Env) (s : State) (m : MethodId) (args : Array Value) (below : List Frame) (meth : Method) (c : Code) (D : va_G) (cA : ClassId) (A : Nat → Prop) (ad : Nat → Nat) (z : (Int32 × VS)) (x : (VS) × (Int32) × (Int32) × (Int32) × (Int32) × (Int32)) : Prop := ∀ (H : Heap) (locs : List Loc) (ls : Array Slot), Wd D A s.heap (wM cA ad x.1) H locs → lv_has ls 7 [(0, .ref (ad 0)), (1, .int x.2.1), (2, .int x.2.2.1), (4, .int x.2.2.2.1), (5, .int x.2.2.2.2.1), (6, .int x.2.2.2.2.2)] → W p l e rmX2_windBest s m args below meth c H locs 0 0 (MQ below (QI D cA A z.1 (wM cA ad z.2)) args s 0 0 A) (F0 m 43 ls [])
def GX2_windBest_24 (p : Program) (l : Launch) (e : Env) (s : State) (m : MethodId) (args : Array Value) (below : List Frame) (meth : Method) (c : Code) (D : va_G) (cA : ClassId) (A : Nat → Prop) (ad : Nat → Nat) (z : (Int32 × VS)) (x : (VS) × (Int32) × (Int32) × (Int32)) : Prop := ∀ (H : Heap) (locs : List Loc) (ls : Array Slot), Wd D A s.heap (wM cA ad x.1) H locs → lv_has ls 7 [(0, .ref (ad 0)), (1, .int x.2.1), (2, .int x.2.2.1), (3, .int x.2.2.2)] → W p l e rmX2_windBest s m args below meth c H locs 0 0 (MQ below (QI D cA A z.1 (wM cA ad z.2)) args s 0 0 A) (F0 m 24 ls [])
def fX2_windBest_106 (k43 : ((VS) × (Int32) × (Int32) × (Int32) × (Int32) × (Int32)) → Option (Int32 × VS)) : ((VS) × (Int32) × (Int32) × (Int32) × (Int32) × (Int32)) → Option (Int32 × VS) := fun x => match x with | (Y, x_1, x_2, x_4, x_5, x_6) => bn (x_6 + 1) (fun x1 => k43 (Y, x_1, x_2, x_4, x_5, x1))
def fX2_windBest_43 (k43 : ((VS) × (Int32) × (Int32) × (Int32) × (Int32) × (Int32)) → Option (Int32 × VS)) : ((VS) × (Int32) × (Int32) × (Int32) × (Int32) × (Int32)) → Option (Int32 × VS) := fun x => match x with | (Y, x_1, x_2, x_4, x_5, x_6) => if 10 ≤ x_6 then if x_2 = 0 then some (x_4, Y) else some (x_5, Y) else cl (fX2_copies (Y 0) (Y 1)) (fun w3 => bn (up Y 1 w3) (fun w4 => ck 81 4 (bn (up w4 1 (upd (w4 1) (4 : Int32).toNatClampNeg x_6)) (fun w5 => cl (fX2_nightsOn (w5 1) x_1 (-1)) (fun w6 => bn (up w5 1 w6) (fun w7 => cl (fX2_wholeOnes (w7 1)) (fun r8 => if x_5 < r8 then cl (fX2_wholeOnes (w7 1)) (fun r10 => fX2_windBest_106 k43 (w7, x_1, x_2, x_6, r10, x_6)) else fX2_windBest_106 k43 (w7, x_1, x_2, x_4, x_5, x_6))))))))
def fX2_windBest_24 : ((VS) × (Int32) × (Int32) × (Int32)) → Option (Int32 × VS) := fun x => match x with | (Y, x_1, x_2, x_3) => if x_3 = 0 then lp (fX2_windBest_43) 5000 (Y, x_1, x_2, 0, (-1), 0) else cl (fX2_no Y x_3) (fun q2 => some (q2.1, q2.2))
def fX2_windBest (Y : VS) (a_1 : Int32) (a_2 : Int32) : Option (Int32 × VS) := cl (fX2_wrongBy a_1 0 30) (fun r1 => if r1 = 0 then cl (fX2_isIn a_2 0 1) (fun r3 => if r3 = 0 then fX2_windBest_24 (Y, a_1, a_2, (-2)) else fX2_windBest_24 (Y, a_1, a_2, r1)) else fX2_windBest_24 (Y, a_1, a_2, r1))
set_option maxHeartbeats 4000000 in
set_option maxRecDepth 100000 in
theorem kX2_windBest_106 (C : Cx p s m args meth c cX2_windBest 7 RX2 D cA g A) (hr : meth.sig.returnType = (some .int)) {z : (Int32 × VS)} (k43 : ((VS) × (Int32) × (Int32) × (Int32) × (Int32) × (Int32)) → Option (Int32 × VS)) (hk43 : ∀ x, k43 x = some z → GX2_windBest_43 p l e s m args below meth c D cA A ad z x) (x : (VS) × (Int32) × (Int32) × (Int32) × (Int32) × (Int32)) (h : fX2_windBest_106 k43 x = some z) : GX2_windBest_106 p l e s m args below meth c D cA A ad z x := by
  obtain ⟨Y, x_1, x_2, x_4, x_5, x_6⟩ := x
  intro H locs ls hw hl
  have hw : Wd D A s.heap (wM cA ad Y) H locs := hw
  have hl : lv_has ls 7 [(0, .ref (ad 0)), (1, .int x_1), (2, .int x_2), (4, .int x_4), (5, .int x_5), (6, .int x_6)] := hl
  have hx := C.1.1
  have hb := C.1.2.1
  have h : (bn (x_6 + 1) (fun x1 => k43 (Y, x_1, x_2, x_4, x_5, x1))) = some z := h
  obtain ⟨x1, ex1⟩ : ∃ y : Int32, y = x_6 + 1 := ⟨_, rfl⟩
  replace h := bn_some h ex1
  refine lv_iinc (v := x1) (lv' := [(6, .int x1), (0, .ref (ad 0)), (1, .int x_1), (2, .int x_2), (4, .int x_4), (5, .int x_5)]) hx hb dX2_windBest_106 hl (k := 5) rfl (by rw [ex1]; rfl) (by decide) rfl (fun ls hl => ?_)
  refine lv_goto (tgt := 43) hx hb dX2_windBest_109 (by decide) ?_
  exact hk43 (Y, x_1, x_2, x_4, x_5, x1) h _ _ _ hw (lv_sub hl [1, 2, 3, 4, 5, 0] rfl)
set_option maxHeartbeats 4000000 in
set_option maxRecDepth 100000 in
theorem kX2_windBest_43 (C : Cx p s m args meth c cX2_windBest 7 RX2 D cA g A) (hr : meth.sig.returnType = (some .int)) {z : (Int32 × VS)} (k43 : ((VS) × (Int32) × (Int32) × (Int32) × (Int32) × (Int32)) → Option (Int32 × VS)) (hk43 : ∀ x, k43 x = some z → GX2_windBest_43 p l e s m args below meth c D cA A ad z x) (x : (VS) × (Int32) × (Int32) × (Int32) × (Int32) × (Int32)) (h : fX2_windBest_43 k43 x = some z) : GX2_windBest_43 p l e s m args below meth c D cA A ad z x := by
  obtain ⟨Y, x_1, x_2, x_4, x_5, x_6⟩ := x
  intro H locs ls hw hl
  have hw : Wd D A s.heap (wM cA ad Y) H locs := hw
  have hl : lv_has ls 7 [(0, .ref (ad 0)), (1, .int x_1), (2, .int x_2), (4, .int x_4), (5, .int x_5), (6, .int x_6)] := hl
  have hx := C.1.1
  have hb := C.1.2.1
  have h : (if 10 ≤ x_6 then if x_2 = 0 then some (x_4, Y) else some (x_5, Y) else cl (fX2_copies (Y 0) (Y 1)) (fun w3 => bn (up Y 1 w3) (fun w4 => ck 81 4 (bn (up w4 1 (upd (w4 1) (4 : Int32).toNatClampNeg x_6)) (fun w5 => cl (fX2_nightsOn (w5 1) x_1 (-1)) (fun w6 => bn (up w5 1 w6) (fun w7 => cl (fX2_wholeOnes (w7 1)) (fun r8 => if x_5 < r8 then cl (fX2_wholeOnes (w7 1)) (fun r10 => fX2_windBest_106 k43 (w7, x_1, x_2, x_6, r10, x_6)) else fX2_windBest_106 k43 (w7, x_1, x_2, x_4, x_5, x_6))))))))) = some z := h
  refine lv_iload hx hb dX2_windBest_43 (lv_at hl 5 rfl) ?_
  refine lv_bipush (v := 10) hx hb dX2_windBest_45 (by decide) ?_
  refine lv_icmp_ge (tgt := 112) hx hb dX2_windBest_47 (by decide) (fun c1 => ?_) (fun c1 => ?_)
  · replace h := (if_pos c1).symm.trans h
    refine lv_iload_n hx hb dX2_windBest_112 rfl (lv_at hl 2 rfl) ?_
    refine lv_if_ne (tgt := 121) hx hb dX2_windBest_113 (by decide) (fun c2 => ?_) (fun c2 => ?_)
    · replace h := (if_neg c2).symm.trans h
      refine lv_iload hx hb dX2_windBest_121 (lv_at hl 4 rfl) ?_
      obtain rfl := some_e h
      exact rtI C hr hw dX2_windBest_123
    · replace h := (if_pos c2).symm.trans h
      refine lv_iload hx hb dX2_windBest_116 (lv_at hl 3 rfl) ?_
      refine lv_goto (tgt := 123) hx hb dX2_windBest_118 (by decide) ?_
      obtain rfl := some_e h
      exact rtI C hr hw dX2_windBest_123
  · replace h := (if_neg c1).symm.trans h
    refine lv_aload_n hx hb dX2_windBest_50 rfl (lv_at hl 0 rfl) ?_
    refine tGet (T := TX2) (N := 13) (ci := 2) C hw inX2 0 0 rfl (by decide) kf_RX2_9 rfl rfl rfl dX2_windBest_51 ?_
    refine lv_aload_n hx hb dX2_windBest_54 rfl (lv_at hl 0 rfl) ?_
    refine tGet (T := TX2) (N := 13) (ci := 2) C hw inX2 1 0 rfl (by decide) kf_RX2_13 rfl rfl rfl dX2_windBest_55 ?_
    obtain ⟨w3, hw3, h⟩ := cl_some h
    obtain ⟨w4, ew4⟩ : ∃ y : VS, y = up Y 1 w3 := ⟨_, rfl⟩
    replace h := bn_some h ew4
    refine cSv (ws2 := (wM cA ad w4)) (As := [.ref (ad 1), .ref (ad 2)]) (rest := []) C hw (by rw [ew4]; exact jMM01) (kX2_copies (ad 1) (ad 2) hw3) kl_RX2_134 kt_yX2_copies kn_RX2 kc_yX2_copies ⟨rfl, rfl⟩ hdX2_copies ⟨Nat.le_of_ble_eq_true rfl, Nat.le_of_ble_eq_true rfl⟩ rfl hl.1 (Nat.le_of_ble_eq_true rfl) dX2_windBest_58 ⟨Nat.zero_le _, Nat.zero_le _⟩ (fun H locs hw => ?_)
    refine lv_aload_n hx hb dX2_windBest_61 rfl (lv_at hl 0 rfl) ?_
    refine tGet (T := TX2) (N := 13) (ci := 2) C hw inX2 1 0 rfl (by decide) kf_RX2_13 rfl rfl rfl dX2_windBest_62 ?_
    refine lv_iconst (v := 4) hx hb dX2_windBest_65 (by decide) ?_
    refine lv_iload hx hb dX2_windBest_66 (lv_at hl 5 rfl) ?_
    obtain ⟨iw5, h⟩ := ck_some h
    obtain ⟨w5, ew5⟩ : ∃ y : VS, y = up w4 1 (upd (w4 1) (4 : Int32).toNatClampNeg x_6) := ⟨_, rfl⟩
    replace h := bn_some h ew5
    refine tSt (ws2 := (wM cA ad w5)) C hw 2 rfl iw5 (by rw [ew5]; rfl) dX2_windBest_68 (fun H locs hw => ?_)
    refine lv_aload_n hx hb dX2_windBest_69 rfl (lv_at hl 0 rfl) ?_
    refine tGet (T := TX2) (N := 13) (ci := 2) C hw inX2 1 0 rfl (by decide) kf_RX2_13 rfl rfl rfl dX2_windBest_70 ?_
    refine lv_iload_n hx hb dX2_windBest_73 rfl (lv_at hl 1 rfl) ?_
    refine lv_iconst (v := (-1)) hx hb dX2_windBest_74 (by decide) ?_
    obtain ⟨w6, hw6, h⟩ := cl_some h
    obtain ⟨w7, ew7⟩ : ∃ y : VS, y = up w5 1 w6 := ⟨_, rfl⟩
    replace h := bn_some h ew7
    refine cSv (ws2 := (wM cA ad w7)) (As := [.ref (ad 2), .int x_1, .int (-1)]) (rest := []) C hw (by rw [ew7]; exact jM1) (kX2_nightsOn (ad 2) hw6) kl_RX2_128 kt_yX2_nightsOn kn_RX2 kc_yX2_nightsOn ⟨rfl, rfl⟩ hdX2_nightsOn ⟨Nat.le_of_ble_eq_true rfl, Nat.le_of_ble_eq_true rfl⟩ rfl hl.1 (Nat.le_of_ble_eq_true rfl) dX2_windBest_75 ⟨Nat.zero_le _, Nat.zero_le _⟩ (fun H locs hw => ?_)
    refine lv_aload_n hx hb dX2_windBest_78 rfl (lv_at hl 0 rfl) ?_
    refine tGet (T := TX2) (N := 13) (ci := 2) C hw inX2 1 0 rfl (by decide) kf_RX2_13 rfl rfl rfl dX2_windBest_79 ?_
    obtain ⟨r8, hr8, h⟩ := cl_some h
    refine cSi (ws2 := (wM cA ad w7)) (As := [.ref (ad 2)]) (rest := []) C hw jM1r (kX2_wholeOnes (ad 2) hr8) kl_RX2_180 kt_yX2_wholeOnes kn_RX2 kc_yX2_wholeOnes ⟨rfl, rfl⟩ hdX2_wholeOnes ⟨Nat.le_of_ble_eq_true rfl, Nat.le_of_ble_eq_true rfl⟩ rfl hl.1 (Nat.le_of_ble_eq_true rfl) dX2_windBest_82 ⟨Nat.zero_le _, Nat.zero_le _⟩ (fun H locs hw => ?_)
    refine lv_iload hx hb dX2_windBest_85 (lv_at hl 4 rfl) ?_
    refine lv_icmp_gt (tgt := 93) hx hb dX2_windBest_87 (by decide) (fun c9 => ?_) (fun c9 => ?_)
    · replace h := (if_pos c9).symm.trans h
      refine lv_iload hx hb dX2_windBest_93 (lv_at hl 5 rfl) ?_
      refine lv_istore (lv' := [(4, .int x_6), (0, .ref (ad 0)), (1, .int x_1), (2, .int x_2), (5, .int x_5), (6, .int x_6)]) hx hb dX2_windBest_95 hl (by decide) rfl (fun ls hl => ?_)
      refine lv_aload_n hx hb dX2_windBest_97 rfl (lv_at hl 1 rfl) ?_
      refine tGet (T := TX2) (N := 13) (ci := 2) C hw inX2 1 0 rfl (by decide) kf_RX2_13 rfl rfl rfl dX2_windBest_98 ?_
      obtain ⟨r10, hr10, h⟩ := cl_some h
      refine cSi (ws2 := (wM cA ad w7)) (As := [.ref (ad 2)]) (rest := []) C hw jM1r (kX2_wholeOnes (ad 2) hr10) kl_RX2_180 kt_yX2_wholeOnes kn_RX2 kc_yX2_wholeOnes ⟨rfl, rfl⟩ hdX2_wholeOnes ⟨Nat.le_of_ble_eq_true rfl, Nat.le_of_ble_eq_true rfl⟩ rfl hl.1 (Nat.le_of_ble_eq_true rfl) dX2_windBest_101 ⟨Nat.zero_le _, Nat.zero_le _⟩ (fun H locs hw => ?_)
      refine lv_istore (lv' := [(5, .int r10), (4, .int x_6), (0, .ref (ad 0)), (1, .int x_1), (2, .int x_2), (6, .int x_6)]) hx hb dX2_windBest_104 hl (by decide) rfl (fun ls hl => ?_)
      exact kX2_windBest_106 C hr k43 hk43 (w7, x_1, x_2, x_6, r10, x_6) h _ _ _ hw (lv_sub hl [2, 3, 4, 1, 0, 5] rfl)
    · replace h := (if_neg c9).symm.trans h
      refine lv_goto (tgt := 106) hx hb dX2_windBest_90 (by decide) ?_
      exact kX2_windBest_106 C hr k43 hk43 (w7, x_1, x_2, x_4, x_5, x_6) h _ _ _ hw (lv_sub hl [0, 1, 2, 3, 4, 5] rfl)
theorem lX2_windBest_43 (C : Cx p s m args meth c cX2_windBest 7 RX2 D cA g A) (hr : meth.sig.returnType = (some .int)) {z : (Int32 × VS)} (n : Nat) (x : (VS) × (Int32) × (Int32) × (Int32) × (Int32) × (Int32)) (h : lp (fX2_windBest_43) n x = some z) : GX2_windBest_43 p l e s m args below meth c D cA A ad z x := lp_ok (GX2_windBest_43 p l e s m args below meth c D cA A ad z) (fun kq hkq x h => kX2_windBest_43 C hr kq hkq x h) n x h
set_option maxHeartbeats 4000000 in
set_option maxRecDepth 100000 in
theorem kX2_windBest_24 (C : Cx p s m args meth c cX2_windBest 7 RX2 D cA g A) (hr : meth.sig.returnType = (some .int)) {z : (Int32 × VS)} (x : (VS) × (Int32) × (Int32) × (Int32)) (h : fX2_windBest_24 x = some z) : GX2_windBest_24 p l e s m args below meth c D cA A ad z x := by
  obtain ⟨Y, x_1, x_2, x_3⟩ := x
  intro H locs ls hw hl
  have hw : Wd D A s.heap (wM cA ad Y) H locs := hw
  have hl : lv_has ls 7 [(0, .ref (ad 0)), (1, .int x_1), (2, .int x_2), (3, .int x_3)] := hl
  have hx := C.1.1
  have hb := C.1.2.1
  have h : (if x_3 = 0 then lp (fX2_windBest_43) 5000 (Y, x_1, x_2, 0, (-1), 0) else cl (fX2_no Y x_3) (fun q2 => some (q2.1, q2.2))) = some z := h
  refine lv_iload_n hx hb dX2_windBest_24 rfl (lv_at hl 3 rfl) ?_
  refine lv_if_eq (tgt := 34) hx hb dX2_windBest_25 (by decide) (fun c1 => ?_) (fun c1 => ?_)
  · replace h := (if_pos c1).symm.trans h
    refine lv_iconst (v := 0) hx hb dX2_windBest_34 (by decide) ?_
    refine lv_istore (lv' := [(4, .int 0), (0, .ref (ad 0)), (1, .int x_1), (2, .int x_2), (3, .int x_3)]) hx hb dX2_windBest_35 hl (by decide) rfl (fun ls hl => ?_)
    refine lv_iconst (v := (-1)) hx hb dX2_windBest_37 (by decide) ?_
    refine lv_istore (lv' := [(5, .int (-1)), (4, .int 0), (0, .ref (ad 0)), (1, .int x_1), (2, .int x_2), (3, .int x_3)]) hx hb dX2_windBest_38 hl (by decide) rfl (fun ls hl => ?_)
    refine lv_iconst (v := 0) hx hb dX2_windBest_40 (by decide) ?_
    refine lv_istore (lv' := [(6, .int 0), (5, .int (-1)), (4, .int 0), (0, .ref (ad 0)), (1, .int x_1), (2, .int x_2), (3, .int x_3)]) hx hb dX2_windBest_41 hl (by decide) rfl (fun ls hl => ?_)
    exact lX2_windBest_43 C hr 5000 (Y, x_1, x_2, 0, (-1), 0) h _ _ _ hw (lv_sub hl [3, 4, 5, 2, 1, 0] rfl)
  · replace h := (if_neg c1).symm.trans h
    refine lv_aload_n hx hb dX2_windBest_28 rfl (lv_at hl 0 rfl) ?_
    refine lv_iload_n hx hb dX2_windBest_29 rfl (lv_at hl 3 rfl) ?_
    obtain ⟨q2, hq2, h⟩ := cl_some h
    refine cVi (ws2 := (wM cA ad q2.2)) (As := [.int x_3]) (rest := []) C hw jnW (kX2_no ad hq2) kl_RX2_36 ki_yX2_no ks_yX2_no kn_RX2 kc_yX2_no ⟨rfl, rfl⟩ hdX2_no ⟨Nat.le_of_ble_eq_true rfl, Nat.le_of_ble_eq_true rfl⟩ (ci := 2) (q0 := 0) rfl rfl rfl rfl hl.1 (Nat.le_of_ble_eq_true rfl) dX2_windBest_30 ⟨Nat.zero_le _, Nat.zero_le _⟩ (fun H locs hw => ?_)
    obtain rfl := some_e h
    exact rtI C hr hw dX2_windBest_33
set_option maxHeartbeats 4000000 in
set_option maxRecDepth 100000 in
theorem kX2_windBest (ad : Nat → Nat) {Y : VS} {a_1 : Int32} {a_2 : Int32} {z : (Int32 × VS)} (h : fX2_windBest Y a_1 a_2 = some z) : MI l D cA g yX2_windBest (Cond.code yX2_windBest cX2_windBest 7 (some .int) :: lw_g) rmX2_windBest [.ref (ad 0), .int a_1, .int a_2] (wM cA ad Y) z.1 (wM cA ad z.2) := by
  intro sz
  refine Met.ofW (cc := cX2_windBest) (maxL := 7) (ret := (some .int)) (by decide) rfl ?_
  intro p e s m args below meth c s₁ B hml hv
  obtain ⟨rfl, C, hr, hw⟩ := ent B hml hv
  generalize va_A (wM cA ad Y) sz = A at C hw ⊢
  have hl := lv_entry ([.ref (ad 0), .int a_1, .int a_2]) (n := 7) (Nat.le_of_ble_eq_true rfl)
  rw [lg_entry_eq]
  generalize (lg_sl ([.ref (ad 0), .int a_1, .int a_2]) ++ List.replicate (7 - (lg_sl ([.ref (ad 0), .int a_1, .int a_2])).length) Slot.unset).toArray = ls at hl ⊢
  have hl : lv_has ls 7 [(0, .ref (ad 0)), (1, .int a_1), (2, .int a_2)] := hl
  have hx := C.1.1
  have hb := C.1.2.1
  have h : (cl (fX2_wrongBy a_1 0 30) (fun r1 => if r1 = 0 then cl (fX2_isIn a_2 0 1) (fun r3 => if r3 = 0 then fX2_windBest_24 (Y, a_1, a_2, (-2)) else fX2_windBest_24 (Y, a_1, a_2, r1)) else fX2_windBest_24 (Y, a_1, a_2, r1))) = some z := h
  refine lv_iload_n hx hb dX2_windBest_0 rfl (lv_at hl 1 rfl) ?_
  refine lv_iconst (v := 0) hx hb dX2_windBest_1 (by decide) ?_
  refine lv_bipush (v := 30) hx hb dX2_windBest_2 (by decide) ?_
  obtain ⟨r1, hr1, h⟩ := cl_some h
  refine cSi (ws2 := (wM cA ad Y)) (As := [.int a_1, .int 0, .int 30]) (rest := []) C hw jnE (kX2_wrongBy hr1) kl_RX2_153 kt_yX2_wrongBy kn_RX2 kc_yX2_wrongBy ⟨rfl, rfl⟩ hdX2_wrongBy ⟨Nat.le_of_ble_eq_true rfl, Nat.le_of_ble_eq_true rfl⟩ rfl hl.1 (Nat.le_of_ble_eq_true rfl) dX2_windBest_4 ⟨Nat.zero_le _, Nat.zero_le _⟩ (fun H locs hw => ?_)
  refine lv_istore_n (lv' := [(3, .int r1), (0, .ref (ad 0)), (1, .int a_1), (2, .int a_2)]) hx hb dX2_windBest_7 rfl hl (by decide) rfl (fun ls hl => ?_)
  refine lv_iload_n hx hb dX2_windBest_8 rfl (lv_at hl 0 rfl) ?_
  refine lv_if_ne (tgt := 24) hx hb dX2_windBest_9 (by decide) (fun c2 => ?_) (fun c2 => ?_)
  · replace h := (if_neg c2).symm.trans h
    exact kX2_windBest_24 C hr (Y, a_1, a_2, r1) h _ _ _ hw (lv_sub hl [1, 2, 3, 0] rfl)
  · replace h := (if_pos c2).symm.trans h
    refine lv_iload_n hx hb dX2_windBest_12 rfl (lv_at hl 3 rfl) ?_
    refine lv_iconst (v := 0) hx hb dX2_windBest_13 (by decide) ?_
    refine lv_iconst (v := 1) hx hb dX2_windBest_14 (by decide) ?_
    obtain ⟨r3, hr3, h⟩ := cl_some h
    refine cSi (ws2 := (wM cA ad Y)) (As := [.int a_2, .int 0, .int 1]) (rest := []) C hw jnE (kX2_isIn hr3) kl_RX2_40 kt_yX2_isIn kn_RX2 kc_yX2_isIn ⟨rfl, rfl⟩ hdX2_isIn ⟨Nat.le_of_ble_eq_true rfl, Nat.le_of_ble_eq_true rfl⟩ rfl hl.1 (Nat.le_of_ble_eq_true rfl) dX2_windBest_15 ⟨Nat.zero_le _, Nat.zero_le _⟩ (fun H locs hw => ?_)
    refine lv_if_ne (tgt := 24) hx hb dX2_windBest_18 (by decide) (fun c4 => ?_) (fun c4 => ?_)
    · replace h := (if_neg c4).symm.trans h
      exact kX2_windBest_24 C hr (Y, a_1, a_2, r1) h _ _ _ hw (lv_sub hl [1, 2, 3, 0] rfl)
    · replace h := (if_pos c4).symm.trans h
      refine lv_bipush (v := (-2)) hx hb dX2_windBest_21 (by decide) ?_
      refine lv_istore_n (lv' := [(3, .int (-2)), (0, .ref (ad 0)), (1, .int a_1), (2, .int a_2)]) hx hb dX2_windBest_23 rfl hl (by decide) rfl (fun ls hl => ?_)
      exact kX2_windBest_24 C hr (Y, a_1, a_2, (-2)) h _ _ _ hw (lv_sub hl [1, 2, 3, 0] rfl)
abbrev rmX2_move : Room := { frames := 7, cells := 0, slots := 0, locals := 160 }
theorem hdX2_move : yX2_move.cls = RX2 ∧ yX2_move.cls ≠ "java/lang/invoke/MethodHandle" ∧ yX2_move.cls ≠ "java/lang/invoke/VarHandle" ∧ (parseMethodDescriptor yX2_move.desc).map (fun d => d.parameters.length) = some 3 := by decide +kernel
def GX2_move_135 (p : Program) (l : Launch) (e : Env) (s : State) (m : MethodId) (args : Array Value) (below : List Frame) (meth : Method) (c : Code) (D : va_G) (cA : ClassId) (A : Nat → Prop) (ad : Nat → Nat) (z : (Int32 × VS)) (x : (VS) × (Int32) × (Int32) × (Int32) × (Int32) × (Int32) × (Int32)) : Prop := ∀ (H : Heap) (locs : List Loc) (ls : Array Slot), Wd D A s.heap (wM cA ad x.1) H locs → lv_has ls 8 [(0, .ref (ad 0)), (1, .int x.2.1), (2, .int x.2.2.1), (3, .int x.2.2.2.1), (5, .int x.2.2.2.2.1), (6, .int x.2.2.2.2.2.1), (7, .int x.2.2.2.2.2.2)] → W p l e rmX2_move s m args below meth c H locs 0 0 (MQ below (QI D cA A z.1 (wM cA ad z.2)) args s 0 0 A) (F0 m 135 ls [])
def GX2_move_60 (p : Program) (l : Launch) (e : Env) (s : State) (m : MethodId) (args : Array Value) (below : List Frame) (meth : Method) (c : Code) (D : va_G) (cA : ClassId) (A : Nat → Prop) (ad : Nat → Nat) (z : (Int32 × VS)) (x : (VS) × (Int32) × (Int32) × (Int32) × (Int32) × (Int32) × (Int32)) : Prop := ∀ (H : Heap) (locs : List Loc) (ls : Array Slot), Wd D A s.heap (wM cA ad x.1) H locs → lv_has ls 8 [(0, .ref (ad 0)), (1, .int x.2.1), (2, .int x.2.2.1), (3, .int x.2.2.2.1), (5, .int x.2.2.2.2.1), (6, .int x.2.2.2.2.2.1), (7, .int x.2.2.2.2.2.2)] → W p l e rmX2_move s m args below meth c H locs 0 0 (MQ below (QI D cA A z.1 (wM cA ad z.2)) args s 0 0 A) (F0 m 60 ls [])
def GX2_move_39 (p : Program) (l : Launch) (e : Env) (s : State) (m : MethodId) (args : Array Value) (below : List Frame) (meth : Method) (c : Code) (D : va_G) (cA : ClassId) (A : Nat → Prop) (ad : Nat → Nat) (z : (Int32 × VS)) (x : (VS) × (Int32) × (Int32) × (Int32) × (Int32)) : Prop := ∀ (H : Heap) (locs : List Loc) (ls : Array Slot), Wd D A s.heap (wM cA ad x.1) H locs → lv_has ls 8 [(0, .ref (ad 0)), (1, .int x.2.1), (2, .int x.2.2.1), (3, .int x.2.2.2.1), (4, .int x.2.2.2.2)] → W p l e rmX2_move s m args below meth c H locs 0 0 (MQ below (QI D cA A z.1 (wM cA ad z.2)) args s 0 0 A) (F0 m 39 ls [])
def GX2_move_19 (p : Program) (l : Launch) (e : Env) (s : State) (m : MethodId) (args : Array Value) (below : List Frame) (meth : Method) (c : Code) (D : va_G) (cA : ClassId) (A : Nat → Prop) (ad : Nat → Nat) (z : (Int32 × VS)) (x : (VS) × (Int32) × (Int32) × (Int32) × (Int32)) : Prop := ∀ (H : Heap) (locs : List Loc) (ls : Array Slot), Wd D A s.heap (wM cA ad x.1) H locs → lv_has ls 8 [(0, .ref (ad 0)), (1, .int x.2.1), (2, .int x.2.2.1), (3, .int x.2.2.2.1)] → W p l e rmX2_move s m args below meth c H locs 0 0 (MQ below (QI D cA A z.1 (wM cA ad z.2)) args s 0 0 A) (F0 m 19 ls [.int x.2.2.2.2])
def fX2_move_135 (k60 : ((VS) × (Int32) × (Int32) × (Int32) × (Int32) × (Int32) × (Int32)) → Option (Int32 × VS)) : ((VS) × (Int32) × (Int32) × (Int32) × (Int32) × (Int32) × (Int32)) → Option (Int32 × VS) := fun x => match x with | (Y, x_1, x_2, x_3, x_5, x_6, x_7) => bn (x_7 + 1) (fun x1 => k60 (Y, x_1, x_2, x_3, x_5, x_6, x1))
def fX2_move_60 (k60 : ((VS) × (Int32) × (Int32) × (Int32) × (Int32) × (Int32) × (Int32)) → Option (Int32 × VS)) : ((VS) × (Int32) × (Int32) × (Int32) × (Int32) × (Int32) × (Int32)) → Option (Int32 × VS) := fun x => match x with | (Y, x_1, x_2, x_3, x_5, x_6, x_7) => if 20 ≤ x_7 then if x_3 = 0 then some (x_5, Y) else some (x_6, Y) else cl (fX2_copies (Y 0) (Y 1)) (fun w3 => bn (up Y 1 w3) (fun w4 => cl (fX2_ofP x_1 0) (fun r5 => ck 81 r5 (bn (up w4 1 (upd (w4 1) (r5 : Int32).toNatClampNeg x_7)) (fun w6 => cl (fX2_nightsOn (w6 1) x_2 (-1)) (fun w7 => bn (up w6 1 w7) (fun w8 => cl (fX2_wordsOf (w8 1) x_1) (fun r9 => cl (fX2_bits r9) (fun r10 => if x_6 < r10 then cl (fX2_wordsOf (w8 1) x_1) (fun r12 => cl (fX2_bits r12) (fun r13 => fX2_move_135 k60 (w8, x_1, x_2, x_3, x_7, r13, x_7))) else fX2_move_135 k60 (w8, x_1, x_2, x_3, x_5, x_6, x_7))))))))))
def fX2_move_39 : ((VS) × (Int32) × (Int32) × (Int32) × (Int32)) → Option (Int32 × VS) := fun x => match x with | (Y, x_1, x_2, x_3, x_4) => if x_4 = 0 then lp (fX2_move_60) 5000 (Y, x_1, x_2, x_3, 0, (-1), 0) else cl (fX2_no Y x_4) (fun q2 => some (q2.1, q2.2))
def fX2_move_19 : ((VS) × (Int32) × (Int32) × (Int32) × (Int32)) → Option (Int32 × VS) := fun x => match x with | (Y, x_1, x_2, x_3, y_0) => if y_0 = 0 then cl (fX2_isIn x_3 0 1) (fun r2 => if r2 = 0 then fX2_move_39 (Y, x_1, x_2, x_3, (-2)) else fX2_move_39 (Y, x_1, x_2, x_3, y_0)) else fX2_move_39 (Y, x_1, x_2, x_3, y_0)
def fX2_move (Y : VS) (a_1 : Int32) (a_2 : Int32) (a_3 : Int32) : Option (Int32 × VS) := cl (fX2_isReader Y a_1) (fun r1 => if r1 = 0 then fX2_move_19 (Y, a_1, a_2, a_3, (-1)) else cl (fX2_wrongBy a_2 0 30) (fun r3 => fX2_move_19 (Y, a_1, a_2, a_3, r3)))
set_option maxHeartbeats 4000000 in
set_option maxRecDepth 100000 in
theorem kX2_move_135 (C : Cx p s m args meth c cX2_move 8 RX2 D cA g A) (hr : meth.sig.returnType = (some .int)) {z : (Int32 × VS)} (k60 : ((VS) × (Int32) × (Int32) × (Int32) × (Int32) × (Int32) × (Int32)) → Option (Int32 × VS)) (hk60 : ∀ x, k60 x = some z → GX2_move_60 p l e s m args below meth c D cA A ad z x) (x : (VS) × (Int32) × (Int32) × (Int32) × (Int32) × (Int32) × (Int32)) (h : fX2_move_135 k60 x = some z) : GX2_move_135 p l e s m args below meth c D cA A ad z x := by
  obtain ⟨Y, x_1, x_2, x_3, x_5, x_6, x_7⟩ := x
  intro H locs ls hw hl
  have hw : Wd D A s.heap (wM cA ad Y) H locs := hw
  have hl : lv_has ls 8 [(0, .ref (ad 0)), (1, .int x_1), (2, .int x_2), (3, .int x_3), (5, .int x_5), (6, .int x_6), (7, .int x_7)] := hl
  have hx := C.1.1
  have hb := C.1.2.1
  have h : (bn (x_7 + 1) (fun x1 => k60 (Y, x_1, x_2, x_3, x_5, x_6, x1))) = some z := h
  obtain ⟨x1, ex1⟩ : ∃ y : Int32, y = x_7 + 1 := ⟨_, rfl⟩
  replace h := bn_some h ex1
  refine lv_iinc (v := x1) (lv' := [(7, .int x1), (0, .ref (ad 0)), (1, .int x_1), (2, .int x_2), (3, .int x_3), (5, .int x_5), (6, .int x_6)]) hx hb dX2_move_135 hl (k := 6) rfl (by rw [ex1]; rfl) (by decide) rfl (fun ls hl => ?_)
  refine lv_goto (tgt := 60) hx hb dX2_move_138 (by decide) ?_
  exact hk60 (Y, x_1, x_2, x_3, x_5, x_6, x1) h _ _ _ hw (lv_sub hl [1, 2, 3, 4, 5, 6, 0] rfl)
set_option maxHeartbeats 4000000 in
set_option maxRecDepth 100000 in
theorem kX2_move_60 (C : Cx p s m args meth c cX2_move 8 RX2 D cA g A) (hr : meth.sig.returnType = (some .int)) {z : (Int32 × VS)} (k60 : ((VS) × (Int32) × (Int32) × (Int32) × (Int32) × (Int32) × (Int32)) → Option (Int32 × VS)) (hk60 : ∀ x, k60 x = some z → GX2_move_60 p l e s m args below meth c D cA A ad z x) (x : (VS) × (Int32) × (Int32) × (Int32) × (Int32) × (Int32) × (Int32)) (h : fX2_move_60 k60 x = some z) : GX2_move_60 p l e s m args below meth c D cA A ad z x := by
  obtain ⟨Y, x_1, x_2, x_3, x_5, x_6, x_7⟩ := x
  intro H locs ls hw hl
  have hw : Wd D A s.heap (wM cA ad Y) H locs := hw
  have hl : lv_has ls 8 [(0, .ref (ad 0)), (1, .int x_1), (2, .int x_2), (3, .int x_3), (5, .int x_5), (6, .int x_6), (7, .int x_7)] := hl
  have hx := C.1.1
  have hb := C.1.2.1
  have h : (if 20 ≤ x_7 then if x_3 = 0 then some (x_5, Y) else some (x_6, Y) else cl (fX2_copies (Y 0) (Y 1)) (fun w3 => bn (up Y 1 w3) (fun w4 => cl (fX2_ofP x_1 0) (fun r5 => ck 81 r5 (bn (up w4 1 (upd (w4 1) (r5 : Int32).toNatClampNeg x_7)) (fun w6 => cl (fX2_nightsOn (w6 1) x_2 (-1)) (fun w7 => bn (up w6 1 w7) (fun w8 => cl (fX2_wordsOf (w8 1) x_1) (fun r9 => cl (fX2_bits r9) (fun r10 => if x_6 < r10 then cl (fX2_wordsOf (w8 1) x_1) (fun r12 => cl (fX2_bits r12) (fun r13 => fX2_move_135 k60 (w8, x_1, x_2, x_3, x_7, r13, x_7))) else fX2_move_135 k60 (w8, x_1, x_2, x_3, x_5, x_6, x_7))))))))))) = some z := h
  refine lv_iload hx hb dX2_move_60 (lv_at hl 6 rfl) ?_
  refine lv_bipush (v := 20) hx hb dX2_move_62 (by decide) ?_
  refine lv_icmp_ge (tgt := 141) hx hb dX2_move_64 (by decide) (fun c1 => ?_) (fun c1 => ?_)
  · replace h := (if_pos c1).symm.trans h
    refine lv_iload_n hx hb dX2_move_141 rfl (lv_at hl 3 rfl) ?_
    refine lv_if_ne (tgt := 150) hx hb dX2_move_142 (by decide) (fun c2 => ?_) (fun c2 => ?_)
    · replace h := (if_neg c2).symm.trans h
      refine lv_iload hx hb dX2_move_150 (lv_at hl 5 rfl) ?_
      obtain rfl := some_e h
      exact rtI C hr hw dX2_move_152
    · replace h := (if_pos c2).symm.trans h
      refine lv_iload hx hb dX2_move_145 (lv_at hl 4 rfl) ?_
      refine lv_goto (tgt := 152) hx hb dX2_move_147 (by decide) ?_
      obtain rfl := some_e h
      exact rtI C hr hw dX2_move_152
  · replace h := (if_neg c1).symm.trans h
    refine lv_aload_n hx hb dX2_move_67 rfl (lv_at hl 0 rfl) ?_
    refine tGet (T := TX2) (N := 13) (ci := 2) C hw inX2 0 0 rfl (by decide) kf_RX2_9 rfl rfl rfl dX2_move_68 ?_
    refine lv_aload_n hx hb dX2_move_71 rfl (lv_at hl 0 rfl) ?_
    refine tGet (T := TX2) (N := 13) (ci := 2) C hw inX2 1 0 rfl (by decide) kf_RX2_13 rfl rfl rfl dX2_move_72 ?_
    obtain ⟨w3, hw3, h⟩ := cl_some h
    obtain ⟨w4, ew4⟩ : ∃ y : VS, y = up Y 1 w3 := ⟨_, rfl⟩
    replace h := bn_some h ew4
    refine cSv (ws2 := (wM cA ad w4)) (As := [.ref (ad 1), .ref (ad 2)]) (rest := []) C hw (by rw [ew4]; exact jMM01) (kX2_copies (ad 1) (ad 2) hw3) kl_RX2_134 kt_yX2_copies kn_RX2 kc_yX2_copies ⟨rfl, rfl⟩ hdX2_copies ⟨Nat.le_of_ble_eq_true rfl, Nat.le_of_ble_eq_true rfl⟩ rfl hl.1 (Nat.le_of_ble_eq_true rfl) dX2_move_75 ⟨Nat.zero_le _, Nat.zero_le _⟩ (fun H locs hw => ?_)
    refine lv_aload_n hx hb dX2_move_78 rfl (lv_at hl 0 rfl) ?_
    refine tGet (T := TX2) (N := 13) (ci := 2) C hw inX2 1 0 rfl (by decide) kf_RX2_13 rfl rfl rfl dX2_move_79 ?_
    refine lv_iload_n hx hb dX2_move_82 rfl (lv_at hl 1 rfl) ?_
    refine lv_iconst (v := 0) hx hb dX2_move_83 (by decide) ?_
    obtain ⟨r5, hr5, h⟩ := cl_some h
    refine cSi (ws2 := (wM cA ad w4)) (As := [.int x_1, .int 0]) (rest := [.ref (ad 2)]) C hw jnE (kX2_ofP hr5) kl_RX2_48 kt_yX2_ofP kn_RX2 kc_yX2_ofP ⟨rfl, rfl⟩ hdX2_ofP ⟨Nat.le_of_ble_eq_true rfl, Nat.le_of_ble_eq_true rfl⟩ rfl hl.1 (Nat.le_of_ble_eq_true rfl) dX2_move_84 ⟨Nat.zero_le _, Nat.zero_le _⟩ (fun H locs hw => ?_)
    refine lv_iload hx hb dX2_move_87 (lv_at hl 6 rfl) ?_
    obtain ⟨iw6, h⟩ := ck_some h
    obtain ⟨w6, ew6⟩ : ∃ y : VS, y = up w4 1 (upd (w4 1) (r5 : Int32).toNatClampNeg x_7) := ⟨_, rfl⟩
    replace h := bn_some h ew6
    refine tSt (ws2 := (wM cA ad w6)) C hw 2 rfl iw6 (by rw [ew6]; rfl) dX2_move_89 (fun H locs hw => ?_)
    refine lv_aload_n hx hb dX2_move_90 rfl (lv_at hl 0 rfl) ?_
    refine tGet (T := TX2) (N := 13) (ci := 2) C hw inX2 1 0 rfl (by decide) kf_RX2_13 rfl rfl rfl dX2_move_91 ?_
    refine lv_iload_n hx hb dX2_move_94 rfl (lv_at hl 2 rfl) ?_
    refine lv_iconst (v := (-1)) hx hb dX2_move_95 (by decide) ?_
    obtain ⟨w7, hw7, h⟩ := cl_some h
    obtain ⟨w8, ew8⟩ : ∃ y : VS, y = up w6 1 w7 := ⟨_, rfl⟩
    replace h := bn_some h ew8
    refine cSv (ws2 := (wM cA ad w8)) (As := [.ref (ad 2), .int x_2, .int (-1)]) (rest := []) C hw (by rw [ew8]; exact jM1) (kX2_nightsOn (ad 2) hw7) kl_RX2_128 kt_yX2_nightsOn kn_RX2 kc_yX2_nightsOn ⟨rfl, rfl⟩ hdX2_nightsOn ⟨Nat.le_of_ble_eq_true rfl, Nat.le_of_ble_eq_true rfl⟩ rfl hl.1 (Nat.le_of_ble_eq_true rfl) dX2_move_96 ⟨Nat.zero_le _, Nat.zero_le _⟩ (fun H locs hw => ?_)
    refine lv_aload_n hx hb dX2_move_99 rfl (lv_at hl 0 rfl) ?_
    refine tGet (T := TX2) (N := 13) (ci := 2) C hw inX2 1 0 rfl (by decide) kf_RX2_13 rfl rfl rfl dX2_move_100 ?_
    refine lv_iload_n hx hb dX2_move_103 rfl (lv_at hl 1 rfl) ?_
    obtain ⟨r9, hr9, h⟩ := cl_some h
    refine cSi (ws2 := (wM cA ad w8)) (As := [.ref (ad 2), .int x_1]) (rest := []) C hw jM1r (kX2_wordsOf (ad 2) hr9) kl_RX2_91 kt_yX2_wordsOf kn_RX2 kc_yX2_wordsOf ⟨rfl, rfl⟩ hdX2_wordsOf ⟨Nat.le_of_ble_eq_true rfl, Nat.le_of_ble_eq_true rfl⟩ rfl hl.1 (Nat.le_of_ble_eq_true rfl) dX2_move_104 ⟨Nat.zero_le _, Nat.zero_le _⟩ (fun H locs hw => ?_)
    obtain ⟨r10, hr10, h⟩ := cl_some h
    refine cSi (ws2 := (wM cA ad w8)) (As := [.int r9]) (rest := []) C hw jnE (kX2_bits hr10) kl_RX2_94 kt_yX2_bits kn_RX2 kc_yX2_bits ⟨rfl, rfl⟩ hdX2_bits ⟨Nat.le_of_ble_eq_true rfl, Nat.le_of_ble_eq_true rfl⟩ rfl hl.1 (Nat.le_of_ble_eq_true rfl) dX2_move_107 ⟨Nat.zero_le _, Nat.zero_le _⟩ (fun H locs hw => ?_)
    refine lv_iload hx hb dX2_move_110 (lv_at hl 5 rfl) ?_
    refine lv_icmp_gt (tgt := 118) hx hb dX2_move_112 (by decide) (fun c11 => ?_) (fun c11 => ?_)
    · replace h := (if_pos c11).symm.trans h
      refine lv_iload hx hb dX2_move_118 (lv_at hl 6 rfl) ?_
      refine lv_istore (lv' := [(5, .int x_7), (0, .ref (ad 0)), (1, .int x_1), (2, .int x_2), (3, .int x_3), (6, .int x_6), (7, .int x_7)]) hx hb dX2_move_120 hl (by decide) rfl (fun ls hl => ?_)
      refine lv_aload_n hx hb dX2_move_122 rfl (lv_at hl 1 rfl) ?_
      refine tGet (T := TX2) (N := 13) (ci := 2) C hw inX2 1 0 rfl (by decide) kf_RX2_13 rfl rfl rfl dX2_move_123 ?_
      refine lv_iload_n hx hb dX2_move_126 rfl (lv_at hl 2 rfl) ?_
      obtain ⟨r12, hr12, h⟩ := cl_some h
      refine cSi (ws2 := (wM cA ad w8)) (As := [.ref (ad 2), .int x_1]) (rest := []) C hw jM1r (kX2_wordsOf (ad 2) hr12) kl_RX2_91 kt_yX2_wordsOf kn_RX2 kc_yX2_wordsOf ⟨rfl, rfl⟩ hdX2_wordsOf ⟨Nat.le_of_ble_eq_true rfl, Nat.le_of_ble_eq_true rfl⟩ rfl hl.1 (Nat.le_of_ble_eq_true rfl) dX2_move_127 ⟨Nat.zero_le _, Nat.zero_le _⟩ (fun H locs hw => ?_)
      obtain ⟨r13, hr13, h⟩ := cl_some h
      refine cSi (ws2 := (wM cA ad w8)) (As := [.int r12]) (rest := []) C hw jnE (kX2_bits hr13) kl_RX2_94 kt_yX2_bits kn_RX2 kc_yX2_bits ⟨rfl, rfl⟩ hdX2_bits ⟨Nat.le_of_ble_eq_true rfl, Nat.le_of_ble_eq_true rfl⟩ rfl hl.1 (Nat.le_of_ble_eq_true rfl) dX2_move_130 ⟨Nat.zero_le _, Nat.zero_le _⟩ (fun H locs hw => ?_)
      refine lv_istore (lv' := [(6, .int r13), (5, .int x_7), (0, .ref (ad 0)), (1, .int x_1), (2, .int x_2), (3, .int x_3), (7, .int x_7)]) hx hb dX2_move_133 hl (by decide) rfl (fun ls hl => ?_)
      exact kX2_move_135 C hr k60 hk60 (w8, x_1, x_2, x_3, x_7, r13, x_7) h _ _ _ hw (lv_sub hl [2, 3, 4, 5, 1, 0, 6] rfl)
    · replace h := (if_neg c11).symm.trans h
      refine lv_goto (tgt := 135) hx hb dX2_move_115 (by decide) ?_
      exact kX2_move_135 C hr k60 hk60 (w8, x_1, x_2, x_3, x_5, x_6, x_7) h _ _ _ hw (lv_sub hl [0, 1, 2, 3, 4, 5, 6] rfl)
theorem lX2_move_60 (C : Cx p s m args meth c cX2_move 8 RX2 D cA g A) (hr : meth.sig.returnType = (some .int)) {z : (Int32 × VS)} (n : Nat) (x : (VS) × (Int32) × (Int32) × (Int32) × (Int32) × (Int32) × (Int32)) (h : lp (fX2_move_60) n x = some z) : GX2_move_60 p l e s m args below meth c D cA A ad z x := lp_ok (GX2_move_60 p l e s m args below meth c D cA A ad z) (fun kq hkq x h => kX2_move_60 C hr kq hkq x h) n x h
set_option maxHeartbeats 4000000 in
set_option maxRecDepth 100000 in
theorem kX2_move_39 (C : Cx p s m args meth c cX2_move 8 RX2 D cA g A) (hr : meth.sig.returnType = (some .int)) {z : (Int32 × VS)} (x : (VS) × (Int32) × (Int32) × (Int32) × (Int32)) (h : fX2_move_39 x = some z) : GX2_move_39 p l e s m args below meth c D cA A ad z x := by
  obtain ⟨Y, x_1, x_2, x_3, x_4⟩ := x
  intro H locs ls hw hl
  have hw : Wd D A s.heap (wM cA ad Y) H locs := hw
  have hl : lv_has ls 8 [(0, .ref (ad 0)), (1, .int x_1), (2, .int x_2), (3, .int x_3), (4, .int x_4)] := hl
  have hx := C.1.1
  have hb := C.1.2.1
  have h : (if x_4 = 0 then lp (fX2_move_60) 5000 (Y, x_1, x_2, x_3, 0, (-1), 0) else cl (fX2_no Y x_4) (fun q2 => some (q2.1, q2.2))) = some z := h
  refine lv_iload hx hb dX2_move_39 (lv_at hl 4 rfl) ?_
  refine lv_if_eq (tgt := 51) hx hb dX2_move_41 (by decide) (fun c1 => ?_) (fun c1 => ?_)
  · replace h := (if_pos c1).symm.trans h
    refine lv_iconst (v := 0) hx hb dX2_move_51 (by decide) ?_
    refine lv_istore (lv' := [(5, .int 0), (0, .ref (ad 0)), (1, .int x_1), (2, .int x_2), (3, .int x_3), (4, .int x_4)]) hx hb dX2_move_52 hl (by decide) rfl (fun ls hl => ?_)
    refine lv_iconst (v := (-1)) hx hb dX2_move_54 (by decide) ?_
    refine lv_istore (lv' := [(6, .int (-1)), (5, .int 0), (0, .ref (ad 0)), (1, .int x_1), (2, .int x_2), (3, .int x_3), (4, .int x_4)]) hx hb dX2_move_55 hl (by decide) rfl (fun ls hl => ?_)
    refine lv_iconst (v := 0) hx hb dX2_move_57 (by decide) ?_
    refine lv_istore (lv' := [(7, .int 0), (6, .int (-1)), (5, .int 0), (0, .ref (ad 0)), (1, .int x_1), (2, .int x_2), (3, .int x_3), (4, .int x_4)]) hx hb dX2_move_58 hl (by decide) rfl (fun ls hl => ?_)
    exact lX2_move_60 C hr 5000 (Y, x_1, x_2, x_3, 0, (-1), 0) h _ _ _ hw (lv_sub hl [3, 4, 5, 6, 2, 1, 0] rfl)
  · replace h := (if_neg c1).symm.trans h
    refine lv_aload_n hx hb dX2_move_44 rfl (lv_at hl 0 rfl) ?_
    refine lv_iload hx hb dX2_move_45 (lv_at hl 4 rfl) ?_
    obtain ⟨q2, hq2, h⟩ := cl_some h
    refine cVi (ws2 := (wM cA ad q2.2)) (As := [.int x_4]) (rest := []) C hw jnW (kX2_no ad hq2) kl_RX2_36 ki_yX2_no ks_yX2_no kn_RX2 kc_yX2_no ⟨rfl, rfl⟩ hdX2_no ⟨Nat.le_of_ble_eq_true rfl, Nat.le_of_ble_eq_true rfl⟩ (ci := 2) (q0 := 0) rfl rfl rfl rfl hl.1 (Nat.le_of_ble_eq_true rfl) dX2_move_47 ⟨Nat.zero_le _, Nat.zero_le _⟩ (fun H locs hw => ?_)
    obtain rfl := some_e h
    exact rtI C hr hw dX2_move_50
set_option maxHeartbeats 4000000 in
set_option maxRecDepth 100000 in
theorem kX2_move_19 (C : Cx p s m args meth c cX2_move 8 RX2 D cA g A) (hr : meth.sig.returnType = (some .int)) {z : (Int32 × VS)} (x : (VS) × (Int32) × (Int32) × (Int32) × (Int32)) (h : fX2_move_19 x = some z) : GX2_move_19 p l e s m args below meth c D cA A ad z x := by
  obtain ⟨Y, x_1, x_2, x_3, y_0⟩ := x
  intro H locs ls hw hl
  have hw : Wd D A s.heap (wM cA ad Y) H locs := hw
  have hl : lv_has ls 8 [(0, .ref (ad 0)), (1, .int x_1), (2, .int x_2), (3, .int x_3)] := hl
  show W p l e rmX2_move s m args below meth c H locs 0 0 (MQ below (QI D cA A z.1 (wM cA ad z.2)) args s 0 0 A) (F0 m 19 ls [.int y_0])
  have hx := C.1.1
  have hb := C.1.2.1
  have h : (if y_0 = 0 then cl (fX2_isIn x_3 0 1) (fun r2 => if r2 = 0 then fX2_move_39 (Y, x_1, x_2, x_3, (-2)) else fX2_move_39 (Y, x_1, x_2, x_3, y_0)) else fX2_move_39 (Y, x_1, x_2, x_3, y_0)) = some z := h
  refine lv_istore (lv' := [(4, .int y_0), (0, .ref (ad 0)), (1, .int x_1), (2, .int x_2), (3, .int x_3)]) hx hb dX2_move_19 hl (by decide) rfl (fun ls hl => ?_)
  refine lv_iload hx hb dX2_move_21 (lv_at hl 0 rfl) ?_
  refine lv_if_ne (tgt := 39) hx hb dX2_move_23 (by decide) (fun c1 => ?_) (fun c1 => ?_)
  · replace h := (if_neg c1).symm.trans h
    exact kX2_move_39 C hr (Y, x_1, x_2, x_3, y_0) h _ _ _ hw (lv_sub hl [1, 2, 3, 4, 0] rfl)
  · replace h := (if_pos c1).symm.trans h
    refine lv_iload_n hx hb dX2_move_26 rfl (lv_at hl 4 rfl) ?_
    refine lv_iconst (v := 0) hx hb dX2_move_27 (by decide) ?_
    refine lv_iconst (v := 1) hx hb dX2_move_28 (by decide) ?_
    obtain ⟨r2, hr2, h⟩ := cl_some h
    refine cSi (ws2 := (wM cA ad Y)) (As := [.int x_3, .int 0, .int 1]) (rest := []) C hw jnE (kX2_isIn hr2) kl_RX2_40 kt_yX2_isIn kn_RX2 kc_yX2_isIn ⟨rfl, rfl⟩ hdX2_isIn ⟨Nat.le_of_ble_eq_true rfl, Nat.le_of_ble_eq_true rfl⟩ rfl hl.1 (Nat.le_of_ble_eq_true rfl) dX2_move_29 ⟨Nat.zero_le _, Nat.zero_le _⟩ (fun H locs hw => ?_)
    refine lv_if_ne (tgt := 39) hx hb dX2_move_32 (by decide) (fun c3 => ?_) (fun c3 => ?_)
    · replace h := (if_neg c3).symm.trans h
      exact kX2_move_39 C hr (Y, x_1, x_2, x_3, y_0) h _ _ _ hw (lv_sub hl [1, 2, 3, 4, 0] rfl)
    · replace h := (if_pos c3).symm.trans h
      refine lv_bipush (v := (-2)) hx hb dX2_move_35 (by decide) ?_
      refine lv_istore (lv' := [(4, .int (-2)), (0, .ref (ad 0)), (1, .int x_1), (2, .int x_2), (3, .int x_3)]) hx hb dX2_move_37 hl (by decide) rfl (fun ls hl => ?_)
      exact kX2_move_39 C hr (Y, x_1, x_2, x_3, (-2)) h _ _ _ hw (lv_sub hl [1, 2, 3, 4, 0] rfl)
set_option maxHeartbeats 4000000 in
set_option maxRecDepth 100000 in
theorem kX2_move (ad : Nat → Nat) {Y : VS} {a_1 : Int32} {a_2 : Int32} {a_3 : Int32} {z : (Int32 × VS)} (h : fX2_move Y a_1 a_2 a_3 = some z) : MI l D cA g yX2_move (Cond.code yX2_move cX2_move 8 (some .int) :: lw_g) rmX2_move [.ref (ad 0), .int a_1, .int a_2, .int a_3] (wM cA ad Y) z.1 (wM cA ad z.2) := by
  intro sz
  refine Met.ofW (cc := cX2_move) (maxL := 8) (ret := (some .int)) (by decide) rfl ?_
  intro p e s m args below meth c s₁ B hml hv
  obtain ⟨rfl, C, hr, hw⟩ := ent B hml hv
  generalize va_A (wM cA ad Y) sz = A at C hw ⊢
  have hl := lv_entry ([.ref (ad 0), .int a_1, .int a_2, .int a_3]) (n := 8) (Nat.le_of_ble_eq_true rfl)
  rw [lg_entry_eq]
  generalize (lg_sl ([.ref (ad 0), .int a_1, .int a_2, .int a_3]) ++ List.replicate (8 - (lg_sl ([.ref (ad 0), .int a_1, .int a_2, .int a_3])).length) Slot.unset).toArray = ls at hl ⊢
  have hl : lv_has ls 8 [(0, .ref (ad 0)), (1, .int a_1), (2, .int a_2), (3, .int a_3)] := hl
  have hx := C.1.1
  have hb := C.1.2.1
  have h : (cl (fX2_isReader Y a_1) (fun r1 => if r1 = 0 then fX2_move_19 (Y, a_1, a_2, a_3, (-1)) else cl (fX2_wrongBy a_2 0 30) (fun r3 => fX2_move_19 (Y, a_1, a_2, a_3, r3)))) = some z := h
  refine lv_aload_n hx hb dX2_move_0 rfl (lv_at hl 0 rfl) ?_
  refine lv_iload_n hx hb dX2_move_1 rfl (lv_at hl 1 rfl) ?_
  obtain ⟨r1, hr1, h⟩ := cl_some h
  refine cVi (ws2 := (wM cA ad Y)) (As := [.int a_1]) (rest := []) C hw jnW (kX2_isReader ad hr1) kl_RX2_147 ki_yX2_isReader ks_yX2_isReader kn_RX2 kc_yX2_isReader ⟨rfl, rfl⟩ hdX2_isReader ⟨Nat.le_of_ble_eq_true rfl, Nat.le_of_ble_eq_true rfl⟩ (ci := 2) (q0 := 0) rfl rfl rfl rfl hl.1 (Nat.le_of_ble_eq_true rfl) dX2_move_2 ⟨Nat.zero_le _, Nat.zero_le _⟩ (fun H locs hw => ?_)
  refine lv_if_eq (tgt := 18) hx hb dX2_move_5 (by decide) (fun c2 => ?_) (fun c2 => ?_)
  · replace h := (if_pos c2).symm.trans h
    refine lv_iconst (v := (-1)) hx hb dX2_move_18 (by decide) ?_
    exact kX2_move_19 C hr (Y, a_1, a_2, a_3, (-1)) h _ _ _ hw (lv_sub hl [0, 1, 2, 3] rfl)
  · replace h := (if_neg c2).symm.trans h
    refine lv_iload_n hx hb dX2_move_8 rfl (lv_at hl 2 rfl) ?_
    refine lv_iconst (v := 0) hx hb dX2_move_9 (by decide) ?_
    refine lv_bipush (v := 30) hx hb dX2_move_10 (by decide) ?_
    obtain ⟨r3, hr3, h⟩ := cl_some h
    refine cSi (ws2 := (wM cA ad Y)) (As := [.int a_2, .int 0, .int 30]) (rest := []) C hw jnE (kX2_wrongBy hr3) kl_RX2_153 kt_yX2_wrongBy kn_RX2 kc_yX2_wrongBy ⟨rfl, rfl⟩ hdX2_wrongBy ⟨Nat.le_of_ble_eq_true rfl, Nat.le_of_ble_eq_true rfl⟩ rfl hl.1 (Nat.le_of_ble_eq_true rfl) dX2_move_12 ⟨Nat.zero_le _, Nat.zero_le _⟩ (fun H locs hw => ?_)
    refine lv_goto (tgt := 19) hx hb dX2_move_15 (by decide) ?_
    exact kX2_move_19 C hr (Y, a_1, a_2, a_3, r3) h _ _ _ hw (lv_sub hl [0, 1, 2, 3] rfl)
abbrev rmX2_bestNow : Room := { frames := 8, cells := 0, slots := 0, locals := 181 }
theorem hdX2_bestNow : yX2_bestNow.cls = RX2 ∧ yX2_bestNow.cls ≠ "java/lang/invoke/MethodHandle" ∧ yX2_bestNow.cls ≠ "java/lang/invoke/VarHandle" ∧ (parseMethodDescriptor yX2_bestNow.desc).map (fun d => d.parameters.length) = some 2 := by decide +kernel
def GX2_bestNow_140 (p : Program) (l : Launch) (e : Env) (s : State) (m : MethodId) (args : Array Value) (below : List Frame) (meth : Method) (c : Code) (D : va_G) (cA : ClassId) (A : Nat → Prop) (ad : Nat → Nat) (z : (Int32 × VS)) (x : (VS) × (Int32) × (Int32) × (Int32) × (Int32) × (Int32)) : Prop := ∀ (H : Heap) (locs : List Loc) (ls : Array Slot), Wd D A s.heap (wM cA ad x.1) H locs → lv_has ls 6 [(0, .ref (ad 0)), (1, .int x.2.1), (2, .int x.2.2.1), (3, .int x.2.2.2.1), (4, .int x.2.2.2.2.1), (5, .int x.2.2.2.2.2)] → W p l e rmX2_bestNow s m args below meth c H locs 0 0 (MQ below (QI D cA A z.1 (wM cA ad z.2)) args s 0 0 A) (F0 m 140 ls [])
def GX2_bestNow_105 (p : Program) (l : Launch) (e : Env) (s : State) (m : MethodId) (args : Array Value) (below : List Frame) (meth : Method) (c : Code) (D : va_G) (cA : ClassId) (A : Nat → Prop) (ad : Nat → Nat) (z : (Int32 × VS)) (x : (VS) × (Int32) × (Int32) × (Int32) × (Int32) × (Int32)) : Prop := ∀ (H : Heap) (locs : List Loc) (ls : Array Slot), Wd D A s.heap (wM cA ad x.1) H locs → lv_has ls 6 [(0, .ref (ad 0)), (1, .int x.2.1), (2, .int x.2.2.1), (3, .int x.2.2.2.1), (4, .int x.2.2.2.2.1), (5, .int x.2.2.2.2.2)] → W p l e rmX2_bestNow s m args below meth c H locs 0 0 (MQ below (QI D cA A z.1 (wM cA ad z.2)) args s 0 0 A) (F0 m 105 ls [])
def GX2_bestNow_65 (p : Program) (l : Launch) (e : Env) (s : State) (m : MethodId) (args : Array Value) (below : List Frame) (meth : Method) (c : Code) (D : va_G) (cA : ClassId) (A : Nat → Prop) (ad : Nat → Nat) (z : (Int32 × VS)) (x : (VS) × (Int32) × (Int32) × (Int32) × (Int32) × (Int32)) : Prop := ∀ (H : Heap) (locs : List Loc) (ls : Array Slot), Wd D A s.heap (wM cA ad x.1) H locs → lv_has ls 6 [(0, .ref (ad 0)), (1, .int x.2.1), (2, .int x.2.2.1), (3, .int x.2.2.2.1), (4, .int x.2.2.2.2.1), (5, .int x.2.2.2.2.2)] → W p l e rmX2_bestNow s m args below meth c H locs 0 0 (MQ below (QI D cA A z.1 (wM cA ad z.2)) args s 0 0 A) (F0 m 65 ls [])
def GX2_bestNow_20 (p : Program) (l : Launch) (e : Env) (s : State) (m : MethodId) (args : Array Value) (below : List Frame) (meth : Method) (c : Code) (D : va_G) (cA : ClassId) (A : Nat → Prop) (ad : Nat → Nat) (z : (Int32 × VS)) (x : (VS) × (Int32) × (Int32) × (Int32) × (Int32) × (Int32)) : Prop := ∀ (H : Heap) (locs : List Loc) (ls : Array Slot), Wd D A s.heap (wM cA ad x.1) H locs → lv_has ls 6 [(0, .ref (ad 0)), (1, .int x.2.1), (2, .int x.2.2.1), (3, .int x.2.2.2.1), (4, .int x.2.2.2.2.1), (5, .int x.2.2.2.2.2)] → W p l e rmX2_bestNow s m args below meth c H locs 0 0 (MQ below (QI D cA A z.1 (wM cA ad z.2)) args s 0 0 A) (F0 m 20 ls [])
def fX2_bestNow_140 (k20 : ((VS) × (Int32) × (Int32) × (Int32) × (Int32) × (Int32)) → Option (Int32 × VS)) : ((VS) × (Int32) × (Int32) × (Int32) × (Int32) × (Int32)) → Option (Int32 × VS) := fun x => match x with | (Y, x_1, x_2, x_3, x_4, x_5) => bn (x_5 + 1) (fun x1 => k20 (Y, x_1, x_2, x_3, x_4, x1))
def fX2_bestNow_105 (k20 : ((VS) × (Int32) × (Int32) × (Int32) × (Int32) × (Int32)) → Option (Int32 × VS)) : ((VS) × (Int32) × (Int32) × (Int32) × (Int32) × (Int32)) → Option (Int32 × VS) := fun x => match x with | (Y, x_1, x_2, x_3, x_4, x_5) => cl (fX2_nightsOn (Y 1) x_1 (-1)) (fun w1 => bn (up Y 1 w1) (fun w2 => cl (fX2_allWords (w2 1)) (fun r3 => if x_3 < r3 then cl (fX2_allWords (w2 1)) (fun r5 => fX2_bestNow_140 k20 (w2, x_1, x_2, r5, x_5, x_5)) else fX2_bestNow_140 k20 (w2, x_1, x_2, x_3, x_4, x_5))))
def fX2_bestNow_65 (k20 : ((VS) × (Int32) × (Int32) × (Int32) × (Int32) × (Int32)) → Option (Int32 × VS)) : ((VS) × (Int32) × (Int32) × (Int32) × (Int32) × (Int32)) → Option (Int32 × VS) := fun x => match x with | (Y, x_1, x_2, x_3, x_4, x_5) => cl (fX2_copies (Y 0) (Y 1)) (fun w1 => bn (up Y 1 w1) (fun w2 => if x_2 = 0 then cl (fX2_sendsIn (w2 1) x_5 (-1)) (fun w4 => bn (up w2 1 w4) (fun w5 => fX2_bestNow_105 k20 (w5, x_1, x_2, x_3, x_4, x_5))) else cl (fX2_ofR x_5 3) (fun r6 => ck 81 r6 (bn (up w2 1 (upd (w2 1) (r6 : Int32).toNatClampNeg 1)) (fun w7 => fX2_bestNow_105 k20 (w7, x_1, x_2, x_3, x_4, x_5))))))
def fX2_bestNow_20 (k20 : ((VS) × (Int32) × (Int32) × (Int32) × (Int32) × (Int32)) → Option (Int32 × VS)) : ((VS) × (Int32) × (Int32) × (Int32) × (Int32) × (Int32)) → Option (Int32 × VS) := fun x => match x with | (Y, x_1, x_2, x_3, x_4, x_5) => rd 81 (Y 0) 0 (fun r1 => if r1 ≤ x_5 then some (x_4, Y) else cl (fX2_ofR x_5 3) (fun r3 => rd 81 (Y 0) r3 (fun r4 => if r4 = 1 then fX2_bestNow_140 k20 (Y, x_1, x_2, x_3, x_4, x_5) else if x_2 = 0 then cl (fX2_canGo (Y 0) x_5) (fun r7 => if r7 = 0 then fX2_bestNow_140 k20 (Y, x_1, x_2, x_3, x_4, x_5) else fX2_bestNow_65 k20 (Y, x_1, x_2, x_3, x_4, x_5)) else fX2_bestNow_65 k20 (Y, x_1, x_2, x_3, x_4, x_5))))
def fX2_bestNow (Y : VS) (a_1 : Int32) (a_2 : Int32) : Option (Int32 × VS) := cl (fX2_takes Y a_1) (fun w1 => cl (fX2_allWords (w1 1)) (fun r2 => lp (fX2_bestNow_20) 5000 (w1, a_1, a_2, r2, (-9), 0)))
set_option maxHeartbeats 4000000 in
set_option maxRecDepth 100000 in
theorem kX2_bestNow_140 (C : Cx p s m args meth c cX2_bestNow 6 RX2 D cA g A) (hr : meth.sig.returnType = (some .int)) {z : (Int32 × VS)} (k20 : ((VS) × (Int32) × (Int32) × (Int32) × (Int32) × (Int32)) → Option (Int32 × VS)) (hk20 : ∀ x, k20 x = some z → GX2_bestNow_20 p l e s m args below meth c D cA A ad z x) (x : (VS) × (Int32) × (Int32) × (Int32) × (Int32) × (Int32)) (h : fX2_bestNow_140 k20 x = some z) : GX2_bestNow_140 p l e s m args below meth c D cA A ad z x := by
  obtain ⟨Y, x_1, x_2, x_3, x_4, x_5⟩ := x
  intro H locs ls hw hl
  have hw : Wd D A s.heap (wM cA ad Y) H locs := hw
  have hl : lv_has ls 6 [(0, .ref (ad 0)), (1, .int x_1), (2, .int x_2), (3, .int x_3), (4, .int x_4), (5, .int x_5)] := hl
  have hx := C.1.1
  have hb := C.1.2.1
  have h : (bn (x_5 + 1) (fun x1 => k20 (Y, x_1, x_2, x_3, x_4, x1))) = some z := h
  obtain ⟨x1, ex1⟩ : ∃ y : Int32, y = x_5 + 1 := ⟨_, rfl⟩
  replace h := bn_some h ex1
  refine lv_iinc (v := x1) (lv' := [(5, .int x1), (0, .ref (ad 0)), (1, .int x_1), (2, .int x_2), (3, .int x_3), (4, .int x_4)]) hx hb dX2_bestNow_140 hl (k := 5) rfl (by rw [ex1]; rfl) (by decide) rfl (fun ls hl => ?_)
  refine lv_goto (tgt := 20) hx hb dX2_bestNow_143 (by decide) ?_
  exact hk20 (Y, x_1, x_2, x_3, x_4, x1) h _ _ _ hw (lv_sub hl [1, 2, 3, 4, 5, 0] rfl)
set_option maxHeartbeats 4000000 in
set_option maxRecDepth 100000 in
theorem kX2_bestNow_105 (C : Cx p s m args meth c cX2_bestNow 6 RX2 D cA g A) (hr : meth.sig.returnType = (some .int)) {z : (Int32 × VS)} (k20 : ((VS) × (Int32) × (Int32) × (Int32) × (Int32) × (Int32)) → Option (Int32 × VS)) (hk20 : ∀ x, k20 x = some z → GX2_bestNow_20 p l e s m args below meth c D cA A ad z x) (x : (VS) × (Int32) × (Int32) × (Int32) × (Int32) × (Int32)) (h : fX2_bestNow_105 k20 x = some z) : GX2_bestNow_105 p l e s m args below meth c D cA A ad z x := by
  obtain ⟨Y, x_1, x_2, x_3, x_4, x_5⟩ := x
  intro H locs ls hw hl
  have hw : Wd D A s.heap (wM cA ad Y) H locs := hw
  have hl : lv_has ls 6 [(0, .ref (ad 0)), (1, .int x_1), (2, .int x_2), (3, .int x_3), (4, .int x_4), (5, .int x_5)] := hl
  have hx := C.1.1
  have hb := C.1.2.1
  have h : (cl (fX2_nightsOn (Y 1) x_1 (-1)) (fun w1 => bn (up Y 1 w1) (fun w2 => cl (fX2_allWords (w2 1)) (fun r3 => if x_3 < r3 then cl (fX2_allWords (w2 1)) (fun r5 => fX2_bestNow_140 k20 (w2, x_1, x_2, r5, x_5, x_5)) else fX2_bestNow_140 k20 (w2, x_1, x_2, x_3, x_4, x_5))))) = some z := h
  refine lv_aload_n hx hb dX2_bestNow_105 rfl (lv_at hl 0 rfl) ?_
  refine tGet (T := TX2) (N := 13) (ci := 2) C hw inX2 1 0 rfl (by decide) kf_RX2_13 rfl rfl rfl dX2_bestNow_106 ?_
  refine lv_iload_n hx hb dX2_bestNow_109 rfl (lv_at hl 1 rfl) ?_
  refine lv_iconst (v := (-1)) hx hb dX2_bestNow_110 (by decide) ?_
  obtain ⟨w1, hw1, h⟩ := cl_some h
  obtain ⟨w2, ew2⟩ : ∃ y : VS, y = up Y 1 w1 := ⟨_, rfl⟩
  replace h := bn_some h ew2
  refine cSv (ws2 := (wM cA ad w2)) (As := [.ref (ad 2), .int x_1, .int (-1)]) (rest := []) C hw (by rw [ew2]; exact jM1) (kX2_nightsOn (ad 2) hw1) kl_RX2_128 kt_yX2_nightsOn kn_RX2 kc_yX2_nightsOn ⟨rfl, rfl⟩ hdX2_nightsOn ⟨Nat.le_of_ble_eq_true rfl, Nat.le_of_ble_eq_true rfl⟩ rfl hl.1 (Nat.le_of_ble_eq_true rfl) dX2_bestNow_111 ⟨Nat.zero_le _, Nat.zero_le _⟩ (fun H locs hw => ?_)
  refine lv_aload_n hx hb dX2_bestNow_114 rfl (lv_at hl 0 rfl) ?_
  refine tGet (T := TX2) (N := 13) (ci := 2) C hw inX2 1 0 rfl (by decide) kf_RX2_13 rfl rfl rfl dX2_bestNow_115 ?_
  obtain ⟨r3, hr3, h⟩ := cl_some h
  refine cSi (ws2 := (wM cA ad w2)) (As := [.ref (ad 2)]) (rest := []) C hw jM1r (kX2_allWords (ad 2) hr3) kl_RX2_183 kt_yX2_allWords kn_RX2 kc_yX2_allWords ⟨rfl, rfl⟩ hdX2_allWords ⟨Nat.le_of_ble_eq_true rfl, Nat.le_of_ble_eq_true rfl⟩ rfl hl.1 (Nat.le_of_ble_eq_true rfl) dX2_bestNow_118 ⟨Nat.zero_le _, Nat.zero_le _⟩ (fun H locs hw => ?_)
  refine lv_iload_n hx hb dX2_bestNow_121 rfl (lv_at hl 3 rfl) ?_
  refine lv_icmp_gt (tgt := 128) hx hb dX2_bestNow_122 (by decide) (fun c4 => ?_) (fun c4 => ?_)
  · replace h := (if_pos c4).symm.trans h
    refine lv_iload hx hb dX2_bestNow_128 (lv_at hl 5 rfl) ?_
    refine lv_istore (lv' := [(4, .int x_5), (0, .ref (ad 0)), (1, .int x_1), (2, .int x_2), (3, .int x_3), (5, .int x_5)]) hx hb dX2_bestNow_130 hl (by decide) rfl (fun ls hl => ?_)
    refine lv_aload_n hx hb dX2_bestNow_132 rfl (lv_at hl 1 rfl) ?_
    refine tGet (T := TX2) (N := 13) (ci := 2) C hw inX2 1 0 rfl (by decide) kf_RX2_13 rfl rfl rfl dX2_bestNow_133 ?_
    obtain ⟨r5, hr5, h⟩ := cl_some h
    refine cSi (ws2 := (wM cA ad w2)) (As := [.ref (ad 2)]) (rest := []) C hw jM1r (kX2_allWords (ad 2) hr5) kl_RX2_183 kt_yX2_allWords kn_RX2 kc_yX2_allWords ⟨rfl, rfl⟩ hdX2_allWords ⟨Nat.le_of_ble_eq_true rfl, Nat.le_of_ble_eq_true rfl⟩ rfl hl.1 (Nat.le_of_ble_eq_true rfl) dX2_bestNow_136 ⟨Nat.zero_le _, Nat.zero_le _⟩ (fun H locs hw => ?_)
    refine lv_istore_n (lv' := [(3, .int r5), (4, .int x_5), (0, .ref (ad 0)), (1, .int x_1), (2, .int x_2), (5, .int x_5)]) hx hb dX2_bestNow_139 rfl hl (by decide) rfl (fun ls hl => ?_)
    exact kX2_bestNow_140 C hr k20 hk20 (w2, x_1, x_2, r5, x_5, x_5) h _ _ _ hw (lv_sub hl [2, 3, 4, 0, 1, 5] rfl)
  · replace h := (if_neg c4).symm.trans h
    refine lv_goto (tgt := 140) hx hb dX2_bestNow_125 (by decide) ?_
    exact kX2_bestNow_140 C hr k20 hk20 (w2, x_1, x_2, x_3, x_4, x_5) h _ _ _ hw (lv_sub hl [0, 1, 2, 3, 4, 5] rfl)
set_option maxHeartbeats 4000000 in
set_option maxRecDepth 100000 in
theorem kX2_bestNow_65 (C : Cx p s m args meth c cX2_bestNow 6 RX2 D cA g A) (hr : meth.sig.returnType = (some .int)) {z : (Int32 × VS)} (k20 : ((VS) × (Int32) × (Int32) × (Int32) × (Int32) × (Int32)) → Option (Int32 × VS)) (hk20 : ∀ x, k20 x = some z → GX2_bestNow_20 p l e s m args below meth c D cA A ad z x) (x : (VS) × (Int32) × (Int32) × (Int32) × (Int32) × (Int32)) (h : fX2_bestNow_65 k20 x = some z) : GX2_bestNow_65 p l e s m args below meth c D cA A ad z x := by
  obtain ⟨Y, x_1, x_2, x_3, x_4, x_5⟩ := x
  intro H locs ls hw hl
  have hw : Wd D A s.heap (wM cA ad Y) H locs := hw
  have hl : lv_has ls 6 [(0, .ref (ad 0)), (1, .int x_1), (2, .int x_2), (3, .int x_3), (4, .int x_4), (5, .int x_5)] := hl
  have hx := C.1.1
  have hb := C.1.2.1
  have h : (cl (fX2_copies (Y 0) (Y 1)) (fun w1 => bn (up Y 1 w1) (fun w2 => if x_2 = 0 then cl (fX2_sendsIn (w2 1) x_5 (-1)) (fun w4 => bn (up w2 1 w4) (fun w5 => fX2_bestNow_105 k20 (w5, x_1, x_2, x_3, x_4, x_5))) else cl (fX2_ofR x_5 3) (fun r6 => ck 81 r6 (bn (up w2 1 (upd (w2 1) (r6 : Int32).toNatClampNeg 1)) (fun w7 => fX2_bestNow_105 k20 (w7, x_1, x_2, x_3, x_4, x_5))))))) = some z := h
  refine lv_aload_n hx hb dX2_bestNow_65 rfl (lv_at hl 0 rfl) ?_
  refine tGet (T := TX2) (N := 13) (ci := 2) C hw inX2 0 0 rfl (by decide) kf_RX2_9 rfl rfl rfl dX2_bestNow_66 ?_
  refine lv_aload_n hx hb dX2_bestNow_69 rfl (lv_at hl 0 rfl) ?_
  refine tGet (T := TX2) (N := 13) (ci := 2) C hw inX2 1 0 rfl (by decide) kf_RX2_13 rfl rfl rfl dX2_bestNow_70 ?_
  obtain ⟨w1, hw1, h⟩ := cl_some h
  obtain ⟨w2, ew2⟩ : ∃ y : VS, y = up Y 1 w1 := ⟨_, rfl⟩
  replace h := bn_some h ew2
  refine cSv (ws2 := (wM cA ad w2)) (As := [.ref (ad 1), .ref (ad 2)]) (rest := []) C hw (by rw [ew2]; exact jMM01) (kX2_copies (ad 1) (ad 2) hw1) kl_RX2_134 kt_yX2_copies kn_RX2 kc_yX2_copies ⟨rfl, rfl⟩ hdX2_copies ⟨Nat.le_of_ble_eq_true rfl, Nat.le_of_ble_eq_true rfl⟩ rfl hl.1 (Nat.le_of_ble_eq_true rfl) dX2_bestNow_73 ⟨Nat.zero_le _, Nat.zero_le _⟩ (fun H locs hw => ?_)
  refine lv_iload_n hx hb dX2_bestNow_76 rfl (lv_at hl 2 rfl) ?_
  refine lv_if_eq (tgt := 95) hx hb dX2_bestNow_77 (by decide) (fun c3 => ?_) (fun c3 => ?_)
  · replace h := (if_pos c3).symm.trans h
    refine lv_aload_n hx hb dX2_bestNow_95 rfl (lv_at hl 0 rfl) ?_
    refine tGet (T := TX2) (N := 13) (ci := 2) C hw inX2 1 0 rfl (by decide) kf_RX2_13 rfl rfl rfl dX2_bestNow_96 ?_
    refine lv_iload hx hb dX2_bestNow_99 (lv_at hl 5 rfl) ?_
    refine lv_iconst (v := (-1)) hx hb dX2_bestNow_101 (by decide) ?_
    obtain ⟨w4, hw4, h⟩ := cl_some h
    obtain ⟨w5, ew5⟩ : ∃ y : VS, y = up w2 1 w4 := ⟨_, rfl⟩
    replace h := bn_some h ew5
    refine cSv (ws2 := (wM cA ad w5)) (As := [.ref (ad 2), .int x_5, .int (-1)]) (rest := []) C hw (by rw [ew5]; exact jM1) (kX2_sendsIn (ad 2) hw4) kl_RX2_84 kt_yX2_sendsIn kn_RX2 kc_yX2_sendsIn ⟨rfl, rfl⟩ hdX2_sendsIn ⟨Nat.le_of_ble_eq_true rfl, Nat.le_of_ble_eq_true rfl⟩ rfl hl.1 (Nat.le_of_ble_eq_true rfl) dX2_bestNow_102 ⟨Nat.zero_le _, Nat.zero_le _⟩ (fun H locs hw => ?_)
    exact kX2_bestNow_105 C hr k20 hk20 (w5, x_1, x_2, x_3, x_4, x_5) h _ _ _ hw (lv_sub hl [0, 1, 2, 3, 4, 5] rfl)
  · replace h := (if_neg c3).symm.trans h
    refine lv_aload_n hx hb dX2_bestNow_80 rfl (lv_at hl 0 rfl) ?_
    refine tGet (T := TX2) (N := 13) (ci := 2) C hw inX2 1 0 rfl (by decide) kf_RX2_13 rfl rfl rfl dX2_bestNow_81 ?_
    refine lv_iload hx hb dX2_bestNow_84 (lv_at hl 5 rfl) ?_
    refine lv_iconst (v := 3) hx hb dX2_bestNow_86 (by decide) ?_
    obtain ⟨r6, hr6, h⟩ := cl_some h
    refine cSi (ws2 := (wM cA ad w2)) (As := [.int x_5, .int 3]) (rest := [.ref (ad 2)]) C hw jnE (kX2_ofR hr6) kl_RX2_44 kt_yX2_ofR kn_RX2 kc_yX2_ofR ⟨rfl, rfl⟩ hdX2_ofR ⟨Nat.le_of_ble_eq_true rfl, Nat.le_of_ble_eq_true rfl⟩ rfl hl.1 (Nat.le_of_ble_eq_true rfl) dX2_bestNow_87 ⟨Nat.zero_le _, Nat.zero_le _⟩ (fun H locs hw => ?_)
    refine lv_iconst (v := 1) hx hb dX2_bestNow_90 (by decide) ?_
    obtain ⟨iw7, h⟩ := ck_some h
    obtain ⟨w7, ew7⟩ : ∃ y : VS, y = up w2 1 (upd (w2 1) (r6 : Int32).toNatClampNeg 1) := ⟨_, rfl⟩
    replace h := bn_some h ew7
    refine tSt (ws2 := (wM cA ad w7)) C hw 2 rfl iw7 (by rw [ew7]; rfl) dX2_bestNow_91 (fun H locs hw => ?_)
    refine lv_goto (tgt := 105) hx hb dX2_bestNow_92 (by decide) ?_
    exact kX2_bestNow_105 C hr k20 hk20 (w7, x_1, x_2, x_3, x_4, x_5) h _ _ _ hw (lv_sub hl [0, 1, 2, 3, 4, 5] rfl)
set_option maxHeartbeats 4000000 in
set_option maxRecDepth 100000 in
theorem kX2_bestNow_20 (C : Cx p s m args meth c cX2_bestNow 6 RX2 D cA g A) (hr : meth.sig.returnType = (some .int)) {z : (Int32 × VS)} (k20 : ((VS) × (Int32) × (Int32) × (Int32) × (Int32) × (Int32)) → Option (Int32 × VS)) (hk20 : ∀ x, k20 x = some z → GX2_bestNow_20 p l e s m args below meth c D cA A ad z x) (x : (VS) × (Int32) × (Int32) × (Int32) × (Int32) × (Int32)) (h : fX2_bestNow_20 k20 x = some z) : GX2_bestNow_20 p l e s m args below meth c D cA A ad z x := by
  obtain ⟨Y, x_1, x_2, x_3, x_4, x_5⟩ := x
  intro H locs ls hw hl
  have hw : Wd D A s.heap (wM cA ad Y) H locs := hw
  have hl : lv_has ls 6 [(0, .ref (ad 0)), (1, .int x_1), (2, .int x_2), (3, .int x_3), (4, .int x_4), (5, .int x_5)] := hl
  have hx := C.1.1
  have hb := C.1.2.1
  have h : (rd 81 (Y 0) 0 (fun r1 => if r1 ≤ x_5 then some (x_4, Y) else cl (fX2_ofR x_5 3) (fun r3 => rd 81 (Y 0) r3 (fun r4 => if r4 = 1 then fX2_bestNow_140 k20 (Y, x_1, x_2, x_3, x_4, x_5) else if x_2 = 0 then cl (fX2_canGo (Y 0) x_5) (fun r7 => if r7 = 0 then fX2_bestNow_140 k20 (Y, x_1, x_2, x_3, x_4, x_5) else fX2_bestNow_65 k20 (Y, x_1, x_2, x_3, x_4, x_5)) else fX2_bestNow_65 k20 (Y, x_1, x_2, x_3, x_4, x_5))))) = some z := h
  refine lv_iload hx hb dX2_bestNow_20 (lv_at hl 5 rfl) ?_
  refine lv_aload_n hx hb dX2_bestNow_22 rfl (lv_at hl 0 rfl) ?_
  refine tGet (T := TX2) (N := 13) (ci := 2) C hw inX2 0 0 rfl (by decide) kf_RX2_9 rfl rfl rfl dX2_bestNow_23 ?_
  refine lv_iconst (v := 0) hx hb dX2_bestNow_26 (by decide) ?_
  obtain ⟨r1, ir1, er1, h⟩ := rd_some h
  refine tLd C hw 1 rfl ir1 er1 dX2_bestNow_27 ?_
  refine lv_icmp_ge (tgt := 146) hx hb dX2_bestNow_28 (by decide) (fun c2 => ?_) (fun c2 => ?_)
  · replace h := (if_pos c2).symm.trans h
    refine lv_iload hx hb dX2_bestNow_146 (lv_at hl 4 rfl) ?_
    obtain rfl := some_e h
    exact rtI C hr hw dX2_bestNow_148
  · replace h := (if_neg c2).symm.trans h
    refine lv_aload_n hx hb dX2_bestNow_31 rfl (lv_at hl 0 rfl) ?_
    refine tGet (T := TX2) (N := 13) (ci := 2) C hw inX2 0 0 rfl (by decide) kf_RX2_9 rfl rfl rfl dX2_bestNow_32 ?_
    refine lv_iload hx hb dX2_bestNow_35 (lv_at hl 5 rfl) ?_
    refine lv_iconst (v := 3) hx hb dX2_bestNow_37 (by decide) ?_
    obtain ⟨r3, hr3, h⟩ := cl_some h
    refine cSi (ws2 := (wM cA ad Y)) (As := [.int x_5, .int 3]) (rest := [.ref (ad 1)]) C hw jnE (kX2_ofR hr3) kl_RX2_44 kt_yX2_ofR kn_RX2 kc_yX2_ofR ⟨rfl, rfl⟩ hdX2_ofR ⟨Nat.le_of_ble_eq_true rfl, Nat.le_of_ble_eq_true rfl⟩ rfl hl.1 (Nat.le_of_ble_eq_true rfl) dX2_bestNow_38 ⟨Nat.zero_le _, Nat.zero_le _⟩ (fun H locs hw => ?_)
    obtain ⟨r4, ir4, er4, h⟩ := rd_some h
    refine tLd C hw 1 rfl ir4 er4 dX2_bestNow_41 ?_
    refine lv_iconst (v := 1) hx hb dX2_bestNow_42 (by decide) ?_
    refine lv_icmp_eq (tgt := 140) hx hb dX2_bestNow_43 (by decide) (fun c5 => ?_) (fun c5 => ?_)
    · replace h := (if_pos c5).symm.trans h
      exact kX2_bestNow_140 C hr k20 hk20 (Y, x_1, x_2, x_3, x_4, x_5) h _ _ _ hw (lv_sub hl [0, 1, 2, 3, 4, 5] rfl)
    · replace h := (if_neg c5).symm.trans h
      refine lv_iload_n hx hb dX2_bestNow_46 rfl (lv_at hl 2 rfl) ?_
      refine lv_if_ne (tgt := 65) hx hb dX2_bestNow_47 (by decide) (fun c6 => ?_) (fun c6 => ?_)
      · replace h := (if_neg c6).symm.trans h
        exact kX2_bestNow_65 C hr k20 hk20 (Y, x_1, x_2, x_3, x_4, x_5) h _ _ _ hw (lv_sub hl [0, 1, 2, 3, 4, 5] rfl)
      · replace h := (if_pos c6).symm.trans h
        refine lv_aload_n hx hb dX2_bestNow_50 rfl (lv_at hl 0 rfl) ?_
        refine tGet (T := TX2) (N := 13) (ci := 2) C hw inX2 0 0 rfl (by decide) kf_RX2_9 rfl rfl rfl dX2_bestNow_51 ?_
        refine lv_iload hx hb dX2_bestNow_54 (lv_at hl 5 rfl) ?_
        obtain ⟨r7, hr7, h⟩ := cl_some h
        refine cSi (ws2 := (wM cA ad Y)) (As := [.ref (ad 1), .int x_5]) (rest := []) C hw jM0r (kX2_canGo (ad 1) hr7) kl_RX2_76 kt_yX2_canGo kn_RX2 kc_yX2_canGo ⟨rfl, rfl⟩ hdX2_canGo ⟨Nat.le_of_ble_eq_true rfl, Nat.le_of_ble_eq_true rfl⟩ rfl hl.1 (Nat.le_of_ble_eq_true rfl) dX2_bestNow_56 ⟨Nat.zero_le _, Nat.zero_le _⟩ (fun H locs hw => ?_)
        refine lv_if_ne (tgt := 65) hx hb dX2_bestNow_59 (by decide) (fun c8 => ?_) (fun c8 => ?_)
        · replace h := (if_neg c8).symm.trans h
          exact kX2_bestNow_65 C hr k20 hk20 (Y, x_1, x_2, x_3, x_4, x_5) h _ _ _ hw (lv_sub hl [0, 1, 2, 3, 4, 5] rfl)
        · replace h := (if_pos c8).symm.trans h
          refine lv_goto (tgt := 140) hx hb dX2_bestNow_62 (by decide) ?_
          exact kX2_bestNow_140 C hr k20 hk20 (Y, x_1, x_2, x_3, x_4, x_5) h _ _ _ hw (lv_sub hl [0, 1, 2, 3, 4, 5] rfl)
theorem lX2_bestNow_20 (C : Cx p s m args meth c cX2_bestNow 6 RX2 D cA g A) (hr : meth.sig.returnType = (some .int)) {z : (Int32 × VS)} (n : Nat) (x : (VS) × (Int32) × (Int32) × (Int32) × (Int32) × (Int32)) (h : lp (fX2_bestNow_20) n x = some z) : GX2_bestNow_20 p l e s m args below meth c D cA A ad z x := lp_ok (GX2_bestNow_20 p l e s m args below meth c D cA A ad z) (fun kq hkq x h => kX2_bestNow_20 C hr kq hkq x h) n x h
set_option maxHeartbeats 4000000 in
set_option maxRecDepth 100000 in
theorem kX2_bestNow (ad : Nat → Nat) {Y : VS} {a_1 : Int32} {a_2 : Int32} {z : (Int32 × VS)} (h : fX2_bestNow Y a_1 a_2 = some z) : MI l D cA g yX2_bestNow (Cond.code yX2_bestNow cX2_bestNow 6 (some .int) :: lw_g) rmX2_bestNow [.ref (ad 0), .int a_1, .int a_2] (wM cA ad Y) z.1 (wM cA ad z.2) := by
  intro sz
  refine Met.ofW (cc := cX2_bestNow) (maxL := 6) (ret := (some .int)) (by decide) rfl ?_
  intro p e s m args below meth c s₁ B hml hv
  obtain ⟨rfl, C, hr, hw⟩ := ent B hml hv
  generalize va_A (wM cA ad Y) sz = A at C hw ⊢
  have hl := lv_entry ([.ref (ad 0), .int a_1, .int a_2]) (n := 6) (Nat.le_of_ble_eq_true rfl)
  rw [lg_entry_eq]
  generalize (lg_sl ([.ref (ad 0), .int a_1, .int a_2]) ++ List.replicate (6 - (lg_sl ([.ref (ad 0), .int a_1, .int a_2])).length) Slot.unset).toArray = ls at hl ⊢
  have hl : lv_has ls 6 [(0, .ref (ad 0)), (1, .int a_1), (2, .int a_2)] := hl
  have hx := C.1.1
  have hb := C.1.2.1
  have h : (cl (fX2_takes Y a_1) (fun w1 => cl (fX2_allWords (w1 1)) (fun r2 => lp (fX2_bestNow_20) 5000 (w1, a_1, a_2, r2, (-9), 0)))) = some z := h
  refine lv_aload_n hx hb dX2_bestNow_0 rfl (lv_at hl 0 rfl) ?_
  refine lv_iload_n hx hb dX2_bestNow_1 rfl (lv_at hl 1 rfl) ?_
  obtain ⟨w1, hw1, h⟩ := cl_some h
  refine cVv (ws2 := (wM cA ad w1)) (As := [.int a_1]) (rest := []) C hw jnW (kX2_takes ad hw1) kl_RX2_160 ki_yX2_takes ks_yX2_takes kn_RX2 kc_yX2_takes ⟨rfl, rfl⟩ hdX2_takes ⟨Nat.le_of_ble_eq_true rfl, Nat.le_of_ble_eq_true rfl⟩ (ci := 2) (q0 := 0) rfl rfl rfl rfl hl.1 (Nat.le_of_ble_eq_true rfl) dX2_bestNow_2 ⟨Nat.zero_le _, Nat.zero_le _⟩ (fun H locs hw => ?_)
  refine lv_aload_n hx hb dX2_bestNow_5 rfl (lv_at hl 0 rfl) ?_
  refine tGet (T := TX2) (N := 13) (ci := 2) C hw inX2 1 0 rfl (by decide) kf_RX2_13 rfl rfl rfl dX2_bestNow_6 ?_
  obtain ⟨r2, hr2, h⟩ := cl_some h
  refine cSi (ws2 := (wM cA ad w1)) (As := [.ref (ad 2)]) (rest := []) C hw jM1r (kX2_allWords (ad 2) hr2) kl_RX2_183 kt_yX2_allWords kn_RX2 kc_yX2_allWords ⟨rfl, rfl⟩ hdX2_allWords ⟨Nat.le_of_ble_eq_true rfl, Nat.le_of_ble_eq_true rfl⟩ rfl hl.1 (Nat.le_of_ble_eq_true rfl) dX2_bestNow_9 ⟨Nat.zero_le _, Nat.zero_le _⟩ (fun H locs hw => ?_)
  refine lv_istore_n (lv' := [(3, .int r2), (0, .ref (ad 0)), (1, .int a_1), (2, .int a_2)]) hx hb dX2_bestNow_12 rfl hl (by decide) rfl (fun ls hl => ?_)
  refine lv_bipush (v := (-9)) hx hb dX2_bestNow_13 (by decide) ?_
  refine lv_istore (lv' := [(4, .int (-9)), (3, .int r2), (0, .ref (ad 0)), (1, .int a_1), (2, .int a_2)]) hx hb dX2_bestNow_15 hl (by decide) rfl (fun ls hl => ?_)
  refine lv_iconst (v := 0) hx hb dX2_bestNow_17 (by decide) ?_
  refine lv_istore (lv' := [(5, .int 0), (4, .int (-9)), (3, .int r2), (0, .ref (ad 0)), (1, .int a_1), (2, .int a_2)]) hx hb dX2_bestNow_18 hl (by decide) rfl (fun ls hl => ?_)
  exact lX2_bestNow_20 C hr 5000 (w1, a_1, a_2, r2, (-9), 0) h _ _ _ hw (lv_sub hl [3, 4, 5, 2, 1, 0] rfl)
end
