/-- what the Statement gives at the start of the statics -/
theorem sF_start {args : Array Value} {s : State} {A : Nat → Prop} (hgv : (Jvm.Cond.and given_1 narrow_1).before args s = true) (hts : ∀ w ∈ lw_tbl, w.before args s = true) (hA : ∀ a : Nat, a < s.heap.size → ¬ A a) : ∃ g : Nat → Nat, sF g A s := by
  have hs := flat_of_before _ hgv
  have hg : ∀ w ∈ lw_g, w.before args s = true := fun w h => hts w (List.mem_filter.mp h).1
  obtain ⟨bc, hbc, hT⟩ := va_Tof (tm := .static "RocketsAsk" "COSTS" "[I") (ty := .int) (N := 6) (f := fun j => .int (cofs j)) (A := A) (by decide) (hs _ (by decide +kernel)) (va_eqt (hs (Cond.eq (.length (.static "RocketsAsk" "COSTS" "[I")) (.int 6)) (by decide +kernel))) (fun j hj => by
    rcases (show j = 0 ∨ j = 1 ∨ j = 2 ∨ j = 3 ∨ j = 4 ∨ j = 5 by omega) with rfl | rfl | rfl | rfl | rfl | rfl
    · exact va_eqt (hs (Cond.eq (.elem (.static "RocketsAsk" "COSTS" "[I") (.int 0)) (.int 5)) (by decide +kernel))
    · exact va_eqt (hs (Cond.eq (.elem (.static "RocketsAsk" "COSTS" "[I") (.int 1)) (.int 1)) (by decide +kernel))
    · exact va_eqt (hs (Cond.eq (.elem (.static "RocketsAsk" "COSTS" "[I") (.int 2)) (.int 10)) (by decide +kernel))
    · exact va_eqt (hs (Cond.eq (.elem (.static "RocketsAsk" "COSTS" "[I") (.int 3)) (.int 11)) (by decide +kernel))
    · exact va_eqt (hs (Cond.eq (.elem (.static "RocketsAsk" "COSTS" "[I") (.int 4)) (.int 3)) (by decide +kernel))
    · exact va_eqt (hs (Cond.eq (.elem (.static "RocketsAsk" "COSTS" "[I") (.int 5)) (.int 21)) (by decide +kernel))) hA
  have hZ1 : va_Z RX1 "COSTS" "[I" (.ref bc) A s s.heap := va_Zof (hts _ kls_RX1_COSTS) (hg _ kn_RX1) hbc hA
  have hZ2 : va_Z RJ0 "COMPACT_STRINGS" "Z" (.int 1) A s s.heap := va_Zof (hts _ kls_RJ0_COMPACT_STRINGS) (hg _ kn_RJ0) (va_eqt (hs (Cond.eq (.static "java/lang/String" "COMPACT_STRINGS" "Z") (.int 1)) (by decide +kernel))) hA
  obtain ⟨adK, adV, hS, hE⟩ := vk_Sof (N := 1) (tm := fun _ => .string "RocketsAsk" 259) (len := [6]) (byt := [kby]) (A := A) (args := args) (s := s)
    (fun i hi => by rcases (show i = 0 by omega) with rfl; decide)
    (fun i hi => hs _ (by decide +kernel)) (fun i hi => hs _ (by decide +kernel)) (fun i hi => hs _ (by decide +kernel))
    (fun i hi => by rcases (show i = 0 by omega) with rfl; exact hs (Cond.eq (.length (.field (.string "RocketsAsk" 259) "java/lang/String" "value" "[B")) (.int 6)) (by decide +kernel))
    (fun i hi j hj => by
      rcases (show i = 0 by omega) with rfl
      have hj6 : j < 6 := hj
      rcases (show j = 0 ∨ j = 1 ∨ j = 2 ∨ j = 3 ∨ j = 4 ∨ j = 5 by omega) with rfl | rfl | rfl | rfl | rfl | rfl
      · exact hs (Cond.eq (.elem (.field (.string "RocketsAsk" 259) "java/lang/String" "value" "[B") (.int 0)) (.int 114)) (by decide +kernel)
      · exact hs (Cond.eq (.elem (.field (.string "RocketsAsk" 259) "java/lang/String" "value" "[B") (.int 1)) (.int 115)) (by decide +kernel)
      · exact hs (Cond.eq (.elem (.field (.string "RocketsAsk" 259) "java/lang/String" "value" "[B") (.int 2)) (.int 103)) (by decide +kernel)
      · exact hs (Cond.eq (.elem (.field (.string "RocketsAsk" 259) "java/lang/String" "value" "[B") (.int 3)) (.int 100)) (by decide +kernel)
      · exact hs (Cond.eq (.elem (.field (.string "RocketsAsk" 259) "java/lang/String" "value" "[B") (.int 4)) (.int 113)) (by decide +kernel)
      · exact hs (Cond.eq (.elem (.field (.string "RocketsAsk" 259) "java/lang/String" "value" "[B") (.int 5)) (.int 108)) (by decide +kernel))
    (fun i j hi hj h => absurd (show i = j by omega) h) hA
  refine ⟨fun k => if k = 0 then bc else if k = 1 then adK 0 else adV 0, hZ1, hT, hZ2, vk_R.of (A := args) (hts _ kstr) (hE 0 (by decide)), ?_, va_Nw.of rfl (hts _ kf_RX0_55)⟩
  · refine ⟨fun i hi => ?_, fun i j hi hj _ => by omega⟩
    rcases (show i = 0 by omega) with rfl
    exact hS.1 0 (by decide)
set_option maxHeartbeats 1000000 in
theorem tIN {p : Program} {l : Launch} {e : Env} {R : Room} {s : State} {m : MethodId} {args : Array Value} {below : List Frame} {meth : Method} {c : Code} {D : va_G} {cA : ClassId} {g : Nat → Nat} {A : Nat → Prop} {cc : ByteArray} {nL : Nat} {own : String} {H : Heap} {locs : List Loc} {cells slots mc ms : Nat} {Q : State → Prop} {pc b ci index : Nat} {ls : Array Slot} {rest : List Value} {ws : va_W} {ws2 W1 : (Nat → Nat) → va_W} {y : MethodName} {yb : ByteArray} {rm : Room} {zf : List Value} {Pre : State → Prop}
    (C0 : Cx p s m args meth c cc nL own D cA g A) (hw : Wd D A s.heap ws H locs) (J : ∀ q : Nat → Nat, Jn [(b, .inr (ci, zf))] (W1 q) ws (ws2 q))
    (hM : ∀ sz, Met l y (Cond.code y yb 1 none :: lw_g) rm (va_Pc [.ref b] (fun U => pcW D cA g [(b, .inr (ci, zf))] sz U ∧ Pre U)) (va_Qv (fun q : Nat → Nat => q 0 = b) (fun q => atW D cA (va_A [(b, .inr (ci, zf))] sz) (W1 q) ()) (va_A [(b, .inr (ci, zf))] sz)) mc ms (va_A [(b, .inr (ci, zf))] sz))
    (hPre : ∀ U : State, s.WarmedH U.vm → Pre U) (hPb : ∀ (a : Array Value) (U : State) (gg : JFrame) (mk : MethodId), Pre U → Pre (U.calling gg mk a)) (k1 : Cond.methodLink own index y ∈ lw_g) (k2 : Cond.instanceMethod y ∈ lw_g) (k4 : Cond.initialized y.cls ∈ lw_g) (k5 : Cond.code y yb 1 none ∈ lw_g) (hyn : y.name = "<init>") (hrc : rm.cells = mc) (hrs : rm.slots = ms) (hd : y.cls ≠ "java/lang/invoke/MethodHandle" ∧ y.cls ≠ "java/lang/invoke/VarHandle" ∧ (parseMethodDescriptor y.desc).map (fun d => d.parameters.length) = some 0) (hRm : rm.frames + 1 ≤ R.frames ∧ 8 + (1 + 11) + rm.locals ≤ R.locals) (hsz : ls.size = nL) (hrm : (rest.map fun v => v.category).sum ≤ 8) (hdg : decode cc pc = .ok (.invokespecial index, 3)) (hcs : cells + mc ≤ R.cells ∧ slots + ms ≤ R.slots)
    (kk : ∀ (q : Nat → Nat), q 0 = b → ∀ (H1 : Heap) (locs1 : List Loc), Wd D A s.heap (ws2 q) H1 locs1 → W p l e R s m args below meth c H1 locs1 (cells + mc) (slots + ms) Q (F0 m (pc + 3) ls rest)) : W p l e R s m args below meth c H locs cells slots Q (F0 m pc ls (.ref b :: rest)) := by
  obtain ⟨hfix, hlocks, hK, hA, hF⟩ := C0
  obtain ⟨hP, hD, hS⟩ := hw
  have hts := hfix.2.2.2.2
  obtain ⟨hPc, hDc⟩ := (J (fun _ => 0) D A H H hP hD).1
  have hFc : ∀ q, va_A [(b, .inr (ci, zf))] H.size q → A q := fun q h => by
    rcases h with ⟨k, e, h⟩ | h
    · exact hDc.2 k (q, e) h
    · exact hA q (Nat.le_trans hS.1 h)
  have hG : GoodIn lw_g (Cond.code y yb 1 none :: lw_g) := fun w hw => by
    rcases List.mem_cons.mp hw with rfl | h
    · exact gl_tbl _ k5
    · exact gl_tbl _ h
  refine va_callv (va_runI (n := 0) (As := []) (rest := rest) (g := F0 m pc ls (.ref b :: rest)) hfix (hM H.size) (cwI 0 hts hG rfl hrc hrs (hts _ k4) (hts _ k1) (hts _ k2) hyn hd hRm) ⟨fun a U gg mk q => ⟨(pcW_blind a U gg mk ⟨q.1, q.2.1⟩).1, (pcW_blind a U gg mk ⟨q.1, q.2.1⟩).2, hPb a U gg mk q.2.2⟩, fun U hU hW => ⟨rfl, ⟨by rw [hU], by rw [hU]; exact hPc, va_K.moved hW.alike hK, hDc.weaken (fun _ _ _ _ => trivial), hF.go hS hFc hU hW⟩, hPre U hW⟩⟩ rfl rfl hsz rfl (lv_room hrm) hdg hcs) hS (fun q _ h => hFc q h) hFc (fun q t H1 locs1 ht hvm hp hB hz1 hk1 hS1 => ?_)
  obtain ⟨hP1, hK1, hD1⟩ := hB
  rw [ht] at hP1
  obtain ⟨hP2, hD2⟩ := (J q D A H H1 hP hD).2 hFc hk1 hP1 hD1
  exact kk q hp H1 locs1 ⟨hP2, hD2, hS1⟩
set_option maxHeartbeats 4000000 in
set_option maxRecDepth 100000 in
/-- the law from its entry, given that its pure form comes to its end -/
theorem whole_open {p : Program} {e : Env} {s : State} {m : MethodId} {below : List Frame} {meth : Method} {c : Code} (l : Launch) {b L : Nat} {xs : Nat → Int32} (hpure : lp (fL_law_18 L xs) 5000 (X00, Y00, 0) = some ()) (C0 : lw_At p s m meth c b L xs) : W p l e room_1 s m #[Value.ref b] below meth c s.heap [] 0 0 (lw_Z below #[Value.ref b] s) (entryFrame m ([Value.ref b] : List Value).toArray 4) := by
  obtain ⟨hx, hb, hr, hml, hown, hts, hX, hbl, hlocks, hgv⟩ := id C0
  have hg : ∀ w ∈ lw_g, w.before #[Value.ref b] s = true := fun w h => hts w (List.mem_filter.mp h).1
  obtain ⟨c0, iS0, hKn0⟩ := u_known (C := RX0) (T := TX0) (N := 12) (n := 12) hg inX0 (hg _ kb_RX0)
  obtain ⟨c1, iS1, hKn1⟩ := u_known (C := RX1) (T := TX1) (N := 12) (n := 12) hg inX1 (hg _ kb_RX1)
  obtain ⟨c2, iS2, hKn2⟩ := u_known (C := RX2) (T := TX2) (N := 13) (n := 13) hg inX2 (hg _ kb_RX2)
  obtain ⟨cA, kA, comp, hcA, hkA, hkind⟩ := Cond.arrayClass_spec (hg _ ka_int)
  obtain ⟨dC, dI, hKc⟩ : ∃ (dC : Nat → ClassId) (dI : Nat → Nat → Nat), ∀ (k : Nat) (q : vw_C), vwCl[k]? = some q → u_Kn s q.1 q.2.1 q.2.2 (dC k) (dI k) := by
    refine ⟨fun k => if k = 0 then c0 else if k = 1 then c1 else c2, fun k => if k = 0 then iS0 else if k = 1 then iS1 else iS2, ?_⟩
    intro k q hq
    match k, hq with
    | 0, hq => cases hq; exact hKn0
    | 1, hq => cases hq; exact hKn1
    | 2, hq => cases hq; exact hKn2
    | k + 3, hq => simp [vwCl] at hq
  have hK : va_K (dC, dI) vwCl [(cA, .int)] s := ⟨hKc, fun k q h => by
    match k, h with
    | 0, h => cases h; exact ⟨fun n z => ⟨fun k h => (by cases h), kA, hkA, comp, hkind⟩, hcA⟩
    | k + 1, h => simp at h⟩
  obtain ⟨g, hF⟩ := sF_start (A := fun q : Nat => s.heap.size ≤ q) hgv hts (fun a h => Nat.not_le.mpr h)
  have C : Cx p s m #[Value.ref b] meth c cL_law 4 RL (dC, dI) cA g (fun q : Nat => s.heap.size ≤ q) := ⟨⟨hx, hb, hml, hown, hg⟩, hlocks, hK, fun _ h => h, hF⟩
  have hw : Wd (dC, dI) (fun q : Nat => s.heap.size ≤ q) s.heap [] s.heap [] := ⟨fun k q h => by simp at h, ⟨fun i j p q h => by simp at h, fun k q h => by simp at h⟩, va_S.rf⟩
  have hl := lv_entry ([.ref b]) (n := 4) (Nat.le_of_ble_eq_true rfl)
  rw [lg_entry_eq]
  generalize (lg_sl ([.ref b]) ++ List.replicate (4 - (lg_sl ([.ref b])).length) Slot.unset).toArray = ls at hl ⊢
  have hl : lv_has ls 4 [(0, .ref b)] := hl
  refine va_new (ci := 1) (fs := zR) (C := RX1) (T := TX1) (N := 12) hx hb hg inX1 tyX1 tyX1_ok hown (hg _ kq_RL_7) (hg _ kb_RX1) (hg _ kn_RX1) hK hw.1 hw.2.1 hw.2.2 C.2.2.2.1 rfl (fun j hj => by rcases (show j = 0 ∨ j = 1 ∨ j = 2 ∨ j = 3 ∨ j = 4 ∨ j = 5 ∨ j = 6 ∨ j = 7 ∨ j = 8 ∨ j = 9 ∨ j = 10 ∨ j = 11 by omega) with rfl | rfl | rfl | rfl | rfl | rfl | rfl | rfl | rfl | rfl | rfl | rfl <;> rfl) (Nat.le_of_ble_eq_true rfl) (Nat.le_of_ble_eq_true rfl) dL_law_0 (fun n1 H hP hD hS => ?_)
  refine W.widen (k := 1) (n := 12) (by omega) (by omega) ?_
  have hw : Wd (dC, dI) (fun q : Nat => s.heap.size ≤ q) s.heap [(n1, .inr (1, zR))] H [] := ⟨hP, hD, hS⟩
  refine lv_dup hx hb dL_law_3 rfl ?_
  refine tIN (R := room_1) (cells := 1) (slots := 12) (ws := [(n1, .inr (1, zR))]) (ws2 := fun q => wR cA q X00) (W1 := fun q => wR cA q X00) (rest := [.ref n1]) C hw (fun _ => jnW) (kX1_init n1) (fun U hW => va_Nw.warmM hW (va_Nw.of rfl (hts _ kl_RX1_9))) (fun a U gg mk h => va_Nw.same (u := U) (U := U.calling gg mk a) rfl rfl h) kl_RL_9 ki_yX1_init kn_RX1 kc_yX1_init rfl rfl rfl hdX1_init (by exact ⟨Nat.le_of_ble_eq_true rfl, Nat.le_of_ble_eq_true rfl⟩) hl.1 (Nat.le_of_ble_eq_true rfl) dL_law_4 (by exact ⟨Nat.le_of_ble_eq_true rfl, Nat.le_of_ble_eq_true rfl⟩) (fun ad ead H locs hw => ?_)
  have hw9 : Wd (dC, dI) (fun q : Nat => s.heap.size ≤ q) s.heap (wR cA ad X00) H locs := hw
  subst ead
  refine W.widen (k := 28) (n := 385) (by omega) (by omega) ?_
  refine lv_astore_n (lv' := [(1, .ref (ad 0)), (0, .ref b)]) hx hb dL_law_7 rfl hl (by decide) rfl (fun ls hl => ?_)
  refine va_new (ci := 2) (fs := zM) (C := RX2) (T := TX2) (N := 13) hx hb hg inX2 tyX2 tyX2_ok hown (hg _ kq_RL_10) (hg _ kb_RX2) (hg _ kn_RX2) hK hw9.1 hw9.2.1 hw9.2.2 C.2.2.2.1 rfl (fun j hj => by rcases (show j = 0 ∨ j = 1 ∨ j = 2 ∨ j = 3 ∨ j = 4 ∨ j = 5 ∨ j = 6 ∨ j = 7 ∨ j = 8 ∨ j = 9 ∨ j = 10 ∨ j = 11 ∨ j = 12 by omega) with rfl | rfl | rfl | rfl | rfl | rfl | rfl | rfl | rfl | rfl | rfl | rfl | rfl <;> rfl) (Nat.le_of_ble_eq_true rfl) (Nat.le_of_ble_eq_true rfl) dL_law_8 (fun n2 H hP hD hS => ?_)
  refine W.widen (k := 29) (n := 398) (by omega) (by omega) ?_
  have hw2 : Wd (dC, dI) (fun q : Nat => s.heap.size ≤ q) s.heap (wR cA ad X00 ++ [(n2, .inr (2, zM))]) H locs := ⟨hP, hD, hS⟩
  refine lv_dup hx hb dL_law_11 rfl ?_
  refine tIN (R := room_1) (cells := 29) (slots := 398) (ws := wR cA ad X00 ++ [(n2, .inr (2, zM))]) (ws2 := fun q => wR cA ad X00 ++ wM cA q Y00) (W1 := fun q => wM cA q Y00) (rest := [.ref n2]) C hw2 (jnAq [28] [0, 1, 2, 3, 4, 5, 6, 7, 8, 9, 10, 11, 12, 13, 14, 15, 16, 17, 18, 19, 20, 21, 22, 23, 24, 25, 26, 27] rfl rfl rfl rfl (by decide) (fun _ => rfl)) (kX2_init n2) (fun U hW => trivial) (fun a U gg mk h => trivial) kl_RL_12 ki_yX2_init kn_RX2 kc_yX2_init rfl rfl rfl hdX2_init (by exact ⟨Nat.le_of_ble_eq_true rfl, Nat.le_of_ble_eq_true rfl⟩) hl.1 (Nat.le_of_ble_eq_true rfl) dL_law_12 (by exact ⟨Nat.le_of_ble_eq_true rfl, Nat.le_of_ble_eq_true rfl⟩) (fun ad2 ead2 H locs hw => ?_)
  have hw8 : Wd (dC, dI) (fun q : Nat => s.heap.size ≤ q) s.heap (wR cA ad X00 ++ wM cA ad2 Y00) H locs := hw
  subst ead2
  refine W.widen (k := 37) (n := 844) (by omega) (by omega) ?_
  refine lv_astore_n (lv' := [(2, .ref (ad2 0)), (1, .ref (ad 0)), (0, .ref b)]) hx hb dL_law_15 rfl hl (by decide) rfl (fun ls hl => ?_)
  refine lv_iconst (v := 0) hx hb dL_law_16 (by decide) ?_
  refine lv_istore_n (lv' := [(3, .int 0), (2, .ref (ad2 0)), (1, .ref (ad 0)), (0, .ref b)]) hx hb dL_law_17 rfl hl (by decide) rfl (fun ls hl => ?_)
  exact lL_law_18 C ⟨hX, hbl, Nat.not_le.mpr hbl, fun _ h => h, hr, hlocks, rfl⟩ 5000 (X00, Y00, 0) hpure _ _ _ hw8 (lv_sub hl [3, 2, 1, 0] rfl)
