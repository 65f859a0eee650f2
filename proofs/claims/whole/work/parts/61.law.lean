set_option maxRecDepth 20000 in
theorem jLX {cA : ClassId} {ad ad2 : Nat → Nat} {X X1 : Nat → VS} {Y : VS} : Jn (wR cA ad X) (wR cA ad X1) (wR cA ad X ++ wM cA ad2 Y) (wR cA ad X1 ++ wM cA ad2 Y) := jnC [0, 1, 2, 3, 4, 5, 6, 7, 8, 9, 10, 11, 12, 13, 14, 15, 16, 17, 18, 19, 20, 21, 22, 23, 24, 25, 26, 27] [28, 29, 30, 31, 32, 33, 34, 35, 36] [9, 10, 11, 12, 13, 14, 15, 16, 17, 18, 19, 20, 21, 22, 23, 24, 25, 26, 27, 28, 29, 30, 31, 32, 33, 34, 35, 36, 0, 1, 2, 3, 4, 5, 6, 7, 8] rfl rfl rfl rfl (by decide) rfl rfl
set_option maxRecDepth 20000 in
theorem jLY {cA : ClassId} {ad ad2 : Nat → Nat} {X : Nat → VS} {Y Y1 : VS} : Jn (wM cA ad2 Y) (wM cA ad2 Y1) (wR cA ad X ++ wM cA ad2 Y) (wR cA ad X ++ wM cA ad2 Y1) := jnC [28, 29, 30, 31, 32, 33, 34, 35, 36] [0, 1, 2, 3, 4, 5, 6, 7, 8, 9, 10, 11, 12, 13, 14, 15, 16, 17, 18, 19, 20, 21, 22, 23, 24, 25, 26, 27] [0, 1, 2, 3, 4, 5, 6, 7, 8, 9, 10, 11, 12, 13, 14, 15, 16, 17, 18, 19, 20, 21, 22, 23, 24, 25, 26, 27, 28, 29, 30, 31, 32, 33, 34, 35, 36] rfl rfl rfl rfl (by decide) rfl rfl
section
variable {p : Program} {l : Launch} {e : Env} {s : State} {m : MethodId} {args : Array Value} {below : List Frame} {meth : Method} {c : Code} {D : va_G} {cA : ClassId} {g : Nat → Nat} {A : Nat → Prop} {ad ad2 : Nat → Nat} {a0 a1 b : Nat}
def GL_law_1196 (p : Program) (l : Launch) (e : Env) (s : State) (m : MethodId) (args : Array Value) (below : List Frame) (meth : Method) (c : Code) (D : va_G) (cA : ClassId) (A : Nat → Prop) (ad ad2 : Nat → Nat) (b : Nat) (L : Nat) (xs : Nat → Int32) (z : Unit) (x : (Nat → VS) × (VS) × (Int32)) : Prop := ∀ (H : Heap) (locs : List Loc) (ls : Array Slot), Wd D A s.heap (wR cA ad x.1 ++ wM cA ad2 x.2.1) H locs → lv_has ls 4 [(0, .ref b), (1, .ref (ad 0)), (2, .ref (ad2 0)), (3, .int x.2.2)] → W p l e room_1 s m args below meth c H locs 37 844 (lw_Z below args s) (F0 m 1196 ls [])
def GL_law_200 (p : Program) (l : Launch) (e : Env) (s : State) (m : MethodId) (args : Array Value) (below : List Frame) (meth : Method) (c : Code) (D : va_G) (cA : ClassId) (A : Nat → Prop) (ad ad2 : Nat → Nat) (b : Nat) (L : Nat) (xs : Nat → Int32) (z : Unit) (x : (Nat → VS) × (VS) × (Int32)) : Prop := ∀ (H : Heap) (locs : List Loc) (ls : Array Slot), Wd D A s.heap (wR cA ad x.1 ++ wM cA ad2 x.2.1) H locs → lv_has ls 4 [(0, .ref b), (1, .ref (ad 0)), (2, .ref (ad2 0)), (3, .int x.2.2)] → W p l e room_1 s m args below meth c H locs 37 844 (lw_Z below args s) (F0 m 200 ls [])
def GL_law_223 (p : Program) (l : Launch) (e : Env) (s : State) (m : MethodId) (args : Array Value) (below : List Frame) (meth : Method) (c : Code) (D : va_G) (cA : ClassId) (A : Nat → Prop) (ad ad2 : Nat → Nat) (b : Nat) (L : Nat) (xs : Nat → Int32) (z : Unit) (x : (Nat → VS) × (VS) × (Int32)) : Prop := ∀ (H : Heap) (locs : List Loc) (ls : Array Slot), Wd D A s.heap (wR cA ad x.1 ++ wM cA ad2 x.2.1) H locs → lv_has ls 4 [(0, .ref b), (1, .ref (ad 0)), (2, .ref (ad2 0)), (3, .int x.2.2)] → W p l e room_1 s m args below meth c H locs 37 844 (lw_Z below args s) (F0 m 223 ls [])
def GL_law_236 (p : Program) (l : Launch) (e : Env) (s : State) (m : MethodId) (args : Array Value) (below : List Frame) (meth : Method) (c : Code) (D : va_G) (cA : ClassId) (A : Nat → Prop) (ad ad2 : Nat → Nat) (b : Nat) (L : Nat) (xs : Nat → Int32) (z : Unit) (x : (Nat → VS) × (VS) × (Int32)) : Prop := ∀ (H : Heap) (locs : List Loc) (ls : Array Slot), Wd D A s.heap (wR cA ad x.1 ++ wM cA ad2 x.2.1) H locs → lv_has ls 4 [(0, .ref b), (1, .ref (ad 0)), (2, .ref (ad2 0)), (3, .int x.2.2)] → W p l e room_1 s m args below meth c H locs 37 844 (lw_Z below args s) (F0 m 236 ls [])
def GL_law_269 (p : Program) (l : Launch) (e : Env) (s : State) (m : MethodId) (args : Array Value) (below : List Frame) (meth : Method) (c : Code) (D : va_G) (cA : ClassId) (A : Nat → Prop) (ad ad2 : Nat → Nat) (b : Nat) (L : Nat) (xs : Nat → Int32) (z : Unit) (x : (Nat → VS) × (VS) × (Int32)) : Prop := ∀ (H : Heap) (locs : List Loc) (ls : Array Slot), Wd D A s.heap (wR cA ad x.1 ++ wM cA ad2 x.2.1) H locs → lv_has ls 4 [(0, .ref b), (1, .ref (ad 0)), (2, .ref (ad2 0)), (3, .int x.2.2)] → W p l e room_1 s m args below meth c H locs 37 844 (lw_Z below args s) (F0 m 269 ls [])
def GL_law_302 (p : Program) (l : Launch) (e : Env) (s : State) (m : MethodId) (args : Array Value) (below : List Frame) (meth : Method) (c : Code) (D : va_G) (cA : ClassId) (A : Nat → Prop) (ad ad2 : Nat → Nat) (b : Nat) (L : Nat) (xs : Nat → Int32) (z : Unit) (x : (Nat → VS) × (VS) × (Int32)) : Prop := ∀ (H : Heap) (locs : List Loc) (ls : Array Slot), Wd D A s.heap (wR cA ad x.1 ++ wM cA ad2 x.2.1) H locs → lv_has ls 4 [(0, .ref b), (1, .ref (ad 0)), (2, .ref (ad2 0)), (3, .int x.2.2)] → W p l e room_1 s m args below meth c H locs 37 844 (lw_Z below args s) (F0 m 302 ls [])
def GL_law_335 (p : Program) (l : Launch) (e : Env) (s : State) (m : MethodId) (args : Array Value) (below : List Frame) (meth : Method) (c : Code) (D : va_G) (cA : ClassId) (A : Nat → Prop) (ad ad2 : Nat → Nat) (b : Nat) (L : Nat) (xs : Nat → Int32) (z : Unit) (x : (Nat → VS) × (VS) × (Int32)) : Prop := ∀ (H : Heap) (locs : List Loc) (ls : Array Slot), Wd D A s.heap (wR cA ad x.1 ++ wM cA ad2 x.2.1) H locs → lv_has ls 4 [(0, .ref b), (1, .ref (ad 0)), (2, .ref (ad2 0)), (3, .int x.2.2)] → W p l e room_1 s m args below meth c H locs 37 844 (lw_Z below args s) (F0 m 335 ls [])
def GL_law_358 (p : Program) (l : Launch) (e : Env) (s : State) (m : MethodId) (args : Array Value) (below : List Frame) (meth : Method) (c : Code) (D : va_G) (cA : ClassId) (A : Nat → Prop) (ad ad2 : Nat → Nat) (b : Nat) (L : Nat) (xs : Nat → Int32) (z : Unit) (x : (Nat → VS) × (VS) × (Int32)) : Prop := ∀ (H : Heap) (locs : List Loc) (ls : Array Slot), Wd D A s.heap (wR cA ad x.1 ++ wM cA ad2 x.2.1) H locs → lv_has ls 4 [(0, .ref b), (1, .ref (ad 0)), (2, .ref (ad2 0)), (3, .int x.2.2)] → W p l e room_1 s m args below meth c H locs 37 844 (lw_Z below args s) (F0 m 358 ls [])
def GL_law_381 (p : Program) (l : Launch) (e : Env) (s : State) (m : MethodId) (args : Array Value) (below : List Frame) (meth : Method) (c : Code) (D : va_G) (cA : ClassId) (A : Nat → Prop) (ad ad2 : Nat → Nat) (b : Nat) (L : Nat) (xs : Nat → Int32) (z : Unit) (x : (Nat → VS) × (VS) × (Int32)) : Prop := ∀ (H : Heap) (locs : List Loc) (ls : Array Slot), Wd D A s.heap (wR cA ad x.1 ++ wM cA ad2 x.2.1) H locs → lv_has ls 4 [(0, .ref b), (1, .ref (ad 0)), (2, .ref (ad2 0)), (3, .int x.2.2)] → W p l e room_1 s m args below meth c H locs 37 844 (lw_Z below args s) (F0 m 381 ls [])
def GL_law_404 (p : Program) (l : Launch) (e : Env) (s : State) (m : MethodId) (args : Array Value) (below : List Frame) (meth : Method) (c : Code) (D : va_G) (cA : ClassId) (A : Nat → Prop) (ad ad2 : Nat → Nat) (b : Nat) (L : Nat) (xs : Nat → Int32) (z : Unit) (x : (Nat → VS) × (VS) × (Int32)) : Prop := ∀ (H : Heap) (locs : List Loc) (ls : Array Slot), Wd D A s.heap (wR cA ad x.1 ++ wM cA ad2 x.2.1) H locs → lv_has ls 4 [(0, .ref b), (1, .ref (ad 0)), (2, .ref (ad2 0)), (3, .int x.2.2)] → W p l e room_1 s m args below meth c H locs 37 844 (lw_Z below args s) (F0 m 404 ls [])
def GL_law_427 (p : Program) (l : Launch) (e : Env) (s : State) (m : MethodId) (args : Array Value) (below : List Frame) (meth : Method) (c : Code) (D : va_G) (cA : ClassId) (A : Nat → Prop) (ad ad2 : Nat → Nat) (b : Nat) (L : Nat) (xs : Nat → Int32) (z : Unit) (x : (Nat → VS) × (VS) × (Int32)) : Prop := ∀ (H : Heap) (locs : List Loc) (ls : Array Slot), Wd D A s.heap (wR cA ad x.1 ++ wM cA ad2 x.2.1) H locs → lv_has ls 4 [(0, .ref b), (1, .ref (ad 0)), (2, .ref (ad2 0)), (3, .int x.2.2)] → W p l e room_1 s m args below meth c H locs 37 844 (lw_Z below args s) (F0 m 427 ls [])
def GL_law_460 (p : Program) (l : Launch) (e : Env) (s : State) (m : MethodId) (args : Array Value) (below : List Frame) (meth : Method) (c : Code) (D : va_G) (cA : ClassId) (A : Nat → Prop) (ad ad2 : Nat → Nat) (b : Nat) (L : Nat) (xs : Nat → Int32) (z : Unit) (x : (Nat → VS) × (VS) × (Int32)) : Prop := ∀ (H : Heap) (locs : List Loc) (ls : Array Slot), Wd D A s.heap (wR cA ad x.1 ++ wM cA ad2 x.2.1) H locs → lv_has ls 4 [(0, .ref b), (1, .ref (ad 0)), (2, .ref (ad2 0)), (3, .int x.2.2)] → W p l e room_1 s m args below meth c H locs 37 844 (lw_Z below args s) (F0 m 460 ls [])
def GL_law_503 (p : Program) (l : Launch) (e : Env) (s : State) (m : MethodId) (args : Array Value) (below : List Frame) (meth : Method) (c : Code) (D : va_G) (cA : ClassId) (A : Nat → Prop) (ad ad2 : Nat → Nat) (b : Nat) (L : Nat) (xs : Nat → Int32) (z : Unit) (x : (Nat → VS) × (VS) × (Int32)) : Prop := ∀ (H : Heap) (locs : List Loc) (ls : Array Slot), Wd D A s.heap (wR cA ad x.1 ++ wM cA ad2 x.2.1) H locs → lv_has ls 4 [(0, .ref b), (1, .ref (ad 0)), (2, .ref (ad2 0)), (3, .int x.2.2)] → W p l e room_1 s m args below meth c H locs 37 844 (lw_Z below args s) (F0 m 503 ls [])
def GL_law_526 (p : Program) (l : Launch) (e : Env) (s : State) (m : MethodId) (args : Array Value) (below : List Frame) (meth : Method) (c : Code) (D : va_G) (cA : ClassId) (A : Nat → Prop) (ad ad2 : Nat → Nat) (b : Nat) (L : Nat) (xs : Nat → Int32) (z : Unit) (x : (Nat → VS) × (VS) × (Int32)) : Prop := ∀ (H : Heap) (locs : List Loc) (ls : Array Slot), Wd D A s.heap (wR cA ad x.1 ++ wM cA ad2 x.2.1) H locs → lv_has ls 4 [(0, .ref b), (1, .ref (ad 0)), (2, .ref (ad2 0)), (3, .int x.2.2)] → W p l e room_1 s m args below meth c H locs 37 844 (lw_Z below args s) (F0 m 526 ls [])
def GL_law_559 (p : Program) (l : Launch) (e : Env) (s : State) (m : MethodId) (args : Array Value) (below : List Frame) (meth : Method) (c : Code) (D : va_G) (cA : ClassId) (A : Nat → Prop) (ad ad2 : Nat → Nat) (b : Nat) (L : Nat) (xs : Nat → Int32) (z : Unit) (x : (Nat → VS) × (VS) × (Int32)) : Prop := ∀ (H : Heap) (locs : List Loc) (ls : Array Slot), Wd D A s.heap (wR cA ad x.1 ++ wM cA ad2 x.2.1) H locs → lv_has ls 4 [(0, .ref b), (1, .ref (ad 0)), (2, .ref (ad2 0)), (3, .int x.2.2)] → W p l e room_1 s m args below meth c H locs 37 844 (lw_Z below args s) (F0 m 559 ls [])
def GL_law_592 (p : Program) (l : Launch) (e : Env) (s : State) (m : MethodId) (args : Array Value) (below : List Frame) (meth : Method) (c : Code) (D : va_G) (cA : ClassId) (A : Nat → Prop) (ad ad2 : Nat → Nat) (b : Nat) (L : Nat) (xs : Nat → Int32) (z : Unit) (x : (Nat → VS) × (VS) × (Int32)) : Prop := ∀ (H : Heap) (locs : List Loc) (ls : Array Slot), Wd D A s.heap (wR cA ad x.1 ++ wM cA ad2 x.2.1) H locs → lv_has ls 4 [(0, .ref b), (1, .ref (ad 0)), (2, .ref (ad2 0)), (3, .int x.2.2)] → W p l e room_1 s m args below meth c H locs 37 844 (lw_Z below args s) (F0 m 592 ls [])
def GL_law_615 (p : Program) (l : Launch) (e : Env) (s : State) (m : MethodId) (args : Array Value) (below : List Frame) (meth : Method) (c : Code) (D : va_G) (cA : ClassId) (A : Nat → Prop) (ad ad2 : Nat → Nat) (b : Nat) (L : Nat) (xs : Nat → Int32) (z : Unit) (x : (Nat → VS) × (VS) × (Int32)) : Prop := ∀ (H : Heap) (locs : List Loc) (ls : Array Slot), Wd D A s.heap (wR cA ad x.1 ++ wM cA ad2 x.2.1) H locs → lv_has ls 4 [(0, .ref b), (1, .ref (ad 0)), (2, .ref (ad2 0)), (3, .int x.2.2)] → W p l e room_1 s m args below meth c H locs 37 844 (lw_Z below args s) (F0 m 615 ls [])
def GL_law_638 (p : Program) (l : Launch) (e : Env) (s : State) (m : MethodId) (args : Array Value) (below : List Frame) (meth : Method) (c : Code) (D : va_G) (cA : ClassId) (A : Nat → Prop) (ad ad2 : Nat → Nat) (b : Nat) (L : Nat) (xs : Nat → Int32) (z : Unit) (x : (Nat → VS) × (VS) × (Int32)) : Prop := ∀ (H : Heap) (locs : List Loc) (ls : Array Slot), Wd D A s.heap (wR cA ad x.1 ++ wM cA ad2 x.2.1) H locs → lv_has ls 4 [(0, .ref b), (1, .ref (ad 0)), (2, .ref (ad2 0)), (3, .int x.2.2)] → W p l e room_1 s m args below meth c H locs 37 844 (lw_Z below args s) (F0 m 638 ls [])
def GL_law_671 (p : Program) (l : Launch) (e : Env) (s : State) (m : MethodId) (args : Array Value) (below : List Frame) (meth : Method) (c : Code) (D : va_G) (cA : ClassId) (A : Nat → Prop) (ad ad2 : Nat → Nat) (b : Nat) (L : Nat) (xs : Nat → Int32) (z : Unit) (x : (Nat → VS) × (VS) × (Int32)) : Prop := ∀ (H : Heap) (locs : List Loc) (ls : Array Slot), Wd D A s.heap (wR cA ad x.1 ++ wM cA ad2 x.2.1) H locs → lv_has ls 4 [(0, .ref b), (1, .ref (ad 0)), (2, .ref (ad2 0)), (3, .int x.2.2)] → W p l e room_1 s m args below meth c H locs 37 844 (lw_Z below args s) (F0 m 671 ls [])
def GL_law_704 (p : Program) (l : Launch) (e : Env) (s : State) (m : MethodId) (args : Array Value) (below : List Frame) (meth : Method) (c : Code) (D : va_G) (cA : ClassId) (A : Nat → Prop) (ad ad2 : Nat → Nat) (b : Nat) (L : Nat) (xs : Nat → Int32) (z : Unit) (x : (Nat → VS) × (VS) × (Int32)) : Prop := ∀ (H : Heap) (locs : List Loc) (ls : Array Slot), Wd D A s.heap (wR cA ad x.1 ++ wM cA ad2 x.2.1) H locs → lv_has ls 4 [(0, .ref b), (1, .ref (ad 0)), (2, .ref (ad2 0)), (3, .int x.2.2)] → W p l e room_1 s m args below meth c H locs 37 844 (lw_Z below args s) (F0 m 704 ls [])
def GL_law_747 (p : Program) (l : Launch) (e : Env) (s : State) (m : MethodId) (args : Array Value) (below : List Frame) (meth : Method) (c : Code) (D : va_G) (cA : ClassId) (A : Nat → Prop) (ad ad2 : Nat → Nat) (b : Nat) (L : Nat) (xs : Nat → Int32) (z : Unit) (x : (Nat → VS) × (VS) × (Int32)) : Prop := ∀ (H : Heap) (locs : List Loc) (ls : Array Slot), Wd D A s.heap (wR cA ad x.1 ++ wM cA ad2 x.2.1) H locs → lv_has ls 4 [(0, .ref b), (1, .ref (ad 0)), (2, .ref (ad2 0)), (3, .int x.2.2)] → W p l e room_1 s m args below meth c H locs 37 844 (lw_Z below args s) (F0 m 747 ls [])
def GL_law_770 (p : Program) (l : Launch) (e : Env) (s : State) (m : MethodId) (args : Array Value) (below : List Frame) (meth : Method) (c : Code) (D : va_G) (cA : ClassId) (A : Nat → Prop) (ad ad2 : Nat → Nat) (b : Nat) (L : Nat) (xs : Nat → Int32) (z : Unit) (x : (Nat → VS) × (VS) × (Int32)) : Prop := ∀ (H : Heap) (locs : List Loc) (ls : Array Slot), Wd D A s.heap (wR cA ad x.1 ++ wM cA ad2 x.2.1) H locs → lv_has ls 4 [(0, .ref b), (1, .ref (ad 0)), (2, .ref (ad2 0)), (3, .int x.2.2)] → W p l e room_1 s m args below meth c H locs 37 844 (lw_Z below args s) (F0 m 770 ls [])
def GL_law_793 (p : Program) (l : Launch) (e : Env) (s : State) (m : MethodId) (args : Array Value) (below : List Frame) (meth : Method) (c : Code) (D : va_G) (cA : ClassId) (A : Nat → Prop) (ad ad2 : Nat → Nat) (b : Nat) (L : Nat) (xs : Nat → Int32) (z : Unit) (x : (Nat → VS) × (VS) × (Int32)) : Prop := ∀ (H : Heap) (locs : List Loc) (ls : Array Slot), Wd D A s.heap (wR cA ad x.1 ++ wM cA ad2 x.2.1) H locs → lv_has ls 4 [(0, .ref b), (1, .ref (ad 0)), (2, .ref (ad2 0)), (3, .int x.2.2)] → W p l e room_1 s m args below meth c H locs 37 844 (lw_Z below args s) (F0 m 793 ls [])
def GL_law_816 (p : Program) (l : Launch) (e : Env) (s : State) (m : MethodId) (args : Array Value) (below : List Frame) (meth : Method) (c : Code) (D : va_G) (cA : ClassId) (A : Nat → Prop) (ad ad2 : Nat → Nat) (b : Nat) (L : Nat) (xs : Nat → Int32) (z : Unit) (x : (Nat → VS) × (VS) × (Int32)) : Prop := ∀ (H : Heap) (locs : List Loc) (ls : Array Slot), Wd D A s.heap (wR cA ad x.1 ++ wM cA ad2 x.2.1) H locs → lv_has ls 4 [(0, .ref b), (1, .ref (ad 0)), (2, .ref (ad2 0)), (3, .int x.2.2)] → W p l e room_1 s m args below meth c H locs 37 844 (lw_Z below args s) (F0 m 816 ls [])
def GL_law_839 (p : Program) (l : Launch) (e : Env) (s : State) (m : MethodId) (args : Array Value) (below : List Frame) (meth : Method) (c : Code) (D : va_G) (cA : ClassId) (A : Nat → Prop) (ad ad2 : Nat → Nat) (b : Nat) (L : Nat) (xs : Nat → Int32) (z : Unit) (x : (Nat → VS) × (VS) × (Int32)) : Prop := ∀ (H : Heap) (locs : List Loc) (ls : Array Slot), Wd D A s.heap (wR cA ad x.1 ++ wM cA ad2 x.2.1) H locs → lv_has ls 4 [(0, .ref b), (1, .ref (ad 0)), (2, .ref (ad2 0)), (3, .int x.2.2)] → W p l e room_1 s m args below meth c H locs 37 844 (lw_Z below args s) (F0 m 839 ls [])
def GL_law_862 (p : Program) (l : Launch) (e : Env) (s : State) (m : MethodId) (args : Array Value) (below : List Frame) (meth : Method) (c : Code) (D : va_G) (cA : ClassId) (A : Nat → Prop) (ad ad2 : Nat → Nat) (b : Nat) (L : Nat) (xs : Nat → Int32) (z : Unit) (x : (Nat → VS) × (VS) × (Int32)) : Prop := ∀ (H : Heap) (locs : List Loc) (ls : Array Slot), Wd D A s.heap (wR cA ad x.1 ++ wM cA ad2 x.2.1) H locs → lv_has ls 4 [(0, .ref b), (1, .ref (ad 0)), (2, .ref (ad2 0)), (3, .int x.2.2)] → W p l e room_1 s m args below meth c H locs 37 844 (lw_Z below args s) (F0 m 862 ls [])
def GL_law_875 (p : Program) (l : Launch) (e : Env) (s : State) (m : MethodId) (args : Array Value) (below : List Frame) (meth : Method) (c : Code) (D : va_G) (cA : ClassId) (A : Nat → Prop) (ad ad2 : Nat → Nat) (b : Nat) (L : Nat) (xs : Nat → Int32) (z : Unit) (x : (Nat → VS) × (VS) × (Int32)) : Prop := ∀ (H : Heap) (locs : List Loc) (ls : Array Slot), Wd D A s.heap (wR cA ad x.1 ++ wM cA ad2 x.2.1) H locs → lv_has ls 4 [(0, .ref b), (1, .ref (ad 0)), (2, .ref (ad2 0)), (3, .int x.2.2)] → W p l e room_1 s m args below meth c H locs 37 844 (lw_Z below args s) (F0 m 875 ls [])
def GL_law_888 (p : Program) (l : Launch) (e : Env) (s : State) (m : MethodId) (args : Array Value) (below : List Frame) (meth : Method) (c : Code) (D : va_G) (cA : ClassId) (A : Nat → Prop) (ad ad2 : Nat → Nat) (b : Nat) (L : Nat) (xs : Nat → Int32) (z : Unit) (x : (Nat → VS) × (VS) × (Int32)) : Prop := ∀ (H : Heap) (locs : List Loc) (ls : Array Slot), Wd D A s.heap (wR cA ad x.1 ++ wM cA ad2 x.2.1) H locs → lv_has ls 4 [(0, .ref b), (1, .ref (ad 0)), (2, .ref (ad2 0)), (3, .int x.2.2)] → W p l e room_1 s m args below meth c H locs 37 844 (lw_Z below args s) (F0 m 888 ls [])
def GL_law_901 (p : Program) (l : Launch) (e : Env) (s : State) (m : MethodId) (args : Array Value) (below : List Frame) (meth : Method) (c : Code) (D : va_G) (cA : ClassId) (A : Nat → Prop) (ad ad2 : Nat → Nat) (b : Nat) (L : Nat) (xs : Nat → Int32) (z : Unit) (x : (Nat → VS) × (VS) × (Int32)) : Prop := ∀ (H : Heap) (locs : List Loc) (ls : Array Slot), Wd D A s.heap (wR cA ad x.1 ++ wM cA ad2 x.2.1) H locs → lv_has ls 4 [(0, .ref b), (1, .ref (ad 0)), (2, .ref (ad2 0)), (3, .int x.2.2)] → W p l e room_1 s m args below meth c H locs 37 844 (lw_Z below args s) (F0 m 901 ls [])
def GL_law_944 (p : Program) (l : Launch) (e : Env) (s : State) (m : MethodId) (args : Array Value) (below : List Frame) (meth : Method) (c : Code) (D : va_G) (cA : ClassId) (A : Nat → Prop) (ad ad2 : Nat → Nat) (b : Nat) (L : Nat) (xs : Nat → Int32) (z : Unit) (x : (Nat → VS) × (VS) × (Int32)) : Prop := ∀ (H : Heap) (locs : List Loc) (ls : Array Slot), Wd D A s.heap (wR cA ad x.1 ++ wM cA ad2 x.2.1) H locs → lv_has ls 4 [(0, .ref b), (1, .ref (ad 0)), (2, .ref (ad2 0)), (3, .int x.2.2)] → W p l e room_1 s m args below meth c H locs 37 844 (lw_Z below args s) (F0 m 944 ls [])
def GL_law_998 (p : Program) (l : Launch) (e : Env) (s : State) (m : MethodId) (args : Array Value) (below : List Frame) (meth : Method) (c : Code) (D : va_G) (cA : ClassId) (A : Nat → Prop) (ad ad2 : Nat → Nat) (b : Nat) (L : Nat) (xs : Nat → Int32) (z : Unit) (x : (Nat → VS) × (VS) × (Int32)) : Prop := ∀ (H : Heap) (locs : List Loc) (ls : Array Slot), Wd D A s.heap (wR cA ad x.1 ++ wM cA ad2 x.2.1) H locs → lv_has ls 4 [(0, .ref b), (1, .ref (ad 0)), (2, .ref (ad2 0)), (3, .int x.2.2)] → W p l e room_1 s m args below meth c H locs 37 844 (lw_Z below args s) (F0 m 998 ls [])
def GL_law_1022 (p : Program) (l : Launch) (e : Env) (s : State) (m : MethodId) (args : Array Value) (below : List Frame) (meth : Method) (c : Code) (D : va_G) (cA : ClassId) (A : Nat → Prop) (ad ad2 : Nat → Nat) (b : Nat) (L : Nat) (xs : Nat → Int32) (z : Unit) (x : (Nat → VS) × (VS) × (Int32)) : Prop := ∀ (H : Heap) (locs : List Loc) (ls : Array Slot), Wd D A s.heap (wR cA ad x.1 ++ wM cA ad2 x.2.1) H locs → lv_has ls 4 [(0, .ref b), (1, .ref (ad 0)), (2, .ref (ad2 0)), (3, .int x.2.2)] → W p l e room_1 s m args below meth c H locs 37 844 (lw_Z below args s) (F0 m 1022 ls [])
def GL_law_1055 (p : Program) (l : Launch) (e : Env) (s : State) (m : MethodId) (args : Array Value) (below : List Frame) (meth : Method) (c : Code) (D : va_G) (cA : ClassId) (A : Nat → Prop) (ad ad2 : Nat → Nat) (b : Nat) (L : Nat) (xs : Nat → Int32) (z : Unit) (x : (Nat → VS) × (VS) × (Int32)) : Prop := ∀ (H : Heap) (locs : List Loc) (ls : Array Slot), Wd D A s.heap (wR cA ad x.1 ++ wM cA ad2 x.2.1) H locs → lv_has ls 4 [(0, .ref b), (1, .ref (ad 0)), (2, .ref (ad2 0)), (3, .int x.2.2)] → W p l e room_1 s m args below meth c H locs 37 844 (lw_Z below args s) (F0 m 1055 ls [])
def GL_law_1078 (p : Program) (l : Launch) (e : Env) (s : State) (m : MethodId) (args : Array Value) (below : List Frame) (meth : Method) (c : Code) (D : va_G) (cA : ClassId) (A : Nat → Prop) (ad ad2 : Nat → Nat) (b : Nat) (L : Nat) (xs : Nat → Int32) (z : Unit) (x : (Nat → VS) × (VS) × (Int32)) : Prop := ∀ (H : Heap) (locs : List Loc) (ls : Array Slot), Wd D A s.heap (wR cA ad x.1 ++ wM cA ad2 x.2.1) H locs → lv_has ls 4 [(0, .ref b), (1, .ref (ad 0)), (2, .ref (ad2 0)), (3, .int x.2.2)] → W p l e room_1 s m args below meth c H locs 37 844 (lw_Z below args s) (F0 m 1078 ls [])
def GL_law_1091 (p : Program) (l : Launch) (e : Env) (s : State) (m : MethodId) (args : Array Value) (below : List Frame) (meth : Method) (c : Code) (D : va_G) (cA : ClassId) (A : Nat → Prop) (ad ad2 : Nat → Nat) (b : Nat) (L : Nat) (xs : Nat → Int32) (z : Unit) (x : (Nat → VS) × (VS) × (Int32)) : Prop := ∀ (H : Heap) (locs : List Loc) (ls : Array Slot), Wd D A s.heap (wR cA ad x.1 ++ wM cA ad2 x.2.1) H locs → lv_has ls 4 [(0, .ref b), (1, .ref (ad 0)), (2, .ref (ad2 0)), (3, .int x.2.2)] → W p l e room_1 s m args below meth c H locs 37 844 (lw_Z below args s) (F0 m 1091 ls [])
def GL_law_1104 (p : Program) (l : Launch) (e : Env) (s : State) (m : MethodId) (args : Array Value) (below : List Frame) (meth : Method) (c : Code) (D : va_G) (cA : ClassId) (A : Nat → Prop) (ad ad2 : Nat → Nat) (b : Nat) (L : Nat) (xs : Nat → Int32) (z : Unit) (x : (Nat → VS) × (VS) × (Int32)) : Prop := ∀ (H : Heap) (locs : List Loc) (ls : Array Slot), Wd D A s.heap (wR cA ad x.1 ++ wM cA ad2 x.2.1) H locs → lv_has ls 4 [(0, .ref b), (1, .ref (ad 0)), (2, .ref (ad2 0)), (3, .int x.2.2)] → W p l e room_1 s m args below meth c H locs 37 844 (lw_Z below args s) (F0 m 1104 ls [])
def GL_law_1147 (p : Program) (l : Launch) (e : Env) (s : State) (m : MethodId) (args : Array Value) (below : List Frame) (meth : Method) (c : Code) (D : va_G) (cA : ClassId) (A : Nat → Prop) (ad ad2 : Nat → Nat) (b : Nat) (L : Nat) (xs : Nat → Int32) (z : Unit) (x : (Nat → VS) × (VS) × (Int32)) : Prop := ∀ (H : Heap) (locs : List Loc) (ls : Array Slot), Wd D A s.heap (wR cA ad x.1 ++ wM cA ad2 x.2.1) H locs → lv_has ls 4 [(0, .ref b), (1, .ref (ad 0)), (2, .ref (ad2 0)), (3, .int x.2.2)] → W p l e room_1 s m args below meth c H locs 37 844 (lw_Z below args s) (F0 m 1147 ls [])
def GL_law_1160 (p : Program) (l : Launch) (e : Env) (s : State) (m : MethodId) (args : Array Value) (below : List Frame) (meth : Method) (c : Code) (D : va_G) (cA : ClassId) (A : Nat → Prop) (ad ad2 : Nat → Nat) (b : Nat) (L : Nat) (xs : Nat → Int32) (z : Unit) (x : (Nat → VS) × (VS) × (Int32)) : Prop := ∀ (H : Heap) (locs : List Loc) (ls : Array Slot), Wd D A s.heap (wR cA ad x.1 ++ wM cA ad2 x.2.1) H locs → lv_has ls 4 [(0, .ref b), (1, .ref (ad 0)), (2, .ref (ad2 0)), (3, .int x.2.2)] → W p l e room_1 s m args below meth c H locs 37 844 (lw_Z below args s) (F0 m 1160 ls [])
def GL_law_1173 (p : Program) (l : Launch) (e : Env) (s : State) (m : MethodId) (args : Array Value) (below : List Frame) (meth : Method) (c : Code) (D : va_G) (cA : ClassId) (A : Nat → Prop) (ad ad2 : Nat → Nat) (b : Nat) (L : Nat) (xs : Nat → Int32) (z : Unit) (x : (Nat → VS) × (VS) × (Int32)) : Prop := ∀ (H : Heap) (locs : List Loc) (ls : Array Slot), Wd D A s.heap (wR cA ad x.1 ++ wM cA ad2 x.2.1) H locs → lv_has ls 4 [(0, .ref b), (1, .ref (ad 0)), (2, .ref (ad2 0)), (3, .int x.2.2)] → W p l e room_1 s m args below meth c H locs 37 844 (lw_Z below args s) (F0 m 1173 ls [])
def GL_law_18 (p : Program) (l : Launch) (e : Env) (s : State) (m : MethodId) (args : Array Value) (below : List Frame) (meth : Method) (c : Code) (D : va_G) (cA : ClassId) (A : Nat → Prop) (ad ad2 : Nat → Nat) (b : Nat) (L : Nat) (xs : Nat → Int32) (z : Unit) (x : (Nat → VS) × (VS) × (Int32)) : Prop := ∀ (H : Heap) (locs : List Loc) (ls : Array Slot), Wd D A s.heap (wR cA ad x.1 ++ wM cA ad2 x.2.1) H locs → lv_has ls 4 [(0, .ref b), (1, .ref (ad 0)), (2, .ref (ad2 0)), (3, .int x.2.2)] → W p l e room_1 s m args below meth c H locs 37 844 (lw_Z below args s) (F0 m 18 ls [])
def fL_law_1196 (L : Nat) (xs : Nat → Int32) (k18 : ((Nat → VS) × (VS) × (Int32)) → Option Unit) : ((Nat → VS) × (VS) × (Int32)) → Option Unit := fun x => match x with | (X, Y, x_3) => bn (x_3 + 5) (fun x1 => k18 (X, Y, x1))
def fL_law_200 (L : Nat) (xs : Nat → Int32) (k18 : ((Nat → VS) × (VS) × (Int32)) → Option Unit) : ((Nat → VS) × (VS) × (Int32)) → Option Unit := fun x => match x with | (X, Y, x_3) => rd L xs (x_3 + (1 : Int32)) (fun r1 => cl (fX1_letter X r1) (fun q2 => rd L xs (x_3 + (1 : Int32)) (fun r3 => cl (fX2_letter Y r3) (fun q4 => if q2.1 = q4.1 then fL_law_1196 L xs k18 (q2.2, q4.2, x_3) else none))))
def fL_law_223 (L : Nat) (xs : Nat → Int32) (k18 : ((Nat → VS) × (VS) × (Int32)) → Option Unit) : ((Nat → VS) × (VS) × (Int32)) → Option Unit := fun x => match x with | (X, Y, x_3) => cl (fX1_valley X) (fun q1 => cl (fX2_valley Y) (fun q2 => if q1.1 = q2.1 then fL_law_1196 L xs k18 (q1.2, q2.2, x_3) else none))
def fL_law_236 (L : Nat) (xs : Nat → Int32) (k18 : ((Nat → VS) × (VS) × (Int32)) → Option Unit) : ((Nat → VS) × (VS) × (Int32)) → Option Unit := fun x => match x with | (X, Y, x_3) => rd L xs (x_3 + (1 : Int32)) (fun r1 => rd L xs (x_3 + (2 : Int32)) (fun r2 => cl (fX1_rocket X r1 r2) (fun q3 => rd L xs (x_3 + (1 : Int32)) (fun r4 => rd L xs (x_3 + (2 : Int32)) (fun r5 => cl (fX2_rocket Y r4 r5) (fun q6 => if q3.1 = q6.1 then fL_law_1196 L xs k18 (q3.2, q6.2, x_3) else none))))))
def fL_law_269 (L : Nat) (xs : Nat → Int32) (k18 : ((Nat → VS) × (VS) × (Int32)) → Option Unit) : ((Nat → VS) × (VS) × (Int32)) → Option Unit := fun x => match x with | (X, Y, x_3) => rd L xs (x_3 + (1 : Int32)) (fun r1 => rd L xs (x_3 + (2 : Int32)) (fun r2 => cl (fX1_reader X r1 r2) (fun q3 => rd L xs (x_3 + (1 : Int32)) (fun r4 => rd L xs (x_3 + (2 : Int32)) (fun r5 => cl (fX2_reader Y r4 r5) (fun q6 => if q3.1 = q6.1 then fL_law_1196 L xs k18 (q3.2, q6.2, x_3) else none))))))
def fL_law_302 (L : Nat) (xs : Nat → Int32) (k18 : ((Nat → VS) × (VS) × (Int32)) → Option Unit) : ((Nat → VS) × (VS) × (Int32)) → Option Unit := fun x => match x with | (X, Y, x_3) => rd L xs (x_3 + (1 : Int32)) (fun r1 => rd L xs (x_3 + (2 : Int32)) (fun r2 => cl (fX1_keeps X r1 r2) (fun q3 => rd L xs (x_3 + (1 : Int32)) (fun r4 => rd L xs (x_3 + (2 : Int32)) (fun r5 => cl (fX2_keeps Y r4 r5) (fun q6 => if q3.1 = q6.1 then fL_law_1196 L xs k18 (q3.2, q6.2, x_3) else none))))))
def fL_law_335 (L : Nat) (xs : Nat → Int32) (k18 : ((Nat → VS) × (VS) × (Int32)) → Option Unit) : ((Nat → VS) × (VS) × (Int32)) → Option Unit := fun x => match x with | (X, Y, x_3) => rd L xs (x_3 + (1 : Int32)) (fun r1 => cl (fX1_sends X r1) (fun q2 => rd L xs (x_3 + (1 : Int32)) (fun r3 => cl (fX2_sends Y r3) (fun q4 => if q2.1 = q4.1 then fL_law_1196 L xs k18 (q2.2, q4.2, x_3) else none))))
def fL_law_358 (L : Nat) (xs : Nat → Int32) (k18 : ((Nat → VS) × (VS) × (Int32)) → Option Unit) : ((Nat → VS) × (VS) × (Int32)) → Option Unit := fun x => match x with | (X, Y, x_3) => rd L xs (x_3 + (1 : Int32)) (fun r1 => cl (fX1_boxes X r1) (fun q2 => rd L xs (x_3 + (1 : Int32)) (fun r3 => cl (fX2_boxes Y r3) (fun q4 => if q2.1 = q4.1 then fL_law_1196 L xs k18 (q2.2, q4.2, x_3) else none))))
def fL_law_381 (L : Nat) (xs : Nat → Int32) (k18 : ((Nat → VS) × (VS) × (Int32)) → Option Unit) : ((Nat → VS) × (VS) × (Int32)) → Option Unit := fun x => match x with | (X, Y, x_3) => rd L xs (x_3 + (1 : Int32)) (fun r1 => cl (fX1_wind X r1) (fun q2 => rd L xs (x_3 + (1 : Int32)) (fun r3 => cl (fX2_wind Y r3) (fun q4 => if q2.1 = q4.1 then fL_law_1196 L xs k18 (q2.2, q4.2, x_3) else none))))
def fL_law_404 (L : Nat) (xs : Nat → Int32) (k18 : ((Nat → VS) × (VS) × (Int32)) → Option Unit) : ((Nat → VS) × (VS) × (Int32)) → Option Unit := fun x => match x with | (X, Y, x_3) => rd L xs (x_3 + (1 : Int32)) (fun r1 => cl (fX1_grant X r1) (fun q2 => rd L xs (x_3 + (1 : Int32)) (fun r3 => cl (fX2_grant Y r3) (fun q4 => if q2.1 = q4.1 then fL_law_1196 L xs k18 (q2.2, q4.2, x_3) else none))))
def fL_law_427 (L : Nat) (xs : Nat → Int32) (k18 : ((Nat → VS) × (VS) × (Int32)) → Option Unit) : ((Nat → VS) × (VS) × (Int32)) → Option Unit := fun x => match x with | (X, Y, x_3) => rd L xs (x_3 + (1 : Int32)) (fun r1 => rd L xs (x_3 + (2 : Int32)) (fun r2 => cl (fX1_stands X r1 r2) (fun q3 => rd L xs (x_3 + (1 : Int32)) (fun r4 => rd L xs (x_3 + (2 : Int32)) (fun r5 => cl (fX2_stands Y r4 r5) (fun q6 => if q3.1 = q6.1 then fL_law_1196 L xs k18 (q3.2, q6.2, x_3) else none))))))
def fL_law_460 (L : Nat) (xs : Nat → Int32) (k18 : ((Nat → VS) × (VS) × (Int32)) → Option Unit) : ((Nat → VS) × (VS) × (Int32)) → Option Unit := fun x => match x with | (X, Y, x_3) => rd L xs (x_3 + (1 : Int32)) (fun r1 => rd L xs (x_3 + (2 : Int32)) (fun r2 => rd L xs (x_3 + (3 : Int32)) (fun r3 => cl (fX1_turn X r1 r2 r3) (fun q4 => rd L xs (x_3 + (1 : Int32)) (fun r5 => rd L xs (x_3 + (2 : Int32)) (fun r6 => rd L xs (x_3 + (3 : Int32)) (fun r7 => cl (fX2_turn Y r5 r6 r7) (fun q8 => if q4.1 = q8.1 then fL_law_1196 L xs k18 (q4.2, q8.2, x_3) else none))))))))
def fL_law_503 (L : Nat) (xs : Nat → Int32) (k18 : ((Nat → VS) × (VS) × (Int32)) → Option Unit) : ((Nat → VS) × (VS) × (Int32)) → Option Unit := fun x => match x with | (X, Y, x_3) => rd L xs (x_3 + (1 : Int32)) (fun r1 => cl (fX1_nights X r1) (fun q2 => rd L xs (x_3 + (1 : Int32)) (fun r3 => cl (fX2_nights Y r3) (fun q4 => if q2.1 = q4.1 then fL_law_1196 L xs k18 (q2.2, q4.2, x_3) else none))))
def fL_law_526 (L : Nat) (xs : Nat → Int32) (k18 : ((Nat → VS) × (VS) × (Int32)) → Option Unit) : ((Nat → VS) × (VS) × (Int32)) → Option Unit := fun x => match x with | (X, Y, x_3) => rd L xs (x_3 + (1 : Int32)) (fun r1 => rd L xs (x_3 + (2 : Int32)) (fun r2 => cl (fX1_wordsThen X r1 r2) (fun q3 => rd L xs (x_3 + (1 : Int32)) (fun r4 => rd L xs (x_3 + (2 : Int32)) (fun r5 => cl (fX2_wordsThen Y r4 r5) (fun q6 => if q3.1 = q6.1 then fL_law_1196 L xs k18 (q3.2, q6.2, x_3) else none))))))
def fL_law_559 (L : Nat) (xs : Nat → Int32) (k18 : ((Nat → VS) × (VS) × (Int32)) → Option Unit) : ((Nat → VS) × (VS) × (Int32)) → Option Unit := fun x => match x with | (X, Y, x_3) => rd L xs (x_3 + (1 : Int32)) (fun r1 => rd L xs (x_3 + (2 : Int32)) (fun r2 => cl (fX1_then X r1 r2) (fun q3 => rd L xs (x_3 + (1 : Int32)) (fun r4 => rd L xs (x_3 + (2 : Int32)) (fun r5 => cl (fX2_then Y r4 r5) (fun q6 => if q3.1 = q6.1 then fL_law_1196 L xs k18 (q3.2, q6.2, x_3) else none))))))
def fL_law_592 (L : Nat) (xs : Nat → Int32) (k18 : ((Nat → VS) × (VS) × (Int32)) → Option Unit) : ((Nat → VS) × (VS) × (Int32)) → Option Unit := fun x => match x with | (X, Y, x_3) => rd L xs (x_3 + (1 : Int32)) (fun r1 => cl (fX1_whole X r1) (fun q2 => rd L xs (x_3 + (1 : Int32)) (fun r3 => cl (fX2_whole Y r3) (fun q4 => if q2.1 = q4.1 then fL_law_1196 L xs k18 (q2.2, q4.2, x_3) else none))))
def fL_law_615 (L : Nat) (xs : Nat → Int32) (k18 : ((Nat → VS) × (VS) × (Int32)) → Option Unit) : ((Nat → VS) × (VS) × (Int32)) → Option Unit := fun x => match x with | (X, Y, x_3) => rd L xs (x_3 + (1 : Int32)) (fun r1 => cl (fX1_next X r1) (fun q2 => rd L xs (x_3 + (1 : Int32)) (fun r3 => cl (fX2_next Y r3) (fun q4 => if q2.1 = q4.1 then fL_law_1196 L xs k18 (q2.2, q4.2, x_3) else none))))
def fL_law_638 (L : Nat) (xs : Nat → Int32) (k18 : ((Nat → VS) × (VS) × (Int32)) → Option Unit) : ((Nat → VS) × (VS) × (Int32)) → Option Unit := fun x => match x with | (X, Y, x_3) => rd L xs (x_3 + (1 : Int32)) (fun r1 => rd L xs (x_3 + (2 : Int32)) (fun r2 => cl (fX1_fewest X r1 r2) (fun q3 => rd L xs (x_3 + (1 : Int32)) (fun r4 => rd L xs (x_3 + (2 : Int32)) (fun r5 => cl (fX2_fewest Y r4 r5) (fun q6 => if q3.1 = q6.1 then fL_law_1196 L xs k18 (q3.2, q6.2, x_3) else none))))))
def fL_law_671 (L : Nat) (xs : Nat → Int32) (k18 : ((Nat → VS) × (VS) × (Int32)) → Option Unit) : ((Nat → VS) × (VS) × (Int32)) → Option Unit := fun x => match x with | (X, Y, x_3) => rd L xs (x_3 + (1 : Int32)) (fun r1 => rd L xs (x_3 + (2 : Int32)) (fun r2 => cl (fX1_windBest X r1 r2) (fun q3 => rd L xs (x_3 + (1 : Int32)) (fun r4 => rd L xs (x_3 + (2 : Int32)) (fun r5 => cl (fX2_windBest Y r4 r5) (fun q6 => if q3.1 = q6.1 then fL_law_1196 L xs k18 (q3.2, q6.2, x_3) else none))))))
def fL_law_704 (L : Nat) (xs : Nat → Int32) (k18 : ((Nat → VS) × (VS) × (Int32)) → Option Unit) : ((Nat → VS) × (VS) × (Int32)) → Option Unit := fun x => match x with | (X, Y, x_3) => rd L xs (x_3 + (1 : Int32)) (fun r1 => rd L xs (x_3 + (2 : Int32)) (fun r2 => rd L xs (x_3 + (3 : Int32)) (fun r3 => cl (fX1_move X r1 r2 r3) (fun q4 => rd L xs (x_3 + (1 : Int32)) (fun r5 => rd L xs (x_3 + (2 : Int32)) (fun r6 => rd L xs (x_3 + (3 : Int32)) (fun r7 => cl (fX2_move Y r5 r6 r7) (fun q8 => if q4.1 = q8.1 then fL_law_1196 L xs k18 (q4.2, q8.2, x_3) else none))))))))
def fL_law_747 (L : Nat) (xs : Nat → Int32) (k18 : ((Nat → VS) × (VS) × (Int32)) → Option Unit) : ((Nat → VS) × (VS) × (Int32)) → Option Unit := fun x => match x with | (X, Y, x_3) => rd L xs (x_3 + (1 : Int32)) (fun r1 => cl (fX1_forgo X r1) (fun q2 => rd L xs (x_3 + (1 : Int32)) (fun r3 => cl (fX2_forgo Y r3) (fun q4 => if q2.1 = q4.1 then fL_law_1196 L xs k18 (q2.2, q4.2, x_3) else none))))
def fL_law_770 (L : Nat) (xs : Nat → Int32) (k18 : ((Nat → VS) × (VS) × (Int32)) → Option Unit) : ((Nat → VS) × (VS) × (Int32)) → Option Unit := fun x => match x with | (X, Y, x_3) => rd L xs (x_3 + (1 : Int32)) (fun r1 => cl (fX1_firstUp X r1) (fun q2 => rd L xs (x_3 + (1 : Int32)) (fun r3 => cl (fX2_firstUp Y r3) (fun q4 => if q2.1 = q4.1 then fL_law_1196 L xs k18 (q2.2, q4.2, x_3) else none))))
def fL_law_793 (L : Nat) (xs : Nat → Int32) (k18 : ((Nat → VS) × (VS) × (Int32)) → Option Unit) : ((Nat → VS) × (VS) × (Int32)) → Option Unit := fun x => match x with | (X, Y, x_3) => rd L xs (x_3 + (1 : Int32)) (fun r1 => cl (fX1_longest X r1) (fun q2 => rd L xs (x_3 + (1 : Int32)) (fun r3 => cl (fX2_longest Y r3) (fun q4 => if q2.1 = q4.1 then fL_law_1196 L xs k18 (q2.2, q4.2, x_3) else none))))
def fL_law_816 (L : Nat) (xs : Nat → Int32) (k18 : ((Nat → VS) × (VS) × (Int32)) → Option Unit) : ((Nat → VS) × (VS) × (Int32)) → Option Unit := fun x => match x with | (X, Y, x_3) => rd L xs (x_3 + (1 : Int32)) (fun r1 => cl (fX1_seen X r1) (fun q2 => rd L xs (x_3 + (1 : Int32)) (fun r3 => cl (fX2_seen Y r3) (fun q4 => if q2.1 = q4.1 then fL_law_1196 L xs k18 (q2.2, q4.2, x_3) else none))))
def fL_law_839 (L : Nat) (xs : Nat → Int32) (k18 : ((Nat → VS) × (VS) × (Int32)) → Option Unit) : ((Nat → VS) × (VS) × (Int32)) → Option Unit := fun x => match x with | (X, Y, x_3) => rd L xs (x_3 + (1 : Int32)) (fun r1 => cl (fX1_words X r1) (fun q2 => rd L xs (x_3 + (1 : Int32)) (fun r3 => cl (fX2_words Y r3) (fun q4 => if q2.1 = q4.1 then fL_law_1196 L xs k18 (q2.2, q4.2, x_3) else none))))
def fL_law_862 (L : Nat) (xs : Nat → Int32) (k18 : ((Nat → VS) × (VS) × (Int32)) → Option Unit) : ((Nat → VS) × (VS) × (Int32)) → Option Unit := fun x => match x with | (X, Y, x_3) => cl (fX1_near X) (fun r1 => cl (fX2_near Y) (fun r2 => if r1 = r2 then fL_law_1196 L xs k18 (X, Y, x_3) else none))
def fL_law_875 (L : Nat) (xs : Nat → Int32) (k18 : ((Nat → VS) × (VS) × (Int32)) → Option Unit) : ((Nat → VS) × (VS) × (Int32)) → Option Unit := fun x => match x with | (X, Y, x_3) => cl (fX1_alone X) (fun r1 => cl (fX2_alone Y) (fun r2 => if r1 = r2 then fL_law_1196 L xs k18 (X, Y, x_3) else none))
def fL_law_888 (L : Nat) (xs : Nat → Int32) (k18 : ((Nat → VS) × (VS) × (Int32)) → Option Unit) : ((Nat → VS) × (VS) × (Int32)) → Option Unit := fun x => match x with | (X, Y, x_3) => cl (fX1_tell X) (fun r1 => cl (fX2_tell Y) (fun q2 => if r1 = q2.1 then fL_law_1196 L xs k18 (X, q2.2, x_3) else none))
def fL_law_901 (L : Nat) (xs : Nat → Int32) (k18 : ((Nat → VS) × (VS) × (Int32)) → Option Unit) : ((Nat → VS) × (VS) × (Int32)) → Option Unit := fun x => match x with | (X, Y, x_3) => rd L xs (x_3 + (1 : Int32)) (fun r1 => rd L xs (x_3 + (2 : Int32)) (fun r2 => rd L xs (x_3 + (3 : Int32)) (fun r3 => cl (fX1_two X r1 r2 r3) (fun q4 => rd L xs (x_3 + (1 : Int32)) (fun r5 => rd L xs (x_3 + (2 : Int32)) (fun r6 => rd L xs (x_3 + (3 : Int32)) (fun r7 => cl (fX2_two Y r5 r6 r7) (fun q8 => if q4.1 = q8.1 then fL_law_1196 L xs k18 (q4.2, q8.2, x_3) else none))))))))
def fL_law_944 (L : Nat) (xs : Nat → Int32) (k18 : ((Nat → VS) × (VS) × (Int32)) → Option Unit) : ((Nat → VS) × (VS) × (Int32)) → Option Unit := fun x => match x with | (X, Y, x_3) => rd L xs (x_3 + (1 : Int32)) (fun r1 => rd L xs (x_3 + (2 : Int32)) (fun r2 => rd L xs (x_3 + (3 : Int32)) (fun r3 => rd L xs (x_3 + (4 : Int32)) (fun r4 => cl (fX1_rain X r1 r2 r3 r4) (fun q5 => rd L xs (x_3 + (1 : Int32)) (fun r6 => rd L xs (x_3 + (2 : Int32)) (fun r7 => rd L xs (x_3 + (3 : Int32)) (fun r8 => rd L xs (x_3 + (4 : Int32)) (fun r9 => cl (fX2_rain Y r6 r7 r8 r9) (fun q10 => if (lg_cmp q5.1 q10.1) = 0 then fL_law_1196 L xs k18 (q5.2, q10.2, x_3) else none))))))))))
def fL_law_998 (L : Nat) (xs : Nat → Int32) (k18 : ((Nat → VS) × (VS) × (Int32)) → Option Unit) : ((Nat → VS) × (VS) × (Int32)) → Option Unit := fun x => match x with | (X, Y, x_3) => rd L xs (x_3 + (1 : Int32)) (fun r1 => cl (fX1_mean X r1) (fun q2 => rd L xs (x_3 + (1 : Int32)) (fun r3 => cl (fX2_mean Y r3) (fun q4 => if (lg_cmp q2.1 q4.1) = 0 then fL_law_1196 L xs k18 (q2.2, q4.2, x_3) else none))))
def fL_law_1022 (L : Nat) (xs : Nat → Int32) (k18 : ((Nat → VS) × (VS) × (Int32)) → Option Unit) : ((Nat → VS) × (VS) × (Int32)) → Option Unit := fun x => match x with | (X, Y, x_3) => rd L xs (x_3 + (1 : Int32)) (fun r1 => rd L xs (x_3 + (2 : Int32)) (fun r2 => cl (fX1_whatSaid X r1 r2) (fun q3 => rd L xs (x_3 + (1 : Int32)) (fun r4 => rd L xs (x_3 + (2 : Int32)) (fun r5 => cl (fX2_whatSaid Y r4 r5) (fun q6 => if q3.1 = q6.1 then fL_law_1196 L xs k18 (q3.2, q6.2, x_3) else none))))))
def fL_law_1055 (L : Nat) (xs : Nat → Int32) (k18 : ((Nat → VS) × (VS) × (Int32)) → Option Unit) : ((Nat → VS) × (VS) × (Int32)) → Option Unit := fun x => match x with | (X, Y, x_3) => rd L xs (x_3 + (1 : Int32)) (fun r1 => cl (fX1_row X r1) (fun q2 => rd L xs (x_3 + (1 : Int32)) (fun r3 => cl (fX2_row Y r3) (fun q4 => if q2.1 = q4.1 then fL_law_1196 L xs k18 (q2.2, q4.2, x_3) else none))))
def fL_law_1078 (L : Nat) (xs : Nat → Int32) (k18 : ((Nat → VS) × (VS) × (Int32)) → Option Unit) : ((Nat → VS) × (VS) × (Int32)) → Option Unit := fun x => match x with | (X, Y, x_3) => cl (fX1_judge X) (fun q1 => cl (fX2_judge Y) (fun q2 => if q1.1 = q2.1 then fL_law_1196 L xs k18 (q1.2, q2.2, x_3) else none))
def fL_law_1091 (L : Nat) (xs : Nat → Int32) (k18 : ((Nat → VS) × (VS) × (Int32)) → Option Unit) : ((Nat → VS) × (VS) × (Int32)) → Option Unit := fun x => match x with | (X, Y, x_3) => cl (fX1_clear X) (fun q1 => cl (fX2_clear Y) (fun q2 => if q1.1 = q2.1 then fL_law_1196 L xs k18 (q1.2, q2.2, x_3) else none))
def fL_law_1104 (L : Nat) (xs : Nat → Int32) (k18 : ((Nat → VS) × (VS) × (Int32)) → Option Unit) : ((Nat → VS) × (VS) × (Int32)) → Option Unit := fun x => match x with | (X, Y, x_3) => rd L xs (x_3 + (1 : Int32)) (fun r1 => rd L xs (x_3 + (2 : Int32)) (fun r2 => rd L xs (x_3 + (3 : Int32)) (fun r3 => cl (fX1_lots X r1 r2 r3) (fun q4 => rd L xs (x_3 + (1 : Int32)) (fun r5 => rd L xs (x_3 + (2 : Int32)) (fun r6 => rd L xs (x_3 + (3 : Int32)) (fun r7 => cl (fX2_lots Y r5 r6 r7) (fun q8 => if q4.1 = q8.1 then fL_law_1196 L xs k18 (q4.2, q8.2, x_3) else none))))))))
def fL_law_1147 (L : Nat) (xs : Nat → Int32) (k18 : ((Nat → VS) × (VS) × (Int32)) → Option Unit) : ((Nat → VS) × (VS) × (Int32)) → Option Unit := fun x => match x with | (X, Y, x_3) => cl (fX1_image X) (fun q1 => cl (fX2_image Y) (fun q2 => if q1.1 = q2.1 then fL_law_1196 L xs k18 (q1.2, q2.2, x_3) else none))
def fL_law_1160 (L : Nat) (xs : Nat → Int32) (k18 : ((Nat → VS) × (VS) × (Int32)) → Option Unit) : ((Nat → VS) × (VS) × (Int32)) → Option Unit := fun x => match x with | (X, Y, x_3) => cl (fX1_on X) (fun q1 => cl (fX2_on Y) (fun q2 => if q1.1 = q2.1 then fL_law_1196 L xs k18 (q1.2, q2.2, x_3) else none))
def fL_law_1173 (L : Nat) (xs : Nat → Int32) (k18 : ((Nat → VS) × (VS) × (Int32)) → Option Unit) : ((Nat → VS) × (VS) × (Int32)) → Option Unit := fun x => match x with | (X, Y, x_3) => rd L xs (x_3 + (1 : Int32)) (fun r1 => cl (fX1_count X r1) (fun r2 => rd L xs (x_3 + (1 : Int32)) (fun r3 => cl (fX2_count Y r3) (fun r4 => if r2 = r4 then fL_law_1196 L xs k18 (X, Y, x_3) else none))))
def fL_law_18 (L : Nat) (xs : Nat → Int32) (k18 : ((Nat → VS) × (VS) × (Int32)) → Option Unit) : ((Nat → VS) × (VS) × (Int32)) → Option Unit := fun x => match x with | (X, Y, x_3) => if ((Int32.ofNat L) - (5 : Int32)) < x_3 then some () else rd L xs x_3 (fun r2 => bn (r2 &&& (63 : Int32)) (fun x3 => if x3 = 0 then fL_law_200 L xs k18 (X, Y, x_3) else if x3 = 1 then fL_law_223 L xs k18 (X, Y, x_3) else if x3 = 2 then fL_law_236 L xs k18 (X, Y, x_3) else if x3 = 3 then fL_law_269 L xs k18 (X, Y, x_3) else if x3 = 4 then fL_law_302 L xs k18 (X, Y, x_3) else if x3 = 5 then fL_law_335 L xs k18 (X, Y, x_3) else if x3 = 6 then fL_law_358 L xs k18 (X, Y, x_3) else if x3 = 7 then fL_law_381 L xs k18 (X, Y, x_3) else if x3 = 8 then fL_law_404 L xs k18 (X, Y, x_3) else if x3 = 9 then fL_law_427 L xs k18 (X, Y, x_3) else if x3 = 10 then fL_law_460 L xs k18 (X, Y, x_3) else if x3 = 11 then fL_law_503 L xs k18 (X, Y, x_3) else if x3 = 12 then fL_law_526 L xs k18 (X, Y, x_3) else if x3 = 13 then fL_law_559 L xs k18 (X, Y, x_3) else if x3 = 14 then fL_law_592 L xs k18 (X, Y, x_3) else if x3 = 15 then fL_law_615 L xs k18 (X, Y, x_3) else if x3 = 16 then fL_law_638 L xs k18 (X, Y, x_3) else if x3 = 17 then fL_law_671 L xs k18 (X, Y, x_3) else if x3 = 18 then fL_law_704 L xs k18 (X, Y, x_3) else if x3 = 19 then fL_law_747 L xs k18 (X, Y, x_3) else if x3 = 20 then fL_law_770 L xs k18 (X, Y, x_3) else if x3 = 21 then fL_law_793 L xs k18 (X, Y, x_3) else if x3 = 22 then fL_law_816 L xs k18 (X, Y, x_3) else if x3 = 23 then fL_law_839 L xs k18 (X, Y, x_3) else if x3 = 24 then fL_law_862 L xs k18 (X, Y, x_3) else if x3 = 25 then fL_law_875 L xs k18 (X, Y, x_3) else if x3 = 26 then fL_law_888 L xs k18 (X, Y, x_3) else if x3 = 27 then fL_law_901 L xs k18 (X, Y, x_3) else if x3 = 28 then fL_law_944 L xs k18 (X, Y, x_3) else if x3 = 29 then fL_law_998 L xs k18 (X, Y, x_3) else if x3 = 30 then fL_law_1022 L xs k18 (X, Y, x_3) else if x3 = 31 then fL_law_1055 L xs k18 (X, Y, x_3) else if x3 = 32 then fL_law_1078 L xs k18 (X, Y, x_3) else if x3 = 33 then fL_law_1091 L xs k18 (X, Y, x_3) else if x3 = 34 then fL_law_1104 L xs k18 (X, Y, x_3) else if x3 = 35 then fL_law_1147 L xs k18 (X, Y, x_3) else if x3 = 36 then fL_law_1160 L xs k18 (X, Y, x_3) else if x3 = 37 then fL_law_1173 L xs k18 (X, Y, x_3) else fL_law_1196 L xs k18 (X, Y, x_3)))
set_option maxHeartbeats 4000000 in
set_option maxRecDepth 100000 in
theorem kL_law_1196 {L : Nat} {xs : Nat → Int32} (C : Cx p s m args meth c cL_law 4 RL D cA g A) (hr : va_X b L xs s s.heap ∧ b < s.heap.size ∧ ¬ A b ∧ (∀ q, A q → s.heap.size ≤ q) ∧ meth.sig.returnType = ret ∧ meth.locks = false ∧ args = #[Value.ref b]) {z : Unit} (k18 : ((Nat → VS) × (VS) × (Int32)) → Option Unit) (hk18 : ∀ x, k18 x = some z → GL_law_18 p l e s m args below meth c D cA A ad ad2 b L xs z x) (x : (Nat → VS) × (VS) × (Int32)) (h : fL_law_1196 L xs k18 x = some z) : GL_law_1196 p l e s m args below meth c D cA A ad ad2 b L xs z x := by
  obtain ⟨X, Y, x_3⟩ := x
  intro H locs ls hw hl
  have hw : Wd D A s.heap (wR cA ad X ++ wM cA ad2 Y) H locs := hw
  have hl : lv_has ls 4 [(0, .ref b), (1, .ref (ad 0)), (2, .ref (ad2 0)), (3, .int x_3)] := hl
  have hx := C.1.1
  have hb := C.1.2.1
  have h : (bn (x_3 + 5) (fun x1 => k18 (X, Y, x1))) = some z := h
  obtain ⟨x1, ex1⟩ : ∃ y : Int32, y = x_3 + 5 := ⟨_, rfl⟩
  replace h := bn_some h ex1
  refine lv_iinc (v := x1) (lv' := [(3, .int x1), (0, .ref b), (1, .ref (ad 0)), (2, .ref (ad2 0))]) hx hb dL_law_1196 hl (k := 3) rfl (by rw [ex1]; rfl) (by decide) rfl (fun ls hl => ?_)
  refine lv_goto (tgt := 18) hx hb dL_law_1199 (by decide) ?_
  exact hk18 (X, Y, x1) h _ _ _ hw (lv_sub hl [1, 2, 3, 0] rfl)
set_option maxHeartbeats 4000000 in
set_option maxRecDepth 100000 in
theorem kL_law_200 {L : Nat} {xs : Nat → Int32} (C : Cx p s m args meth c cL_law 4 RL D cA g A) (hr : va_X b L xs s s.heap ∧ b < s.heap.size ∧ ¬ A b ∧ (∀ q, A q → s.heap.size ≤ q) ∧ meth.sig.returnType = ret ∧ meth.locks = false ∧ args = #[Value.ref b]) {z : Unit} (k18 : ((Nat → VS) × (VS) × (Int32)) → Option Unit) (hk18 : ∀ x, k18 x = some z → GL_law_18 p l e s m args below meth c D cA A ad ad2 b L xs z x) (x : (Nat → VS) × (VS) × (Int32)) (h : fL_law_200 L xs k18 x = some z) : GL_law_200 p l e s m args below meth c D cA A ad ad2 b L xs z x := by
  obtain ⟨X, Y, x_3⟩ := x
  intro H locs ls hw hl
  have hw : Wd D A s.heap (wR cA ad X ++ wM cA ad2 Y) H locs := hw
  have hl : lv_has ls 4 [(0, .ref b), (1, .ref (ad 0)), (2, .ref (ad2 0)), (3, .int x_3)] := hl
  have hx := C.1.1
  have hb := C.1.2.1
  have h : (rd L xs (x_3 + (1 : Int32)) (fun r1 => cl (fX1_letter X r1) (fun q2 => rd L xs (x_3 + (1 : Int32)) (fun r3 => cl (fX2_letter Y r3) (fun q4 => if q2.1 = q4.1 then fL_law_1196 L xs k18 (q2.2, q4.2, x_3) else none))))) = some z := h
  refine lv_aload_n hx hb dL_law_200 rfl (lv_at hl 1 rfl) ?_
  refine lv_aload_n hx hb dL_law_201 rfl (lv_at hl 0 rfl) ?_
  refine lv_iload_n hx hb dL_law_202 rfl (lv_at hl 3 rfl) ?_
  refine lv_iconst (v := 1) hx hb dL_law_203 (by decide) ?_
  refine lv_iadd hx hb dL_law_204 ?_
  obtain ⟨r1, ir1, er1, h⟩ := rd_some h
  refine va_sld hx hb hr.1 hr.2.1 hr.2.2.1 hw.2.2 ir1 dL_law_205 ?_
  rw [← er1]
  obtain ⟨q2, hq2, h⟩ := cl_some h
  refine cVi (ws2 := (wR cA ad q2.2 ++ wM cA ad2 Y)) (As := [.int r1]) (rest := []) C hw jLX (kX1_letter ad hq2) kl_RL_13 ki_yX1_letter ks_yX1_letter kn_RX1 kc_yX1_letter ⟨rfl, rfl⟩ hdX1_letter ⟨Nat.le_of_ble_eq_true rfl, Nat.le_of_ble_eq_true rfl⟩ (ci := 1) (q0 := 0) rfl rfl rfl rfl hl.1 (Nat.le_of_ble_eq_true rfl) dL_law_206 ⟨Nat.le_of_ble_eq_true rfl, Nat.le_of_ble_eq_true rfl⟩ (fun H locs hw => ?_)
  refine lv_aload_n hx hb dL_law_209 rfl (lv_at hl 2 rfl) ?_
  refine lv_aload_n hx hb dL_law_210 rfl (lv_at hl 0 rfl) ?_
  refine lv_iload_n hx hb dL_law_211 rfl (lv_at hl 3 rfl) ?_
  refine lv_iconst (v := 1) hx hb dL_law_212 (by decide) ?_
  refine lv_iadd hx hb dL_law_213 ?_
  obtain ⟨r3, ir3, er3, h⟩ := rd_some h
  refine va_sld hx hb hr.1 hr.2.1 hr.2.2.1 hw.2.2 ir3 dL_law_214 ?_
  rw [← er3]
  obtain ⟨q4, hq4, h⟩ := cl_some h
  refine cVi (ws2 := (wR cA ad q2.2 ++ wM cA ad2 q4.2)) (As := [.int r3]) (rest := [.int q2.1]) C hw jLY (kX2_letter ad2 hq4) kl_RL_17 ki_yX2_letter ks_yX2_letter kn_RX2 kc_yX2_letter ⟨rfl, rfl⟩ hdX2_letter ⟨Nat.le_of_ble_eq_true rfl, Nat.le_of_ble_eq_true rfl⟩ (ci := 2) (q0 := 0) rfl rfl rfl rfl hl.1 (Nat.le_of_ble_eq_true rfl) dL_law_215 ⟨Nat.le_of_ble_eq_true rfl, Nat.le_of_ble_eq_true rfl⟩ (fun H locs hw => ?_)
  refine lv_icmp_eq (tgt := 1196) hx hb dL_law_218 (by decide) (fun c5 => ?_) (fun c5 => ?_)
  · replace h := (if_pos c5).symm.trans h
    exact kL_law_1196 C hr k18 hk18 (q2.2, q4.2, x_3) h _ _ _ hw (lv_sub hl [0, 1, 2, 3] rfl)
  · replace h := (if_neg c5).symm.trans h
    cases h
set_option maxHeartbeats 4000000 in
set_option maxRecDepth 100000 in
theorem kL_law_223 {L : Nat} {xs : Nat → Int32} (C : Cx p s m args meth c cL_law 4 RL D cA g A) (hr : va_X b L xs s s.heap ∧ b < s.heap.size ∧ ¬ A b ∧ (∀ q, A q → s.heap.size ≤ q) ∧ meth.sig.returnType = ret ∧ meth.locks = false ∧ args = #[Value.ref b]) {z : Unit} (k18 : ((Nat → VS) × (VS) × (Int32)) → Option Unit) (hk18 : ∀ x, k18 x = some z → GL_law_18 p l e s m args below meth c D cA A ad ad2 b L xs z x) (x : (Nat → VS) × (VS) × (Int32)) (h : fL_law_223 L xs k18 x = some z) : GL_law_223 p l e s m args below meth c D cA A ad ad2 b L xs z x := by
  obtain ⟨X, Y, x_3⟩ := x
  intro H locs ls hw hl
  have hw : Wd D A s.heap (wR cA ad X ++ wM cA ad2 Y) H locs := hw
  have hl : lv_has ls 4 [(0, .ref b), (1, .ref (ad 0)), (2, .ref (ad2 0)), (3, .int x_3)] := hl
  have hx := C.1.1
  have hb := C.1.2.1
  have h : (cl (fX1_valley X) (fun q1 => cl (fX2_valley Y) (fun q2 => if q1.1 = q2.1 then fL_law_1196 L xs k18 (q1.2, q2.2, x_3) else none))) = some z := h
  refine lv_aload_n hx hb dL_law_223 rfl (lv_at hl 1 rfl) ?_
  obtain ⟨q1, hq1, h⟩ := cl_some h
  refine cVi (ws2 := (wR cA ad q1.2 ++ wM cA ad2 Y)) (As := []) (rest := []) C hw jLX (kX1_valley ad hq1) kl_RL_18 ki_yX1_valley ks_yX1_valley kn_RX1 kc_yX1_valley ⟨rfl, rfl⟩ hdX1_valley ⟨Nat.le_of_ble_eq_true rfl, Nat.le_of_ble_eq_true rfl⟩ (ci := 1) (q0 := 0) rfl rfl rfl rfl hl.1 (Nat.le_of_ble_eq_true rfl) dL_law_224 ⟨Nat.le_of_ble_eq_true rfl, Nat.le_of_ble_eq_true rfl⟩ (fun H locs hw => ?_)
  refine lv_aload_n hx hb dL_law_227 rfl (lv_at hl 2 rfl) ?_
  obtain ⟨q2, hq2, h⟩ := cl_some h
  refine cVi (ws2 := (wR cA ad q1.2 ++ wM cA ad2 q2.2)) (As := []) (rest := [.int q1.1]) C hw jLY (kX2_valley ad2 hq2) kl_RL_22 ki_yX2_valley ks_yX2_valley kn_RX2 kc_yX2_valley ⟨rfl, rfl⟩ hdX2_valley ⟨Nat.le_of_ble_eq_true rfl, Nat.le_of_ble_eq_true rfl⟩ (ci := 2) (q0 := 0) rfl rfl rfl rfl hl.1 (Nat.le_of_ble_eq_true rfl) dL_law_228 ⟨Nat.le_of_ble_eq_true rfl, Nat.le_of_ble_eq_true rfl⟩ (fun H locs hw => ?_)
  refine lv_icmp_eq (tgt := 1196) hx hb dL_law_231 (by decide) (fun c3 => ?_) (fun c3 => ?_)
  · replace h := (if_pos c3).symm.trans h
    exact kL_law_1196 C hr k18 hk18 (q1.2, q2.2, x_3) h _ _ _ hw (lv_sub hl [0, 1, 2, 3] rfl)
  · replace h := (if_neg c3).symm.trans h
    cases h
set_option maxHeartbeats 4000000 in
set_option maxRecDepth 100000 in
theorem kL_law_236 {L : Nat} {xs : Nat → Int32} (C : Cx p s m args meth c cL_law 4 RL D cA g A) (hr : va_X b L xs s s.heap ∧ b < s.heap.size ∧ ¬ A b ∧ (∀ q, A q → s.heap.size ≤ q) ∧ meth.sig.returnType = ret ∧ meth.locks = false ∧ args = #[Value.ref b]) {z : Unit} (k18 : ((Nat → VS) × (VS) × (Int32)) → Option Unit) (hk18 : ∀ x, k18 x = some z → GL_law_18 p l e s m args below meth c D cA A ad ad2 b L xs z x) (x : (Nat → VS) × (VS) × (Int32)) (h : fL_law_236 L xs k18 x = some z) : GL_law_236 p l e s m args below meth c D cA A ad ad2 b L xs z x := by
  obtain ⟨X, Y, x_3⟩ := x
  intro H locs ls hw hl
  have hw : Wd D A s.heap (wR cA ad X ++ wM cA ad2 Y) H locs := hw
  have hl : lv_has ls 4 [(0, .ref b), (1, .ref (ad 0)), (2, .ref (ad2 0)), (3, .int x_3)] := hl
  have hx := C.1.1
  have hb := C.1.2.1
  have h : (rd L xs (x_3 + (1 : Int32)) (fun r1 => rd L xs (x_3 + (2 : Int32)) (fun r2 => cl (fX1_rocket X r1 r2) (fun q3 => rd L xs (x_3 + (1 : Int32)) (fun r4 => rd L xs (x_3 + (2 : Int32)) (fun r5 => cl (fX2_rocket Y r4 r5) (fun q6 => if q3.1 = q6.1 then fL_law_1196 L xs k18 (q3.2, q6.2, x_3) else none))))))) = some z := h
  refine lv_aload_n hx hb dL_law_236 rfl (lv_at hl 1 rfl) ?_
  refine lv_aload_n hx hb dL_law_237 rfl (lv_at hl 0 rfl) ?_
  refine lv_iload_n hx hb dL_law_238 rfl (lv_at hl 3 rfl) ?_
  refine lv_iconst (v := 1) hx hb dL_law_239 (by decide) ?_
  refine lv_iadd hx hb dL_law_240 ?_
  obtain ⟨r1, ir1, er1, h⟩ := rd_some h
  refine va_sld hx hb hr.1 hr.2.1 hr.2.2.1 hw.2.2 ir1 dL_law_241 ?_
  rw [← er1]
  refine lv_aload_n hx hb dL_law_242 rfl (lv_at hl 0 rfl) ?_
  refine lv_iload_n hx hb dL_law_243 rfl (lv_at hl 3 rfl) ?_
  refine lv_iconst (v := 2) hx hb dL_law_244 (by decide) ?_
  refine lv_iadd hx hb dL_law_245 ?_
  obtain ⟨r2, ir2, er2, h⟩ := rd_some h
  refine va_sld hx hb hr.1 hr.2.1 hr.2.2.1 hw.2.2 ir2 dL_law_246 ?_
  rw [← er2]
  obtain ⟨q3, hq3, h⟩ := cl_some h
  refine cVi (ws2 := (wR cA ad q3.2 ++ wM cA ad2 Y)) (As := [.int r1, .int r2]) (rest := []) C hw jLX (kX1_rocket ad hq3) kl_RL_23 ki_yX1_rocket ks_yX1_rocket kn_RX1 kc_yX1_rocket ⟨rfl, rfl⟩ hdX1_rocket ⟨Nat.le_of_ble_eq_true rfl, Nat.le_of_ble_eq_true rfl⟩ (ci := 1) (q0 := 0) rfl rfl rfl rfl hl.1 (Nat.le_of_ble_eq_true rfl) dL_law_247 ⟨Nat.le_of_ble_eq_true rfl, Nat.le_of_ble_eq_true rfl⟩ (fun H locs hw => ?_)
  refine lv_aload_n hx hb dL_law_250 rfl (lv_at hl 2 rfl) ?_
  refine lv_aload_n hx hb dL_law_251 rfl (lv_at hl 0 rfl) ?_
  refine lv_iload_n hx hb dL_law_252 rfl (lv_at hl 3 rfl) ?_
  refine lv_iconst (v := 1) hx hb dL_law_253 (by decide) ?_
  refine lv_iadd hx hb dL_law_254 ?_
  obtain ⟨r4, ir4, er4, h⟩ := rd_some h
  refine va_sld hx hb hr.1 hr.2.1 hr.2.2.1 hw.2.2 ir4 dL_law_255 ?_
  rw [← er4]
  refine lv_aload_n hx hb dL_law_256 rfl (lv_at hl 0 rfl) ?_
  refine lv_iload_n hx hb dL_law_257 rfl (lv_at hl 3 rfl) ?_
  refine lv_iconst (v := 2) hx hb dL_law_258 (by decide) ?_
  refine lv_iadd hx hb dL_law_259 ?_
  obtain ⟨r5, ir5, er5, h⟩ := rd_some h
  refine va_sld hx hb hr.1 hr.2.1 hr.2.2.1 hw.2.2 ir5 dL_law_260 ?_
  rw [← er5]
  obtain ⟨q6, hq6, h⟩ := cl_some h
  refine cVi (ws2 := (wR cA ad q3.2 ++ wM cA ad2 q6.2)) (As := [.int r4, .int r5]) (rest := [.int q3.1]) C hw jLY (kX2_rocket ad2 hq6) kl_RL_27 ki_yX2_rocket ks_yX2_rocket kn_RX2 kc_yX2_rocket ⟨rfl, rfl⟩ hdX2_rocket ⟨Nat.le_of_ble_eq_true rfl, Nat.le_of_ble_eq_true rfl⟩ (ci := 2) (q0 := 0) rfl rfl rfl rfl hl.1 (Nat.le_of_ble_eq_true rfl) dL_law_261 ⟨Nat.le_of_ble_eq_true rfl, Nat.le_of_ble_eq_true rfl⟩ (fun H locs hw => ?_)
  refine lv_icmp_eq (tgt := 1196) hx hb dL_law_264 (by decide) (fun c7 => ?_) (fun c7 => ?_)
  · replace h := (if_pos c7).symm.trans h
    exact kL_law_1196 C hr k18 hk18 (q3.2, q6.2, x_3) h _ _ _ hw (lv_sub hl [0, 1, 2, 3] rfl)
  · replace h := (if_neg c7).symm.trans h
    cases h
set_option maxHeartbeats 4000000 in
set_option maxRecDepth 100000 in
theorem kL_law_269 {L : Nat} {xs : Nat → Int32} (C : Cx p s m args meth c cL_law 4 RL D cA g A) (hr : va_X b L xs s s.heap ∧ b < s.heap.size ∧ ¬ A b ∧ (∀ q, A q → s.heap.size ≤ q) ∧ meth.sig.returnType = ret ∧ meth.locks = false ∧ args = #[Value.ref b]) {z : Unit} (k18 : ((Nat → VS) × (VS) × (Int32)) → Option Unit) (hk18 : ∀ x, k18 x = some z → GL_law_18 p l e s m args below meth c D cA A ad ad2 b L xs z x) (x : (Nat → VS) × (VS) × (Int32)) (h : fL_law_269 L xs k18 x = some z) : GL_law_269 p l e s m args below meth c D cA A ad ad2 b L xs z x := by
  obtain ⟨X, Y, x_3⟩ := x
  intro H locs ls hw hl
  have hw : Wd D A s.heap (wR cA ad X ++ wM cA ad2 Y) H locs := hw
  have hl : lv_has ls 4 [(0, .ref b), (1, .ref (ad 0)), (2, .ref (ad2 0)), (3, .int x_3)] := hl
  have hx := C.1.1
  have hb := C.1.2.1
  have h : (rd L xs (x_3 + (1 : Int32)) (fun r1 => rd L xs (x_3 + (2 : Int32)) (fun r2 => cl (fX1_reader X r1 r2) (fun q3 => rd L xs (x_3 + (1 : Int32)) (fun r4 => rd L xs (x_3 + (2 : Int32)) (fun r5 => cl (fX2_reader Y r4 r5) (fun q6 => if q3.1 = q6.1 then fL_law_1196 L xs k18 (q3.2, q6.2, x_3) else none))))))) = some z := h
  refine lv_aload_n hx hb dL_law_269 rfl (lv_at hl 1 rfl) ?_
  refine lv_aload_n hx hb dL_law_270 rfl (lv_at hl 0 rfl) ?_
  refine lv_iload_n hx hb dL_law_271 rfl (lv_at hl 3 rfl) ?_
  refine lv_iconst (v := 1) hx hb dL_law_272 (by decide) ?_
  refine lv_iadd hx hb dL_law_273 ?_
  obtain ⟨r1, ir1, er1, h⟩ := rd_some h
  refine va_sld hx hb hr.1 hr.2.1 hr.2.2.1 hw.2.2 ir1 dL_law_274 ?_
  rw [← er1]
  refine lv_aload_n hx hb dL_law_275 rfl (lv_at hl 0 rfl) ?_
  refine lv_iload_n hx hb dL_law_276 rfl (lv_at hl 3 rfl) ?_
  refine lv_iconst (v := 2) hx hb dL_law_277 (by decide) ?_
  refine lv_iadd hx hb dL_law_278 ?_
  obtain ⟨r2, ir2, er2, h⟩ := rd_some h
  refine va_sld hx hb hr.1 hr.2.1 hr.2.2.1 hw.2.2 ir2 dL_law_279 ?_
  rw [← er2]
  obtain ⟨q3, hq3, h⟩ := cl_some h
  refine cVi (ws2 := (wR cA ad q3.2 ++ wM cA ad2 Y)) (As := [.int r1, .int r2]) (rest := []) C hw jLX (kX1_reader ad hq3) kl_RL_28 ki_yX1_reader ks_yX1_reader kn_RX1 kc_yX1_reader ⟨rfl, rfl⟩ hdX1_reader ⟨Nat.le_of_ble_eq_true rfl, Nat.le_of_ble_eq_true rfl⟩ (ci := 1) (q0 := 0) rfl rfl rfl rfl hl.1 (Nat.le_of_ble_eq_true rfl) dL_law_280 ⟨Nat.le_of_ble_eq_true rfl, Nat.le_of_ble_eq_true rfl⟩ (fun H locs hw => ?_)
  refine lv_aload_n hx hb dL_law_283 rfl (lv_at hl 2 rfl) ?_
  refine lv_aload_n hx hb dL_law_284 rfl (lv_at hl 0 rfl) ?_
  refine lv_iload_n hx hb dL_law_285 rfl (lv_at hl 3 rfl) ?_
  refine lv_iconst (v := 1) hx hb dL_law_286 (by decide) ?_
  refine lv_iadd hx hb dL_law_287 ?_
  obtain ⟨r4, ir4, er4, h⟩ := rd_some h
  refine va_sld hx hb hr.1 hr.2.1 hr.2.2.1 hw.2.2 ir4 dL_law_288 ?_
  rw [← er4]
  refine lv_aload_n hx hb dL_law_289 rfl (lv_at hl 0 rfl) ?_
  refine lv_iload_n hx hb dL_law_290 rfl (lv_at hl 3 rfl) ?_
  refine lv_iconst (v := 2) hx hb dL_law_291 (by decide) ?_
  refine lv_iadd hx hb dL_law_292 ?_
  obtain ⟨r5, ir5, er5, h⟩ := rd_some h
  refine va_sld hx hb hr.1 hr.2.1 hr.2.2.1 hw.2.2 ir5 dL_law_293 ?_
  rw [← er5]
  obtain ⟨q6, hq6, h⟩ := cl_some h
  refine cVi (ws2 := (wR cA ad q3.2 ++ wM cA ad2 q6.2)) (As := [.int r4, .int r5]) (rest := [.int q3.1]) C hw jLY (kX2_reader ad2 hq6) kl_RL_31 ki_yX2_reader ks_yX2_reader kn_RX2 kc_yX2_reader ⟨rfl, rfl⟩ hdX2_reader ⟨Nat.le_of_ble_eq_true rfl, Nat.le_of_ble_eq_true rfl⟩ (ci := 2) (q0 := 0) rfl rfl rfl rfl hl.1 (Nat.le_of_ble_eq_true rfl) dL_law_294 ⟨Nat.le_of_ble_eq_true rfl, Nat.le_of_ble_eq_true rfl⟩ (fun H locs hw => ?_)
  refine lv_icmp_eq (tgt := 1196) hx hb dL_law_297 (by decide) (fun c7 => ?_) (fun c7 => ?_)
  · replace h := (if_pos c7).symm.trans h
    exact kL_law_1196 C hr k18 hk18 (q3.2, q6.2, x_3) h _ _ _ hw (lv_sub hl [0, 1, 2, 3] rfl)
  · replace h := (if_neg c7).symm.trans h
    cases h
set_option maxHeartbeats 4000000 in
set_option maxRecDepth 100000 in
theorem kL_law_302 {L : Nat} {xs : Nat → Int32} (C : Cx p s m args meth c cL_law 4 RL D cA g A) (hr : va_X b L xs s s.heap ∧ b < s.heap.size ∧ ¬ A b ∧ (∀ q, A q → s.heap.size ≤ q) ∧ meth.sig.returnType = ret ∧ meth.locks = false ∧ args = #[Value.ref b]) {z : Unit} (k18 : ((Nat → VS) × (VS) × (Int32)) → Option Unit) (hk18 : ∀ x, k18 x = some z → GL_law_18 p l e s m args below meth c D cA A ad ad2 b L xs z x) (x : (Nat → VS) × (VS) × (Int32)) (h : fL_law_302 L xs k18 x = some z) : GL_law_302 p l e s m args below meth c D cA A ad ad2 b L xs z x := by
  obtain ⟨X, Y, x_3⟩ := x
  intro H locs ls hw hl
  have hw : Wd D A s.heap (wR cA ad X ++ wM cA ad2 Y) H locs := hw
  have hl : lv_has ls 4 [(0, .ref b), (1, .ref (ad 0)), (2, .ref (ad2 0)), (3, .int x_3)] := hl
  have hx := C.1.1
  have hb := C.1.2.1
  have h : (rd L xs (x_3 + (1 : Int32)) (fun r1 => rd L xs (x_3 + (2 : Int32)) (fun r2 => cl (fX1_keeps X r1 r2) (fun q3 => rd L xs (x_3 + (1 : Int32)) (fun r4 => rd L xs (x_3 + (2 : Int32)) (fun r5 => cl (fX2_keeps Y r4 r5) (fun q6 => if q3.1 = q6.1 then fL_law_1196 L xs k18 (q3.2, q6.2, x_3) else none))))))) = some z := h
  refine lv_aload_n hx hb dL_law_302 rfl (lv_at hl 1 rfl) ?_
  refine lv_aload_n hx hb dL_law_303 rfl (lv_at hl 0 rfl) ?_
  refine lv_iload_n hx hb dL_law_304 rfl (lv_at hl 3 rfl) ?_
  refine lv_iconst (v := 1) hx hb dL_law_305 (by decide) ?_
  refine lv_iadd hx hb dL_law_306 ?_
  obtain ⟨r1, ir1, er1, h⟩ := rd_some h
  refine va_sld hx hb hr.1 hr.2.1 hr.2.2.1 hw.2.2 ir1 dL_law_307 ?_
  rw [← er1]
  refine lv_aload_n hx hb dL_law_308 rfl (lv_at hl 0 rfl) ?_
  refine lv_iload_n hx hb dL_law_309 rfl (lv_at hl 3 rfl) ?_
  refine lv_iconst (v := 2) hx hb dL_law_310 (by decide) ?_
  refine lv_iadd hx hb dL_law_311 ?_
  obtain ⟨r2, ir2, er2, h⟩ := rd_some h
  refine va_sld hx hb hr.1 hr.2.1 hr.2.2.1 hw.2.2 ir2 dL_law_312 ?_
  rw [← er2]
  obtain ⟨q3, hq3, h⟩ := cl_some h
  refine cVi (ws2 := (wR cA ad q3.2 ++ wM cA ad2 Y)) (As := [.int r1, .int r2]) (rest := []) C hw jLX (kX1_keeps ad hq3) kl_RL_32 ki_yX1_keeps ks_yX1_keeps kn_RX1 kc_yX1_keeps ⟨rfl, rfl⟩ hdX1_keeps ⟨Nat.le_of_ble_eq_true rfl, Nat.le_of_ble_eq_true rfl⟩ (ci := 1) (q0 := 0) rfl rfl rfl rfl hl.1 (Nat.le_of_ble_eq_true rfl) dL_law_313 ⟨Nat.le_of_ble_eq_true rfl, Nat.le_of_ble_eq_true rfl⟩ (fun H locs hw => ?_)
  refine lv_aload_n hx hb dL_law_316 rfl (lv_at hl 2 rfl) ?_
  refine lv_aload_n hx hb dL_law_317 rfl (lv_at hl 0 rfl) ?_
  refine lv_iload_n hx hb dL_law_318 rfl (lv_at hl 3 rfl) ?_
  refine lv_iconst (v := 1) hx hb dL_law_319 (by decide) ?_
  refine lv_iadd hx hb dL_law_320 ?_
  obtain ⟨r4, ir4, er4, h⟩ := rd_some h
  refine va_sld hx hb hr.1 hr.2.1 hr.2.2.1 hw.2.2 ir4 dL_law_321 ?_
  rw [← er4]
  refine lv_aload_n hx hb dL_law_322 rfl (lv_at hl 0 rfl) ?_
  refine lv_iload_n hx hb dL_law_323 rfl (lv_at hl 3 rfl) ?_
  refine lv_iconst (v := 2) hx hb dL_law_324 (by decide) ?_
  refine lv_iadd hx hb dL_law_325 ?_
  obtain ⟨r5, ir5, er5, h⟩ := rd_some h
  refine va_sld hx hb hr.1 hr.2.1 hr.2.2.1 hw.2.2 ir5 dL_law_326 ?_
  rw [← er5]
  obtain ⟨q6, hq6, h⟩ := cl_some h
  refine cVi (ws2 := (wR cA ad q3.2 ++ wM cA ad2 q6.2)) (As := [.int r4, .int r5]) (rest := [.int q3.1]) C hw jLY (kX2_keeps ad2 hq6) kl_RL_35 ki_yX2_keeps ks_yX2_keeps kn_RX2 kc_yX2_keeps ⟨rfl, rfl⟩ hdX2_keeps ⟨Nat.le_of_ble_eq_true rfl, Nat.le_of_ble_eq_true rfl⟩ (ci := 2) (q0 := 0) rfl rfl rfl rfl hl.1 (Nat.le_of_ble_eq_true rfl) dL_law_327 ⟨Nat.le_of_ble_eq_true rfl, Nat.le_of_ble_eq_true rfl⟩ (fun H locs hw => ?_)
  refine lv_icmp_eq (tgt := 1196) hx hb dL_law_330 (by decide) (fun c7 => ?_) (fun c7 => ?_)
  · replace h := (if_pos c7).symm.trans h
    exact kL_law_1196 C hr k18 hk18 (q3.2, q6.2, x_3) h _ _ _ hw (lv_sub hl [0, 1, 2, 3] rfl)
  · replace h := (if_neg c7).symm.trans h
    cases h
set_option maxHeartbeats 4000000 in
set_option maxRecDepth 100000 in
theorem kL_law_335 {L : Nat} {xs : Nat → Int32} (C : Cx p s m args meth c cL_law 4 RL D cA g A) (hr : va_X b L xs s s.heap ∧ b < s.heap.size ∧ ¬ A b ∧ (∀ q, A q → s.heap.size ≤ q) ∧ meth.sig.returnType = ret ∧ meth.locks = false ∧ args = #[Value.ref b]) {z : Unit} (k18 : ((Nat → VS) × (VS) × (Int32)) → Option Unit) (hk18 : ∀ x, k18 x = some z → GL_law_18 p l e s m args below meth c D cA A ad ad2 b L xs z x) (x : (Nat → VS) × (VS) × (Int32)) (h : fL_law_335 L xs k18 x = some z) : GL_law_335 p l e s m args below meth c D cA A ad ad2 b L xs z x := by
  obtain ⟨X, Y, x_3⟩ := x
  intro H locs ls hw hl
  have hw : Wd D A s.heap (wR cA ad X ++ wM cA ad2 Y) H locs := hw
  have hl : lv_has ls 4 [(0, .ref b), (1, .ref (ad 0)), (2, .ref (ad2 0)), (3, .int x_3)] := hl
  have hx := C.1.1
  have hb := C.1.2.1
  have h : (rd L xs (x_3 + (1 : Int32)) (fun r1 => cl (fX1_sends X r1) (fun q2 => rd L xs (x_3 + (1 : Int32)) (fun r3 => cl (fX2_sends Y r3) (fun q4 => if q2.1 = q4.1 then fL_law_1196 L xs k18 (q2.2, q4.2, x_3) else none))))) = some z := h
  refine lv_aload_n hx hb dL_law_335 rfl (lv_at hl 1 rfl) ?_
  refine lv_aload_n hx hb dL_law_336 rfl (lv_at hl 0 rfl) ?_
  refine lv_iload_n hx hb dL_law_337 rfl (lv_at hl 3 rfl) ?_
  refine lv_iconst (v := 1) hx hb dL_law_338 (by decide) ?_
  refine lv_iadd hx hb dL_law_339 ?_
  obtain ⟨r1, ir1, er1, h⟩ := rd_some h
  refine va_sld hx hb hr.1 hr.2.1 hr.2.2.1 hw.2.2 ir1 dL_law_340 ?_
  rw [← er1]
  obtain ⟨q2, hq2, h⟩ := cl_some h
  refine cVi (ws2 := (wR cA ad q2.2 ++ wM cA ad2 Y)) (As := [.int r1]) (rest := []) C hw jLX (kX1_sends ad hq2) kl_RL_36 ki_yX1_sends ks_yX1_sends kn_RX1 kc_yX1_sends ⟨rfl, rfl⟩ hdX1_sends ⟨Nat.le_of_ble_eq_true rfl, Nat.le_of_ble_eq_true rfl⟩ (ci := 1) (q0 := 0) rfl rfl rfl rfl hl.1 (Nat.le_of_ble_eq_true rfl) dL_law_341 ⟨Nat.le_of_ble_eq_true rfl, Nat.le_of_ble_eq_true rfl⟩ (fun H locs hw => ?_)
  refine lv_aload_n hx hb dL_law_344 rfl (lv_at hl 2 rfl) ?_
  refine lv_aload_n hx hb dL_law_345 rfl (lv_at hl 0 rfl) ?_
  refine lv_iload_n hx hb dL_law_346 rfl (lv_at hl 3 rfl) ?_
  refine lv_iconst (v := 1) hx hb dL_law_347 (by decide) ?_
  refine lv_iadd hx hb dL_law_348 ?_
  obtain ⟨r3, ir3, er3, h⟩ := rd_some h
  refine va_sld hx hb hr.1 hr.2.1 hr.2.2.1 hw.2.2 ir3 dL_law_349 ?_
  rw [← er3]
  obtain ⟨q4, hq4, h⟩ := cl_some h
  refine cVi (ws2 := (wR cA ad q2.2 ++ wM cA ad2 q4.2)) (As := [.int r3]) (rest := [.int q2.1]) C hw jLY (kX2_sends ad2 hq4) kl_RL_39 ki_yX2_sends ks_yX2_sends kn_RX2 kc_yX2_sends ⟨rfl, rfl⟩ hdX2_sends ⟨Nat.le_of_ble_eq_true rfl, Nat.le_of_ble_eq_true rfl⟩ (ci := 2) (q0 := 0) rfl rfl rfl rfl hl.1 (Nat.le_of_ble_eq_true rfl) dL_law_350 ⟨Nat.le_of_ble_eq_true rfl, Nat.le_of_ble_eq_true rfl⟩ (fun H locs hw => ?_)
  refine lv_icmp_eq (tgt := 1196) hx hb dL_law_353 (by decide) (fun c5 => ?_) (fun c5 => ?_)
  · replace h := (if_pos c5).symm.trans h
    exact kL_law_1196 C hr k18 hk18 (q2.2, q4.2, x_3) h _ _ _ hw (lv_sub hl [0, 1, 2, 3] rfl)
  · replace h := (if_neg c5).symm.trans h
    cases h
set_option maxHeartbeats 4000000 in
set_option maxRecDepth 100000 in
theorem kL_law_358 {L : Nat} {xs : Nat → Int32} (C : Cx p s m args meth c cL_law 4 RL D cA g A) (hr : va_X b L xs s s.heap ∧ b < s.heap.size ∧ ¬ A b ∧ (∀ q, A q → s.heap.size ≤ q) ∧ meth.sig.returnType = ret ∧ meth.locks = false ∧ args = #[Value.ref b]) {z : Unit} (k18 : ((Nat → VS) × (VS) × (Int32)) → Option Unit) (hk18 : ∀ x, k18 x = some z → GL_law_18 p l e s m args below meth c D cA A ad ad2 b L xs z x) (x : (Nat → VS) × (VS) × (Int32)) (h : fL_law_358 L xs k18 x = some z) : GL_law_358 p l e s m args below meth c D cA A ad ad2 b L xs z x := by
  obtain ⟨X, Y, x_3⟩ := x
  intro H locs ls hw hl
  have hw : Wd D A s.heap (wR cA ad X ++ wM cA ad2 Y) H locs := hw
  have hl : lv_has ls 4 [(0, .ref b), (1, .ref (ad 0)), (2, .ref (ad2 0)), (3, .int x_3)] := hl
  have hx := C.1.1
  have hb := C.1.2.1
  have h : (rd L xs (x_3 + (1 : Int32)) (fun r1 => cl (fX1_boxes X r1) (fun q2 => rd L xs (x_3 + (1 : Int32)) (fun r3 => cl (fX2_boxes Y r3) (fun q4 => if q2.1 = q4.1 then fL_law_1196 L xs k18 (q2.2, q4.2, x_3) else none))))) = some z := h
  refine lv_aload_n hx hb dL_law_358 rfl (lv_at hl 1 rfl) ?_
  refine lv_aload_n hx hb dL_law_359 rfl (lv_at hl 0 rfl) ?_
  refine lv_iload_n hx hb dL_law_360 rfl (lv_at hl 3 rfl) ?_
  refine lv_iconst (v := 1) hx hb dL_law_361 (by decide) ?_
  refine lv_iadd hx hb dL_law_362 ?_
  obtain ⟨r1, ir1, er1, h⟩ := rd_some h
  refine va_sld hx hb hr.1 hr.2.1 hr.2.2.1 hw.2.2 ir1 dL_law_363 ?_
  rw [← er1]
  obtain ⟨q2, hq2, h⟩ := cl_some h
  refine cVi (ws2 := (wR cA ad q2.2 ++ wM cA ad2 Y)) (As := [.int r1]) (rest := []) C hw jLX (kX1_boxes ad hq2) kl_RL_40 ki_yX1_boxes ks_yX1_boxes kn_RX1 kc_yX1_boxes ⟨rfl, rfl⟩ hdX1_boxes ⟨Nat.le_of_ble_eq_true rfl, Nat.le_of_ble_eq_true rfl⟩ (ci := 1) (q0 := 0) rfl rfl rfl rfl hl.1 (Nat.le_of_ble_eq_true rfl) dL_law_364 ⟨Nat.le_of_ble_eq_true rfl, Nat.le_of_ble_eq_true rfl⟩ (fun H locs hw => ?_)
  refine lv_aload_n hx hb dL_law_367 rfl (lv_at hl 2 rfl) ?_
  refine lv_aload_n hx hb dL_law_368 rfl (lv_at hl 0 rfl) ?_
  refine lv_iload_n hx hb dL_law_369 rfl (lv_at hl 3 rfl) ?_
  refine lv_iconst (v := 1) hx hb dL_law_370 (by decide) ?_
  refine lv_iadd hx hb dL_law_371 ?_
  obtain ⟨r3, ir3, er3, h⟩ := rd_some h
  refine va_sld hx hb hr.1 hr.2.1 hr.2.2.1 hw.2.2 ir3 dL_law_372 ?_
  rw [← er3]
  obtain ⟨q4, hq4, h⟩ := cl_some h
  refine cVi (ws2 := (wR cA ad q2.2 ++ wM cA ad2 q4.2)) (As := [.int r3]) (rest := [.int q2.1]) C hw jLY (kX2_boxes ad2 hq4) kl_RL_43 ki_yX2_boxes ks_yX2_boxes kn_RX2 kc_yX2_boxes ⟨rfl, rfl⟩ hdX2_boxes ⟨Nat.le_of_ble_eq_true rfl, Nat.le_of_ble_eq_true rfl⟩ (ci := 2) (q0 := 0) rfl rfl rfl rfl hl.1 (Nat.le_of_ble_eq_true rfl) dL_law_373 ⟨Nat.le_of_ble_eq_true rfl, Nat.le_of_ble_eq_true rfl⟩ (fun H locs hw => ?_)
  refine lv_icmp_eq (tgt := 1196) hx hb dL_law_376 (by decide) (fun c5 => ?_) (fun c5 => ?_)
  · replace h := (if_pos c5).symm.trans h
    exact kL_law_1196 C hr k18 hk18 (q2.2, q4.2, x_3) h _ _ _ hw (lv_sub hl [0, 1, 2, 3] rfl)
  · replace h := (if_neg c5).symm.trans h
    cases h
set_option maxHeartbeats 4000000 in
set_option maxRecDepth 100000 in
theorem kL_law_381 {L : Nat} {xs : Nat → Int32} (C : Cx p s m args meth c cL_law 4 RL D cA g A) (hr : va_X b L xs s s.heap ∧ b < s.heap.size ∧ ¬ A b ∧ (∀ q, A q → s.heap.size ≤ q) ∧ meth.sig.returnType = ret ∧ meth.locks = false ∧ args = #[Value.ref b]) {z : Unit} (k18 : ((Nat → VS) × (VS) × (Int32)) → Option Unit) (hk18 : ∀ x, k18 x = some z → GL_law_18 p l e s m args below meth c D cA A ad ad2 b L xs z x) (x : (Nat → VS) × (VS) × (Int32)) (h : fL_law_381 L xs k18 x = some z) : GL_law_381 p l e s m args below meth c D cA A ad ad2 b L xs z x := by
  obtain ⟨X, Y, x_3⟩ := x
  intro H locs ls hw hl
  have hw : Wd D A s.heap (wR cA ad X ++ wM cA ad2 Y) H locs := hw
  have hl : lv_has ls 4 [(0, .ref b), (1, .ref (ad 0)), (2, .ref (ad2 0)), (3, .int x_3)] := hl
  have hx := C.1.1
  have hb := C.1.2.1
  have h : (rd L xs (x_3 + (1 : Int32)) (fun r1 => cl (fX1_wind X r1) (fun q2 => rd L xs (x_3 + (1 : Int32)) (fun r3 => cl (fX2_wind Y r3) (fun q4 => if q2.1 = q4.1 then fL_law_1196 L xs k18 (q2.2, q4.2, x_3) else none))))) = some z := h
  refine lv_aload_n hx hb dL_law_381 rfl (lv_at hl 1 rfl) ?_
  refine lv_aload_n hx hb dL_law_382 rfl (lv_at hl 0 rfl) ?_
  refine lv_iload_n hx hb dL_law_383 rfl (lv_at hl 3 rfl) ?_
  refine lv_iconst (v := 1) hx hb dL_law_384 (by decide) ?_
  refine lv_iadd hx hb dL_law_385 ?_
  obtain ⟨r1, ir1, er1, h⟩ := rd_some h
  refine va_sld hx hb hr.1 hr.2.1 hr.2.2.1 hw.2.2 ir1 dL_law_386 ?_
  rw [← er1]
  obtain ⟨q2, hq2, h⟩ := cl_some h
  refine cVi (ws2 := (wR cA ad q2.2 ++ wM cA ad2 Y)) (As := [.int r1]) (rest := []) C hw jLX (kX1_wind ad hq2) kl_RL_44 ki_yX1_wind ks_yX1_wind kn_RX1 kc_yX1_wind ⟨rfl, rfl⟩ hdX1_wind ⟨Nat.le_of_ble_eq_true rfl, Nat.le_of_ble_eq_true rfl⟩ (ci := 1) (q0 := 0) rfl rfl rfl rfl hl.1 (Nat.le_of_ble_eq_true rfl) dL_law_387 ⟨Nat.le_of_ble_eq_true rfl, Nat.le_of_ble_eq_true rfl⟩ (fun H locs hw => ?_)
  refine lv_aload_n hx hb dL_law_390 rfl (lv_at hl 2 rfl) ?_
  refine lv_aload_n hx hb dL_law_391 rfl (lv_at hl 0 rfl) ?_
  refine lv_iload_n hx hb dL_law_392 rfl (lv_at hl 3 rfl) ?_
  refine lv_iconst (v := 1) hx hb dL_law_393 (by decide) ?_
  refine lv_iadd hx hb dL_law_394 ?_
  obtain ⟨r3, ir3, er3, h⟩ := rd_some h
  refine va_sld hx hb hr.1 hr.2.1 hr.2.2.1 hw.2.2 ir3 dL_law_395 ?_
  rw [← er3]
  obtain ⟨q4, hq4, h⟩ := cl_some h
  refine cVi (ws2 := (wR cA ad q2.2 ++ wM cA ad2 q4.2)) (As := [.int r3]) (rest := [.int q2.1]) C hw jLY (kX2_wind ad2 hq4) kl_RL_47 ki_yX2_wind ks_yX2_wind kn_RX2 kc_yX2_wind ⟨rfl, rfl⟩ hdX2_wind ⟨Nat.le_of_ble_eq_true rfl, Nat.le_of_ble_eq_true rfl⟩ (ci := 2) (q0 := 0) rfl rfl rfl rfl hl.1 (Nat.le_of_ble_eq_true rfl) dL_law_396 ⟨Nat.le_of_ble_eq_true rfl, Nat.le_of_ble_eq_true rfl⟩ (fun H locs hw => ?_)
  refine lv_icmp_eq (tgt := 1196) hx hb dL_law_399 (by decide) (fun c5 => ?_) (fun c5 => ?_)
  · replace h := (if_pos c5).symm.trans h
    exact kL_law_1196 C hr k18 hk18 (q2.2, q4.2, x_3) h _ _ _ hw (lv_sub hl [0, 1, 2, 3] rfl)
  · replace h := (if_neg c5).symm.trans h
    cases h
set_option maxHeartbeats 4000000 in
set_option maxRecDepth 100000 in
theorem kL_law_404 {L : Nat} {xs : Nat → Int32} (C : Cx p s m args meth c cL_law 4 RL D cA g A) (hr : va_X b L xs s s.heap ∧ b < s.heap.size ∧ ¬ A b ∧ (∀ q, A q → s.heap.size ≤ q) ∧ meth.sig.returnType = ret ∧ meth.locks = false ∧ args = #[Value.ref b]) {z : Unit} (k18 : ((Nat → VS) × (VS) × (Int32)) → Option Unit) (hk18 : ∀ x, k18 x = some z → GL_law_18 p l e s m args below meth c D cA A ad ad2 b L xs z x) (x : (Nat → VS) × (VS) × (Int32)) (h : fL_law_404 L xs k18 x = some z) : GL_law_404 p l e s m args below meth c D cA A ad ad2 b L xs z x := by
  obtain ⟨X, Y, x_3⟩ := x
  intro H locs ls hw hl
  have hw : Wd D A s.heap (wR cA ad X ++ wM cA ad2 Y) H locs := hw
  have hl : lv_has ls 4 [(0, .ref b), (1, .ref (ad 0)), (2, .ref (ad2 0)), (3, .int x_3)] := hl
  have hx := C.1.1
  have hb := C.1.2.1
  have h : (rd L xs (x_3 + (1 : Int32)) (fun r1 => cl (fX1_grant X r1) (fun q2 => rd L xs (x_3 + (1 : Int32)) (fun r3 => cl (fX2_grant Y r3) (fun q4 => if q2.1 = q4.1 then fL_law_1196 L xs k18 (q2.2, q4.2, x_3) else none))))) = some z := h
  refine lv_aload_n hx hb dL_law_404 rfl (lv_at hl 1 rfl) ?_
  refine lv_aload_n hx hb dL_law_405 rfl (lv_at hl 0 rfl) ?_
  refine lv_iload_n hx hb dL_law_406 rfl (lv_at hl 3 rfl) ?_
  refine lv_iconst (v := 1) hx hb dL_law_407 (by decide) ?_
  refine lv_iadd hx hb dL_law_408 ?_
  obtain ⟨r1, ir1, er1, h⟩ := rd_some h
  refine va_sld hx hb hr.1 hr.2.1 hr.2.2.1 hw.2.2 ir1 dL_law_409 ?_
  rw [← er1]
  obtain ⟨q2, hq2, h⟩ := cl_some h
  refine cVi (ws2 := (wR cA ad q2.2 ++ wM cA ad2 Y)) (As := [.int r1]) (rest := []) C hw jLX (kX1_grant ad hq2) kl_RL_48 ki_yX1_grant ks_yX1_grant kn_RX1 kc_yX1_grant ⟨rfl, rfl⟩ hdX1_grant ⟨Nat.le_of_ble_eq_true rfl, Nat.le_of_ble_eq_true rfl⟩ (ci := 1) (q0 := 0) rfl rfl rfl rfl hl.1 (Nat.le_of_ble_eq_true rfl) dL_law_410 ⟨Nat.le_of_ble_eq_true rfl, Nat.le_of_ble_eq_true rfl⟩ (fun H locs hw => ?_)
  refine lv_aload_n hx hb dL_law_413 rfl (lv_at hl 2 rfl) ?_
  refine lv_aload_n hx hb dL_law_414 rfl (lv_at hl 0 rfl) ?_
  refine lv_iload_n hx hb dL_law_415 rfl (lv_at hl 3 rfl) ?_
  refine lv_iconst (v := 1) hx hb dL_law_416 (by decide) ?_
  refine lv_iadd hx hb dL_law_417 ?_
  obtain ⟨r3, ir3, er3, h⟩ := rd_some h
  refine va_sld hx hb hr.1 hr.2.1 hr.2.2.1 hw.2.2 ir3 dL_law_418 ?_
  rw [← er3]
  obtain ⟨q4, hq4, h⟩ := cl_some h
  refine cVi (ws2 := (wR cA ad q2.2 ++ wM cA ad2 q4.2)) (As := [.int r3]) (rest := [.int q2.1]) C hw jLY (kX2_grant ad2 hq4) kl_RL_51 ki_yX2_grant ks_yX2_grant kn_RX2 kc_yX2_grant ⟨rfl, rfl⟩ hdX2_grant ⟨Nat.le_of_ble_eq_true rfl, Nat.le_of_ble_eq_true rfl⟩ (ci := 2) (q0 := 0) rfl rfl rfl rfl hl.1 (Nat.le_of_ble_eq_true rfl) dL_law_419 ⟨Nat.le_of_ble_eq_true rfl, Nat.le_of_ble_eq_true rfl⟩ (fun H locs hw => ?_)
  refine lv_icmp_eq (tgt := 1196) hx hb dL_law_422 (by decide) (fun c5 => ?_) (fun c5 => ?_)
  · replace h := (if_pos c5).symm.trans h
    exact kL_law_1196 C hr k18 hk18 (q2.2, q4.2, x_3) h _ _ _ hw (lv_sub hl [0, 1, 2, 3] rfl)
  · replace h := (if_neg c5).symm.trans h
    cases h
set_option maxHeartbeats 4000000 in
set_option maxRecDepth 100000 in
theorem kL_law_427 {L : Nat} {xs : Nat → Int32} (C : Cx p s m args meth c cL_law 4 RL D cA g A) (hr : va_X b L xs s s.heap ∧ b < s.heap.size ∧ ¬ A b ∧ (∀ q, A q → s.heap.size ≤ q) ∧ meth.sig.returnType = ret ∧ meth.locks = false ∧ args = #[Value.ref b]) {z : Unit} (k18 : ((Nat → VS) × (VS) × (Int32)) → Option Unit) (hk18 : ∀ x, k18 x = some z → GL_law_18 p l e s m args below meth c D cA A ad ad2 b L xs z x) (x : (Nat → VS) × (VS) × (Int32)) (h : fL_law_427 L xs k18 x = some z) : GL_law_427 p l e s m args below meth c D cA A ad ad2 b L xs z x := by
  obtain ⟨X, Y, x_3⟩ := x
  intro H locs ls hw hl
  have hw : Wd D A s.heap (wR cA ad X ++ wM cA ad2 Y) H locs := hw
  have hl : lv_has ls 4 [(0, .ref b), (1, .ref (ad 0)), (2, .ref (ad2 0)), (3, .int x_3)] := hl
  have hx := C.1.1
  have hb := C.1.2.1
  have h : (rd L xs (x_3 + (1 : Int32)) (fun r1 => rd L xs (x_3 + (2 : Int32)) (fun r2 => cl (fX1_stands X r1 r2) (fun q3 => rd L xs (x_3 + (1 : Int32)) (fun r4 => rd L xs (x_3 + (2 : Int32)) (fun r5 => cl (fX2_stands Y r4 r5) (fun q6 => if q3.1 = q6.1 then fL_law_1196 L xs k18 (q3.2, q6.2, x_3) else none))))))) = some z := h
  refine lv_aload_n hx hb dL_law_427 rfl (lv_at hl 1 rfl) ?_
  refine lv_aload_n hx hb dL_law_428 rfl (lv_at hl 0 rfl) ?_
  refine lv_iload_n hx hb dL_law_429 rfl (lv_at hl 3 rfl) ?_
  refine lv_iconst (v := 1) hx hb dL_law_430 (by decide) ?_
  refine lv_iadd hx hb dL_law_431 ?_
  obtain ⟨r1, ir1, er1, h⟩ := rd_some h
  refine va_sld hx hb hr.1 hr.2.1 hr.2.2.1 hw.2.2 ir1 dL_law_432 ?_
  rw [← er1]
  refine lv_aload_n hx hb dL_law_433 rfl (lv_at hl 0 rfl) ?_
  refine lv_iload_n hx hb dL_law_434 rfl (lv_at hl 3 rfl) ?_
  refine lv_iconst (v := 2) hx hb dL_law_435 (by decide) ?_
  refine lv_iadd hx hb dL_law_436 ?_
  obtain ⟨r2, ir2, er2, h⟩ := rd_some h
  refine va_sld hx hb hr.1 hr.2.1 hr.2.2.1 hw.2.2 ir2 dL_law_437 ?_
  rw [← er2]
  obtain ⟨q3, hq3, h⟩ := cl_some h
  refine cVi (ws2 := (wR cA ad q3.2 ++ wM cA ad2 Y)) (As := [.int r1, .int r2]) (rest := []) C hw jLX (kX1_stands ad hq3) kl_RL_52 ki_yX1_stands ks_yX1_stands kn_RX1 kc_yX1_stands ⟨rfl, rfl⟩ hdX1_stands ⟨Nat.le_of_ble_eq_true rfl, Nat.le_of_ble_eq_true rfl⟩ (ci := 1) (q0 := 0) rfl rfl rfl rfl hl.1 (Nat.le_of_ble_eq_true rfl) dL_law_438 ⟨Nat.le_of_ble_eq_true rfl, Nat.le_of_ble_eq_true rfl⟩ (fun H locs hw => ?_)
  refine lv_aload_n hx hb dL_law_441 rfl (lv_at hl 2 rfl) ?_
  refine lv_aload_n hx hb dL_law_442 rfl (lv_at hl 0 rfl) ?_
  refine lv_iload_n hx hb dL_law_443 rfl (lv_at hl 3 rfl) ?_
  refine lv_iconst (v := 1) hx hb dL_law_444 (by decide) ?_
  refine lv_iadd hx hb dL_law_445 ?_
  obtain ⟨r4, ir4, er4, h⟩ := rd_some h
  refine va_sld hx hb hr.1 hr.2.1 hr.2.2.1 hw.2.2 ir4 dL_law_446 ?_
  rw [← er4]
  refine lv_aload_n hx hb dL_law_447 rfl (lv_at hl 0 rfl) ?_
  refine lv_iload_n hx hb dL_law_448 rfl (lv_at hl 3 rfl) ?_
  refine lv_iconst (v := 2) hx hb dL_law_449 (by decide) ?_
  refine lv_iadd hx hb dL_law_450 ?_
  obtain ⟨r5, ir5, er5, h⟩ := rd_some h
  refine va_sld hx hb hr.1 hr.2.1 hr.2.2.1 hw.2.2 ir5 dL_law_451 ?_
  rw [← er5]
  obtain ⟨q6, hq6, h⟩ := cl_some h
  refine cVi (ws2 := (wR cA ad q3.2 ++ wM cA ad2 q6.2)) (As := [.int r4, .int r5]) (rest := [.int q3.1]) C hw jLY (kX2_stands ad2 hq6) kl_RL_55 ki_yX2_stands ks_yX2_stands kn_RX2 kc_yX2_stands ⟨rfl, rfl⟩ hdX2_stands ⟨Nat.le_of_ble_eq_true rfl, Nat.le_of_ble_eq_true rfl⟩ (ci := 2) (q0 := 0) rfl rfl rfl rfl hl.1 (Nat.le_of_ble_eq_true rfl) dL_law_452 ⟨Nat.le_of_ble_eq_true rfl, Nat.le_of_ble_eq_true rfl⟩ (fun H locs hw => ?_)
  refine lv_icmp_eq (tgt := 1196) hx hb dL_law_455 (by decide) (fun c7 => ?_) (fun c7 => ?_)
  · replace h := (if_pos c7).symm.trans h
    exact kL_law_1196 C hr k18 hk18 (q3.2, q6.2, x_3) h _ _ _ hw (lv_sub hl [0, 1, 2, 3] rfl)
  · replace h := (if_neg c7).symm.trans h
    cases h
set_option maxHeartbeats 4000000 in
set_option maxRecDepth 100000 in
theorem kL_law_460 {L : Nat} {xs : Nat → Int32} (C : Cx p s m args meth c cL_law 4 RL D cA g A) (hr : va_X b L xs s s.heap ∧ b < s.heap.size ∧ ¬ A b ∧ (∀ q, A q → s.heap.size ≤ q) ∧ meth.sig.returnType = ret ∧ meth.locks = false ∧ args = #[Value.ref b]) {z : Unit} (k18 : ((Nat → VS) × (VS) × (Int32)) → Option Unit) (hk18 : ∀ x, k18 x = some z → GL_law_18 p l e s m args below meth c D cA A ad ad2 b L xs z x) (x : (Nat → VS) × (VS) × (Int32)) (h : fL_law_460 L xs k18 x = some z) : GL_law_460 p l e s m args below meth c D cA A ad ad2 b L xs z x := by
  obtain ⟨X, Y, x_3⟩ := x
  intro H locs ls hw hl
  have hw : Wd D A s.heap (wR cA ad X ++ wM cA ad2 Y) H locs := hw
  have hl : lv_has ls 4 [(0, .ref b), (1, .ref (ad 0)), (2, .ref (ad2 0)), (3, .int x_3)] := hl
  have hx := C.1.1
  have hb := C.1.2.1
  have h : (rd L xs (x_3 + (1 : Int32)) (fun r1 => rd L xs (x_3 + (2 : Int32)) (fun r2 => rd L xs (x_3 + (3 : Int32)) (fun r3 => cl (fX1_turn X r1 r2 r3) (fun q4 => rd L xs (x_3 + (1 : Int32)) (fun r5 => rd L xs (x_3 + (2 : Int32)) (fun r6 => rd L xs (x_3 + (3 : Int32)) (fun r7 => cl (fX2_turn Y r5 r6 r7) (fun q8 => if q4.1 = q8.1 then fL_law_1196 L xs k18 (q4.2, q8.2, x_3) else none))))))))) = some z := h
  refine lv_aload_n hx hb dL_law_460 rfl (lv_at hl 1 rfl) ?_
  refine lv_aload_n hx hb dL_law_461 rfl (lv_at hl 0 rfl) ?_
  refine lv_iload_n hx hb dL_law_462 rfl (lv_at hl 3 rfl) ?_
  refine lv_iconst (v := 1) hx hb dL_law_463 (by decide) ?_
  refine lv_iadd hx hb dL_law_464 ?_
  obtain ⟨r1, ir1, er1, h⟩ := rd_some h
  refine va_sld hx hb hr.1 hr.2.1 hr.2.2.1 hw.2.2 ir1 dL_law_465 ?_
  rw [← er1]
  refine lv_aload_n hx hb dL_law_466 rfl (lv_at hl 0 rfl) ?_
  refine lv_iload_n hx hb dL_law_467 rfl (lv_at hl 3 rfl) ?_
  refine lv_iconst (v := 2) hx hb dL_law_468 (by decide) ?_
  refine lv_iadd hx hb dL_law_469 ?_
  obtain ⟨r2, ir2, er2, h⟩ := rd_some h
  refine va_sld hx hb hr.1 hr.2.1 hr.2.2.1 hw.2.2 ir2 dL_law_470 ?_
  rw [← er2]
  refine lv_aload_n hx hb dL_law_471 rfl (lv_at hl 0 rfl) ?_
  refine lv_iload_n hx hb dL_law_472 rfl (lv_at hl 3 rfl) ?_
  refine lv_iconst (v := 3) hx hb dL_law_473 (by decide) ?_
  refine lv_iadd hx hb dL_law_474 ?_
  obtain ⟨r3, ir3, er3, h⟩ := rd_some h
  refine va_sld hx hb hr.1 hr.2.1 hr.2.2.1 hw.2.2 ir3 dL_law_475 ?_
  rw [← er3]
  obtain ⟨q4, hq4, h⟩ := cl_some h
  refine cVi (ws2 := (wR cA ad q4.2 ++ wM cA ad2 Y)) (As := [.int r1, .int r2, .int r3]) (rest := []) C hw jLX (kX1_turn ad hq4) kl_RL_56 ki_yX1_turn ks_yX1_turn kn_RX1 kc_yX1_turn ⟨rfl, rfl⟩ hdX1_turn ⟨Nat.le_of_ble_eq_true rfl, Nat.le_of_ble_eq_true rfl⟩ (ci := 1) (q0 := 0) rfl rfl rfl rfl hl.1 (Nat.le_of_ble_eq_true rfl) dL_law_476 ⟨Nat.le_of_ble_eq_true rfl, Nat.le_of_ble_eq_true rfl⟩ (fun H locs hw => ?_)
  refine lv_aload_n hx hb dL_law_479 rfl (lv_at hl 2 rfl) ?_
  refine lv_aload_n hx hb dL_law_480 rfl (lv_at hl 0 rfl) ?_
  refine lv_iload_n hx hb dL_law_481 rfl (lv_at hl 3 rfl) ?_
  refine lv_iconst (v := 1) hx hb dL_law_482 (by decide) ?_
  refine lv_iadd hx hb dL_law_483 ?_
  obtain ⟨r5, ir5, er5, h⟩ := rd_some h
  refine va_sld hx hb hr.1 hr.2.1 hr.2.2.1 hw.2.2 ir5 dL_law_484 ?_
  rw [← er5]
  refine lv_aload_n hx hb dL_law_485 rfl (lv_at hl 0 rfl) ?_
  refine lv_iload_n hx hb dL_law_486 rfl (lv_at hl 3 rfl) ?_
  refine lv_iconst (v := 2) hx hb dL_law_487 (by decide) ?_
  refine lv_iadd hx hb dL_law_488 ?_
  obtain ⟨r6, ir6, er6, h⟩ := rd_some h
  refine va_sld hx hb hr.1 hr.2.1 hr.2.2.1 hw.2.2 ir6 dL_law_489 ?_
  rw [← er6]
  refine lv_aload_n hx hb dL_law_490 rfl (lv_at hl 0 rfl) ?_
  refine lv_iload_n hx hb dL_law_491 rfl (lv_at hl 3 rfl) ?_
  refine lv_iconst (v := 3) hx hb dL_law_492 (by decide) ?_
  refine lv_iadd hx hb dL_law_493 ?_
  obtain ⟨r7, ir7, er7, h⟩ := rd_some h
  refine va_sld hx hb hr.1 hr.2.1 hr.2.2.1 hw.2.2 ir7 dL_law_494 ?_
  rw [← er7]
  obtain ⟨q8, hq8, h⟩ := cl_some h
  refine cVi (ws2 := (wR cA ad q4.2 ++ wM cA ad2 q8.2)) (As := [.int r5, .int r6, .int r7]) (rest := [.int q4.1]) C hw jLY (kX2_turn ad2 hq8) kl_RL_60 ki_yX2_turn ks_yX2_turn kn_RX2 kc_yX2_turn ⟨rfl, rfl⟩ hdX2_turn ⟨Nat.le_of_ble_eq_true rfl, Nat.le_of_ble_eq_true rfl⟩ (ci := 2) (q0 := 0) rfl rfl rfl rfl hl.1 (Nat.le_of_ble_eq_true rfl) dL_law_495 ⟨Nat.le_of_ble_eq_true rfl, Nat.le_of_ble_eq_true rfl⟩ (fun H locs hw => ?_)
  refine lv_icmp_eq (tgt := 1196) hx hb dL_law_498 (by decide) (fun c9 => ?_) (fun c9 => ?_)
  · replace h := (if_pos c9).symm.trans h
    exact kL_law_1196 C hr k18 hk18 (q4.2, q8.2, x_3) h _ _ _ hw (lv_sub hl [0, 1, 2, 3] rfl)
  · replace h := (if_neg c9).symm.trans h
    cases h
set_option maxHeartbeats 4000000 in
set_option maxRecDepth 100000 in
theorem kL_law_503 {L : Nat} {xs : Nat → Int32} (C : Cx p s m args meth c cL_law 4 RL D cA g A) (hr : va_X b L xs s s.heap ∧ b < s.heap.size ∧ ¬ A b ∧ (∀ q, A q → s.heap.size ≤ q) ∧ meth.sig.returnType = ret ∧ meth.locks = false ∧ args = #[Value.ref b]) {z : Unit} (k18 : ((Nat → VS) × (VS) × (Int32)) → Option Unit) (hk18 : ∀ x, k18 x = some z → GL_law_18 p l e s m args below meth c D cA A ad ad2 b L xs z x) (x : (Nat → VS) × (VS) × (Int32)) (h : fL_law_503 L xs k18 x = some z) : GL_law_503 p l e s m args below meth c D cA A ad ad2 b L xs z x := by
  obtain ⟨X, Y, x_3⟩ := x
  intro H locs ls hw hl
  have hw : Wd D A s.heap (wR cA ad X ++ wM cA ad2 Y) H locs := hw
  have hl : lv_has ls 4 [(0, .ref b), (1, .ref (ad 0)), (2, .ref (ad2 0)), (3, .int x_3)] := hl
  have hx := C.1.1
  have hb := C.1.2.1
  have h : (rd L xs (x_3 + (1 : Int32)) (fun r1 => cl (fX1_nights X r1) (fun q2 => rd L xs (x_3 + (1 : Int32)) (fun r3 => cl (fX2_nights Y r3) (fun q4 => if q2.1 = q4.1 then fL_law_1196 L xs k18 (q2.2, q4.2, x_3) else none))))) = some z := h
  refine lv_aload_n hx hb dL_law_503 rfl (lv_at hl 1 rfl) ?_
  refine lv_aload_n hx hb dL_law_504 rfl (lv_at hl 0 rfl) ?_
  refine lv_iload_n hx hb dL_law_505 rfl (lv_at hl 3 rfl) ?_
  refine lv_iconst (v := 1) hx hb dL_law_506 (by decide) ?_
  refine lv_iadd hx hb dL_law_507 ?_
  obtain ⟨r1, ir1, er1, h⟩ := rd_some h
  refine va_sld hx hb hr.1 hr.2.1 hr.2.2.1 hw.2.2 ir1 dL_law_508 ?_
  rw [← er1]
  obtain ⟨q2, hq2, h⟩ := cl_some h
  refine cVi (ws2 := (wR cA ad q2.2 ++ wM cA ad2 Y)) (As := [.int r1]) (rest := []) C hw jLX (kX1_nights ad hq2) kl_RL_61 ki_yX1_nights ks_yX1_nights kn_RX1 kc_yX1_nights ⟨rfl, rfl⟩ hdX1_nights ⟨Nat.le_of_ble_eq_true rfl, Nat.le_of_ble_eq_true rfl⟩ (ci := 1) (q0 := 0) rfl rfl rfl rfl hl.1 (Nat.le_of_ble_eq_true rfl) dL_law_509 ⟨Nat.le_of_ble_eq_true rfl, Nat.le_of_ble_eq_true rfl⟩ (fun H locs hw => ?_)
  refine lv_aload_n hx hb dL_law_512 rfl (lv_at hl 2 rfl) ?_
  refine lv_aload_n hx hb dL_law_513 rfl (lv_at hl 0 rfl) ?_
  refine lv_iload_n hx hb dL_law_514 rfl (lv_at hl 3 rfl) ?_
  refine lv_iconst (v := 1) hx hb dL_law_515 (by decide) ?_
  refine lv_iadd hx hb dL_law_516 ?_
  obtain ⟨r3, ir3, er3, h⟩ := rd_some h
  refine va_sld hx hb hr.1 hr.2.1 hr.2.2.1 hw.2.2 ir3 dL_law_517 ?_
  rw [← er3]
  obtain ⟨q4, hq4, h⟩ := cl_some h
  refine cVi (ws2 := (wR cA ad q2.2 ++ wM cA ad2 q4.2)) (As := [.int r3]) (rest := [.int q2.1]) C hw jLY (kX2_nights ad2 hq4) kl_RL_64 ki_yX2_nights ks_yX2_nights kn_RX2 kc_yX2_nights ⟨rfl, rfl⟩ hdX2_nights ⟨Nat.le_of_ble_eq_true rfl, Nat.le_of_ble_eq_true rfl⟩ (ci := 2) (q0 := 0) rfl rfl rfl rfl hl.1 (Nat.le_of_ble_eq_true rfl) dL_law_518 ⟨Nat.le_of_ble_eq_true rfl, Nat.le_of_ble_eq_true rfl⟩ (fun H locs hw => ?_)
  refine lv_icmp_eq (tgt := 1196) hx hb dL_law_521 (by decide) (fun c5 => ?_) (fun c5 => ?_)
  · replace h := (if_pos c5).symm.trans h
    exact kL_law_1196 C hr k18 hk18 (q2.2, q4.2, x_3) h _ _ _ hw (lv_sub hl [0, 1, 2, 3] rfl)
  · replace h := (if_neg c5).symm.trans h
    cases h
set_option maxHeartbeats 4000000 in
set_option maxRecDepth 100000 in
theorem kL_law_526 {L : Nat} {xs : Nat → Int32} (C : Cx p s m args meth c cL_law 4 RL D cA g A) (hr : va_X b L xs s s.heap ∧ b < s.heap.size ∧ ¬ A b ∧ (∀ q, A q → s.heap.size ≤ q) ∧ meth.sig.returnType = ret ∧ meth.locks = false ∧ args = #[Value.ref b]) {z : Unit} (k18 : ((Nat → VS) × (VS) × (Int32)) → Option Unit) (hk18 : ∀ x, k18 x = some z → GL_law_18 p l e s m args below meth c D cA A ad ad2 b L xs z x) (x : (Nat → VS) × (VS) × (Int32)) (h : fL_law_526 L xs k18 x = some z) : GL_law_526 p l e s m args below meth c D cA A ad ad2 b L xs z x := by
  obtain ⟨X, Y, x_3⟩ := x
  intro H locs ls hw hl
  have hw : Wd D A s.heap (wR cA ad X ++ wM cA ad2 Y) H locs := hw
  have hl : lv_has ls 4 [(0, .ref b), (1, .ref (ad 0)), (2, .ref (ad2 0)), (3, .int x_3)] := hl
  have hx := C.1.1
  have hb := C.1.2.1
  have h : (rd L xs (x_3 + (1 : Int32)) (fun r1 => rd L xs (x_3 + (2 : Int32)) (fun r2 => cl (fX1_wordsThen X r1 r2) (fun q3 => rd L xs (x_3 + (1 : Int32)) (fun r4 => rd L xs (x_3 + (2 : Int32)) (fun r5 => cl (fX2_wordsThen Y r4 r5) (fun q6 => if q3.1 = q6.1 then fL_law_1196 L xs k18 (q3.2, q6.2, x_3) else none))))))) = some z := h
  refine lv_aload_n hx hb dL_law_526 rfl (lv_at hl 1 rfl) ?_
  refine lv_aload_n hx hb dL_law_527 rfl (lv_at hl 0 rfl) ?_
  refine lv_iload_n hx hb dL_law_528 rfl (lv_at hl 3 rfl) ?_
  refine lv_iconst (v := 1) hx hb dL_law_529 (by decide) ?_
  refine lv_iadd hx hb dL_law_530 ?_
  obtain ⟨r1, ir1, er1, h⟩ := rd_some h
  refine va_sld hx hb hr.1 hr.2.1 hr.2.2.1 hw.2.2 ir1 dL_law_531 ?_
  rw [← er1]
  refine lv_aload_n hx hb dL_law_532 rfl (lv_at hl 0 rfl) ?_
  refine lv_iload_n hx hb dL_law_533 rfl (lv_at hl 3 rfl) ?_
  refine lv_iconst (v := 2) hx hb dL_law_534 (by decide) ?_
  refine lv_iadd hx hb dL_law_535 ?_
  obtain ⟨r2, ir2, er2, h⟩ := rd_some h
  refine va_sld hx hb hr.1 hr.2.1 hr.2.2.1 hw.2.2 ir2 dL_law_536 ?_
  rw [← er2]
  obtain ⟨q3, hq3, h⟩ := cl_some h
  refine cVi (ws2 := (wR cA ad q3.2 ++ wM cA ad2 Y)) (As := [.int r1, .int r2]) (rest := []) C hw jLX (kX1_wordsThen ad hq3) kl_RL_65 ki_yX1_wordsThen ks_yX1_wordsThen kn_RX1 kc_yX1_wordsThen ⟨rfl, rfl⟩ hdX1_wordsThen ⟨Nat.le_of_ble_eq_true rfl, Nat.le_of_ble_eq_true rfl⟩ (ci := 1) (q0 := 0) rfl rfl rfl rfl hl.1 (Nat.le_of_ble_eq_true rfl) dL_law_537 ⟨Nat.le_of_ble_eq_true rfl, Nat.le_of_ble_eq_true rfl⟩ (fun H locs hw => ?_)
  refine lv_aload_n hx hb dL_law_540 rfl (lv_at hl 2 rfl) ?_
  refine lv_aload_n hx hb dL_law_541 rfl (lv_at hl 0 rfl) ?_
  refine lv_iload_n hx hb dL_law_542 rfl (lv_at hl 3 rfl) ?_
  refine lv_iconst (v := 1) hx hb dL_law_543 (by decide) ?_
  refine lv_iadd hx hb dL_law_544 ?_
  obtain ⟨r4, ir4, er4, h⟩ := rd_some h
  refine va_sld hx hb hr.1 hr.2.1 hr.2.2.1 hw.2.2 ir4 dL_law_545 ?_
  rw [← er4]
  refine lv_aload_n hx hb dL_law_546 rfl (lv_at hl 0 rfl) ?_
  refine lv_iload_n hx hb dL_law_547 rfl (lv_at hl 3 rfl) ?_
  refine lv_iconst (v := 2) hx hb dL_law_548 (by decide) ?_
  refine lv_iadd hx hb dL_law_549 ?_
  obtain ⟨r5, ir5, er5, h⟩ := rd_some h
  refine va_sld hx hb hr.1 hr.2.1 hr.2.2.1 hw.2.2 ir5 dL_law_550 ?_
  rw [← er5]
  obtain ⟨q6, hq6, h⟩ := cl_some h
  refine cVi (ws2 := (wR cA ad q3.2 ++ wM cA ad2 q6.2)) (As := [.int r4, .int r5]) (rest := [.int q3.1]) C hw jLY (kX2_wordsThen ad2 hq6) kl_RL_68 ki_yX2_wordsThen ks_yX2_wordsThen kn_RX2 kc_yX2_wordsThen ⟨rfl, rfl⟩ hdX2_wordsThen ⟨Nat.le_of_ble_eq_true rfl, Nat.le_of_ble_eq_true rfl⟩ (ci := 2) (q0 := 0) rfl rfl rfl rfl hl.1 (Nat.le_of_ble_eq_true rfl) dL_law_551 ⟨Nat.le_of_ble_eq_true rfl, Nat.le_of_ble_eq_true rfl⟩ (fun H locs hw => ?_)
  refine lv_icmp_eq (tgt := 1196) hx hb dL_law_554 (by decide) (fun c7 => ?_) (fun c7 => ?_)
  · replace h := (if_pos c7).symm.trans h
    exact kL_law_1196 C hr k18 hk18 (q3.2, q6.2, x_3) h _ _ _ hw (lv_sub hl [0, 1, 2, 3] rfl)
  · replace h := (if_neg c7).symm.trans h
    cases h
set_option maxHeartbeats 4000000 in
set_option maxRecDepth 100000 in
theorem kL_law_559 {L : Nat} {xs : Nat → Int32} (C : Cx p s m args meth c cL_law 4 RL D cA g A) (hr : va_X b L xs s s.heap ∧ b < s.heap.size ∧ ¬ A b ∧ (∀ q, A q → s.heap.size ≤ q) ∧ meth.sig.returnType = ret ∧ meth.locks = false ∧ args = #[Value.ref b]) {z : Unit} (k18 : ((Nat → VS) × (VS) × (Int32)) → Option Unit) (hk18 : ∀ x, k18 x = some z → GL_law_18 p l e s m args below meth c D cA A ad ad2 b L xs z x) (x : (Nat → VS) × (VS) × (Int32)) (h : fL_law_559 L xs k18 x = some z) : GL_law_559 p l e s m args below meth c D cA A ad ad2 b L xs z x := by
  obtain ⟨X, Y, x_3⟩ := x
  intro H locs ls hw hl
  have hw : Wd D A s.heap (wR cA ad X ++ wM cA ad2 Y) H locs := hw
  have hl : lv_has ls 4 [(0, .ref b), (1, .ref (ad 0)), (2, .ref (ad2 0)), (3, .int x_3)] := hl
  have hx := C.1.1
  have hb := C.1.2.1
  have h : (rd L xs (x_3 + (1 : Int32)) (fun r1 => rd L xs (x_3 + (2 : Int32)) (fun r2 => cl (fX1_then X r1 r2) (fun q3 => rd L xs (x_3 + (1 : Int32)) (fun r4 => rd L xs (x_3 + (2 : Int32)) (fun r5 => cl (fX2_then Y r4 r5) (fun q6 => if q3.1 = q6.1 then fL_law_1196 L xs k18 (q3.2, q6.2, x_3) else none))))))) = some z := h
  refine lv_aload_n hx hb dL_law_559 rfl (lv_at hl 1 rfl) ?_
  refine lv_aload_n hx hb dL_law_560 rfl (lv_at hl 0 rfl) ?_
  refine lv_iload_n hx hb dL_law_561 rfl (lv_at hl 3 rfl) ?_
  refine lv_iconst (v := 1) hx hb dL_law_562 (by decide) ?_
  refine lv_iadd hx hb dL_law_563 ?_
  obtain ⟨r1, ir1, er1, h⟩ := rd_some h
  refine va_sld hx hb hr.1 hr.2.1 hr.2.2.1 hw.2.2 ir1 dL_law_564 ?_
  rw [← er1]
  refine lv_aload_n hx hb dL_law_565 rfl (lv_at hl 0 rfl) ?_
  refine lv_iload_n hx hb dL_law_566 rfl (lv_at hl 3 rfl) ?_
  refine lv_iconst (v := 2) hx hb dL_law_567 (by decide) ?_
  refine lv_iadd hx hb dL_law_568 ?_
  obtain ⟨r2, ir2, er2, h⟩ := rd_some h
  refine va_sld hx hb hr.1 hr.2.1 hr.2.2.1 hw.2.2 ir2 dL_law_569 ?_
  rw [← er2]
  obtain ⟨q3, hq3, h⟩ := cl_some h
  refine cVi (ws2 := (wR cA ad q3.2 ++ wM cA ad2 Y)) (As := [.int r1, .int r2]) (rest := []) C hw jLX (kX1_then ad hq3) kl_RL_69 ki_yX1_then ks_yX1_then kn_RX1 kc_yX1_then ⟨rfl, rfl⟩ hdX1_then ⟨Nat.le_of_ble_eq_true rfl, Nat.le_of_ble_eq_true rfl⟩ (ci := 1) (q0 := 0) rfl rfl rfl rfl hl.1 (Nat.le_of_ble_eq_true rfl) dL_law_570 ⟨Nat.le_of_ble_eq_true rfl, Nat.le_of_ble_eq_true rfl⟩ (fun H locs hw => ?_)
  refine lv_aload_n hx hb dL_law_573 rfl (lv_at hl 2 rfl) ?_
  refine lv_aload_n hx hb dL_law_574 rfl (lv_at hl 0 rfl) ?_
  refine lv_iload_n hx hb dL_law_575 rfl (lv_at hl 3 rfl) ?_
  refine lv_iconst (v := 1) hx hb dL_law_576 (by decide) ?_
  refine lv_iadd hx hb dL_law_577 ?_
  obtain ⟨r4, ir4, er4, h⟩ := rd_some h
  refine va_sld hx hb hr.1 hr.2.1 hr.2.2.1 hw.2.2 ir4 dL_law_578 ?_
  rw [← er4]
  refine lv_aload_n hx hb dL_law_579 rfl (lv_at hl 0 rfl) ?_
  refine lv_iload_n hx hb dL_law_580 rfl (lv_at hl 3 rfl) ?_
  refine lv_iconst (v := 2) hx hb dL_law_581 (by decide) ?_
  refine lv_iadd hx hb dL_law_582 ?_
  obtain ⟨r5, ir5, er5, h⟩ := rd_some h
  refine va_sld hx hb hr.1 hr.2.1 hr.2.2.1 hw.2.2 ir5 dL_law_583 ?_
  rw [← er5]
  obtain ⟨q6, hq6, h⟩ := cl_some h
  refine cVi (ws2 := (wR cA ad q3.2 ++ wM cA ad2 q6.2)) (As := [.int r4, .int r5]) (rest := [.int q3.1]) C hw jLY (kX2_then ad2 hq6) kl_RL_72 ki_yX2_then ks_yX2_then kn_RX2 kc_yX2_then ⟨rfl, rfl⟩ hdX2_then ⟨Nat.le_of_ble_eq_true rfl, Nat.le_of_ble_eq_true rfl⟩ (ci := 2) (q0 := 0) rfl rfl rfl rfl hl.1 (Nat.le_of_ble_eq_true rfl) dL_law_584 ⟨Nat.le_of_ble_eq_true rfl, Nat.le_of_ble_eq_true rfl⟩ (fun H locs hw => ?_)
  refine lv_icmp_eq (tgt := 1196) hx hb dL_law_587 (by decide) (fun c7 => ?_) (fun c7 => ?_)
  · replace h := (if_pos c7).symm.trans h
    exact kL_law_1196 C hr k18 hk18 (q3.2, q6.2, x_3) h _ _ _ hw (lv_sub hl [0, 1, 2, 3] rfl)
  · replace h := (if_neg c7).symm.trans h
    cases h
set_option maxHeartbeats 4000000 in
set_option maxRecDepth 100000 in
theorem kL_law_592 {L : Nat} {xs : Nat → Int32} (C : Cx p s m args meth c cL_law 4 RL D cA g A) (hr : va_X b L xs s s.heap ∧ b < s.heap.size ∧ ¬ A b ∧ (∀ q, A q → s.heap.size ≤ q) ∧ meth.sig.returnType = ret ∧ meth.locks = false ∧ args = #[Value.ref b]) {z : Unit} (k18 : ((Nat → VS) × (VS) × (Int32)) → Option Unit) (hk18 : ∀ x, k18 x = some z → GL_law_18 p l e s m args below meth c D cA A ad ad2 b L xs z x) (x : (Nat → VS) × (VS) × (Int32)) (h : fL_law_592 L xs k18 x = some z) : GL_law_592 p l e s m args below meth c D cA A ad ad2 b L xs z x := by
  obtain ⟨X, Y, x_3⟩ := x
  intro H locs ls hw hl
  have hw : Wd D A s.heap (wR cA ad X ++ wM cA ad2 Y) H locs := hw
  have hl : lv_has ls 4 [(0, .ref b), (1, .ref (ad 0)), (2, .ref (ad2 0)), (3, .int x_3)] := hl
  have hx := C.1.1
  have hb := C.1.2.1
  have h : (rd L xs (x_3 + (1 : Int32)) (fun r1 => cl (fX1_whole X r1) (fun q2 => rd L xs (x_3 + (1 : Int32)) (fun r3 => cl (fX2_whole Y r3) (fun q4 => if q2.1 = q4.1 then fL_law_1196 L xs k18 (q2.2, q4.2, x_3) else none))))) = some z := h
  refine lv_aload_n hx hb dL_law_592 rfl (lv_at hl 1 rfl) ?_
  refine lv_aload_n hx hb dL_law_593 rfl (lv_at hl 0 rfl) ?_
  refine lv_iload_n hx hb dL_law_594 rfl (lv_at hl 3 rfl) ?_
  refine lv_iconst (v := 1) hx hb dL_law_595 (by decide) ?_
  refine lv_iadd hx hb dL_law_596 ?_
  obtain ⟨r1, ir1, er1, h⟩ := rd_some h
  refine va_sld hx hb hr.1 hr.2.1 hr.2.2.1 hw.2.2 ir1 dL_law_597 ?_
  rw [← er1]
  obtain ⟨q2, hq2, h⟩ := cl_some h
  refine cVi (ws2 := (wR cA ad q2.2 ++ wM cA ad2 Y)) (As := [.int r1]) (rest := []) C hw jLX (kX1_whole ad hq2) kl_RL_73 ki_yX1_whole ks_yX1_whole kn_RX1 kc_yX1_whole ⟨rfl, rfl⟩ hdX1_whole ⟨Nat.le_of_ble_eq_true rfl, Nat.le_of_ble_eq_true rfl⟩ (ci := 1) (q0 := 0) rfl rfl rfl rfl hl.1 (Nat.le_of_ble_eq_true rfl) dL_law_598 ⟨Nat.le_of_ble_eq_true rfl, Nat.le_of_ble_eq_true rfl⟩ (fun H locs hw => ?_)
  refine lv_aload_n hx hb dL_law_601 rfl (lv_at hl 2 rfl) ?_
  refine lv_aload_n hx hb dL_law_602 rfl (lv_at hl 0 rfl) ?_
  refine lv_iload_n hx hb dL_law_603 rfl (lv_at hl 3 rfl) ?_
  refine lv_iconst (v := 1) hx hb dL_law_604 (by decide) ?_
  refine lv_iadd hx hb dL_law_605 ?_
  obtain ⟨r3, ir3, er3, h⟩ := rd_some h
  refine va_sld hx hb hr.1 hr.2.1 hr.2.2.1 hw.2.2 ir3 dL_law_606 ?_
  rw [← er3]
  obtain ⟨q4, hq4, h⟩ := cl_some h
  refine cVi (ws2 := (wR cA ad q2.2 ++ wM cA ad2 q4.2)) (As := [.int r3]) (rest := [.int q2.1]) C hw jLY (kX2_whole ad2 hq4) kl_RL_76 ki_yX2_whole ks_yX2_whole kn_RX2 kc_yX2_whole ⟨rfl, rfl⟩ hdX2_whole ⟨Nat.le_of_ble_eq_true rfl, Nat.le_of_ble_eq_true rfl⟩ (ci := 2) (q0 := 0) rfl rfl rfl rfl hl.1 (Nat.le_of_ble_eq_true rfl) dL_law_607 ⟨Nat.le_of_ble_eq_true rfl, Nat.le_of_ble_eq_true rfl⟩ (fun H locs hw => ?_)
  refine lv_icmp_eq (tgt := 1196) hx hb dL_law_610 (by decide) (fun c5 => ?_) (fun c5 => ?_)
  · replace h := (if_pos c5).symm.trans h
    exact kL_law_1196 C hr k18 hk18 (q2.2, q4.2, x_3) h _ _ _ hw (lv_sub hl [0, 1, 2, 3] rfl)
  · replace h := (if_neg c5).symm.trans h
    cases h
set_option maxHeartbeats 4000000 in
set_option maxRecDepth 100000 in
theorem kL_law_615 {L : Nat} {xs : Nat → Int32} (C : Cx p s m args meth c cL_law 4 RL D cA g A) (hr : va_X b L xs s s.heap ∧ b < s.heap.size ∧ ¬ A b ∧ (∀ q, A q → s.heap.size ≤ q) ∧ meth.sig.returnType = ret ∧ meth.locks = false ∧ args = #[Value.ref b]) {z : Unit} (k18 : ((Nat → VS) × (VS) × (Int32)) → Option Unit) (hk18 : ∀ x, k18 x = some z → GL_law_18 p l e s m args below meth c D cA A ad ad2 b L xs z x) (x : (Nat → VS) × (VS) × (Int32)) (h : fL_law_615 L xs k18 x = some z) : GL_law_615 p l e s m args below meth c D cA A ad ad2 b L xs z x := by
  obtain ⟨X, Y, x_3⟩ := x
  intro H locs ls hw hl
  have hw : Wd D A s.heap (wR cA ad X ++ wM cA ad2 Y) H locs := hw
  have hl : lv_has ls 4 [(0, .ref b), (1, .ref (ad 0)), (2, .ref (ad2 0)), (3, .int x_3)] := hl
  have hx := C.1.1
  have hb := C.1.2.1
  have h : (rd L xs (x_3 + (1 : Int32)) (fun r1 => cl (fX1_next X r1) (fun q2 => rd L xs (x_3 + (1 : Int32)) (fun r3 => cl (fX2_next Y r3) (fun q4 => if q2.1 = q4.1 then fL_law_1196 L xs k18 (q2.2, q4.2, x_3) else none))))) = some z := h
  refine lv_aload_n hx hb dL_law_615 rfl (lv_at hl 1 rfl) ?_
  refine lv_aload_n hx hb dL_law_616 rfl (lv_at hl 0 rfl) ?_
  refine lv_iload_n hx hb dL_law_617 rfl (lv_at hl 3 rfl) ?_
  refine lv_iconst (v := 1) hx hb dL_law_618 (by decide) ?_
  refine lv_iadd hx hb dL_law_619 ?_
  obtain ⟨r1, ir1, er1, h⟩ := rd_some h
  refine va_sld hx hb hr.1 hr.2.1 hr.2.2.1 hw.2.2 ir1 dL_law_620 ?_
  rw [← er1]
  obtain ⟨q2, hq2, h⟩ := cl_some h
  refine cVi (ws2 := (wR cA ad q2.2 ++ wM cA ad2 Y)) (As := [.int r1]) (rest := []) C hw jLX (kX1_next ad hq2) kl_RL_77 ki_yX1_next ks_yX1_next kn_RX1 kc_yX1_next ⟨rfl, rfl⟩ hdX1_next ⟨Nat.le_of_ble_eq_true rfl, Nat.le_of_ble_eq_true rfl⟩ (ci := 1) (q0 := 0) rfl rfl rfl rfl hl.1 (Nat.le_of_ble_eq_true rfl) dL_law_621 ⟨Nat.le_of_ble_eq_true rfl, Nat.le_of_ble_eq_true rfl⟩ (fun H locs hw => ?_)
  refine lv_aload_n hx hb dL_law_624 rfl (lv_at hl 2 rfl) ?_
  refine lv_aload_n hx hb dL_law_625 rfl (lv_at hl 0 rfl) ?_
  refine lv_iload_n hx hb dL_law_626 rfl (lv_at hl 3 rfl) ?_
  refine lv_iconst (v := 1) hx hb dL_law_627 (by decide) ?_
  refine lv_iadd hx hb dL_law_628 ?_
  obtain ⟨r3, ir3, er3, h⟩ := rd_some h
  refine va_sld hx hb hr.1 hr.2.1 hr.2.2.1 hw.2.2 ir3 dL_law_629 ?_
  rw [← er3]
  obtain ⟨q4, hq4, h⟩ := cl_some h
  refine cVi (ws2 := (wR cA ad q2.2 ++ wM cA ad2 q4.2)) (As := [.int r3]) (rest := [.int q2.1]) C hw jLY (kX2_next ad2 hq4) kl_RL_80 ki_yX2_next ks_yX2_next kn_RX2 kc_yX2_next ⟨rfl, rfl⟩ hdX2_next ⟨Nat.le_of_ble_eq_true rfl, Nat.le_of_ble_eq_true rfl⟩ (ci := 2) (q0 := 0) rfl rfl rfl rfl hl.1 (Nat.le_of_ble_eq_true rfl) dL_law_630 ⟨Nat.le_of_ble_eq_true rfl, Nat.le_of_ble_eq_true rfl⟩ (fun H locs hw => ?_)
  refine lv_icmp_eq (tgt := 1196) hx hb dL_law_633 (by decide) (fun c5 => ?_) (fun c5 => ?_)
  · replace h := (if_pos c5).symm.trans h
    exact kL_law_1196 C hr k18 hk18 (q2.2, q4.2, x_3) h _ _ _ hw (lv_sub hl [0, 1, 2, 3] rfl)
  · replace h := (if_neg c5).symm.trans h
    cases h
set_option maxHeartbeats 4000000 in
set_option maxRecDepth 100000 in
theorem kL_law_638 {L : Nat} {xs : Nat → Int32} (C : Cx p s m args meth c cL_law 4 RL D cA g A) (hr : va_X b L xs s s.heap ∧ b < s.heap.size ∧ ¬ A b ∧ (∀ q, A q → s.heap.size ≤ q) ∧ meth.sig.returnType = ret ∧ meth.locks = false ∧ args = #[Value.ref b]) {z : Unit} (k18 : ((Nat → VS) × (VS) × (Int32)) → Option Unit) (hk18 : ∀ x, k18 x = some z → GL_law_18 p l e s m args below meth c D cA A ad ad2 b L xs z x) (x : (Nat → VS) × (VS) × (Int32)) (h : fL_law_638 L xs k18 x = some z) : GL_law_638 p l e s m args below meth c D cA A ad ad2 b L xs z x := by
  obtain ⟨X, Y, x_3⟩ := x
  intro H locs ls hw hl
  have hw : Wd D A s.heap (wR cA ad X ++ wM cA ad2 Y) H locs := hw
  have hl : lv_has ls 4 [(0, .ref b), (1, .ref (ad 0)), (2, .ref (ad2 0)), (3, .int x_3)] := hl
  have hx := C.1.1
  have hb := C.1.2.1
  have h : (rd L xs (x_3 + (1 : Int32)) (fun r1 => rd L xs (x_3 + (2 : Int32)) (fun r2 => cl (fX1_fewest X r1 r2) (fun q3 => rd L xs (x_3 + (1 : Int32)) (fun r4 => rd L xs (x_3 + (2 : Int32)) (fun r5 => cl (fX2_fewest Y r4 r5) (fun q6 => if q3.1 = q6.1 then fL_law_1196 L xs k18 (q3.2, q6.2, x_3) else none))))))) = some z := h
  refine lv_aload_n hx hb dL_law_638 rfl (lv_at hl 1 rfl) ?_
  refine lv_aload_n hx hb dL_law_639 rfl (lv_at hl 0 rfl) ?_
  refine lv_iload_n hx hb dL_law_640 rfl (lv_at hl 3 rfl) ?_
  refine lv_iconst (v := 1) hx hb dL_law_641 (by decide) ?_
  refine lv_iadd hx hb dL_law_642 ?_
  obtain ⟨r1, ir1, er1, h⟩ := rd_some h
  refine va_sld hx hb hr.1 hr.2.1 hr.2.2.1 hw.2.2 ir1 dL_law_643 ?_
  rw [← er1]
  refine lv_aload_n hx hb dL_law_644 rfl (lv_at hl 0 rfl) ?_
  refine lv_iload_n hx hb dL_law_645 rfl (lv_at hl 3 rfl) ?_
  refine lv_iconst (v := 2) hx hb dL_law_646 (by decide) ?_
  refine lv_iadd hx hb dL_law_647 ?_
  obtain ⟨r2, ir2, er2, h⟩ := rd_some h
  refine va_sld hx hb hr.1 hr.2.1 hr.2.2.1 hw.2.2 ir2 dL_law_648 ?_
  rw [← er2]
  obtain ⟨q3, hq3, h⟩ := cl_some h
  refine cVi (ws2 := (wR cA ad q3.2 ++ wM cA ad2 Y)) (As := [.int r1, .int r2]) (rest := []) C hw jLX (kX1_fewest ad hq3) kl_RL_81 ki_yX1_fewest ks_yX1_fewest kn_RX1 kc_yX1_fewest ⟨rfl, rfl⟩ hdX1_fewest ⟨Nat.le_of_ble_eq_true rfl, Nat.le_of_ble_eq_true rfl⟩ (ci := 1) (q0 := 0) rfl rfl rfl rfl hl.1 (Nat.le_of_ble_eq_true rfl) dL_law_649 ⟨Nat.le_of_ble_eq_true rfl, Nat.le_of_ble_eq_true rfl⟩ (fun H locs hw => ?_)
  refine lv_aload_n hx hb dL_law_652 rfl (lv_at hl 2 rfl) ?_
  refine lv_aload_n hx hb dL_law_653 rfl (lv_at hl 0 rfl) ?_
  refine lv_iload_n hx hb dL_law_654 rfl (lv_at hl 3 rfl) ?_
  refine lv_iconst (v := 1) hx hb dL_law_655 (by decide) ?_
  refine lv_iadd hx hb dL_law_656 ?_
  obtain ⟨r4, ir4, er4, h⟩ := rd_some h
  refine va_sld hx hb hr.1 hr.2.1 hr.2.2.1 hw.2.2 ir4 dL_law_657 ?_
  rw [← er4]
  refine lv_aload_n hx hb dL_law_658 rfl (lv_at hl 0 rfl) ?_
  refine lv_iload_n hx hb dL_law_659 rfl (lv_at hl 3 rfl) ?_
  refine lv_iconst (v := 2) hx hb dL_law_660 (by decide) ?_
  refine lv_iadd hx hb dL_law_661 ?_
  obtain ⟨r5, ir5, er5, h⟩ := rd_some h
  refine va_sld hx hb hr.1 hr.2.1 hr.2.2.1 hw.2.2 ir5 dL_law_662 ?_
  rw [← er5]
  obtain ⟨q6, hq6, h⟩ := cl_some h
  refine cVi (ws2 := (wR cA ad q3.2 ++ wM cA ad2 q6.2)) (As := [.int r4, .int r5]) (rest := [.int q3.1]) C hw jLY (kX2_fewest ad2 hq6) kl_RL_84 ki_yX2_fewest ks_yX2_fewest kn_RX2 kc_yX2_fewest ⟨rfl, rfl⟩ hdX2_fewest ⟨Nat.le_of_ble_eq_true rfl, Nat.le_of_ble_eq_true rfl⟩ (ci := 2) (q0 := 0) rfl rfl rfl rfl hl.1 (Nat.le_of_ble_eq_true rfl) dL_law_663 ⟨Nat.le_of_ble_eq_true rfl, Nat.le_of_ble_eq_true rfl⟩ (fun H locs hw => ?_)
  refine lv_icmp_eq (tgt := 1196) hx hb dL_law_666 (by decide) (fun c7 => ?_) (fun c7 => ?_)
  · replace h := (if_pos c7).symm.trans h
    exact kL_law_1196 C hr k18 hk18 (q3.2, q6.2, x_3) h _ _ _ hw (lv_sub hl [0, 1, 2, 3] rfl)
  · replace h := (if_neg c7).symm.trans h
    cases h
set_option maxHeartbeats 4000000 in
set_option maxRecDepth 100000 in
theorem kL_law_671 {L : Nat} {xs : Nat → Int32} (C : Cx p s m args meth c cL_law 4 RL D cA g A) (hr : va_X b L xs s s.heap ∧ b < s.heap.size ∧ ¬ A b ∧ (∀ q, A q → s.heap.size ≤ q) ∧ meth.sig.returnType = ret ∧ meth.locks = false ∧ args = #[Value.ref b]) {z : Unit} (k18 : ((Nat → VS) × (VS) × (Int32)) → Option Unit) (hk18 : ∀ x, k18 x = some z → GL_law_18 p l e s m args below meth c D cA A ad ad2 b L xs z x) (x : (Nat → VS) × (VS) × (Int32)) (h : fL_law_671 L xs k18 x = some z) : GL_law_671 p l e s m args below meth c D cA A ad ad2 b L xs z x := by
  obtain ⟨X, Y, x_3⟩ := x
  intro H locs ls hw hl
  have hw : Wd D A s.heap (wR cA ad X ++ wM cA ad2 Y) H locs := hw
  have hl : lv_has ls 4 [(0, .ref b), (1, .ref (ad 0)), (2, .ref (ad2 0)), (3, .int x_3)] := hl
  have hx := C.1.1
  have hb := C.1.2.1
  have h : (rd L xs (x_3 + (1 : Int32)) (fun r1 => rd L xs (x_3 + (2 : Int32)) (fun r2 => cl (fX1_windBest X r1 r2) (fun q3 => rd L xs (x_3 + (1 : Int32)) (fun r4 => rd L xs (x_3 + (2 : Int32)) (fun r5 => cl (fX2_windBest Y r4 r5) (fun q6 => if q3.1 = q6.1 then fL_law_1196 L xs k18 (q3.2, q6.2, x_3) else none))))))) = some z := h
  refine lv_aload_n hx hb dL_law_671 rfl (lv_at hl 1 rfl) ?_
  refine lv_aload_n hx hb dL_law_672 rfl (lv_at hl 0 rfl) ?_
  refine lv_iload_n hx hb dL_law_673 rfl (lv_at hl 3 rfl) ?_
  refine lv_iconst (v := 1) hx hb dL_law_674 (by decide) ?_
  refine lv_iadd hx hb dL_law_675 ?_
  obtain ⟨r1, ir1, er1, h⟩ := rd_some h
  refine va_sld hx hb hr.1 hr.2.1 hr.2.2.1 hw.2.2 ir1 dL_law_676 ?_
  rw [← er1]
  refine lv_aload_n hx hb dL_law_677 rfl (lv_at hl 0 rfl) ?_
  refine lv_iload_n hx hb dL_law_678 rfl (lv_at hl 3 rfl) ?_
  refine lv_iconst (v := 2) hx hb dL_law_679 (by decide) ?_
  refine lv_iadd hx hb dL_law_680 ?_
  obtain ⟨r2, ir2, er2, h⟩ := rd_some h
  refine va_sld hx hb hr.1 hr.2.1 hr.2.2.1 hw.2.2 ir2 dL_law_681 ?_
  rw [← er2]
  obtain ⟨q3, hq3, h⟩ := cl_some h
  refine cVi (ws2 := (wR cA ad q3.2 ++ wM cA ad2 Y)) (As := [.int r1, .int r2]) (rest := []) C hw jLX (kX1_windBest ad hq3) kl_RL_85 ki_yX1_windBest ks_yX1_windBest kn_RX1 kc_yX1_windBest ⟨rfl, rfl⟩ hdX1_windBest ⟨Nat.le_of_ble_eq_true rfl, Nat.le_of_ble_eq_true rfl⟩ (ci := 1) (q0 := 0) rfl rfl rfl rfl hl.1 (Nat.le_of_ble_eq_true rfl) dL_law_682 ⟨Nat.le_of_ble_eq_true rfl, Nat.le_of_ble_eq_true rfl⟩ (fun H locs hw => ?_)
  refine lv_aload_n hx hb dL_law_685 rfl (lv_at hl 2 rfl) ?_
  refine lv_aload_n hx hb dL_law_686 rfl (lv_at hl 0 rfl) ?_
  refine lv_iload_n hx hb dL_law_687 rfl (lv_at hl 3 rfl) ?_
  refine lv_iconst (v := 1) hx hb dL_law_688 (by decide) ?_
  refine lv_iadd hx hb dL_law_689 ?_
  obtain ⟨r4, ir4, er4, h⟩ := rd_some h
  refine va_sld hx hb hr.1 hr.2.1 hr.2.2.1 hw.2.2 ir4 dL_law_690 ?_
  rw [← er4]
  refine lv_aload_n hx hb dL_law_691 rfl (lv_at hl 0 rfl) ?_
  refine lv_iload_n hx hb dL_law_692 rfl (lv_at hl 3 rfl) ?_
  refine lv_iconst (v := 2) hx hb dL_law_693 (by decide) ?_
  refine lv_iadd hx hb dL_law_694 ?_
  obtain ⟨r5, ir5, er5, h⟩ := rd_some h
  refine va_sld hx hb hr.1 hr.2.1 hr.2.2.1 hw.2.2 ir5 dL_law_695 ?_
  rw [← er5]
  obtain ⟨q6, hq6, h⟩ := cl_some h
  refine cVi (ws2 := (wR cA ad q3.2 ++ wM cA ad2 q6.2)) (As := [.int r4, .int r5]) (rest := [.int q3.1]) C hw jLY (kX2_windBest ad2 hq6) kl_RL_88 ki_yX2_windBest ks_yX2_windBest kn_RX2 kc_yX2_windBest ⟨rfl, rfl⟩ hdX2_windBest ⟨Nat.le_of_ble_eq_true rfl, Nat.le_of_ble_eq_true rfl⟩ (ci := 2) (q0 := 0) rfl rfl rfl rfl hl.1 (Nat.le_of_ble_eq_true rfl) dL_law_696 ⟨Nat.le_of_ble_eq_true rfl, Nat.le_of_ble_eq_true rfl⟩ (fun H locs hw => ?_)
  refine lv_icmp_eq (tgt := 1196) hx hb dL_law_699 (by decide) (fun c7 => ?_) (fun c7 => ?_)
  · replace h := (if_pos c7).symm.trans h
    exact kL_law_1196 C hr k18 hk18 (q3.2, q6.2, x_3) h _ _ _ hw (lv_sub hl [0, 1, 2, 3] rfl)
  · replace h := (if_neg c7).symm.trans h
    cases h
set_option maxHeartbeats 4000000 in
set_option maxRecDepth 100000 in
theorem kL_law_704 {L : Nat} {xs : Nat → Int32} (C : Cx p s m args meth c cL_law 4 RL D cA g A) (hr : va_X b L xs s s.heap ∧ b < s.heap.size ∧ ¬ A b ∧ (∀ q, A q → s.heap.size ≤ q) ∧ meth.sig.returnType = ret ∧ meth.locks = false ∧ args = #[Value.ref b]) {z : Unit} (k18 : ((Nat → VS) × (VS) × (Int32)) → Option Unit) (hk18 : ∀ x, k18 x = some z → GL_law_18 p l e s m args below meth c D cA A ad ad2 b L xs z x) (x : (Nat → VS) × (VS) × (Int32)) (h : fL_law_704 L xs k18 x = some z) : GL_law_704 p l e s m args below meth c D cA A ad ad2 b L xs z x := by
  obtain ⟨X, Y, x_3⟩ := x
  intro H locs ls hw hl
  have hw : Wd D A s.heap (wR cA ad X ++ wM cA ad2 Y) H locs := hw
  have hl : lv_has ls 4 [(0, .ref b), (1, .ref (ad 0)), (2, .ref (ad2 0)), (3, .int x_3)] := hl
  have hx := C.1.1
  have hb := C.1.2.1
  have h : (rd L xs (x_3 + (1 : Int32)) (fun r1 => rd L xs (x_3 + (2 : Int32)) (fun r2 => rd L xs (x_3 + (3 : Int32)) (fun r3 => cl (fX1_move X r1 r2 r3) (fun q4 => rd L xs (x_3 + (1 : Int32)) (fun r5 => rd L xs (x_3 + (2 : Int32)) (fun r6 => rd L xs (x_3 + (3 : Int32)) (fun r7 => cl (fX2_move Y r5 r6 r7) (fun q8 => if q4.1 = q8.1 then fL_law_1196 L xs k18 (q4.2, q8.2, x_3) else none))))))))) = some z := h
  refine lv_aload_n hx hb dL_law_704 rfl (lv_at hl 1 rfl) ?_
  refine lv_aload_n hx hb dL_law_705 rfl (lv_at hl 0 rfl) ?_
  refine lv_iload_n hx hb dL_law_706 rfl (lv_at hl 3 rfl) ?_
  refine lv_iconst (v := 1) hx hb dL_law_707 (by decide) ?_
  refine lv_iadd hx hb dL_law_708 ?_
  obtain ⟨r1, ir1, er1, h⟩ := rd_some h
  refine va_sld hx hb hr.1 hr.2.1 hr.2.2.1 hw.2.2 ir1 dL_law_709 ?_
  rw [← er1]
  refine lv_aload_n hx hb dL_law_710 rfl (lv_at hl 0 rfl) ?_
  refine lv_iload_n hx hb dL_law_711 rfl (lv_at hl 3 rfl) ?_
  refine lv_iconst (v := 2) hx hb dL_law_712 (by decide) ?_
  refine lv_iadd hx hb dL_law_713 ?_
  obtain ⟨r2, ir2, er2, h⟩ := rd_some h
  refine va_sld hx hb hr.1 hr.2.1 hr.2.2.1 hw.2.2 ir2 dL_law_714 ?_
  rw [← er2]
  refine lv_aload_n hx hb dL_law_715 rfl (lv_at hl 0 rfl) ?_
  refine lv_iload_n hx hb dL_law_716 rfl (lv_at hl 3 rfl) ?_
  refine lv_iconst (v := 3) hx hb dL_law_717 (by decide) ?_
  refine lv_iadd hx hb dL_law_718 ?_
  obtain ⟨r3, ir3, er3, h⟩ := rd_some h
  refine va_sld hx hb hr.1 hr.2.1 hr.2.2.1 hw.2.2 ir3 dL_law_719 ?_
  rw [← er3]
  obtain ⟨q4, hq4, h⟩ := cl_some h
  refine cVi (ws2 := (wR cA ad q4.2 ++ wM cA ad2 Y)) (As := [.int r1, .int r2, .int r3]) (rest := []) C hw jLX (kX1_move ad hq4) kl_RL_89 ki_yX1_move ks_yX1_move kn_RX1 kc_yX1_move ⟨rfl, rfl⟩ hdX1_move ⟨Nat.le_of_ble_eq_true rfl, Nat.le_of_ble_eq_true rfl⟩ (ci := 1) (q0 := 0) rfl rfl rfl rfl hl.1 (Nat.le_of_ble_eq_true rfl) dL_law_720 ⟨Nat.le_of_ble_eq_true rfl, Nat.le_of_ble_eq_true rfl⟩ (fun H locs hw => ?_)
  refine lv_aload_n hx hb dL_law_723 rfl (lv_at hl 2 rfl) ?_
  refine lv_aload_n hx hb dL_law_724 rfl (lv_at hl 0 rfl) ?_
  refine lv_iload_n hx hb dL_law_725 rfl (lv_at hl 3 rfl) ?_
  refine lv_iconst (v := 1) hx hb dL_law_726 (by decide) ?_
  refine lv_iadd hx hb dL_law_727 ?_
  obtain ⟨r5, ir5, er5, h⟩ := rd_some h
  refine va_sld hx hb hr.1 hr.2.1 hr.2.2.1 hw.2.2 ir5 dL_law_728 ?_
  rw [← er5]
  refine lv_aload_n hx hb dL_law_729 rfl (lv_at hl 0 rfl) ?_
  refine lv_iload_n hx hb dL_law_730 rfl (lv_at hl 3 rfl) ?_
  refine lv_iconst (v := 2) hx hb dL_law_731 (by decide) ?_
  refine lv_iadd hx hb dL_law_732 ?_
  obtain ⟨r6, ir6, er6, h⟩ := rd_some h
  refine va_sld hx hb hr.1 hr.2.1 hr.2.2.1 hw.2.2 ir6 dL_law_733 ?_
  rw [← er6]
  refine lv_aload_n hx hb dL_law_734 rfl (lv_at hl 0 rfl) ?_
  refine lv_iload_n hx hb dL_law_735 rfl (lv_at hl 3 rfl) ?_
  refine lv_iconst (v := 3) hx hb dL_law_736 (by decide) ?_
  refine lv_iadd hx hb dL_law_737 ?_
  obtain ⟨r7, ir7, er7, h⟩ := rd_some h
  refine va_sld hx hb hr.1 hr.2.1 hr.2.2.1 hw.2.2 ir7 dL_law_738 ?_
  rw [← er7]
  obtain ⟨q8, hq8, h⟩ := cl_some h
  refine cVi (ws2 := (wR cA ad q4.2 ++ wM cA ad2 q8.2)) (As := [.int r5, .int r6, .int r7]) (rest := [.int q4.1]) C hw jLY (kX2_move ad2 hq8) kl_RL_92 ki_yX2_move ks_yX2_move kn_RX2 kc_yX2_move ⟨rfl, rfl⟩ hdX2_move ⟨Nat.le_of_ble_eq_true rfl, Nat.le_of_ble_eq_true rfl⟩ (ci := 2) (q0 := 0) rfl rfl rfl rfl hl.1 (Nat.le_of_ble_eq_true rfl) dL_law_739 ⟨Nat.le_of_ble_eq_true rfl, Nat.le_of_ble_eq_true rfl⟩ (fun H locs hw => ?_)
  refine lv_icmp_eq (tgt := 1196) hx hb dL_law_742 (by decide) (fun c9 => ?_) (fun c9 => ?_)
  · replace h := (if_pos c9).symm.trans h
    exact kL_law_1196 C hr k18 hk18 (q4.2, q8.2, x_3) h _ _ _ hw (lv_sub hl [0, 1, 2, 3] rfl)
  · replace h := (if_neg c9).symm.trans h
    cases h
set_option maxHeartbeats 4000000 in
set_option maxRecDepth 100000 in
theorem kL_law_747 {L : Nat} {xs : Nat → Int32} (C : Cx p s m args meth c cL_law 4 RL D cA g A) (hr : va_X b L xs s s.heap ∧ b < s.heap.size ∧ ¬ A b ∧ (∀ q, A q → s.heap.size ≤ q) ∧ meth.sig.returnType = ret ∧ meth.locks = false ∧ args = #[Value.ref b]) {z : Unit} (k18 : ((Nat → VS) × (VS) × (Int32)) → Option Unit) (hk18 : ∀ x, k18 x = some z → GL_law_18 p l e s m args below meth c D cA A ad ad2 b L xs z x) (x : (Nat → VS) × (VS) × (Int32)) (h : fL_law_747 L xs k18 x = some z) : GL_law_747 p l e s m args below meth c D cA A ad ad2 b L xs z x := by
  obtain ⟨X, Y, x_3⟩ := x
  intro H locs ls hw hl
  have hw : Wd D A s.heap (wR cA ad X ++ wM cA ad2 Y) H locs := hw
  have hl : lv_has ls 4 [(0, .ref b), (1, .ref (ad 0)), (2, .ref (ad2 0)), (3, .int x_3)] := hl
  have hx := C.1.1
  have hb := C.1.2.1
  have h : (rd L xs (x_3 + (1 : Int32)) (fun r1 => cl (fX1_forgo X r1) (fun q2 => rd L xs (x_3 + (1 : Int32)) (fun r3 => cl (fX2_forgo Y r3) (fun q4 => if q2.1 = q4.1 then fL_law_1196 L xs k18 (q2.2, q4.2, x_3) else none))))) = some z := h
  refine lv_aload_n hx hb dL_law_747 rfl (lv_at hl 1 rfl) ?_
  refine lv_aload_n hx hb dL_law_748 rfl (lv_at hl 0 rfl) ?_
  refine lv_iload_n hx hb dL_law_749 rfl (lv_at hl 3 rfl) ?_
  refine lv_iconst (v := 1) hx hb dL_law_750 (by decide) ?_
  refine lv_iadd hx hb dL_law_751 ?_
  obtain ⟨r1, ir1, er1, h⟩ := rd_some h
  refine va_sld hx hb hr.1 hr.2.1 hr.2.2.1 hw.2.2 ir1 dL_law_752 ?_
  rw [← er1]
  obtain ⟨q2, hq2, h⟩ := cl_some h
  refine cVi (ws2 := (wR cA ad q2.2 ++ wM cA ad2 Y)) (As := [.int r1]) (rest := []) C hw jLX (kX1_forgo ad hq2) kl_RL_93 ki_yX1_forgo ks_yX1_forgo kn_RX1 kc_yX1_forgo ⟨rfl, rfl⟩ hdX1_forgo ⟨Nat.le_of_ble_eq_true rfl, Nat.le_of_ble_eq_true rfl⟩ (ci := 1) (q0 := 0) rfl rfl rfl rfl hl.1 (Nat.le_of_ble_eq_true rfl) dL_law_753 ⟨Nat.le_of_ble_eq_true rfl, Nat.le_of_ble_eq_true rfl⟩ (fun H locs hw => ?_)
  refine lv_aload_n hx hb dL_law_756 rfl (lv_at hl 2 rfl) ?_
  refine lv_aload_n hx hb dL_law_757 rfl (lv_at hl 0 rfl) ?_
  refine lv_iload_n hx hb dL_law_758 rfl (lv_at hl 3 rfl) ?_
  refine lv_iconst (v := 1) hx hb dL_law_759 (by decide) ?_
  refine lv_iadd hx hb dL_law_760 ?_
  obtain ⟨r3, ir3, er3, h⟩ := rd_some h
  refine va_sld hx hb hr.1 hr.2.1 hr.2.2.1 hw.2.2 ir3 dL_law_761 ?_
  rw [← er3]
  obtain ⟨q4, hq4, h⟩ := cl_some h
  refine cVi (ws2 := (wR cA ad q2.2 ++ wM cA ad2 q4.2)) (As := [.int r3]) (rest := [.int q2.1]) C hw jLY (kX2_forgo ad2 hq4) kl_RL_96 ki_yX2_forgo ks_yX2_forgo kn_RX2 kc_yX2_forgo ⟨rfl, rfl⟩ hdX2_forgo ⟨Nat.le_of_ble_eq_true rfl, Nat.le_of_ble_eq_true rfl⟩ (ci := 2) (q0 := 0) rfl rfl rfl rfl hl.1 (Nat.le_of_ble_eq_true rfl) dL_law_762 ⟨Nat.le_of_ble_eq_true rfl, Nat.le_of_ble_eq_true rfl⟩ (fun H locs hw => ?_)
  refine lv_icmp_eq (tgt := 1196) hx hb dL_law_765 (by decide) (fun c5 => ?_) (fun c5 => ?_)
  · replace h := (if_pos c5).symm.trans h
    exact kL_law_1196 C hr k18 hk18 (q2.2, q4.2, x_3) h _ _ _ hw (lv_sub hl [0, 1, 2, 3] rfl)
  · replace h := (if_neg c5).symm.trans h
    cases h
set_option maxHeartbeats 4000000 in
set_option maxRecDepth 100000 in
theorem kL_law_770 {L : Nat} {xs : Nat → Int32} (C : Cx p s m args meth c cL_law 4 RL D cA g A) (hr : va_X b L xs s s.heap ∧ b < s.heap.size ∧ ¬ A b ∧ (∀ q, A q → s.heap.size ≤ q) ∧ meth.sig.returnType = ret ∧ meth.locks = false ∧ args = #[Value.ref b]) {z : Unit} (k18 : ((Nat → VS) × (VS) × (Int32)) → Option Unit) (hk18 : ∀ x, k18 x = some z → GL_law_18 p l e s m args below meth c D cA A ad ad2 b L xs z x) (x : (Nat → VS) × (VS) × (Int32)) (h : fL_law_770 L xs k18 x = some z) : GL_law_770 p l e s m args below meth c D cA A ad ad2 b L xs z x := by
  obtain ⟨X, Y, x_3⟩ := x
  intro H locs ls hw hl
  have hw : Wd D A s.heap (wR cA ad X ++ wM cA ad2 Y) H locs := hw
  have hl : lv_has ls 4 [(0, .ref b), (1, .ref (ad 0)), (2, .ref (ad2 0)), (3, .int x_3)] := hl
  have hx := C.1.1
  have hb := C.1.2.1
  have h : (rd L xs (x_3 + (1 : Int32)) (fun r1 => cl (fX1_firstUp X r1) (fun q2 => rd L xs (x_3 + (1 : Int32)) (fun r3 => cl (fX2_firstUp Y r3) (fun q4 => if q2.1 = q4.1 then fL_law_1196 L xs k18 (q2.2, q4.2, x_3) else none))))) = some z := h
  refine lv_aload_n hx hb dL_law_770 rfl (lv_at hl 1 rfl) ?_
  refine lv_aload_n hx hb dL_law_771 rfl (lv_at hl 0 rfl) ?_
  refine lv_iload_n hx hb dL_law_772 rfl (lv_at hl 3 rfl) ?_
  refine lv_iconst (v := 1) hx hb dL_law_773 (by decide) ?_
  refine lv_iadd hx hb dL_law_774 ?_
  obtain ⟨r1, ir1, er1, h⟩ := rd_some h
  refine va_sld hx hb hr.1 hr.2.1 hr.2.2.1 hw.2.2 ir1 dL_law_775 ?_
  rw [← er1]
  obtain ⟨q2, hq2, h⟩ := cl_some h
  refine cVi (ws2 := (wR cA ad q2.2 ++ wM cA ad2 Y)) (As := [.int r1]) (rest := []) C hw jLX (kX1_firstUp ad hq2) kl_RL_97 ki_yX1_firstUp ks_yX1_firstUp kn_RX1 kc_yX1_firstUp ⟨rfl, rfl⟩ hdX1_firstUp ⟨Nat.le_of_ble_eq_true rfl, Nat.le_of_ble_eq_true rfl⟩ (ci := 1) (q0 := 0) rfl rfl rfl rfl hl.1 (Nat.le_of_ble_eq_true rfl) dL_law_776 ⟨Nat.le_of_ble_eq_true rfl, Nat.le_of_ble_eq_true rfl⟩ (fun H locs hw => ?_)
  refine lv_aload_n hx hb dL_law_779 rfl (lv_at hl 2 rfl) ?_
  refine lv_aload_n hx hb dL_law_780 rfl (lv_at hl 0 rfl) ?_
  refine lv_iload_n hx hb dL_law_781 rfl (lv_at hl 3 rfl) ?_
  refine lv_iconst (v := 1) hx hb dL_law_782 (by decide) ?_
  refine lv_iadd hx hb dL_law_783 ?_
  obtain ⟨r3, ir3, er3, h⟩ := rd_some h
  refine va_sld hx hb hr.1 hr.2.1 hr.2.2.1 hw.2.2 ir3 dL_law_784 ?_
  rw [← er3]
  obtain ⟨q4, hq4, h⟩ := cl_some h
  refine cVi (ws2 := (wR cA ad q2.2 ++ wM cA ad2 q4.2)) (As := [.int r3]) (rest := [.int q2.1]) C hw jLY (kX2_firstUp ad2 hq4) kl_RL_100 ki_yX2_firstUp ks_yX2_firstUp kn_RX2 kc_yX2_firstUp ⟨rfl, rfl⟩ hdX2_firstUp ⟨Nat.le_of_ble_eq_true rfl, Nat.le_of_ble_eq_true rfl⟩ (ci := 2) (q0 := 0) rfl rfl rfl rfl hl.1 (Nat.le_of_ble_eq_true rfl) dL_law_785 ⟨Nat.le_of_ble_eq_true rfl, Nat.le_of_ble_eq_true rfl⟩ (fun H locs hw => ?_)
  refine lv_icmp_eq (tgt := 1196) hx hb dL_law_788 (by decide) (fun c5 => ?_) (fun c5 => ?_)
  · replace h := (if_pos c5).symm.trans h
    exact kL_law_1196 C hr k18 hk18 (q2.2, q4.2, x_3) h _ _ _ hw (lv_sub hl [0, 1, 2, 3] rfl)
  · replace h := (if_neg c5).symm.trans h
    cases h
set_option maxHeartbeats 4000000 in
set_option maxRecDepth 100000 in
theorem kL_law_793 {L : Nat} {xs : Nat → Int32} (C : Cx p s m args meth c cL_law 4 RL D cA g A) (hr : va_X b L xs s s.heap ∧ b < s.heap.size ∧ ¬ A b ∧ (∀ q, A q → s.heap.size ≤ q) ∧ meth.sig.returnType = ret ∧ meth.locks = false ∧ args = #[Value.ref b]) {z : Unit} (k18 : ((Nat → VS) × (VS) × (Int32)) → Option Unit) (hk18 : ∀ x, k18 x = some z → GL_law_18 p l e s m args below meth c D cA A ad ad2 b L xs z x) (x : (Nat → VS) × (VS) × (Int32)) (h : fL_law_793 L xs k18 x = some z) : GL_law_793 p l e s m args below meth c D cA A ad ad2 b L xs z x := by
  obtain ⟨X, Y, x_3⟩ := x
  intro H locs ls hw hl
  have hw : Wd D A s.heap (wR cA ad X ++ wM cA ad2 Y) H locs := hw
  have hl : lv_has ls 4 [(0, .ref b), (1, .ref (ad 0)), (2, .ref (ad2 0)), (3, .int x_3)] := hl
  have hx := C.1.1
  have hb := C.1.2.1
  have h : (rd L xs (x_3 + (1 : Int32)) (fun r1 => cl (fX1_longest X r1) (fun q2 => rd L xs (x_3 + (1 : Int32)) (fun r3 => cl (fX2_longest Y r3) (fun q4 => if q2.1 = q4.1 then fL_law_1196 L xs k18 (q2.2, q4.2, x_3) else none))))) = some z := h
  refine lv_aload_n hx hb dL_law_793 rfl (lv_at hl 1 rfl) ?_
  refine lv_aload_n hx hb dL_law_794 rfl (lv_at hl 0 rfl) ?_
  refine lv_iload_n hx hb dL_law_795 rfl (lv_at hl 3 rfl) ?_
  refine lv_iconst (v := 1) hx hb dL_law_796 (by decide) ?_
  refine lv_iadd hx hb dL_law_797 ?_
  obtain ⟨r1, ir1, er1, h⟩ := rd_some h
  refine va_sld hx hb hr.1 hr.2.1 hr.2.2.1 hw.2.2 ir1 dL_law_798 ?_
  rw [← er1]
  obtain ⟨q2, hq2, h⟩ := cl_some h
  refine cVi (ws2 := (wR cA ad q2.2 ++ wM cA ad2 Y)) (As := [.int r1]) (rest := []) C hw jLX (kX1_longest ad hq2) kl_RL_101 ki_yX1_longest ks_yX1_longest kn_RX1 kc_yX1_longest ⟨rfl, rfl⟩ hdX1_longest ⟨Nat.le_of_ble_eq_true rfl, Nat.le_of_ble_eq_true rfl⟩ (ci := 1) (q0 := 0) rfl rfl rfl rfl hl.1 (Nat.le_of_ble_eq_true rfl) dL_law_799 ⟨Nat.le_of_ble_eq_true rfl, Nat.le_of_ble_eq_true rfl⟩ (fun H locs hw => ?_)
  refine lv_aload_n hx hb dL_law_802 rfl (lv_at hl 2 rfl) ?_
  refine lv_aload_n hx hb dL_law_803 rfl (lv_at hl 0 rfl) ?_
  refine lv_iload_n hx hb dL_law_804 rfl (lv_at hl 3 rfl) ?_
  refine lv_iconst (v := 1) hx hb dL_law_805 (by decide) ?_
  refine lv_iadd hx hb dL_law_806 ?_
  obtain ⟨r3, ir3, er3, h⟩ := rd_some h
  refine va_sld hx hb hr.1 hr.2.1 hr.2.2.1 hw.2.2 ir3 dL_law_807 ?_
  rw [← er3]
  obtain ⟨q4, hq4, h⟩ := cl_some h
  refine cVi (ws2 := (wR cA ad q2.2 ++ wM cA ad2 q4.2)) (As := [.int r3]) (rest := [.int q2.1]) C hw jLY (kX2_longest ad2 hq4) kl_RL_104 ki_yX2_longest ks_yX2_longest kn_RX2 kc_yX2_longest ⟨rfl, rfl⟩ hdX2_longest ⟨Nat.le_of_ble_eq_true rfl, Nat.le_of_ble_eq_true rfl⟩ (ci := 2) (q0 := 0) rfl rfl rfl rfl hl.1 (Nat.le_of_ble_eq_true rfl) dL_law_808 ⟨Nat.le_of_ble_eq_true rfl, Nat.le_of_ble_eq_true rfl⟩ (fun H locs hw => ?_)
  refine lv_icmp_eq (tgt := 1196) hx hb dL_law_811 (by decide) (fun c5 => ?_) (fun c5 => ?_)
  · replace h := (if_pos c5).symm.trans h
    exact kL_law_1196 C hr k18 hk18 (q2.2, q4.2, x_3) h _ _ _ hw (lv_sub hl [0, 1, 2, 3] rfl)
  · replace h := (if_neg c5).symm.trans h
    cases h
set_option maxHeartbeats 4000000 in
set_option maxRecDepth 100000 in
theorem kL_law_816 {L : Nat} {xs : Nat → Int32} (C : Cx p s m args meth c cL_law 4 RL D cA g A) (hr : va_X b L xs s s.heap ∧ b < s.heap.size ∧ ¬ A b ∧ (∀ q, A q → s.heap.size ≤ q) ∧ meth.sig.returnType = ret ∧ meth.locks = false ∧ args = #[Value.ref b]) {z : Unit} (k18 : ((Nat → VS) × (VS) × (Int32)) → Option Unit) (hk18 : ∀ x, k18 x = some z → GL_law_18 p l e s m args below meth c D cA A ad ad2 b L xs z x) (x : (Nat → VS) × (VS) × (Int32)) (h : fL_law_816 L xs k18 x = some z) : GL_law_816 p l e s m args below meth c D cA A ad ad2 b L xs z x := by
  obtain ⟨X, Y, x_3⟩ := x
  intro H locs ls hw hl
  have hw : Wd D A s.heap (wR cA ad X ++ wM cA ad2 Y) H locs := hw
  have hl : lv_has ls 4 [(0, .ref b), (1, .ref (ad 0)), (2, .ref (ad2 0)), (3, .int x_3)] := hl
  have hx := C.1.1
  have hb := C.1.2.1
  have h : (rd L xs (x_3 + (1 : Int32)) (fun r1 => cl (fX1_seen X r1) (fun q2 => rd L xs (x_3 + (1 : Int32)) (fun r3 => cl (fX2_seen Y r3) (fun q4 => if q2.1 = q4.1 then fL_law_1196 L xs k18 (q2.2, q4.2, x_3) else none))))) = some z := h
  refine lv_aload_n hx hb dL_law_816 rfl (lv_at hl 1 rfl) ?_
  refine lv_aload_n hx hb dL_law_817 rfl (lv_at hl 0 rfl) ?_
  refine lv_iload_n hx hb dL_law_818 rfl (lv_at hl 3 rfl) ?_
  refine lv_iconst (v := 1) hx hb dL_law_819 (by decide) ?_
  refine lv_iadd hx hb dL_law_820 ?_
  obtain ⟨r1, ir1, er1, h⟩ := rd_some h
  refine va_sld hx hb hr.1 hr.2.1 hr.2.2.1 hw.2.2 ir1 dL_law_821 ?_
  rw [← er1]
  obtain ⟨q2, hq2, h⟩ := cl_some h
  refine cVi (ws2 := (wR cA ad q2.2 ++ wM cA ad2 Y)) (As := [.int r1]) (rest := []) C hw jLX (kX1_seen ad hq2) kl_RL_105 ki_yX1_seen ks_yX1_seen kn_RX1 kc_yX1_seen ⟨rfl, rfl⟩ hdX1_seen ⟨Nat.le_of_ble_eq_true rfl, Nat.le_of_ble_eq_true rfl⟩ (ci := 1) (q0 := 0) rfl rfl rfl rfl hl.1 (Nat.le_of_ble_eq_true rfl) dL_law_822 ⟨Nat.le_of_ble_eq_true rfl, Nat.le_of_ble_eq_true rfl⟩ (fun H locs hw => ?_)
  refine lv_aload_n hx hb dL_law_825 rfl (lv_at hl 2 rfl) ?_
  refine lv_aload_n hx hb dL_law_826 rfl (lv_at hl 0 rfl) ?_
  refine lv_iload_n hx hb dL_law_827 rfl (lv_at hl 3 rfl) ?_
  refine lv_iconst (v := 1) hx hb dL_law_828 (by decide) ?_
  refine lv_iadd hx hb dL_law_829 ?_
  obtain ⟨r3, ir3, er3, h⟩ := rd_some h
  refine va_sld hx hb hr.1 hr.2.1 hr.2.2.1 hw.2.2 ir3 dL_law_830 ?_
  rw [← er3]
  obtain ⟨q4, hq4, h⟩ := cl_some h
  refine cVi (ws2 := (wR cA ad q2.2 ++ wM cA ad2 q4.2)) (As := [.int r3]) (rest := [.int q2.1]) C hw jLY (kX2_seen ad2 hq4) kl_RL_108 ki_yX2_seen ks_yX2_seen kn_RX2 kc_yX2_seen ⟨rfl, rfl⟩ hdX2_seen ⟨Nat.le_of_ble_eq_true rfl, Nat.le_of_ble_eq_true rfl⟩ (ci := 2) (q0 := 0) rfl rfl rfl rfl hl.1 (Nat.le_of_ble_eq_true rfl) dL_law_831 ⟨Nat.le_of_ble_eq_true rfl, Nat.le_of_ble_eq_true rfl⟩ (fun H locs hw => ?_)
  refine lv_icmp_eq (tgt := 1196) hx hb dL_law_834 (by decide) (fun c5 => ?_) (fun c5 => ?_)
  · replace h := (if_pos c5).symm.trans h
    exact kL_law_1196 C hr k18 hk18 (q2.2, q4.2, x_3) h _ _ _ hw (lv_sub hl [0, 1, 2, 3] rfl)
  · replace h := (if_neg c5).symm.trans h
    cases h
set_option maxHeartbeats 4000000 in
set_option maxRecDepth 100000 in
theorem kL_law_839 {L : Nat} {xs : Nat → Int32} (C : Cx p s m args meth c cL_law 4 RL D cA g A) (hr : va_X b L xs s s.heap ∧ b < s.heap.size ∧ ¬ A b ∧ (∀ q, A q → s.heap.size ≤ q) ∧ meth.sig.returnType = ret ∧ meth.locks = false ∧ args = #[Value.ref b]) {z : Unit} (k18 : ((Nat → VS) × (VS) × (Int32)) → Option Unit) (hk18 : ∀ x, k18 x = some z → GL_law_18 p l e s m args below meth c D cA A ad ad2 b L xs z x) (x : (Nat → VS) × (VS) × (Int32)) (h : fL_law_839 L xs k18 x = some z) : GL_law_839 p l e s m args below meth c D cA A ad ad2 b L xs z x := by
  obtain ⟨X, Y, x_3⟩ := x
  intro H locs ls hw hl
  have hw : Wd D A s.heap (wR cA ad X ++ wM cA ad2 Y) H locs := hw
  have hl : lv_has ls 4 [(0, .ref b), (1, .ref (ad 0)), (2, .ref (ad2 0)), (3, .int x_3)] := hl
  have hx := C.1.1
  have hb := C.1.2.1
  have h : (rd L xs (x_3 + (1 : Int32)) (fun r1 => cl (fX1_words X r1) (fun q2 => rd L xs (x_3 + (1 : Int32)) (fun r3 => cl (fX2_words Y r3) (fun q4 => if q2.1 = q4.1 then fL_law_1196 L xs k18 (q2.2, q4.2, x_3) else none))))) = some z := h
  refine lv_aload_n hx hb dL_law_839 rfl (lv_at hl 1 rfl) ?_
  refine lv_aload_n hx hb dL_law_840 rfl (lv_at hl 0 rfl) ?_
  refine lv_iload_n hx hb dL_law_841 rfl (lv_at hl 3 rfl) ?_
  refine lv_iconst (v := 1) hx hb dL_law_842 (by decide) ?_
  refine lv_iadd hx hb dL_law_843 ?_
  obtain ⟨r1, ir1, er1, h⟩ := rd_some h
  refine va_sld hx hb hr.1 hr.2.1 hr.2.2.1 hw.2.2 ir1 dL_law_844 ?_
  rw [← er1]
  obtain ⟨q2, hq2, h⟩ := cl_some h
  refine cVi (ws2 := (wR cA ad q2.2 ++ wM cA ad2 Y)) (As := [.int r1]) (rest := []) C hw jLX (kX1_words ad hq2) kl_RL_109 ki_yX1_words ks_yX1_words kn_RX1 kc_yX1_words ⟨rfl, rfl⟩ hdX1_words ⟨Nat.le_of_ble_eq_true rfl, Nat.le_of_ble_eq_true rfl⟩ (ci := 1) (q0 := 0) rfl rfl rfl rfl hl.1 (Nat.le_of_ble_eq_true rfl) dL_law_845 ⟨Nat.le_of_ble_eq_true rfl, Nat.le_of_ble_eq_true rfl⟩ (fun H locs hw => ?_)
  refine lv_aload_n hx hb dL_law_848 rfl (lv_at hl 2 rfl) ?_
  refine lv_aload_n hx hb dL_law_849 rfl (lv_at hl 0 rfl) ?_
  refine lv_iload_n hx hb dL_law_850 rfl (lv_at hl 3 rfl) ?_
  refine lv_iconst (v := 1) hx hb dL_law_851 (by decide) ?_
  refine lv_iadd hx hb dL_law_852 ?_
  obtain ⟨r3, ir3, er3, h⟩ := rd_some h
  refine va_sld hx hb hr.1 hr.2.1 hr.2.2.1 hw.2.2 ir3 dL_law_853 ?_
  rw [← er3]
  obtain ⟨q4, hq4, h⟩ := cl_some h
  refine cVi (ws2 := (wR cA ad q2.2 ++ wM cA ad2 q4.2)) (As := [.int r3]) (rest := [.int q2.1]) C hw jLY (kX2_words ad2 hq4) kl_RL_112 ki_yX2_words ks_yX2_words kn_RX2 kc_yX2_words ⟨rfl, rfl⟩ hdX2_words ⟨Nat.le_of_ble_eq_true rfl, Nat.le_of_ble_eq_true rfl⟩ (ci := 2) (q0 := 0) rfl rfl rfl rfl hl.1 (Nat.le_of_ble_eq_true rfl) dL_law_854 ⟨Nat.le_of_ble_eq_true rfl, Nat.le_of_ble_eq_true rfl⟩ (fun H locs hw => ?_)
  refine lv_icmp_eq (tgt := 1196) hx hb dL_law_857 (by decide) (fun c5 => ?_) (fun c5 => ?_)
  · replace h := (if_pos c5).symm.trans h
    exact kL_law_1196 C hr k18 hk18 (q2.2, q4.2, x_3) h _ _ _ hw (lv_sub hl [0, 1, 2, 3] rfl)
  · replace h := (if_neg c5).symm.trans h
    cases h
set_option maxHeartbeats 4000000 in
set_option maxRecDepth 100000 in
theorem kL_law_862 {L : Nat} {xs : Nat → Int32} (C : Cx p s m args meth c cL_law 4 RL D cA g A) (hr : va_X b L xs s s.heap ∧ b < s.heap.size ∧ ¬ A b ∧ (∀ q, A q → s.heap.size ≤ q) ∧ meth.sig.returnType = ret ∧ meth.locks = false ∧ args = #[Value.ref b]) {z : Unit} (k18 : ((Nat → VS) × (VS) × (Int32)) → Option Unit) (hk18 : ∀ x, k18 x = some z → GL_law_18 p l e s m args below meth c D cA A ad ad2 b L xs z x) (x : (Nat → VS) × (VS) × (Int32)) (h : fL_law_862 L xs k18 x = some z) : GL_law_862 p l e s m args below meth c D cA A ad ad2 b L xs z x := by
  obtain ⟨X, Y, x_3⟩ := x
  intro H locs ls hw hl
  have hw : Wd D A s.heap (wR cA ad X ++ wM cA ad2 Y) H locs := hw
  have hl : lv_has ls 4 [(0, .ref b), (1, .ref (ad 0)), (2, .ref (ad2 0)), (3, .int x_3)] := hl
  have hx := C.1.1
  have hb := C.1.2.1
  have h : (cl (fX1_near X) (fun r1 => cl (fX2_near Y) (fun r2 => if r1 = r2 then fL_law_1196 L xs k18 (X, Y, x_3) else none))) = some z := h
  refine lv_aload_n hx hb dL_law_862 rfl (lv_at hl 1 rfl) ?_
  obtain ⟨r1, hr1, h⟩ := cl_some h
  refine cVi (ws2 := (wR cA ad X ++ wM cA ad2 Y)) (As := []) (rest := []) C hw jLX (kX1_near ad hr1) kl_RL_113 ki_yX1_near ks_yX1_near kn_RX1 kc_yX1_near ⟨rfl, rfl⟩ hdX1_near ⟨Nat.le_of_ble_eq_true rfl, Nat.le_of_ble_eq_true rfl⟩ (ci := 1) (q0 := 0) rfl rfl rfl rfl hl.1 (Nat.le_of_ble_eq_true rfl) dL_law_863 ⟨Nat.le_of_ble_eq_true rfl, Nat.le_of_ble_eq_true rfl⟩ (fun H locs hw => ?_)
  refine lv_aload_n hx hb dL_law_866 rfl (lv_at hl 2 rfl) ?_
  obtain ⟨r2, hr2, h⟩ := cl_some h
  refine cVi (ws2 := (wR cA ad X ++ wM cA ad2 Y)) (As := []) (rest := [.int r1]) C hw jLY (kX2_near ad2 hr2) kl_RL_116 ki_yX2_near ks_yX2_near kn_RX2 kc_yX2_near ⟨rfl, rfl⟩ hdX2_near ⟨Nat.le_of_ble_eq_true rfl, Nat.le_of_ble_eq_true rfl⟩ (ci := 2) (q0 := 0) rfl rfl rfl rfl hl.1 (Nat.le_of_ble_eq_true rfl) dL_law_867 ⟨Nat.le_of_ble_eq_true rfl, Nat.le_of_ble_eq_true rfl⟩ (fun H locs hw => ?_)
  refine lv_icmp_eq (tgt := 1196) hx hb dL_law_870 (by decide) (fun c3 => ?_) (fun c3 => ?_)
  · replace h := (if_pos c3).symm.trans h
    exact kL_law_1196 C hr k18 hk18 (X, Y, x_3) h _ _ _ hw (lv_sub hl [0, 1, 2, 3] rfl)
  · replace h := (if_neg c3).symm.trans h
    cases h
set_option maxHeartbeats 4000000 in
set_option maxRecDepth 100000 in
theorem kL_law_875 {L : Nat} {xs : Nat → Int32} (C : Cx p s m args meth c cL_law 4 RL D cA g A) (hr : va_X b L xs s s.heap ∧ b < s.heap.size ∧ ¬ A b ∧ (∀ q, A q → s.heap.size ≤ q) ∧ meth.sig.returnType = ret ∧ meth.locks = false ∧ args = #[Value.ref b]) {z : Unit} (k18 : ((Nat → VS) × (VS) × (Int32)) → Option Unit) (hk18 : ∀ x, k18 x = some z → GL_law_18 p l e s m args below meth c D cA A ad ad2 b L xs z x) (x : (Nat → VS) × (VS) × (Int32)) (h : fL_law_875 L xs k18 x = some z) : GL_law_875 p l e s m args below meth c D cA A ad ad2 b L xs z x := by
  obtain ⟨X, Y, x_3⟩ := x
  intro H locs ls hw hl
  have hw : Wd D A s.heap (wR cA ad X ++ wM cA ad2 Y) H locs := hw
  have hl : lv_has ls 4 [(0, .ref b), (1, .ref (ad 0)), (2, .ref (ad2 0)), (3, .int x_3)] := hl
  have hx := C.1.1
  have hb := C.1.2.1
  have h : (cl (fX1_alone X) (fun r1 => cl (fX2_alone Y) (fun r2 => if r1 = r2 then fL_law_1196 L xs k18 (X, Y, x_3) else none))) = some z := h
  refine lv_aload_n hx hb dL_law_875 rfl (lv_at hl 1 rfl) ?_
  obtain ⟨r1, hr1, h⟩ := cl_some h
  refine cVi (ws2 := (wR cA ad X ++ wM cA ad2 Y)) (As := []) (rest := []) C hw jLX (kX1_alone ad hr1) kl_RL_117 ki_yX1_alone ks_yX1_alone kn_RX1 kc_yX1_alone ⟨rfl, rfl⟩ hdX1_alone ⟨Nat.le_of_ble_eq_true rfl, Nat.le_of_ble_eq_true rfl⟩ (ci := 1) (q0 := 0) rfl rfl rfl rfl hl.1 (Nat.le_of_ble_eq_true rfl) dL_law_876 ⟨Nat.le_of_ble_eq_true rfl, Nat.le_of_ble_eq_true rfl⟩ (fun H locs hw => ?_)
  refine lv_aload_n hx hb dL_law_879 rfl (lv_at hl 2 rfl) ?_
  obtain ⟨r2, hr2, h⟩ := cl_some h
  refine cVi (ws2 := (wR cA ad X ++ wM cA ad2 Y)) (As := []) (rest := [.int r1]) C hw jLY (kX2_alone ad2 hr2) kl_RL_120 ki_yX2_alone ks_yX2_alone kn_RX2 kc_yX2_alone ⟨rfl, rfl⟩ hdX2_alone ⟨Nat.le_of_ble_eq_true rfl, Nat.le_of_ble_eq_true rfl⟩ (ci := 2) (q0 := 0) rfl rfl rfl rfl hl.1 (Nat.le_of_ble_eq_true rfl) dL_law_880 ⟨Nat.le_of_ble_eq_true rfl, Nat.le_of_ble_eq_true rfl⟩ (fun H locs hw => ?_)
  refine lv_icmp_eq (tgt := 1196) hx hb dL_law_883 (by decide) (fun c3 => ?_) (fun c3 => ?_)
  · replace h := (if_pos c3).symm.trans h
    exact kL_law_1196 C hr k18 hk18 (X, Y, x_3) h _ _ _ hw (lv_sub hl [0, 1, 2, 3] rfl)
  · replace h := (if_neg c3).symm.trans h
    cases h
set_option maxHeartbeats 4000000 in
set_option maxRecDepth 100000 in
theorem kL_law_888 {L : Nat} {xs : Nat → Int32} (C : Cx p s m args meth c cL_law 4 RL D cA g A) (hr : va_X b L xs s s.heap ∧ b < s.heap.size ∧ ¬ A b ∧ (∀ q, A q → s.heap.size ≤ q) ∧ meth.sig.returnType = ret ∧ meth.locks = false ∧ args = #[Value.ref b]) {z : Unit} (k18 : ((Nat → VS) × (VS) × (Int32)) → Option Unit) (hk18 : ∀ x, k18 x = some z → GL_law_18 p l e s m args below meth c D cA A ad ad2 b L xs z x) (x : (Nat → VS) × (VS) × (Int32)) (h : fL_law_888 L xs k18 x = some z) : GL_law_888 p l e s m args below meth c D cA A ad ad2 b L xs z x := by
  obtain ⟨X, Y, x_3⟩ := x
  intro H locs ls hw hl
  have hw : Wd D A s.heap (wR cA ad X ++ wM cA ad2 Y) H locs := hw
  have hl : lv_has ls 4 [(0, .ref b), (1, .ref (ad 0)), (2, .ref (ad2 0)), (3, .int x_3)] := hl
  have hx := C.1.1
  have hb := C.1.2.1
  have h : (cl (fX1_tell X) (fun r1 => cl (fX2_tell Y) (fun q2 => if r1 = q2.1 then fL_law_1196 L xs k18 (X, q2.2, x_3) else none))) = some z := h
  refine lv_aload_n hx hb dL_law_888 rfl (lv_at hl 1 rfl) ?_
  obtain ⟨r1, hr1, h⟩ := cl_some h
  refine cVi (ws2 := (wR cA ad X ++ wM cA ad2 Y)) (As := []) (rest := []) C hw jLX (kX1_tell ad hr1) kl_RL_121 ki_yX1_tell ks_yX1_tell kn_RX1 kc_yX1_tell ⟨rfl, rfl⟩ hdX1_tell ⟨Nat.le_of_ble_eq_true rfl, Nat.le_of_ble_eq_true rfl⟩ (ci := 1) (q0 := 0) rfl rfl rfl rfl hl.1 (Nat.le_of_ble_eq_true rfl) dL_law_889 ⟨Nat.le_of_ble_eq_true rfl, Nat.le_of_ble_eq_true rfl⟩ (fun H locs hw => ?_)
  refine lv_aload_n hx hb dL_law_892 rfl (lv_at hl 2 rfl) ?_
  obtain ⟨q2, hq2, h⟩ := cl_some h
  refine cVi (ws2 := (wR cA ad X ++ wM cA ad2 q2.2)) (As := []) (rest := [.int r1]) C hw jLY (kX2_tell ad2 hq2) kl_RL_124 ki_yX2_tell ks_yX2_tell kn_RX2 kc_yX2_tell ⟨rfl, rfl⟩ hdX2_tell ⟨Nat.le_of_ble_eq_true rfl, Nat.le_of_ble_eq_true rfl⟩ (ci := 2) (q0 := 0) rfl rfl rfl rfl hl.1 (Nat.le_of_ble_eq_true rfl) dL_law_893 ⟨Nat.le_of_ble_eq_true rfl, Nat.le_of_ble_eq_true rfl⟩ (fun H locs hw => ?_)
  refine lv_icmp_eq (tgt := 1196) hx hb dL_law_896 (by decide) (fun c3 => ?_) (fun c3 => ?_)
  · replace h := (if_pos c3).symm.trans h
    exact kL_law_1196 C hr k18 hk18 (X, q2.2, x_3) h _ _ _ hw (lv_sub hl [0, 1, 2, 3] rfl)
  · replace h := (if_neg c3).symm.trans h
    cases h
set_option maxHeartbeats 4000000 in
set_option maxRecDepth 100000 in
theorem kL_law_901 {L : Nat} {xs : Nat → Int32} (C : Cx p s m args meth c cL_law 4 RL D cA g A) (hr : va_X b L xs s s.heap ∧ b < s.heap.size ∧ ¬ A b ∧ (∀ q, A q → s.heap.size ≤ q) ∧ meth.sig.returnType = ret ∧ meth.locks = false ∧ args = #[Value.ref b]) {z : Unit} (k18 : ((Nat → VS) × (VS) × (Int32)) → Option Unit) (hk18 : ∀ x, k18 x = some z → GL_law_18 p l e s m args below meth c D cA A ad ad2 b L xs z x) (x : (Nat → VS) × (VS) × (Int32)) (h : fL_law_901 L xs k18 x = some z) : GL_law_901 p l e s m args below meth c D cA A ad ad2 b L xs z x := by
  obtain ⟨X, Y, x_3⟩ := x
  intro H locs ls hw hl
  have hw : Wd D A s.heap (wR cA ad X ++ wM cA ad2 Y) H locs := hw
  have hl : lv_has ls 4 [(0, .ref b), (1, .ref (ad 0)), (2, .ref (ad2 0)), (3, .int x_3)] := hl
  have hx := C.1.1
  have hb := C.1.2.1
  have h : (rd L xs (x_3 + (1 : Int32)) (fun r1 => rd L xs (x_3 + (2 : Int32)) (fun r2 => rd L xs (x_3 + (3 : Int32)) (fun r3 => cl (fX1_two X r1 r2 r3) (fun q4 => rd L xs (x_3 + (1 : Int32)) (fun r5 => rd L xs (x_3 + (2 : Int32)) (fun r6 => rd L xs (x_3 + (3 : Int32)) (fun r7 => cl (fX2_two Y r5 r6 r7) (fun q8 => if q4.1 = q8.1 then fL_law_1196 L xs k18 (q4.2, q8.2, x_3) else none))))))))) = some z := h
  refine lv_aload_n hx hb dL_law_901 rfl (lv_at hl 1 rfl) ?_
  refine lv_aload_n hx hb dL_law_902 rfl (lv_at hl 0 rfl) ?_
  refine lv_iload_n hx hb dL_law_903 rfl (lv_at hl 3 rfl) ?_
  refine lv_iconst (v := 1) hx hb dL_law_904 (by decide) ?_
  refine lv_iadd hx hb dL_law_905 ?_
  obtain ⟨r1, ir1, er1, h⟩ := rd_some h
  refine va_sld hx hb hr.1 hr.2.1 hr.2.2.1 hw.2.2 ir1 dL_law_906 ?_
  rw [← er1]
  refine lv_aload_n hx hb dL_law_907 rfl (lv_at hl 0 rfl) ?_
  refine lv_iload_n hx hb dL_law_908 rfl (lv_at hl 3 rfl) ?_
  refine lv_iconst (v := 2) hx hb dL_law_909 (by decide) ?_
  refine lv_iadd hx hb dL_law_910 ?_
  obtain ⟨r2, ir2, er2, h⟩ := rd_some h
  refine va_sld hx hb hr.1 hr.2.1 hr.2.2.1 hw.2.2 ir2 dL_law_911 ?_
  rw [← er2]
  refine lv_aload_n hx hb dL_law_912 rfl (lv_at hl 0 rfl) ?_
  refine lv_iload_n hx hb dL_law_913 rfl (lv_at hl 3 rfl) ?_
  refine lv_iconst (v := 3) hx hb dL_law_914 (by decide) ?_
  refine lv_iadd hx hb dL_law_915 ?_
  obtain ⟨r3, ir3, er3, h⟩ := rd_some h
  refine va_sld hx hb hr.1 hr.2.1 hr.2.2.1 hw.2.2 ir3 dL_law_916 ?_
  rw [← er3]
  obtain ⟨q4, hq4, h⟩ := cl_some h
  refine cVi (ws2 := (wR cA ad q4.2 ++ wM cA ad2 Y)) (As := [.int r1, .int r2, .int r3]) (rest := []) C hw jLX (kX1_two ad hq4) kl_RL_125 ki_yX1_two ks_yX1_two kn_RX1 kc_yX1_two ⟨rfl, rfl⟩ hdX1_two ⟨Nat.le_of_ble_eq_true rfl, Nat.le_of_ble_eq_true rfl⟩ (ci := 1) (q0 := 0) rfl rfl rfl rfl hl.1 (Nat.le_of_ble_eq_true rfl) dL_law_917 ⟨Nat.le_of_ble_eq_true rfl, Nat.le_of_ble_eq_true rfl⟩ (fun H locs hw => ?_)
  refine lv_aload_n hx hb dL_law_920 rfl (lv_at hl 2 rfl) ?_
  refine lv_aload_n hx hb dL_law_921 rfl (lv_at hl 0 rfl) ?_
  refine lv_iload_n hx hb dL_law_922 rfl (lv_at hl 3 rfl) ?_
  refine lv_iconst (v := 1) hx hb dL_law_923 (by decide) ?_
  refine lv_iadd hx hb dL_law_924 ?_
  obtain ⟨r5, ir5, er5, h⟩ := rd_some h
  refine va_sld hx hb hr.1 hr.2.1 hr.2.2.1 hw.2.2 ir5 dL_law_925 ?_
  rw [← er5]
  refine lv_aload_n hx hb dL_law_926 rfl (lv_at hl 0 rfl) ?_
  refine lv_iload_n hx hb dL_law_927 rfl (lv_at hl 3 rfl) ?_
  refine lv_iconst (v := 2) hx hb dL_law_928 (by decide) ?_
  refine lv_iadd hx hb dL_law_929 ?_
  obtain ⟨r6, ir6, er6, h⟩ := rd_some h
  refine va_sld hx hb hr.1 hr.2.1 hr.2.2.1 hw.2.2 ir6 dL_law_930 ?_
  rw [← er6]
  refine lv_aload_n hx hb dL_law_931 rfl (lv_at hl 0 rfl) ?_
  refine lv_iload_n hx hb dL_law_932 rfl (lv_at hl 3 rfl) ?_
  refine lv_iconst (v := 3) hx hb dL_law_933 (by decide) ?_
  refine lv_iadd hx hb dL_law_934 ?_
  obtain ⟨r7, ir7, er7, h⟩ := rd_some h
  refine va_sld hx hb hr.1 hr.2.1 hr.2.2.1 hw.2.2 ir7 dL_law_935 ?_
  rw [← er7]
  obtain ⟨q8, hq8, h⟩ := cl_some h
  refine cVi (ws2 := (wR cA ad q4.2 ++ wM cA ad2 q8.2)) (As := [.int r5, .int r6, .int r7]) (rest := [.int q4.1]) C hw jLY (kX2_two ad2 hq8) kl_RL_128 ki_yX2_two ks_yX2_two kn_RX2 kc_yX2_two ⟨rfl, rfl⟩ hdX2_two ⟨Nat.le_of_ble_eq_true rfl, Nat.le_of_ble_eq_true rfl⟩ (ci := 2) (q0 := 0) rfl rfl rfl rfl hl.1 (Nat.le_of_ble_eq_true rfl) dL_law_936 ⟨Nat.le_of_ble_eq_true rfl, Nat.le_of_ble_eq_true rfl⟩ (fun H locs hw => ?_)
  refine lv_icmp_eq (tgt := 1196) hx hb dL_law_939 (by decide) (fun c9 => ?_) (fun c9 => ?_)
  · replace h := (if_pos c9).symm.trans h
    exact kL_law_1196 C hr k18 hk18 (q4.2, q8.2, x_3) h _ _ _ hw (lv_sub hl [0, 1, 2, 3] rfl)
  · replace h := (if_neg c9).symm.trans h
    cases h
set_option maxHeartbeats 4000000 in
set_option maxRecDepth 100000 in
theorem kL_law_944 {L : Nat} {xs : Nat → Int32} (C : Cx p s m args meth c cL_law 4 RL D cA g A) (hr : va_X b L xs s s.heap ∧ b < s.heap.size ∧ ¬ A b ∧ (∀ q, A q → s.heap.size ≤ q) ∧ meth.sig.returnType = ret ∧ meth.locks = false ∧ args = #[Value.ref b]) {z : Unit} (k18 : ((Nat → VS) × (VS) × (Int32)) → Option Unit) (hk18 : ∀ x, k18 x = some z → GL_law_18 p l e s m args below meth c D cA A ad ad2 b L xs z x) (x : (Nat → VS) × (VS) × (Int32)) (h : fL_law_944 L xs k18 x = some z) : GL_law_944 p l e s m args below meth c D cA A ad ad2 b L xs z x := by
  obtain ⟨X, Y, x_3⟩ := x
  intro H locs ls hw hl
  have hw : Wd D A s.heap (wR cA ad X ++ wM cA ad2 Y) H locs := hw
  have hl : lv_has ls 4 [(0, .ref b), (1, .ref (ad 0)), (2, .ref (ad2 0)), (3, .int x_3)] := hl
  have hx := C.1.1
  have hb := C.1.2.1
  have h : (rd L xs (x_3 + (1 : Int32)) (fun r1 => rd L xs (x_3 + (2 : Int32)) (fun r2 => rd L xs (x_3 + (3 : Int32)) (fun r3 => rd L xs (x_3 + (4 : Int32)) (fun r4 => cl (fX1_rain X r1 r2 r3 r4) (fun q5 => rd L xs (x_3 + (1 : Int32)) (fun r6 => rd L xs (x_3 + (2 : Int32)) (fun r7 => rd L xs (x_3 + (3 : Int32)) (fun r8 => rd L xs (x_3 + (4 : Int32)) (fun r9 => cl (fX2_rain Y r6 r7 r8 r9) (fun q10 => if (lg_cmp q5.1 q10.1) = 0 then fL_law_1196 L xs k18 (q5.2, q10.2, x_3) else none))))))))))) = some z := h
  refine lv_aload_n hx hb dL_law_944 rfl (lv_at hl 1 rfl) ?_
  refine lv_aload_n hx hb dL_law_945 rfl (lv_at hl 0 rfl) ?_
  refine lv_iload_n hx hb dL_law_946 rfl (lv_at hl 3 rfl) ?_
  refine lv_iconst (v := 1) hx hb dL_law_947 (by decide) ?_
  refine lv_iadd hx hb dL_law_948 ?_
  obtain ⟨r1, ir1, er1, h⟩ := rd_some h
  refine va_sld hx hb hr.1 hr.2.1 hr.2.2.1 hw.2.2 ir1 dL_law_949 ?_
  rw [← er1]
  refine lv_aload_n hx hb dL_law_950 rfl (lv_at hl 0 rfl) ?_
  refine lv_iload_n hx hb dL_law_951 rfl (lv_at hl 3 rfl) ?_
  refine lv_iconst (v := 2) hx hb dL_law_952 (by decide) ?_
  refine lv_iadd hx hb dL_law_953 ?_
  obtain ⟨r2, ir2, er2, h⟩ := rd_some h
  refine va_sld hx hb hr.1 hr.2.1 hr.2.2.1 hw.2.2 ir2 dL_law_954 ?_
  rw [← er2]
  refine lv_aload_n hx hb dL_law_955 rfl (lv_at hl 0 rfl) ?_
  refine lv_iload_n hx hb dL_law_956 rfl (lv_at hl 3 rfl) ?_
  refine lv_iconst (v := 3) hx hb dL_law_957 (by decide) ?_
  refine lv_iadd hx hb dL_law_958 ?_
  obtain ⟨r3, ir3, er3, h⟩ := rd_some h
  refine va_sld hx hb hr.1 hr.2.1 hr.2.2.1 hw.2.2 ir3 dL_law_959 ?_
  rw [← er3]
  refine lv_aload_n hx hb dL_law_960 rfl (lv_at hl 0 rfl) ?_
  refine lv_iload_n hx hb dL_law_961 rfl (lv_at hl 3 rfl) ?_
  refine lv_iconst (v := 4) hx hb dL_law_962 (by decide) ?_
  refine lv_iadd hx hb dL_law_963 ?_
  obtain ⟨r4, ir4, er4, h⟩ := rd_some h
  refine va_sld hx hb hr.1 hr.2.1 hr.2.2.1 hw.2.2 ir4 dL_law_964 ?_
  rw [← er4]
  obtain ⟨q5, hq5, h⟩ := cl_some h
  refine cVl (ws2 := (wR cA ad q5.2 ++ wM cA ad2 Y)) (As := [.int r1, .int r2, .int r3, .int r4]) (rest := []) C hw jLX (kX1_rain ad hq5) kl_RL_129 ki_yX1_rain ks_yX1_rain kn_RX1 kc_yX1_rain ⟨rfl, rfl⟩ hdX1_rain ⟨Nat.le_of_ble_eq_true rfl, Nat.le_of_ble_eq_true rfl⟩ (ci := 1) (q0 := 0) rfl rfl rfl rfl hl.1 (Nat.le_of_ble_eq_true rfl) dL_law_965 ⟨Nat.le_of_ble_eq_true rfl, Nat.le_of_ble_eq_true rfl⟩ (fun H locs hw => ?_)
  refine lv_aload_n hx hb dL_law_968 rfl (lv_at hl 2 rfl) ?_
  refine lv_aload_n hx hb dL_law_969 rfl (lv_at hl 0 rfl) ?_
  refine lv_iload_n hx hb dL_law_970 rfl (lv_at hl 3 rfl) ?_
  refine lv_iconst (v := 1) hx hb dL_law_971 (by decide) ?_
  refine lv_iadd hx hb dL_law_972 ?_
  obtain ⟨r6, ir6, er6, h⟩ := rd_some h
  refine va_sld hx hb hr.1 hr.2.1 hr.2.2.1 hw.2.2 ir6 dL_law_973 ?_
  rw [← er6]
  refine lv_aload_n hx hb dL_law_974 rfl (lv_at hl 0 rfl) ?_
  refine lv_iload_n hx hb dL_law_975 rfl (lv_at hl 3 rfl) ?_
  refine lv_iconst (v := 2) hx hb dL_law_976 (by decide) ?_
  refine lv_iadd hx hb dL_law_977 ?_
  obtain ⟨r7, ir7, er7, h⟩ := rd_some h
  refine va_sld hx hb hr.1 hr.2.1 hr.2.2.1 hw.2.2 ir7 dL_law_978 ?_
  rw [← er7]
  refine lv_aload_n hx hb dL_law_979 rfl (lv_at hl 0 rfl) ?_
  refine lv_iload_n hx hb dL_law_980 rfl (lv_at hl 3 rfl) ?_
  refine lv_iconst (v := 3) hx hb dL_law_981 (by decide) ?_
  refine lv_iadd hx hb dL_law_982 ?_
  obtain ⟨r8, ir8, er8, h⟩ := rd_some h
  refine va_sld hx hb hr.1 hr.2.1 hr.2.2.1 hw.2.2 ir8 dL_law_983 ?_
  rw [← er8]
  refine lv_aload_n hx hb dL_law_984 rfl (lv_at hl 0 rfl) ?_
  refine lv_iload_n hx hb dL_law_985 rfl (lv_at hl 3 rfl) ?_
  refine lv_iconst (v := 4) hx hb dL_law_986 (by decide) ?_
  refine lv_iadd hx hb dL_law_987 ?_
  obtain ⟨r9, ir9, er9, h⟩ := rd_some h
  refine va_sld hx hb hr.1 hr.2.1 hr.2.2.1 hw.2.2 ir9 dL_law_988 ?_
  rw [← er9]
  obtain ⟨q10, hq10, h⟩ := cl_some h
  refine cVl (ws2 := (wR cA ad q5.2 ++ wM cA ad2 q10.2)) (As := [.int r6, .int r7, .int r8, .int r9]) (rest := [.long q5.1]) C hw jLY (kX2_rain ad2 hq10) kl_RL_133 ki_yX2_rain ks_yX2_rain kn_RX2 kc_yX2_rain ⟨rfl, rfl⟩ hdX2_rain ⟨Nat.le_of_ble_eq_true rfl, Nat.le_of_ble_eq_true rfl⟩ (ci := 2) (q0 := 0) rfl rfl rfl rfl hl.1 (Nat.le_of_ble_eq_true rfl) dL_law_989 ⟨Nat.le_of_ble_eq_true rfl, Nat.le_of_ble_eq_true rfl⟩ (fun H locs hw => ?_)
  refine W.lcmp hx hb dL_law_992 ?_
  refine lv_if_eq (tgt := 1196) hx hb dL_law_993 (by decide) (fun c11 => ?_) (fun c11 => ?_)
  · replace h := (if_pos c11).symm.trans h
    exact kL_law_1196 C hr k18 hk18 (q5.2, q10.2, x_3) h _ _ _ hw (lv_sub hl [0, 1, 2, 3] rfl)
  · replace h := (if_neg c11).symm.trans h
    cases h
set_option maxHeartbeats 4000000 in
set_option maxRecDepth 100000 in
theorem kL_law_998 {L : Nat} {xs : Nat → Int32} (C : Cx p s m args meth c cL_law 4 RL D cA g A) (hr : va_X b L xs s s.heap ∧ b < s.heap.size ∧ ¬ A b ∧ (∀ q, A q → s.heap.size ≤ q) ∧ meth.sig.returnType = ret ∧ meth.locks = false ∧ args = #[Value.ref b]) {z : Unit} (k18 : ((Nat → VS) × (VS) × (Int32)) → Option Unit) (hk18 : ∀ x, k18 x = some z → GL_law_18 p l e s m args below meth c D cA A ad ad2 b L xs z x) (x : (Nat → VS) × (VS) × (Int32)) (h : fL_law_998 L xs k18 x = some z) : GL_law_998 p l e s m args below meth c D cA A ad ad2 b L xs z x := by
  obtain ⟨X, Y, x_3⟩ := x
  intro H locs ls hw hl
  have hw : Wd D A s.heap (wR cA ad X ++ wM cA ad2 Y) H locs := hw
  have hl : lv_has ls 4 [(0, .ref b), (1, .ref (ad 0)), (2, .ref (ad2 0)), (3, .int x_3)] := hl
  have hx := C.1.1
  have hb := C.1.2.1
  have h : (rd L xs (x_3 + (1 : Int32)) (fun r1 => cl (fX1_mean X r1) (fun q2 => rd L xs (x_3 + (1 : Int32)) (fun r3 => cl (fX2_mean Y r3) (fun q4 => if (lg_cmp q2.1 q4.1) = 0 then fL_law_1196 L xs k18 (q2.2, q4.2, x_3) else none))))) = some z := h
  refine lv_aload_n hx hb dL_law_998 rfl (lv_at hl 1 rfl) ?_
  refine lv_aload_n hx hb dL_law_999 rfl (lv_at hl 0 rfl) ?_
  refine lv_iload_n hx hb dL_law_1000 rfl (lv_at hl 3 rfl) ?_
  refine lv_iconst (v := 1) hx hb dL_law_1001 (by decide) ?_
  refine lv_iadd hx hb dL_law_1002 ?_
  obtain ⟨r1, ir1, er1, h⟩ := rd_some h
  refine va_sld hx hb hr.1 hr.2.1 hr.2.2.1 hw.2.2 ir1 dL_law_1003 ?_
  rw [← er1]
  obtain ⟨q2, hq2, h⟩ := cl_some h
  refine cVl (ws2 := (wR cA ad q2.2 ++ wM cA ad2 Y)) (As := [.int r1]) (rest := []) C hw jLX (kX1_mean ad hq2) kl_RL_134 ki_yX1_mean ks_yX1_mean kn_RX1 kc_yX1_mean ⟨rfl, rfl⟩ hdX1_mean ⟨Nat.le_of_ble_eq_true rfl, Nat.le_of_ble_eq_true rfl⟩ (ci := 1) (q0 := 0) rfl rfl rfl rfl hl.1 (Nat.le_of_ble_eq_true rfl) dL_law_1004 ⟨Nat.le_of_ble_eq_true rfl, Nat.le_of_ble_eq_true rfl⟩ (fun H locs hw => ?_)
  refine lv_aload_n hx hb dL_law_1007 rfl (lv_at hl 2 rfl) ?_
  refine lv_aload_n hx hb dL_law_1008 rfl (lv_at hl 0 rfl) ?_
  refine lv_iload_n hx hb dL_law_1009 rfl (lv_at hl 3 rfl) ?_
  refine lv_iconst (v := 1) hx hb dL_law_1010 (by decide) ?_
  refine lv_iadd hx hb dL_law_1011 ?_
  obtain ⟨r3, ir3, er3, h⟩ := rd_some h
  refine va_sld hx hb hr.1 hr.2.1 hr.2.2.1 hw.2.2 ir3 dL_law_1012 ?_
  rw [← er3]
  obtain ⟨q4, hq4, h⟩ := cl_some h
  refine cVl (ws2 := (wR cA ad q2.2 ++ wM cA ad2 q4.2)) (As := [.int r3]) (rest := [.long q2.1]) C hw jLY (kX2_mean ad2 hq4) kl_RL_138 ki_yX2_mean ks_yX2_mean kn_RX2 kc_yX2_mean ⟨rfl, rfl⟩ hdX2_mean ⟨Nat.le_of_ble_eq_true rfl, Nat.le_of_ble_eq_true rfl⟩ (ci := 2) (q0 := 0) rfl rfl rfl rfl hl.1 (Nat.le_of_ble_eq_true rfl) dL_law_1013 ⟨Nat.le_of_ble_eq_true rfl, Nat.le_of_ble_eq_true rfl⟩ (fun H locs hw => ?_)
  refine W.lcmp hx hb dL_law_1016 ?_
  refine lv_if_eq (tgt := 1196) hx hb dL_law_1017 (by decide) (fun c5 => ?_) (fun c5 => ?_)
  · replace h := (if_pos c5).symm.trans h
    exact kL_law_1196 C hr k18 hk18 (q2.2, q4.2, x_3) h _ _ _ hw (lv_sub hl [0, 1, 2, 3] rfl)
  · replace h := (if_neg c5).symm.trans h
    cases h
set_option maxHeartbeats 4000000 in
set_option maxRecDepth 100000 in
theorem kL_law_1022 {L : Nat} {xs : Nat → Int32} (C : Cx p s m args meth c cL_law 4 RL D cA g A) (hr : va_X b L xs s s.heap ∧ b < s.heap.size ∧ ¬ A b ∧ (∀ q, A q → s.heap.size ≤ q) ∧ meth.sig.returnType = ret ∧ meth.locks = false ∧ args = #[Value.ref b]) {z : Unit} (k18 : ((Nat → VS) × (VS) × (Int32)) → Option Unit) (hk18 : ∀ x, k18 x = some z → GL_law_18 p l e s m args below meth c D cA A ad ad2 b L xs z x) (x : (Nat → VS) × (VS) × (Int32)) (h : fL_law_1022 L xs k18 x = some z) : GL_law_1022 p l e s m args below meth c D cA A ad ad2 b L xs z x := by
  obtain ⟨X, Y, x_3⟩ := x
  intro H locs ls hw hl
  have hw : Wd D A s.heap (wR cA ad X ++ wM cA ad2 Y) H locs := hw
  have hl : lv_has ls 4 [(0, .ref b), (1, .ref (ad 0)), (2, .ref (ad2 0)), (3, .int x_3)] := hl
  have hx := C.1.1
  have hb := C.1.2.1
  have h : (rd L xs (x_3 + (1 : Int32)) (fun r1 => rd L xs (x_3 + (2 : Int32)) (fun r2 => cl (fX1_whatSaid X r1 r2) (fun q3 => rd L xs (x_3 + (1 : Int32)) (fun r4 => rd L xs (x_3 + (2 : Int32)) (fun r5 => cl (fX2_whatSaid Y r4 r5) (fun q6 => if q3.1 = q6.1 then fL_law_1196 L xs k18 (q3.2, q6.2, x_3) else none))))))) = some z := h
  refine lv_aload_n hx hb dL_law_1022 rfl (lv_at hl 1 rfl) ?_
  refine lv_aload_n hx hb dL_law_1023 rfl (lv_at hl 0 rfl) ?_
  refine lv_iload_n hx hb dL_law_1024 rfl (lv_at hl 3 rfl) ?_
  refine lv_iconst (v := 1) hx hb dL_law_1025 (by decide) ?_
  refine lv_iadd hx hb dL_law_1026 ?_
  obtain ⟨r1, ir1, er1, h⟩ := rd_some h
  refine va_sld hx hb hr.1 hr.2.1 hr.2.2.1 hw.2.2 ir1 dL_law_1027 ?_
  rw [← er1]
  refine lv_aload_n hx hb dL_law_1028 rfl (lv_at hl 0 rfl) ?_
  refine lv_iload_n hx hb dL_law_1029 rfl (lv_at hl 3 rfl) ?_
  refine lv_iconst (v := 2) hx hb dL_law_1030 (by decide) ?_
  refine lv_iadd hx hb dL_law_1031 ?_
  obtain ⟨r2, ir2, er2, h⟩ := rd_some h
  refine va_sld hx hb hr.1 hr.2.1 hr.2.2.1 hw.2.2 ir2 dL_law_1032 ?_
  rw [← er2]
  obtain ⟨q3, hq3, h⟩ := cl_some h
  refine cVi (ws2 := (wR cA ad q3.2 ++ wM cA ad2 Y)) (As := [.int r1, .int r2]) (rest := []) C hw jLX (kX1_whatSaid ad hq3) kl_RL_139 ki_yX1_whatSaid ks_yX1_whatSaid kn_RX1 kc_yX1_whatSaid ⟨rfl, rfl⟩ hdX1_whatSaid ⟨Nat.le_of_ble_eq_true rfl, Nat.le_of_ble_eq_true rfl⟩ (ci := 1) (q0 := 0) rfl rfl rfl rfl hl.1 (Nat.le_of_ble_eq_true rfl) dL_law_1033 ⟨Nat.le_of_ble_eq_true rfl, Nat.le_of_ble_eq_true rfl⟩ (fun H locs hw => ?_)
  refine lv_aload_n hx hb dL_law_1036 rfl (lv_at hl 2 rfl) ?_
  refine lv_aload_n hx hb dL_law_1037 rfl (lv_at hl 0 rfl) ?_
  refine lv_iload_n hx hb dL_law_1038 rfl (lv_at hl 3 rfl) ?_
  refine lv_iconst (v := 1) hx hb dL_law_1039 (by decide) ?_
  refine lv_iadd hx hb dL_law_1040 ?_
  obtain ⟨r4, ir4, er4, h⟩ := rd_some h
  refine va_sld hx hb hr.1 hr.2.1 hr.2.2.1 hw.2.2 ir4 dL_law_1041 ?_
  rw [← er4]
  refine lv_aload_n hx hb dL_law_1042 rfl (lv_at hl 0 rfl) ?_
  refine lv_iload_n hx hb dL_law_1043 rfl (lv_at hl 3 rfl) ?_
  refine lv_iconst (v := 2) hx hb dL_law_1044 (by decide) ?_
  refine lv_iadd hx hb dL_law_1045 ?_
  obtain ⟨r5, ir5, er5, h⟩ := rd_some h
  refine va_sld hx hb hr.1 hr.2.1 hr.2.2.1 hw.2.2 ir5 dL_law_1046 ?_
  rw [← er5]
  obtain ⟨q6, hq6, h⟩ := cl_some h
  refine cVi (ws2 := (wR cA ad q3.2 ++ wM cA ad2 q6.2)) (As := [.int r4, .int r5]) (rest := [.int q3.1]) C hw jLY (kX2_whatSaid ad2 hq6) kl_RL_142 ki_yX2_whatSaid ks_yX2_whatSaid kn_RX2 kc_yX2_whatSaid ⟨rfl, rfl⟩ hdX2_whatSaid ⟨Nat.le_of_ble_eq_true rfl, Nat.le_of_ble_eq_true rfl⟩ (ci := 2) (q0 := 0) rfl rfl rfl rfl hl.1 (Nat.le_of_ble_eq_true rfl) dL_law_1047 ⟨Nat.le_of_ble_eq_true rfl, Nat.le_of_ble_eq_true rfl⟩ (fun H locs hw => ?_)
  refine lv_icmp_eq (tgt := 1196) hx hb dL_law_1050 (by decide) (fun c7 => ?_) (fun c7 => ?_)
  · replace h := (if_pos c7).symm.trans h
    exact kL_law_1196 C hr k18 hk18 (q3.2, q6.2, x_3) h _ _ _ hw (lv_sub hl [0, 1, 2, 3] rfl)
  · replace h := (if_neg c7).symm.trans h
    cases h
set_option maxHeartbeats 4000000 in
set_option maxRecDepth 100000 in
theorem kL_law_1055 {L : Nat} {xs : Nat → Int32} (C : Cx p s m args meth c cL_law 4 RL D cA g A) (hr : va_X b L xs s s.heap ∧ b < s.heap.size ∧ ¬ A b ∧ (∀ q, A q → s.heap.size ≤ q) ∧ meth.sig.returnType = ret ∧ meth.locks = false ∧ args = #[Value.ref b]) {z : Unit} (k18 : ((Nat → VS) × (VS) × (Int32)) → Option Unit) (hk18 : ∀ x, k18 x = some z → GL_law_18 p l e s m args below meth c D cA A ad ad2 b L xs z x) (x : (Nat → VS) × (VS) × (Int32)) (h : fL_law_1055 L xs k18 x = some z) : GL_law_1055 p l e s m args below meth c D cA A ad ad2 b L xs z x := by
  obtain ⟨X, Y, x_3⟩ := x
  intro H locs ls hw hl
  have hw : Wd D A s.heap (wR cA ad X ++ wM cA ad2 Y) H locs := hw
  have hl : lv_has ls 4 [(0, .ref b), (1, .ref (ad 0)), (2, .ref (ad2 0)), (3, .int x_3)] := hl
  have hx := C.1.1
  have hb := C.1.2.1
  have h : (rd L xs (x_3 + (1 : Int32)) (fun r1 => cl (fX1_row X r1) (fun q2 => rd L xs (x_3 + (1 : Int32)) (fun r3 => cl (fX2_row Y r3) (fun q4 => if q2.1 = q4.1 then fL_law_1196 L xs k18 (q2.2, q4.2, x_3) else none))))) = some z := h
  refine lv_aload_n hx hb dL_law_1055 rfl (lv_at hl 1 rfl) ?_
  refine lv_aload_n hx hb dL_law_1056 rfl (lv_at hl 0 rfl) ?_
  refine lv_iload_n hx hb dL_law_1057 rfl (lv_at hl 3 rfl) ?_
  refine lv_iconst (v := 1) hx hb dL_law_1058 (by decide) ?_
  refine lv_iadd hx hb dL_law_1059 ?_
  obtain ⟨r1, ir1, er1, h⟩ := rd_some h
  refine va_sld hx hb hr.1 hr.2.1 hr.2.2.1 hw.2.2 ir1 dL_law_1060 ?_
  rw [← er1]
  obtain ⟨q2, hq2, h⟩ := cl_some h
  refine cVi (ws2 := (wR cA ad q2.2 ++ wM cA ad2 Y)) (As := [.int r1]) (rest := []) C hw jLX (kX1_row ad hq2) kl_RL_143 ki_yX1_row ks_yX1_row kn_RX1 kc_yX1_row ⟨rfl, rfl⟩ hdX1_row ⟨Nat.le_of_ble_eq_true rfl, Nat.le_of_ble_eq_true rfl⟩ (ci := 1) (q0 := 0) rfl rfl rfl rfl hl.1 (Nat.le_of_ble_eq_true rfl) dL_law_1061 ⟨Nat.le_of_ble_eq_true rfl, Nat.le_of_ble_eq_true rfl⟩ (fun H locs hw => ?_)
  refine lv_aload_n hx hb dL_law_1064 rfl (lv_at hl 2 rfl) ?_
  refine lv_aload_n hx hb dL_law_1065 rfl (lv_at hl 0 rfl) ?_
  refine lv_iload_n hx hb dL_law_1066 rfl (lv_at hl 3 rfl) ?_
  refine lv_iconst (v := 1) hx hb dL_law_1067 (by decide) ?_
  refine lv_iadd hx hb dL_law_1068 ?_
  obtain ⟨r3, ir3, er3, h⟩ := rd_some h
  refine va_sld hx hb hr.1 hr.2.1 hr.2.2.1 hw.2.2 ir3 dL_law_1069 ?_
  rw [← er3]
  obtain ⟨q4, hq4, h⟩ := cl_some h
  refine cVi (ws2 := (wR cA ad q2.2 ++ wM cA ad2 q4.2)) (As := [.int r3]) (rest := [.int q2.1]) C hw jLY (kX2_row ad2 hq4) kl_RL_146 ki_yX2_row ks_yX2_row kn_RX2 kc_yX2_row ⟨rfl, rfl⟩ hdX2_row ⟨Nat.le_of_ble_eq_true rfl, Nat.le_of_ble_eq_true rfl⟩ (ci := 2) (q0 := 0) rfl rfl rfl rfl hl.1 (Nat.le_of_ble_eq_true rfl) dL_law_1070 ⟨Nat.le_of_ble_eq_true rfl, Nat.le_of_ble_eq_true rfl⟩ (fun H locs hw => ?_)
  refine lv_icmp_eq (tgt := 1196) hx hb dL_law_1073 (by decide) (fun c5 => ?_) (fun c5 => ?_)
  · replace h := (if_pos c5).symm.trans h
    exact kL_law_1196 C hr k18 hk18 (q2.2, q4.2, x_3) h _ _ _ hw (lv_sub hl [0, 1, 2, 3] rfl)
  · replace h := (if_neg c5).symm.trans h
    cases h
set_option maxHeartbeats 4000000 in
set_option maxRecDepth 100000 in
theorem kL_law_1078 {L : Nat} {xs : Nat → Int32} (C : Cx p s m args meth c cL_law 4 RL D cA g A) (hr : va_X b L xs s s.heap ∧ b < s.heap.size ∧ ¬ A b ∧ (∀ q, A q → s.heap.size ≤ q) ∧ meth.sig.returnType = ret ∧ meth.locks = false ∧ args = #[Value.ref b]) {z : Unit} (k18 : ((Nat → VS) × (VS) × (Int32)) → Option Unit) (hk18 : ∀ x, k18 x = some z → GL_law_18 p l e s m args below meth c D cA A ad ad2 b L xs z x) (x : (Nat → VS) × (VS) × (Int32)) (h : fL_law_1078 L xs k18 x = some z) : GL_law_1078 p l e s m args below meth c D cA A ad ad2 b L xs z x := by
  obtain ⟨X, Y, x_3⟩ := x
  intro H locs ls hw hl
  have hw : Wd D A s.heap (wR cA ad X ++ wM cA ad2 Y) H locs := hw
  have hl : lv_has ls 4 [(0, .ref b), (1, .ref (ad 0)), (2, .ref (ad2 0)), (3, .int x_3)] := hl
  have hx := C.1.1
  have hb := C.1.2.1
  have h : (cl (fX1_judge X) (fun q1 => cl (fX2_judge Y) (fun q2 => if q1.1 = q2.1 then fL_law_1196 L xs k18 (q1.2, q2.2, x_3) else none))) = some z := h
  refine lv_aload_n hx hb dL_law_1078 rfl (lv_at hl 1 rfl) ?_
  obtain ⟨q1, hq1, h⟩ := cl_some h
  refine cVi (ws2 := (wR cA ad q1.2 ++ wM cA ad2 Y)) (As := []) (rest := []) C hw jLX (kX1_judge ad hq1) kl_RL_147 ki_yX1_judge ks_yX1_judge kn_RX1 kc_yX1_judge ⟨rfl, rfl⟩ hdX1_judge ⟨Nat.le_of_ble_eq_true rfl, Nat.le_of_ble_eq_true rfl⟩ (ci := 1) (q0 := 0) rfl rfl rfl rfl hl.1 (Nat.le_of_ble_eq_true rfl) dL_law_1079 ⟨Nat.le_of_ble_eq_true rfl, Nat.le_of_ble_eq_true rfl⟩ (fun H locs hw => ?_)
  refine lv_aload_n hx hb dL_law_1082 rfl (lv_at hl 2 rfl) ?_
  obtain ⟨q2, hq2, h⟩ := cl_some h
  refine cVi (ws2 := (wR cA ad q1.2 ++ wM cA ad2 q2.2)) (As := []) (rest := [.int q1.1]) C hw jLY (kX2_judge ad2 hq2) kl_RL_150 ki_yX2_judge ks_yX2_judge kn_RX2 kc_yX2_judge ⟨rfl, rfl⟩ hdX2_judge ⟨Nat.le_of_ble_eq_true rfl, Nat.le_of_ble_eq_true rfl⟩ (ci := 2) (q0 := 0) rfl rfl rfl rfl hl.1 (Nat.le_of_ble_eq_true rfl) dL_law_1083 ⟨Nat.le_of_ble_eq_true rfl, Nat.le_of_ble_eq_true rfl⟩ (fun H locs hw => ?_)
  refine lv_icmp_eq (tgt := 1196) hx hb dL_law_1086 (by decide) (fun c3 => ?_) (fun c3 => ?_)
  · replace h := (if_pos c3).symm.trans h
    exact kL_law_1196 C hr k18 hk18 (q1.2, q2.2, x_3) h _ _ _ hw (lv_sub hl [0, 1, 2, 3] rfl)
  · replace h := (if_neg c3).symm.trans h
    cases h
set_option maxHeartbeats 4000000 in
set_option maxRecDepth 100000 in
theorem kL_law_1091 {L : Nat} {xs : Nat → Int32} (C : Cx p s m args meth c cL_law 4 RL D cA g A) (hr : va_X b L xs s s.heap ∧ b < s.heap.size ∧ ¬ A b ∧ (∀ q, A q → s.heap.size ≤ q) ∧ meth.sig.returnType = ret ∧ meth.locks = false ∧ args = #[Value.ref b]) {z : Unit} (k18 : ((Nat → VS) × (VS) × (Int32)) → Option Unit) (hk18 : ∀ x, k18 x = some z → GL_law_18 p l e s m args below meth c D cA A ad ad2 b L xs z x) (x : (Nat → VS) × (VS) × (Int32)) (h : fL_law_1091 L xs k18 x = some z) : GL_law_1091 p l e s m args below meth c D cA A ad ad2 b L xs z x := by
  obtain ⟨X, Y, x_3⟩ := x
  intro H locs ls hw hl
  have hw : Wd D A s.heap (wR cA ad X ++ wM cA ad2 Y) H locs := hw
  have hl : lv_has ls 4 [(0, .ref b), (1, .ref (ad 0)), (2, .ref (ad2 0)), (3, .int x_3)] := hl
  have hx := C.1.1
  have hb := C.1.2.1
  have h : (cl (fX1_clear X) (fun q1 => cl (fX2_clear Y) (fun q2 => if q1.1 = q2.1 then fL_law_1196 L xs k18 (q1.2, q2.2, x_3) else none))) = some z := h
  refine lv_aload_n hx hb dL_law_1091 rfl (lv_at hl 1 rfl) ?_
  obtain ⟨q1, hq1, h⟩ := cl_some h
  refine cVi (ws2 := (wR cA ad q1.2 ++ wM cA ad2 Y)) (As := []) (rest := []) C hw jLX (kX1_clear ad hq1) kl_RL_151 ki_yX1_clear ks_yX1_clear kn_RX1 kc_yX1_clear ⟨rfl, rfl⟩ hdX1_clear ⟨Nat.le_of_ble_eq_true rfl, Nat.le_of_ble_eq_true rfl⟩ (ci := 1) (q0 := 0) rfl rfl rfl rfl hl.1 (Nat.le_of_ble_eq_true rfl) dL_law_1092 ⟨Nat.le_of_ble_eq_true rfl, Nat.le_of_ble_eq_true rfl⟩ (fun H locs hw => ?_)
  refine lv_aload_n hx hb dL_law_1095 rfl (lv_at hl 2 rfl) ?_
  obtain ⟨q2, hq2, h⟩ := cl_some h
  refine cVi (ws2 := (wR cA ad q1.2 ++ wM cA ad2 q2.2)) (As := []) (rest := [.int q1.1]) C hw jLY (kX2_clear ad2 hq2) kl_RL_154 ki_yX2_clear ks_yX2_clear kn_RX2 kc_yX2_clear ⟨rfl, rfl⟩ hdX2_clear ⟨Nat.le_of_ble_eq_true rfl, Nat.le_of_ble_eq_true rfl⟩ (ci := 2) (q0 := 0) rfl rfl rfl rfl hl.1 (Nat.le_of_ble_eq_true rfl) dL_law_1096 ⟨Nat.le_of_ble_eq_true rfl, Nat.le_of_ble_eq_true rfl⟩ (fun H locs hw => ?_)
  refine lv_icmp_eq (tgt := 1196) hx hb dL_law_1099 (by decide) (fun c3 => ?_) (fun c3 => ?_)
  · replace h := (if_pos c3).symm.trans h
    exact kL_law_1196 C hr k18 hk18 (q1.2, q2.2, x_3) h _ _ _ hw (lv_sub hl [0, 1, 2, 3] rfl)
  · replace h := (if_neg c3).symm.trans h
    cases h
set_option maxHeartbeats 4000000 in
set_option maxRecDepth 100000 in
theorem kL_law_1104 {L : Nat} {xs : Nat → Int32} (C : Cx p s m args meth c cL_law 4 RL D cA g A) (hr : va_X b L xs s s.heap ∧ b < s.heap.size ∧ ¬ A b ∧ (∀ q, A q → s.heap.size ≤ q) ∧ meth.sig.returnType = ret ∧ meth.locks = false ∧ args = #[Value.ref b]) {z : Unit} (k18 : ((Nat → VS) × (VS) × (Int32)) → Option Unit) (hk18 : ∀ x, k18 x = some z → GL_law_18 p l e s m args below meth c D cA A ad ad2 b L xs z x) (x : (Nat → VS) × (VS) × (Int32)) (h : fL_law_1104 L xs k18 x = some z) : GL_law_1104 p l e s m args below meth c D cA A ad ad2 b L xs z x := by
  obtain ⟨X, Y, x_3⟩ := x
  intro H locs ls hw hl
  have hw : Wd D A s.heap (wR cA ad X ++ wM cA ad2 Y) H locs := hw
  have hl : lv_has ls 4 [(0, .ref b), (1, .ref (ad 0)), (2, .ref (ad2 0)), (3, .int x_3)] := hl
  have hx := C.1.1
  have hb := C.1.2.1
  have h : (rd L xs (x_3 + (1 : Int32)) (fun r1 => rd L xs (x_3 + (2 : Int32)) (fun r2 => rd L xs (x_3 + (3 : Int32)) (fun r3 => cl (fX1_lots X r1 r2 r3) (fun q4 => rd L xs (x_3 + (1 : Int32)) (fun r5 => rd L xs (x_3 + (2 : Int32)) (fun r6 => rd L xs (x_3 + (3 : Int32)) (fun r7 => cl (fX2_lots Y r5 r6 r7) (fun q8 => if q4.1 = q8.1 then fL_law_1196 L xs k18 (q4.2, q8.2, x_3) else none))))))))) = some z := h
  refine lv_aload_n hx hb dL_law_1104 rfl (lv_at hl 1 rfl) ?_
  refine lv_aload_n hx hb dL_law_1105 rfl (lv_at hl 0 rfl) ?_
  refine lv_iload_n hx hb dL_law_1106 rfl (lv_at hl 3 rfl) ?_
  refine lv_iconst (v := 1) hx hb dL_law_1107 (by decide) ?_
  refine lv_iadd hx hb dL_law_1108 ?_
  obtain ⟨r1, ir1, er1, h⟩ := rd_some h
  refine va_sld hx hb hr.1 hr.2.1 hr.2.2.1 hw.2.2 ir1 dL_law_1109 ?_
  rw [← er1]
  refine lv_aload_n hx hb dL_law_1110 rfl (lv_at hl 0 rfl) ?_
  refine lv_iload_n hx hb dL_law_1111 rfl (lv_at hl 3 rfl) ?_
  refine lv_iconst (v := 2) hx hb dL_law_1112 (by decide) ?_
  refine lv_iadd hx hb dL_law_1113 ?_
  obtain ⟨r2, ir2, er2, h⟩ := rd_some h
  refine va_sld hx hb hr.1 hr.2.1 hr.2.2.1 hw.2.2 ir2 dL_law_1114 ?_
  rw [← er2]
  refine lv_aload_n hx hb dL_law_1115 rfl (lv_at hl 0 rfl) ?_
  refine lv_iload_n hx hb dL_law_1116 rfl (lv_at hl 3 rfl) ?_
  refine lv_iconst (v := 3) hx hb dL_law_1117 (by decide) ?_
  refine lv_iadd hx hb dL_law_1118 ?_
  obtain ⟨r3, ir3, er3, h⟩ := rd_some h
  refine va_sld hx hb hr.1 hr.2.1 hr.2.2.1 hw.2.2 ir3 dL_law_1119 ?_
  rw [← er3]
  obtain ⟨q4, hq4, h⟩ := cl_some h
  refine cVi (ws2 := (wR cA ad q4.2 ++ wM cA ad2 Y)) (As := [.int r1, .int r2, .int r3]) (rest := []) C hw jLX (kX1_lots ad hq4) kl_RL_155 ki_yX1_lots ks_yX1_lots kn_RX1 kc_yX1_lots ⟨rfl, rfl⟩ hdX1_lots ⟨Nat.le_of_ble_eq_true rfl, Nat.le_of_ble_eq_true rfl⟩ (ci := 1) (q0 := 0) rfl rfl rfl rfl hl.1 (Nat.le_of_ble_eq_true rfl) dL_law_1120 ⟨Nat.le_of_ble_eq_true rfl, Nat.le_of_ble_eq_true rfl⟩ (fun H locs hw => ?_)
  refine lv_aload_n hx hb dL_law_1123 rfl (lv_at hl 2 rfl) ?_
  refine lv_aload_n hx hb dL_law_1124 rfl (lv_at hl 0 rfl) ?_
  refine lv_iload_n hx hb dL_law_1125 rfl (lv_at hl 3 rfl) ?_
  refine lv_iconst (v := 1) hx hb dL_law_1126 (by decide) ?_
  refine lv_iadd hx hb dL_law_1127 ?_
  obtain ⟨r5, ir5, er5, h⟩ := rd_some h
  refine va_sld hx hb hr.1 hr.2.1 hr.2.2.1 hw.2.2 ir5 dL_law_1128 ?_
  rw [← er5]
  refine lv_aload_n hx hb dL_law_1129 rfl (lv_at hl 0 rfl) ?_
  refine lv_iload_n hx hb dL_law_1130 rfl (lv_at hl 3 rfl) ?_
  refine lv_iconst (v := 2) hx hb dL_law_1131 (by decide) ?_
  refine lv_iadd hx hb dL_law_1132 ?_
  obtain ⟨r6, ir6, er6, h⟩ := rd_some h
  refine va_sld hx hb hr.1 hr.2.1 hr.2.2.1 hw.2.2 ir6 dL_law_1133 ?_
  rw [← er6]
  refine lv_aload_n hx hb dL_law_1134 rfl (lv_at hl 0 rfl) ?_
  refine lv_iload_n hx hb dL_law_1135 rfl (lv_at hl 3 rfl) ?_
  refine lv_iconst (v := 3) hx hb dL_law_1136 (by decide) ?_
  refine lv_iadd hx hb dL_law_1137 ?_
  obtain ⟨r7, ir7, er7, h⟩ := rd_some h
  refine va_sld hx hb hr.1 hr.2.1 hr.2.2.1 hw.2.2 ir7 dL_law_1138 ?_
  rw [← er7]
  obtain ⟨q8, hq8, h⟩ := cl_some h
  refine cVi (ws2 := (wR cA ad q4.2 ++ wM cA ad2 q8.2)) (As := [.int r5, .int r6, .int r7]) (rest := [.int q4.1]) C hw jLY (kX2_lots ad2 hq8) kl_RL_158 ki_yX2_lots ks_yX2_lots kn_RX2 kc_yX2_lots ⟨rfl, rfl⟩ hdX2_lots ⟨Nat.le_of_ble_eq_true rfl, Nat.le_of_ble_eq_true rfl⟩ (ci := 2) (q0 := 0) rfl rfl rfl rfl hl.1 (Nat.le_of_ble_eq_true rfl) dL_law_1139 ⟨Nat.le_of_ble_eq_true rfl, Nat.le_of_ble_eq_true rfl⟩ (fun H locs hw => ?_)
  refine lv_icmp_eq (tgt := 1196) hx hb dL_law_1142 (by decide) (fun c9 => ?_) (fun c9 => ?_)
  · replace h := (if_pos c9).symm.trans h
    exact kL_law_1196 C hr k18 hk18 (q4.2, q8.2, x_3) h _ _ _ hw (lv_sub hl [0, 1, 2, 3] rfl)
  · replace h := (if_neg c9).symm.trans h
    cases h
set_option maxHeartbeats 4000000 in
set_option maxRecDepth 100000 in
theorem kL_law_1147 {L : Nat} {xs : Nat → Int32} (C : Cx p s m args meth c cL_law 4 RL D cA g A) (hr : va_X b L xs s s.heap ∧ b < s.heap.size ∧ ¬ A b ∧ (∀ q, A q → s.heap.size ≤ q) ∧ meth.sig.returnType = ret ∧ meth.locks = false ∧ args = #[Value.ref b]) {z : Unit} (k18 : ((Nat → VS) × (VS) × (Int32)) → Option Unit) (hk18 : ∀ x, k18 x = some z → GL_law_18 p l e s m args below meth c D cA A ad ad2 b L xs z x) (x : (Nat → VS) × (VS) × (Int32)) (h : fL_law_1147 L xs k18 x = some z) : GL_law_1147 p l e s m args below meth c D cA A ad ad2 b L xs z x := by
  obtain ⟨X, Y, x_3⟩ := x
  intro H locs ls hw hl
  have hw : Wd D A s.heap (wR cA ad X ++ wM cA ad2 Y) H locs := hw
  have hl : lv_has ls 4 [(0, .ref b), (1, .ref (ad 0)), (2, .ref (ad2 0)), (3, .int x_3)] := hl
  have hx := C.1.1
  have hb := C.1.2.1
  have h : (cl (fX1_image X) (fun q1 => cl (fX2_image Y) (fun q2 => if q1.1 = q2.1 then fL_law_1196 L xs k18 (q1.2, q2.2, x_3) else none))) = some z := h
  refine lv_aload_n hx hb dL_law_1147 rfl (lv_at hl 1 rfl) ?_
  obtain ⟨q1, hq1, h⟩ := cl_some h
  refine cVi (ws2 := (wR cA ad q1.2 ++ wM cA ad2 Y)) (As := []) (rest := []) C hw jLX (kX1_image ad hq1) kl_RL_159 ki_yX1_image ks_yX1_image kn_RX1 kc_yX1_image ⟨rfl, rfl⟩ hdX1_image ⟨Nat.le_of_ble_eq_true rfl, Nat.le_of_ble_eq_true rfl⟩ (ci := 1) (q0 := 0) rfl rfl rfl rfl hl.1 (Nat.le_of_ble_eq_true rfl) dL_law_1148 ⟨Nat.le_of_ble_eq_true rfl, Nat.le_of_ble_eq_true rfl⟩ (fun H locs hw => ?_)
  refine lv_aload_n hx hb dL_law_1151 rfl (lv_at hl 2 rfl) ?_
  obtain ⟨q2, hq2, h⟩ := cl_some h
  refine cVi (ws2 := (wR cA ad q1.2 ++ wM cA ad2 q2.2)) (As := []) (rest := [.int q1.1]) C hw jLY (kX2_image ad2 hq2) kl_RL_162 ki_yX2_image ks_yX2_image kn_RX2 kc_yX2_image ⟨rfl, rfl⟩ hdX2_image ⟨Nat.le_of_ble_eq_true rfl, Nat.le_of_ble_eq_true rfl⟩ (ci := 2) (q0 := 0) rfl rfl rfl rfl hl.1 (Nat.le_of_ble_eq_true rfl) dL_law_1152 ⟨Nat.le_of_ble_eq_true rfl, Nat.le_of_ble_eq_true rfl⟩ (fun H locs hw => ?_)
  refine lv_icmp_eq (tgt := 1196) hx hb dL_law_1155 (by decide) (fun c3 => ?_) (fun c3 => ?_)
  · replace h := (if_pos c3).symm.trans h
    exact kL_law_1196 C hr k18 hk18 (q1.2, q2.2, x_3) h _ _ _ hw (lv_sub hl [0, 1, 2, 3] rfl)
  · replace h := (if_neg c3).symm.trans h
    cases h
set_option maxHeartbeats 4000000 in
set_option maxRecDepth 100000 in
theorem kL_law_1160 {L : Nat} {xs : Nat → Int32} (C : Cx p s m args meth c cL_law 4 RL D cA g A) (hr : va_X b L xs s s.heap ∧ b < s.heap.size ∧ ¬ A b ∧ (∀ q, A q → s.heap.size ≤ q) ∧ meth.sig.returnType = ret ∧ meth.locks = false ∧ args = #[Value.ref b]) {z : Unit} (k18 : ((Nat → VS) × (VS) × (Int32)) → Option Unit) (hk18 : ∀ x, k18 x = some z → GL_law_18 p l e s m args below meth c D cA A ad ad2 b L xs z x) (x : (Nat → VS) × (VS) × (Int32)) (h : fL_law_1160 L xs k18 x = some z) : GL_law_1160 p l e s m args below meth c D cA A ad ad2 b L xs z x := by
  obtain ⟨X, Y, x_3⟩ := x
  intro H locs ls hw hl
  have hw : Wd D A s.heap (wR cA ad X ++ wM cA ad2 Y) H locs := hw
  have hl : lv_has ls 4 [(0, .ref b), (1, .ref (ad 0)), (2, .ref (ad2 0)), (3, .int x_3)] := hl
  have hx := C.1.1
  have hb := C.1.2.1
  have h : (cl (fX1_on X) (fun q1 => cl (fX2_on Y) (fun q2 => if q1.1 = q2.1 then fL_law_1196 L xs k18 (q1.2, q2.2, x_3) else none))) = some z := h
  refine lv_aload_n hx hb dL_law_1160 rfl (lv_at hl 1 rfl) ?_
  obtain ⟨q1, hq1, h⟩ := cl_some h
  refine cVi (ws2 := (wR cA ad q1.2 ++ wM cA ad2 Y)) (As := []) (rest := []) C hw jLX (kX1_on ad hq1) kl_RL_163 ki_yX1_on ks_yX1_on kn_RX1 kc_yX1_on ⟨rfl, rfl⟩ hdX1_on ⟨Nat.le_of_ble_eq_true rfl, Nat.le_of_ble_eq_true rfl⟩ (ci := 1) (q0 := 0) rfl rfl rfl rfl hl.1 (Nat.le_of_ble_eq_true rfl) dL_law_1161 ⟨Nat.le_of_ble_eq_true rfl, Nat.le_of_ble_eq_true rfl⟩ (fun H locs hw => ?_)
  refine lv_aload_n hx hb dL_law_1164 rfl (lv_at hl 2 rfl) ?_
  obtain ⟨q2, hq2, h⟩ := cl_some h
  refine cVi (ws2 := (wR cA ad q1.2 ++ wM cA ad2 q2.2)) (As := []) (rest := [.int q1.1]) C hw jLY (kX2_on ad2 hq2) kl_RL_166 ki_yX2_on ks_yX2_on kn_RX2 kc_yX2_on ⟨rfl, rfl⟩ hdX2_on ⟨Nat.le_of_ble_eq_true rfl, Nat.le_of_ble_eq_true rfl⟩ (ci := 2) (q0 := 0) rfl rfl rfl rfl hl.1 (Nat.le_of_ble_eq_true rfl) dL_law_1165 ⟨Nat.le_of_ble_eq_true rfl, Nat.le_of_ble_eq_true rfl⟩ (fun H locs hw => ?_)
  refine lv_icmp_eq (tgt := 1196) hx hb dL_law_1168 (by decide) (fun c3 => ?_) (fun c3 => ?_)
  · replace h := (if_pos c3).symm.trans h
    exact kL_law_1196 C hr k18 hk18 (q1.2, q2.2, x_3) h _ _ _ hw (lv_sub hl [0, 1, 2, 3] rfl)
  · replace h := (if_neg c3).symm.trans h
    cases h
set_option maxHeartbeats 4000000 in
set_option maxRecDepth 100000 in
theorem kL_law_1173 {L : Nat} {xs : Nat → Int32} (C : Cx p s m args meth c cL_law 4 RL D cA g A) (hr : va_X b L xs s s.heap ∧ b < s.heap.size ∧ ¬ A b ∧ (∀ q, A q → s.heap.size ≤ q) ∧ meth.sig.returnType = ret ∧ meth.locks = false ∧ args = #[Value.ref b]) {z : Unit} (k18 : ((Nat → VS) × (VS) × (Int32)) → Option Unit) (hk18 : ∀ x, k18 x = some z → GL_law_18 p l e s m args below meth c D cA A ad ad2 b L xs z x) (x : (Nat → VS) × (VS) × (Int32)) (h : fL_law_1173 L xs k18 x = some z) : GL_law_1173 p l e s m args below meth c D cA A ad ad2 b L xs z x := by
  obtain ⟨X, Y, x_3⟩ := x
  intro H locs ls hw hl
  have hw : Wd D A s.heap (wR cA ad X ++ wM cA ad2 Y) H locs := hw
  have hl : lv_has ls 4 [(0, .ref b), (1, .ref (ad 0)), (2, .ref (ad2 0)), (3, .int x_3)] := hl
  have hx := C.1.1
  have hb := C.1.2.1
  have h : (rd L xs (x_3 + (1 : Int32)) (fun r1 => cl (fX1_count X r1) (fun r2 => rd L xs (x_3 + (1 : Int32)) (fun r3 => cl (fX2_count Y r3) (fun r4 => if r2 = r4 then fL_law_1196 L xs k18 (X, Y, x_3) else none))))) = some z := h
  refine lv_aload_n hx hb dL_law_1173 rfl (lv_at hl 1 rfl) ?_
  refine lv_aload_n hx hb dL_law_1174 rfl (lv_at hl 0 rfl) ?_
  refine lv_iload_n hx hb dL_law_1175 rfl (lv_at hl 3 rfl) ?_
  refine lv_iconst (v := 1) hx hb dL_law_1176 (by decide) ?_
  refine lv_iadd hx hb dL_law_1177 ?_
  obtain ⟨r1, ir1, er1, h⟩ := rd_some h
  refine va_sld hx hb hr.1 hr.2.1 hr.2.2.1 hw.2.2 ir1 dL_law_1178 ?_
  rw [← er1]
  obtain ⟨r2, hr2, h⟩ := cl_some h
  refine cVi (ws2 := (wR cA ad X ++ wM cA ad2 Y)) (As := [.int r1]) (rest := []) C hw jLX (kX1_count ad hr2) kl_RL_167 ki_yX1_count ks_yX1_count kn_RX1 kc_yX1_count ⟨rfl, rfl⟩ hdX1_count ⟨Nat.le_of_ble_eq_true rfl, Nat.le_of_ble_eq_true rfl⟩ (ci := 1) (q0 := 0) rfl rfl rfl rfl hl.1 (Nat.le_of_ble_eq_true rfl) dL_law_1179 ⟨Nat.le_of_ble_eq_true rfl, Nat.le_of_ble_eq_true rfl⟩ (fun H locs hw => ?_)
  refine lv_aload_n hx hb dL_law_1182 rfl (lv_at hl 2 rfl) ?_
  refine lv_aload_n hx hb dL_law_1183 rfl (lv_at hl 0 rfl) ?_
  refine lv_iload_n hx hb dL_law_1184 rfl (lv_at hl 3 rfl) ?_
  refine lv_iconst (v := 1) hx hb dL_law_1185 (by decide) ?_
  refine lv_iadd hx hb dL_law_1186 ?_
  obtain ⟨r3, ir3, er3, h⟩ := rd_some h
  refine va_sld hx hb hr.1 hr.2.1 hr.2.2.1 hw.2.2 ir3 dL_law_1187 ?_
  rw [← er3]
  obtain ⟨r4, hr4, h⟩ := cl_some h
  refine cVi (ws2 := (wR cA ad X ++ wM cA ad2 Y)) (As := [.int r3]) (rest := [.int r2]) C hw jLY (kX2_count ad2 hr4) kl_RL_170 ki_yX2_count ks_yX2_count kn_RX2 kc_yX2_count ⟨rfl, rfl⟩ hdX2_count ⟨Nat.le_of_ble_eq_true rfl, Nat.le_of_ble_eq_true rfl⟩ (ci := 2) (q0 := 0) rfl rfl rfl rfl hl.1 (Nat.le_of_ble_eq_true rfl) dL_law_1188 ⟨Nat.le_of_ble_eq_true rfl, Nat.le_of_ble_eq_true rfl⟩ (fun H locs hw => ?_)
  refine lv_icmp_eq (tgt := 1196) hx hb dL_law_1191 (by decide) (fun c5 => ?_) (fun c5 => ?_)
  · replace h := (if_pos c5).symm.trans h
    exact kL_law_1196 C hr k18 hk18 (X, Y, x_3) h _ _ _ hw (lv_sub hl [0, 1, 2, 3] rfl)
  · replace h := (if_neg c5).symm.trans h
    cases h
set_option maxHeartbeats 4000000 in
set_option maxRecDepth 100000 in
theorem kL_law_18 {L : Nat} {xs : Nat → Int32} (C : Cx p s m args meth c cL_law 4 RL D cA g A) (hr : va_X b L xs s s.heap ∧ b < s.heap.size ∧ ¬ A b ∧ (∀ q, A q → s.heap.size ≤ q) ∧ meth.sig.returnType = ret ∧ meth.locks = false ∧ args = #[Value.ref b]) {z : Unit} (k18 : ((Nat → VS) × (VS) × (Int32)) → Option Unit) (hk18 : ∀ x, k18 x = some z → GL_law_18 p l e s m args below meth c D cA A ad ad2 b L xs z x) (x : (Nat → VS) × (VS) × (Int32)) (h : fL_law_18 L xs k18 x = some z) : GL_law_18 p l e s m args below meth c D cA A ad ad2 b L xs z x := by
  obtain ⟨X, Y, x_3⟩ := x
  intro H locs ls hw hl
  have hw : Wd D A s.heap (wR cA ad X ++ wM cA ad2 Y) H locs := hw
  have hl : lv_has ls 4 [(0, .ref b), (1, .ref (ad 0)), (2, .ref (ad2 0)), (3, .int x_3)] := hl
  have hx := C.1.1
  have hb := C.1.2.1
  have h : (if ((Int32.ofNat L) - (5 : Int32)) < x_3 then some () else rd L xs x_3 (fun r2 => bn (r2 &&& (63 : Int32)) (fun x3 => if x3 = 0 then fL_law_200 L xs k18 (X, Y, x_3) else if x3 = 1 then fL_law_223 L xs k18 (X, Y, x_3) else if x3 = 2 then fL_law_236 L xs k18 (X, Y, x_3) else if x3 = 3 then fL_law_269 L xs k18 (X, Y, x_3) else if x3 = 4 then fL_law_302 L xs k18 (X, Y, x_3) else if x3 = 5 then fL_law_335 L xs k18 (X, Y, x_3) else if x3 = 6 then fL_law_358 L xs k18 (X, Y, x_3) else if x3 = 7 then fL_law_381 L xs k18 (X, Y, x_3) else if x3 = 8 then fL_law_404 L xs k18 (X, Y, x_3) else if x3 = 9 then fL_law_427 L xs k18 (X, Y, x_3) else if x3 = 10 then fL_law_460 L xs k18 (X, Y, x_3) else if x3 = 11 then fL_law_503 L xs k18 (X, Y, x_3) else if x3 = 12 then fL_law_526 L xs k18 (X, Y, x_3) else if x3 = 13 then fL_law_559 L xs k18 (X, Y, x_3) else if x3 = 14 then fL_law_592 L xs k18 (X, Y, x_3) else if x3 = 15 then fL_law_615 L xs k18 (X, Y, x_3) else if x3 = 16 then fL_law_638 L xs k18 (X, Y, x_3) else if x3 = 17 then fL_law_671 L xs k18 (X, Y, x_3) else if x3 = 18 then fL_law_704 L xs k18 (X, Y, x_3) else if x3 = 19 then fL_law_747 L xs k18 (X, Y, x_3) else if x3 = 20 then fL_law_770 L xs k18 (X, Y, x_3) else if x3 = 21 then fL_law_793 L xs k18 (X, Y, x_3) else if x3 = 22 then fL_law_816 L xs k18 (X, Y, x_3) else if x3 = 23 then fL_law_839 L xs k18 (X, Y, x_3) else if x3 = 24 then fL_law_862 L xs k18 (X, Y, x_3) else if x3 = 25 then fL_law_875 L xs k18 (X, Y, x_3) else if x3 = 26 then fL_law_888 L xs k18 (X, Y, x_3) else if x3 = 27 then fL_law_901 L xs k18 (X, Y, x_3) else if x3 = 28 then fL_law_944 L xs k18 (X, Y, x_3) else if x3 = 29 then fL_law_998 L xs k18 (X, Y, x_3) else if x3 = 30 then fL_law_1022 L xs k18 (X, Y, x_3) else if x3 = 31 then fL_law_1055 L xs k18 (X, Y, x_3) else if x3 = 32 then fL_law_1078 L xs k18 (X, Y, x_3) else if x3 = 33 then fL_law_1091 L xs k18 (X, Y, x_3) else if x3 = 34 then fL_law_1104 L xs k18 (X, Y, x_3) else if x3 = 35 then fL_law_1147 L xs k18 (X, Y, x_3) else if x3 = 36 then fL_law_1160 L xs k18 (X, Y, x_3) else if x3 = 37 then fL_law_1173 L xs k18 (X, Y, x_3) else fL_law_1196 L xs k18 (X, Y, x_3)))) = some z := h
  refine lv_iload_n hx hb dL_law_18 rfl (lv_at hl 3 rfl) ?_
  refine lv_aload_n hx hb dL_law_19 rfl (lv_at hl 0 rfl) ?_
  refine va_slen hx hb hr.1 hr.2.1 hr.2.2.1 hw.2.2 dL_law_20 ?_
  refine lv_iconst (v := 5) hx hb dL_law_21 (by decide) ?_
  refine lv_isub hx hb dL_law_22 ?_
  refine lv_icmp_gt (tgt := 1202) hx hb dL_law_23 (by decide) (fun c1 => ?_) (fun c1 => ?_)
  · replace h := (if_pos c1).symm.trans h
    refine lv_iconst (v := 1) hx hb dL_law_1202 (by decide) ?_
    refine va_forget (fun q hq => hr.2.2.2.1 _ (hw.2.2.2.2 q hq)) ?_
    obtain rfl := hr.2.2.2.2.2.2
    exact lw_ret hx hb hr.2.2.2.2.1 hr.2.2.2.2.2.1 dL_law_1203
  · replace h := (if_neg c1).symm.trans h
    refine lv_aload_n hx hb dL_law_26 rfl (lv_at hl 0 rfl) ?_
    refine lv_iload_n hx hb dL_law_27 rfl (lv_at hl 3 rfl) ?_
    obtain ⟨r2, ir2, er2, h⟩ := rd_some h
    refine va_sld hx hb hr.1 hr.2.1 hr.2.2.1 hw.2.2 ir2 dL_law_28 ?_
    rw [← er2]
    refine lv_bipush (v := 63) hx hb dL_law_29 (by decide) ?_
    refine lv_iand hx hb dL_law_31 ?_
    refine lv_topi (fun x3 ex3 => ?_)
    replace h := bn_some h ex3
    by_cases c4 : x3 = 0
    · replace h := (if_pos c4).symm.trans h
      refine lv_tableIn (tgt := 200) hx hb dL_law_32 (by rw [c4]; decide) (by rw [c4]; decide) (by rw [c4]; rfl) (by decide) ?_
      exact kL_law_200 C hr k18 hk18 (X, Y, x_3) h _ _ _ hw (lv_sub hl [0, 1, 2, 3] rfl)
    replace h := (if_neg c4).symm.trans h
    by_cases c5 : x3 = 1
    · replace h := (if_pos c5).symm.trans h
      refine lv_tableIn (tgt := 223) hx hb dL_law_32 (by rw [c5]; decide) (by rw [c5]; decide) (by rw [c5]; rfl) (by decide) ?_
      exact kL_law_223 C hr k18 hk18 (X, Y, x_3) h _ _ _ hw (lv_sub hl [0, 1, 2, 3] rfl)
    replace h := (if_neg c5).symm.trans h
    by_cases c6 : x3 = 2
    · replace h := (if_pos c6).symm.trans h
      refine lv_tableIn (tgt := 236) hx hb dL_law_32 (by rw [c6]; decide) (by rw [c6]; decide) (by rw [c6]; rfl) (by decide) ?_
      exact kL_law_236 C hr k18 hk18 (X, Y, x_3) h _ _ _ hw (lv_sub hl [0, 1, 2, 3] rfl)
    replace h := (if_neg c6).symm.trans h
    by_cases c7 : x3 = 3
    · replace h := (if_pos c7).symm.trans h
      refine lv_tableIn (tgt := 269) hx hb dL_law_32 (by rw [c7]; decide) (by rw [c7]; decide) (by rw [c7]; rfl) (by decide) ?_
      exact kL_law_269 C hr k18 hk18 (X, Y, x_3) h _ _ _ hw (lv_sub hl [0, 1, 2, 3] rfl)
    replace h := (if_neg c7).symm.trans h
    by_cases c8 : x3 = 4
    · replace h := (if_pos c8).symm.trans h
      refine lv_tableIn (tgt := 302) hx hb dL_law_32 (by rw [c8]; decide) (by rw [c8]; decide) (by rw [c8]; rfl) (by decide) ?_
      exact kL_law_302 C hr k18 hk18 (X, Y, x_3) h _ _ _ hw (lv_sub hl [0, 1, 2, 3] rfl)
    replace h := (if_neg c8).symm.trans h
    by_cases c9 : x3 = 5
    · replace h := (if_pos c9).symm.trans h
      refine lv_tableIn (tgt := 335) hx hb dL_law_32 (by rw [c9]; decide) (by rw [c9]; decide) (by rw [c9]; rfl) (by decide) ?_
      exact kL_law_335 C hr k18 hk18 (X, Y, x_3) h _ _ _ hw (lv_sub hl [0, 1, 2, 3] rfl)
    replace h := (if_neg c9).symm.trans h
    by_cases c10 : x3 = 6
    · replace h := (if_pos c10).symm.trans h
      refine lv_tableIn (tgt := 358) hx hb dL_law_32 (by rw [c10]; decide) (by rw [c10]; decide) (by rw [c10]; rfl) (by decide) ?_
      exact kL_law_358 C hr k18 hk18 (X, Y, x_3) h _ _ _ hw (lv_sub hl [0, 1, 2, 3] rfl)
    replace h := (if_neg c10).symm.trans h
    by_cases c11 : x3 = 7
    · replace h := (if_pos c11).symm.trans h
      refine lv_tableIn (tgt := 381) hx hb dL_law_32 (by rw [c11]; decide) (by rw [c11]; decide) (by rw [c11]; rfl) (by decide) ?_
      exact kL_law_381 C hr k18 hk18 (X, Y, x_3) h _ _ _ hw (lv_sub hl [0, 1, 2, 3] rfl)
    replace h := (if_neg c11).symm.trans h
    by_cases c12 : x3 = 8
    · replace h := (if_pos c12).symm.trans h
      refine lv_tableIn (tgt := 404) hx hb dL_law_32 (by rw [c12]; decide) (by rw [c12]; decide) (by rw [c12]; rfl) (by decide) ?_
      exact kL_law_404 C hr k18 hk18 (X, Y, x_3) h _ _ _ hw (lv_sub hl [0, 1, 2, 3] rfl)
    replace h := (if_neg c12).symm.trans h
    by_cases c13 : x3 = 9
    · replace h := (if_pos c13).symm.trans h
      refine lv_tableIn (tgt := 427) hx hb dL_law_32 (by rw [c13]; decide) (by rw [c13]; decide) (by rw [c13]; rfl) (by decide) ?_
      exact kL_law_427 C hr k18 hk18 (X, Y, x_3) h _ _ _ hw (lv_sub hl [0, 1, 2, 3] rfl)
    replace h := (if_neg c13).symm.trans h
    by_cases c14 : x3 = 10
    · replace h := (if_pos c14).symm.trans h
      refine lv_tableIn (tgt := 460) hx hb dL_law_32 (by rw [c14]; decide) (by rw [c14]; decide) (by rw [c14]; rfl) (by decide) ?_
      exact kL_law_460 C hr k18 hk18 (X, Y, x_3) h _ _ _ hw (lv_sub hl [0, 1, 2, 3] rfl)
    replace h := (if_neg c14).symm.trans h
    by_cases c15 : x3 = 11
    · replace h := (if_pos c15).symm.trans h
      refine lv_tableIn (tgt := 503) hx hb dL_law_32 (by rw [c15]; decide) (by rw [c15]; decide) (by rw [c15]; rfl) (by decide) ?_
      exact kL_law_503 C hr k18 hk18 (X, Y, x_3) h _ _ _ hw (lv_sub hl [0, 1, 2, 3] rfl)
    replace h := (if_neg c15).symm.trans h
    by_cases c16 : x3 = 12
    · replace h := (if_pos c16).symm.trans h
      refine lv_tableIn (tgt := 526) hx hb dL_law_32 (by rw [c16]; decide) (by rw [c16]; decide) (by rw [c16]; rfl) (by decide) ?_
      exact kL_law_526 C hr k18 hk18 (X, Y, x_3) h _ _ _ hw (lv_sub hl [0, 1, 2, 3] rfl)
    replace h := (if_neg c16).symm.trans h
    by_cases c17 : x3 = 13
    · replace h := (if_pos c17).symm.trans h
      refine lv_tableIn (tgt := 559) hx hb dL_law_32 (by rw [c17]; decide) (by rw [c17]; decide) (by rw [c17]; rfl) (by decide) ?_
      exact kL_law_559 C hr k18 hk18 (X, Y, x_3) h _ _ _ hw (lv_sub hl [0, 1, 2, 3] rfl)
    replace h := (if_neg c17).symm.trans h
    by_cases c18 : x3 = 14
    · replace h := (if_pos c18).symm.trans h
      refine lv_tableIn (tgt := 592) hx hb dL_law_32 (by rw [c18]; decide) (by rw [c18]; decide) (by rw [c18]; rfl) (by decide) ?_
      exact kL_law_592 C hr k18 hk18 (X, Y, x_3) h _ _ _ hw (lv_sub hl [0, 1, 2, 3] rfl)
    replace h := (if_neg c18).symm.trans h
    by_cases c19 : x3 = 15
    · replace h := (if_pos c19).symm.trans h
      refine lv_tableIn (tgt := 615) hx hb dL_law_32 (by rw [c19]; decide) (by rw [c19]; decide) (by rw [c19]; rfl) (by decide) ?_
      exact kL_law_615 C hr k18 hk18 (X, Y, x_3) h _ _ _ hw (lv_sub hl [0, 1, 2, 3] rfl)
    replace h := (if_neg c19).symm.trans h
    by_cases c20 : x3 = 16
    · replace h := (if_pos c20).symm.trans h
      refine lv_tableIn (tgt := 638) hx hb dL_law_32 (by rw [c20]; decide) (by rw [c20]; decide) (by rw [c20]; rfl) (by decide) ?_
      exact kL_law_638 C hr k18 hk18 (X, Y, x_3) h _ _ _ hw (lv_sub hl [0, 1, 2, 3] rfl)
    replace h := (if_neg c20).symm.trans h
    by_cases c21 : x3 = 17
    · replace h := (if_pos c21).symm.trans h
      refine lv_tableIn (tgt := 671) hx hb dL_law_32 (by rw [c21]; decide) (by rw [c21]; decide) (by rw [c21]; rfl) (by decide) ?_
      exact kL_law_671 C hr k18 hk18 (X, Y, x_3) h _ _ _ hw (lv_sub hl [0, 1, 2, 3] rfl)
    replace h := (if_neg c21).symm.trans h
    by_cases c22 : x3 = 18
    · replace h := (if_pos c22).symm.trans h
      refine lv_tableIn (tgt := 704) hx hb dL_law_32 (by rw [c22]; decide) (by rw [c22]; decide) (by rw [c22]; rfl) (by decide) ?_
      exact kL_law_704 C hr k18 hk18 (X, Y, x_3) h _ _ _ hw (lv_sub hl [0, 1, 2, 3] rfl)
    replace h := (if_neg c22).symm.trans h
    by_cases c23 : x3 = 19
    · replace h := (if_pos c23).symm.trans h
      refine lv_tableIn (tgt := 747) hx hb dL_law_32 (by rw [c23]; decide) (by rw [c23]; decide) (by rw [c23]; rfl) (by decide) ?_
      exact kL_law_747 C hr k18 hk18 (X, Y, x_3) h _ _ _ hw (lv_sub hl [0, 1, 2, 3] rfl)
    replace h := (if_neg c23).symm.trans h
    by_cases c24 : x3 = 20
    · replace h := (if_pos c24).symm.trans h
      refine lv_tableIn (tgt := 770) hx hb dL_law_32 (by rw [c24]; decide) (by rw [c24]; decide) (by rw [c24]; rfl) (by decide) ?_
      exact kL_law_770 C hr k18 hk18 (X, Y, x_3) h _ _ _ hw (lv_sub hl [0, 1, 2, 3] rfl)
    replace h := (if_neg c24).symm.trans h
    by_cases c25 : x3 = 21
    · replace h := (if_pos c25).symm.trans h
      refine lv_tableIn (tgt := 793) hx hb dL_law_32 (by rw [c25]; decide) (by rw [c25]; decide) (by rw [c25]; rfl) (by decide) ?_
      exact kL_law_793 C hr k18 hk18 (X, Y, x_3) h _ _ _ hw (lv_sub hl [0, 1, 2, 3] rfl)
    replace h := (if_neg c25).symm.trans h
    by_cases c26 : x3 = 22
    · replace h := (if_pos c26).symm.trans h
      refine lv_tableIn (tgt := 816) hx hb dL_law_32 (by rw [c26]; decide) (by rw [c26]; decide) (by rw [c26]; rfl) (by decide) ?_
      exact kL_law_816 C hr k18 hk18 (X, Y, x_3) h _ _ _ hw (lv_sub hl [0, 1, 2, 3] rfl)
    replace h := (if_neg c26).symm.trans h
    by_cases c27 : x3 = 23
    · replace h := (if_pos c27).symm.trans h
      refine lv_tableIn (tgt := 839) hx hb dL_law_32 (by rw [c27]; decide) (by rw [c27]; decide) (by rw [c27]; rfl) (by decide) ?_
      exact kL_law_839 C hr k18 hk18 (X, Y, x_3) h _ _ _ hw (lv_sub hl [0, 1, 2, 3] rfl)
    replace h := (if_neg c27).symm.trans h
    by_cases c28 : x3 = 24
    · replace h := (if_pos c28).symm.trans h
      refine lv_tableIn (tgt := 862) hx hb dL_law_32 (by rw [c28]; decide) (by rw [c28]; decide) (by rw [c28]; rfl) (by decide) ?_
      exact kL_law_862 C hr k18 hk18 (X, Y, x_3) h _ _ _ hw (lv_sub hl [0, 1, 2, 3] rfl)
    replace h := (if_neg c28).symm.trans h
    by_cases c29 : x3 = 25
    · replace h := (if_pos c29).symm.trans h
      refine lv_tableIn (tgt := 875) hx hb dL_law_32 (by rw [c29]; decide) (by rw [c29]; decide) (by rw [c29]; rfl) (by decide) ?_
      exact kL_law_875 C hr k18 hk18 (X, Y, x_3) h _ _ _ hw (lv_sub hl [0, 1, 2, 3] rfl)
    replace h := (if_neg c29).symm.trans h
    by_cases c30 : x3 = 26
    · replace h := (if_pos c30).symm.trans h
      refine lv_tableIn (tgt := 888) hx hb dL_law_32 (by rw [c30]; decide) (by rw [c30]; decide) (by rw [c30]; rfl) (by decide) ?_
      exact kL_law_888 C hr k18 hk18 (X, Y, x_3) h _ _ _ hw (lv_sub hl [0, 1, 2, 3] rfl)
    replace h := (if_neg c30).symm.trans h
    by_cases c31 : x3 = 27
    · replace h := (if_pos c31).symm.trans h
      refine lv_tableIn (tgt := 901) hx hb dL_law_32 (by rw [c31]; decide) (by rw [c31]; decide) (by rw [c31]; rfl) (by decide) ?_
      exact kL_law_901 C hr k18 hk18 (X, Y, x_3) h _ _ _ hw (lv_sub hl [0, 1, 2, 3] rfl)
    replace h := (if_neg c31).symm.trans h
    by_cases c32 : x3 = 28
    · replace h := (if_pos c32).symm.trans h
      refine lv_tableIn (tgt := 944) hx hb dL_law_32 (by rw [c32]; decide) (by rw [c32]; decide) (by rw [c32]; rfl) (by decide) ?_
      exact kL_law_944 C hr k18 hk18 (X, Y, x_3) h _ _ _ hw (lv_sub hl [0, 1, 2, 3] rfl)
    replace h := (if_neg c32).symm.trans h
    by_cases c33 : x3 = 29
    · replace h := (if_pos c33).symm.trans h
      refine lv_tableIn (tgt := 998) hx hb dL_law_32 (by rw [c33]; decide) (by rw [c33]; decide) (by rw [c33]; rfl) (by decide) ?_
      exact kL_law_998 C hr k18 hk18 (X, Y, x_3) h _ _ _ hw (lv_sub hl [0, 1, 2, 3] rfl)
    replace h := (if_neg c33).symm.trans h
    by_cases c34 : x3 = 30
    · replace h := (if_pos c34).symm.trans h
      refine lv_tableIn (tgt := 1022) hx hb dL_law_32 (by rw [c34]; decide) (by rw [c34]; decide) (by rw [c34]; rfl) (by decide) ?_
      exact kL_law_1022 C hr k18 hk18 (X, Y, x_3) h _ _ _ hw (lv_sub hl [0, 1, 2, 3] rfl)
    replace h := (if_neg c34).symm.trans h
    by_cases c35 : x3 = 31
    · replace h := (if_pos c35).symm.trans h
      refine lv_tableIn (tgt := 1055) hx hb dL_law_32 (by rw [c35]; decide) (by rw [c35]; decide) (by rw [c35]; rfl) (by decide) ?_
      exact kL_law_1055 C hr k18 hk18 (X, Y, x_3) h _ _ _ hw (lv_sub hl [0, 1, 2, 3] rfl)
    replace h := (if_neg c35).symm.trans h
    by_cases c36 : x3 = 32
    · replace h := (if_pos c36).symm.trans h
      refine lv_tableIn (tgt := 1078) hx hb dL_law_32 (by rw [c36]; decide) (by rw [c36]; decide) (by rw [c36]; rfl) (by decide) ?_
      exact kL_law_1078 C hr k18 hk18 (X, Y, x_3) h _ _ _ hw (lv_sub hl [0, 1, 2, 3] rfl)
    replace h := (if_neg c36).symm.trans h
    by_cases c37 : x3 = 33
    · replace h := (if_pos c37).symm.trans h
      refine lv_tableIn (tgt := 1091) hx hb dL_law_32 (by rw [c37]; decide) (by rw [c37]; decide) (by rw [c37]; rfl) (by decide) ?_
      exact kL_law_1091 C hr k18 hk18 (X, Y, x_3) h _ _ _ hw (lv_sub hl [0, 1, 2, 3] rfl)
    replace h := (if_neg c37).symm.trans h
    by_cases c38 : x3 = 34
    · replace h := (if_pos c38).symm.trans h
      refine lv_tableIn (tgt := 1104) hx hb dL_law_32 (by rw [c38]; decide) (by rw [c38]; decide) (by rw [c38]; rfl) (by decide) ?_
      exact kL_law_1104 C hr k18 hk18 (X, Y, x_3) h _ _ _ hw (lv_sub hl [0, 1, 2, 3] rfl)
    replace h := (if_neg c38).symm.trans h
    by_cases c39 : x3 = 35
    · replace h := (if_pos c39).symm.trans h
      refine lv_tableIn (tgt := 1147) hx hb dL_law_32 (by rw [c39]; decide) (by rw [c39]; decide) (by rw [c39]; rfl) (by decide) ?_
      exact kL_law_1147 C hr k18 hk18 (X, Y, x_3) h _ _ _ hw (lv_sub hl [0, 1, 2, 3] rfl)
    replace h := (if_neg c39).symm.trans h
    by_cases c40 : x3 = 36
    · replace h := (if_pos c40).symm.trans h
      refine lv_tableIn (tgt := 1160) hx hb dL_law_32 (by rw [c40]; decide) (by rw [c40]; decide) (by rw [c40]; rfl) (by decide) ?_
      exact kL_law_1160 C hr k18 hk18 (X, Y, x_3) h _ _ _ hw (lv_sub hl [0, 1, 2, 3] rfl)
    replace h := (if_neg c40).symm.trans h
    by_cases c41 : x3 = 37
    · replace h := (if_pos c41).symm.trans h
      refine lv_tableIn (tgt := 1173) hx hb dL_law_32 (by rw [c41]; decide) (by rw [c41]; decide) (by rw [c41]; rfl) (by decide) ?_
      exact kL_law_1173 C hr k18 hk18 (X, Y, x_3) h _ _ _ hw (lv_sub hl [0, 1, 2, 3] rfl)
    replace h := (if_neg c41).symm.trans h
    have hout : (x3 : Int32).toInt < 0 ∨ 37 < (x3 : Int32).toInt := sw_out (fun k h1 h2 => by
      have hk : k = 0 ∨ k = 1 ∨ k = 2 ∨ k = 3 ∨ k = 4 ∨ k = 5 ∨ k = 6 ∨ k = 7 ∨ k = 8 ∨ k = 9 ∨ k = 10 ∨ k = 11 ∨ k = 12 ∨ k = 13 ∨ k = 14 ∨ k = 15 ∨ k = 16 ∨ k = 17 ∨ k = 18 ∨ k = 19 ∨ k = 20 ∨ k = 21 ∨ k = 22 ∨ k = 23 ∨ k = 24 ∨ k = 25 ∨ k = 26 ∨ k = 27 ∨ k = 28 ∨ k = 29 ∨ k = 30 ∨ k = 31 ∨ k = 32 ∨ k = 33 ∨ k = 34 ∨ k = 35 ∨ k = 36 ∨ k = 37 := by omega
      rcases hk with rfl | rfl | rfl | rfl | rfl | rfl | rfl | rfl | rfl | rfl | rfl | rfl | rfl | rfl | rfl | rfl | rfl | rfl | rfl | rfl | rfl | rfl | rfl | rfl | rfl | rfl | rfl | rfl | rfl | rfl | rfl | rfl | rfl | rfl | rfl | rfl | rfl | rfl
      · exact sw_ne c4 (by decide)
      · exact sw_ne c5 (by decide)
      · exact sw_ne c6 (by decide)
      · exact sw_ne c7 (by decide)
      · exact sw_ne c8 (by decide)
      · exact sw_ne c9 (by decide)
      · exact sw_ne c10 (by decide)
      · exact sw_ne c11 (by decide)
      · exact sw_ne c12 (by decide)
      · exact sw_ne c13 (by decide)
      · exact sw_ne c14 (by decide)
      · exact sw_ne c15 (by decide)
      · exact sw_ne c16 (by decide)
      · exact sw_ne c17 (by decide)
      · exact sw_ne c18 (by decide)
      · exact sw_ne c19 (by decide)
      · exact sw_ne c20 (by decide)
      · exact sw_ne c21 (by decide)
      · exact sw_ne c22 (by decide)
      · exact sw_ne c23 (by decide)
      · exact sw_ne c24 (by decide)
      · exact sw_ne c25 (by decide)
      · exact sw_ne c26 (by decide)
      · exact sw_ne c27 (by decide)
      · exact sw_ne c28 (by decide)
      · exact sw_ne c29 (by decide)
      · exact sw_ne c30 (by decide)
      · exact sw_ne c31 (by decide)
      · exact sw_ne c32 (by decide)
      · exact sw_ne c33 (by decide)
      · exact sw_ne c34 (by decide)
      · exact sw_ne c35 (by decide)
      · exact sw_ne c36 (by decide)
      · exact sw_ne c37 (by decide)
      · exact sw_ne c38 (by decide)
      · exact sw_ne c39 (by decide)
      · exact sw_ne c40 (by decide)
      · exact sw_ne c41 (by decide))
    refine lv_tableOut (tgt := 1196) hx hb dL_law_32 hout (by decide) ?_
    exact kL_law_1196 C hr k18 hk18 (X, Y, x_3) h _ _ _ hw (lv_sub hl [0, 1, 2, 3] rfl)
theorem lL_law_18 {L : Nat} {xs : Nat → Int32} (C : Cx p s m args meth c cL_law 4 RL D cA g A) (hr : va_X b L xs s s.heap ∧ b < s.heap.size ∧ ¬ A b ∧ (∀ q, A q → s.heap.size ≤ q) ∧ meth.sig.returnType = ret ∧ meth.locks = false ∧ args = #[Value.ref b]) {z : Unit} (n : Nat) (x : (Nat → VS) × (VS) × (Int32)) (h : lp (fL_law_18 L xs) n x = some z) : GL_law_18 p l e s m args below meth c D cA A ad ad2 b L xs z x := lp_ok (GL_law_18 p l e s m args below meth c D cA A ad ad2 b L xs z) (fun kq hkq x h => kL_law_18 C hr kq hkq x h) n x h
end
