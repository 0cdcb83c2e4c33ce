def Cx (p : Program) (s : State) (m : MethodId) (args : Array Value) (c : Code) (cc : ByteArray) (nL : Nat) (own : String) (G : Gp) (lo hi : Nat) : Prop :=
  p.tables.exec = Jvm.exec ∧ c.code = cc ∧ c.maxLocals = nL ∧ s.vm.findClass own = some m.cls ∧ (∀ w ∈ tblG, w.before args s = true) ∧ va_K (gD G) vwCl (gT G) s ∧ gE G s ∧ gOK G ∧ ∀ k, lo ≤ k → k < hi → k ∈ gks G
def WG (p : Program) (l : Launch) (e : Env) (R : Room) (s : State) (m : MethodId) (args : Array Value) (below : List Frame) (meth : Method) (c : Code) (cells slots : Nat) (Q : State → Prop) (G : Gp) (nL pc : Nat) (lv : List (Nat × Value)) (stk : List Value) (st : St) : Prop :=
  ∀ (H : Heap) (locs : List Loc) (ls : Array Slot), va_P (gD G) vwCl (wld G st) H → va_S (gA G) s.heap H locs → lv_has ls nL lv → W p l e R s m args below meth c H locs cells slots Q (F0 m pc ls stk)
section GROWS
variable {p : Program} {l : Launch} {e : Env} {R : Room} {s : State} {m : MethodId} {args : Array Value} {below : List Frame} {meth : Method} {c : Code} {cells slots : Nat} {Q : State → Prop} {G : Gp} {nL pc lo hi : Nat} {lv : List (Nat × Value)} {stk : List Value} {st : St} {cc : ByteArray} {own : String}
theorem Cx.win (C : Cx p s m args c cc nL own G lo hi) {k : Nat} (h1 : lo ≤ k) (h2 : k < hi) : k ∈ gks G := C.2.2.2.2.2.2.2.2 k h1 h2
theorem Cx.pol (C : Cx p s m args c cc nL own G 0 17) {k : Nat} (h : isPol k) : k ∈ gks G := C.win (Nat.zero_le _) h.lt
theorem Cx.row (C : Cx p s m args c cc nL own G 0 17) {k : Nat} (h : isPol k) : k + 1 ∈ gks G := C.win (Nat.zero_le _) h.lt1
theorem g_lv {lv' : List (Nat × Value)} (h : lv = lv') (k : WG p l e R s m args below meth c cells slots Q G nL pc lv' stk st) : WG p l e R s m args below meth c cells slots Q G nL pc lv stk st := h ▸ k
theorem g_perm {lv' : List (Nat × Value)} (ks : List Nat) (h : lv_pick lv ks = lv') (k : WG p l e R s m args below meth c cells slots Q G nL pc lv' stk st) : WG p l e R s m args below meth c cells slots Q G nL pc lv stk st :=
  fun H locs ls hP hS hl => k H locs ls hP hS (lv_sub hl ks h)
theorem g_pc {pc' : Nat} (h : pc = pc') (k : WG p l e R s m args below meth c cells slots Q G nL pc' lv stk st) : WG p l e R s m args below meth c cells slots Q G nL pc lv stk st := h ▸ k
theorem g_iconst (C : Cx p s m args c cc nL own G lo hi) {n : Int} (v : Int32) (hdg : decode cc pc = .ok (.iconst n, 1)) (hv : Int32.ofInt n = v) (k : WG p l e R s m args below meth c cells slots Q G nL (pc + 1) lv (.int v :: stk) st) : WG p l e R s m args below meth c cells slots Q G nL pc lv stk st :=
  fun H locs ls hP hS hl => lv_iconst C.1 C.2.1 hdg hv (k H locs ls hP hS hl)
theorem g_bipush (C : Cx p s m args c cc nL own G lo hi) {n : Int} (v : Int32) (hdg : decode cc pc = .ok (.bipush n, 2)) (hv : (Int8.ofInt n).toInt32 = v) (k : WG p l e R s m args below meth c cells slots Q G nL (pc + 2) lv (.int v :: stk) st) : WG p l e R s m args below meth c cells slots Q G nL pc lv stk st :=
  fun H locs ls hP hS hl => lv_bipush C.1 C.2.1 hdg hv (k H locs ls hP hS hl)
theorem g_sipush (C : Cx p s m args c cc nL own G lo hi) {n : Int} (v : Int32) (hdg : decode cc pc = .ok (.sipush n, 3)) (hv : (Int16.ofInt n).toInt32 = v) (k : WG p l e R s m args below meth c cells slots Q G nL (pc + 3) lv (.int v :: stk) st) : WG p l e R s m args below meth c cells slots Q G nL pc lv stk st :=
  fun H locs ls hP hS hl => lv_sipush C.1 C.2.1 hdg hv (k H locs ls hP hS hl)
theorem g_ldc (C : Cx p s m args c cc nL own G lo hi) {index : Nat} (v : Int32) (hw : Cond.constant own index v ∈ tblG) (hdg : decode cc pc = .ok (.ldc index, 2)) (k : WG p l e R s m args below meth c cells slots Q G nL (pc + 2) lv (.int v :: stk) st) : WG p l e R s m args below meth c cells slots Q G nL pc lv stk st :=
  fun H locs ls hP hS hl => lv_ldc C.1 C.2.1 C.2.2.2.1 (C.2.2.2.2.1 _ hw) hdg (k H locs ls hP hS hl)
theorem g_ldcw (C : Cx p s m args c cc nL own G lo hi) {index : Nat} (v : Int32) (hw : Cond.constant own index v ∈ tblG) (hdg : decode cc pc = .ok (.ldc_w index, 3)) (k : WG p l e R s m args below meth c cells slots Q G nL (pc + 3) lv (.int v :: stk) st) : WG p l e R s m args below meth c cells slots Q G nL pc lv stk st :=
  fun H locs ls hP hS hl => lv_ldcw C.1 C.2.1 C.2.2.2.1 (C.2.2.2.2.1 _ hw) hdg (k H locs ls hP hS hl)
theorem g_ldcS (C : Cx p s m args c cc nL own G lo hi) {index : Nat} (i : Nat) (hi : i < nSx) (ho : ownSx i = own) (hx : idxSx i = index) (hdg : decode cc pc = .ok (.ldc index, 2)) (k : WG p l e R s m args below meth c cells slots Q G nL (pc + 2) lv (.ref (gK G i) :: stk) st) : WG p l e R s m args below meth c cells slots Q G nL pc lv stk st := by
  intro H locs ls hP hS hl
  have h := C.2.2.2.2.2.2.1.2.2.2.2.2.2.1 i hi
  rw [ho, hx] at h
  exact va_ldcS C.1 C.2.1 C.2.2.2.1 h hdg (k H locs ls hP hS hl)
theorem g_iload_n (C : Cx p s m args c cc nL own G lo hi) {q : Fin 4} {i : Nat} {x : Int32} (j : Nat) (hdg : decode cc pc = .ok (.iload_n q, 1)) (hi : (q : Nat) = i) (ha : lv[j]? = some (i, .int x)) (k : WG p l e R s m args below meth c cells slots Q G nL (pc + 1) lv (.int x :: stk) st) : WG p l e R s m args below meth c cells slots Q G nL pc lv stk st :=
  fun H locs ls hP hS hl => lv_iload_n C.1 C.2.1 hdg hi (lv_at hl j ha) (k H locs ls hP hS hl)
theorem g_iload (C : Cx p s m args c cc nL own G lo hi) {i : Nat} {x : Int32} (j : Nat) (hdg : decode cc pc = .ok (.iload i, 2)) (ha : lv[j]? = some (i, .int x)) (k : WG p l e R s m args below meth c cells slots Q G nL (pc + 2) lv (.int x :: stk) st) : WG p l e R s m args below meth c cells slots Q G nL pc lv stk st :=
  fun H locs ls hP hS hl => lv_iload C.1 C.2.1 hdg (lv_at hl j ha) (k H locs ls hP hS hl)
theorem g_aload_n (C : Cx p s m args c cc nL own G lo hi) {q : Fin 4} {i : Nat} {x : Nat} (j : Nat) (hdg : decode cc pc = .ok (.aload_n q, 1)) (hi : (q : Nat) = i) (ha : lv[j]? = some (i, .ref x)) (k : WG p l e R s m args below meth c cells slots Q G nL (pc + 1) lv (.ref x :: stk) st) : WG p l e R s m args below meth c cells slots Q G nL pc lv stk st :=
  fun H locs ls hP hS hl => lv_aload_n C.1 C.2.1 hdg hi (lv_at hl j ha) (k H locs ls hP hS hl)
theorem g_aload (C : Cx p s m args c cc nL own G lo hi) {i : Nat} {x : Nat} (j : Nat) (hdg : decode cc pc = .ok (.aload i, 2)) (ha : lv[j]? = some (i, .ref x)) (k : WG p l e R s m args below meth c cells slots Q G nL (pc + 2) lv (.ref x :: stk) st) : WG p l e R s m args below meth c cells slots Q G nL pc lv stk st :=
  fun H locs ls hP hS hl => lv_aload C.1 C.2.1 hdg (lv_at hl j ha) (k H locs ls hP hS hl)
theorem g_istore_n (C : Cx p s m args c cc nL own G lo hi) {q : Fin 4} {i : Nat} {x : Int32} {lv' : List (Nat × Value)} (hdg : decode cc pc = .ok (.istore_n q, 1)) (hi : (q : Nat) = i) (hn : i < nL) (hl' : (i, Value.int x) :: lv.filter (fun q => !(q.1 == i) && !(q.1 + 1 == i && q.2.category == 2)) = lv') (k : WG p l e R s m args below meth c cells slots Q G nL (pc + 1) lv' stk st) : WG p l e R s m args below meth c cells slots Q G nL pc lv (.int x :: stk) st :=
  fun H locs ls hP hS hl => lv_istore_n C.1 C.2.1 hdg hi hl hn hl' (fun ls hl => k H locs ls hP hS hl)
theorem g_istore (C : Cx p s m args c cc nL own G lo hi) {i : Nat} {x : Int32} {lv' : List (Nat × Value)} (hdg : decode cc pc = .ok (.istore i, 2)) (hn : i < nL) (hl' : (i, Value.int x) :: lv.filter (fun q => !(q.1 == i) && !(q.1 + 1 == i && q.2.category == 2)) = lv') (k : WG p l e R s m args below meth c cells slots Q G nL (pc + 2) lv' stk st) : WG p l e R s m args below meth c cells slots Q G nL pc lv (.int x :: stk) st :=
  fun H locs ls hP hS hl => lv_istore C.1 C.2.1 hdg hl hn hl' (fun ls hl => k H locs ls hP hS hl)
theorem g_astore_n (C : Cx p s m args c cc nL own G lo hi) {q : Fin 4} {i : Nat} {x : Nat} {lv' : List (Nat × Value)} (hdg : decode cc pc = .ok (.astore_n q, 1)) (hi : (q : Nat) = i) (hn : i < nL) (hl' : (i, Value.ref x) :: lv.filter (fun q => !(q.1 == i) && !(q.1 + 1 == i && q.2.category == 2)) = lv') (k : WG p l e R s m args below meth c cells slots Q G nL (pc + 1) lv' stk st) : WG p l e R s m args below meth c cells slots Q G nL pc lv (.ref x :: stk) st :=
  fun H locs ls hP hS hl => lv_astore_n C.1 C.2.1 hdg hi hl hn hl' (fun ls hl => k H locs ls hP hS hl)
theorem g_astore (C : Cx p s m args c cc nL own G lo hi) {i : Nat} {x : Nat} {lv' : List (Nat × Value)} (hdg : decode cc pc = .ok (.astore i, 2)) (hn : i < nL) (hl' : (i, Value.ref x) :: lv.filter (fun q => !(q.1 == i) && !(q.1 + 1 == i && q.2.category == 2)) = lv') (k : WG p l e R s m args below meth c cells slots Q G nL (pc + 2) lv' stk st) : WG p l e R s m args below meth c cells slots Q G nL pc lv (.ref x :: stk) st :=
  fun H locs ls hP hS hl => lv_astore C.1 C.2.1 hdg hl hn hl' (fun ls hl => k H locs ls hP hS hl)
theorem g_iinc (C : Cx p s m args c cc nL own G lo hi) {i : Nat} {n : Int} {x : Int32} (v : Int32) {lv' : List (Nat × Value)} (j : Nat) (hdg : decode cc pc = .ok (.iinc i n, 3)) (ha : lv[j]? = some (i, .int x)) (hv : x + Int32.ofInt n = v) (hn : i < nL) (hl' : (i, Value.int v) :: lv.filter (fun q => !(q.1 == i) && !(q.1 + 1 == i && q.2.category == 2)) = lv') (k : WG p l e R s m args below meth c cells slots Q G nL (pc + 3) lv' stk st) : WG p l e R s m args below meth c cells slots Q G nL pc lv stk st :=
  fun H locs ls hP hS hl => lv_iinc (k := j) C.1 C.2.1 hdg hl ha hv hn hl' (fun ls hl => k H locs ls hP hS hl)
theorem g_iadd (C : Cx p s m args c cc nL own G lo hi) {x y : Int32} (hdg : decode cc pc = .ok (.iadd, 1)) (k : WG p l e R s m args below meth c cells slots Q G nL (pc + 1) lv (.int (x + y) :: stk) st) : WG p l e R s m args below meth c cells slots Q G nL pc lv (.int y :: .int x :: stk) st :=
  fun H locs ls hP hS hl => lv_iadd C.1 C.2.1 hdg (k H locs ls hP hS hl)
theorem g_isub (C : Cx p s m args c cc nL own G lo hi) {x y : Int32} (hdg : decode cc pc = .ok (.isub, 1)) (k : WG p l e R s m args below meth c cells slots Q G nL (pc + 1) lv (.int (x - y) :: stk) st) : WG p l e R s m args below meth c cells slots Q G nL pc lv (.int y :: .int x :: stk) st :=
  fun H locs ls hP hS hl => lv_isub C.1 C.2.1 hdg (k H locs ls hP hS hl)
theorem g_imul (C : Cx p s m args c cc nL own G lo hi) {x y : Int32} (hdg : decode cc pc = .ok (.imul, 1)) (k : WG p l e R s m args below meth c cells slots Q G nL (pc + 1) lv (.int (x * y) :: stk) st) : WG p l e R s m args below meth c cells slots Q G nL pc lv (.int y :: .int x :: stk) st :=
  fun H locs ls hP hS hl => lv_imul C.1 C.2.1 hdg (k H locs ls hP hS hl)
theorem g_iand (C : Cx p s m args c cc nL own G lo hi) {x y : Int32} (hdg : decode cc pc = .ok (.iand, 1)) (k : WG p l e R s m args below meth c cells slots Q G nL (pc + 1) lv (.int (x &&& y) :: stk) st) : WG p l e R s m args below meth c cells slots Q G nL pc lv (.int y :: .int x :: stk) st :=
  fun H locs ls hP hS hl => lv_iand C.1 C.2.1 hdg (k H locs ls hP hS hl)
theorem g_ior (C : Cx p s m args c cc nL own G lo hi) {x y : Int32} (hdg : decode cc pc = .ok (.ior, 1)) (k : WG p l e R s m args below meth c cells slots Q G nL (pc + 1) lv (.int (x ||| y) :: stk) st) : WG p l e R s m args below meth c cells slots Q G nL pc lv (.int y :: .int x :: stk) st :=
  fun H locs ls hP hS hl => lv_ior C.1 C.2.1 hdg (k H locs ls hP hS hl)
theorem g_ixor (C : Cx p s m args c cc nL own G lo hi) {x y : Int32} (hdg : decode cc pc = .ok (.ixor, 1)) (k : WG p l e R s m args below meth c cells slots Q G nL (pc + 1) lv (.int (x ^^^ y) :: stk) st) : WG p l e R s m args below meth c cells slots Q G nL pc lv (.int y :: .int x :: stk) st :=
  fun H locs ls hP hS hl => lv_ixor C.1 C.2.1 hdg (k H locs ls hP hS hl)
theorem g_ishl (C : Cx p s m args c cc nL own G lo hi) {x y : Int32} (hdg : decode cc pc = .ok (.ishl, 1)) (k : WG p l e R s m args below meth c cells slots Q G nL (pc + 1) lv (.int (x <<< (y &&& 31)) :: stk) st) : WG p l e R s m args below meth c cells slots Q G nL pc lv (.int y :: .int x :: stk) st :=
  fun H locs ls hP hS hl => lv_ishl C.1 C.2.1 hdg (k H locs ls hP hS hl)
theorem g_ishr (C : Cx p s m args c cc nL own G lo hi) {x y : Int32} (hdg : decode cc pc = .ok (.ishr, 1)) (k : WG p l e R s m args below meth c cells slots Q G nL (pc + 1) lv (.int (x >>> (y &&& 31)) :: stk) st) : WG p l e R s m args below meth c cells slots Q G nL pc lv (.int y :: .int x :: stk) st :=
  fun H locs ls hP hS hl => lv_ishr C.1 C.2.1 hdg (k H locs ls hP hS hl)
theorem g_idiv (C : Cx p s m args c cc nL own G lo hi) {x y : Int32} (hdg : decode cc pc = .ok (.idiv, 1)) (hne : ¬ y = 0) (k : WG p l e R s m args below meth c cells slots Q G nL (pc + 1) lv (.int (x / y) :: stk) st) : WG p l e R s m args below meth c cells slots Q G nL pc lv (.int y :: .int x :: stk) st :=
  fun H locs ls hP hS hl => lv_idiv C.1 C.2.1 hdg hne (k H locs ls hP hS hl)
theorem g_irem (C : Cx p s m args c cc nL own G lo hi) {x y : Int32} (hdg : decode cc pc = .ok (.irem, 1)) (hne : ¬ y = 0) (k : WG p l e R s m args below meth c cells slots Q G nL (pc + 1) lv (.int (x - x / y * y) :: stk) st) : WG p l e R s m args below meth c cells slots Q G nL pc lv (.int y :: .int x :: stk) st :=
  fun H locs ls hP hS hl => lv_irem C.1 C.2.1 hdg hne (k H locs ls hP hS hl)
theorem g_ineg (C : Cx p s m args c cc nL own G lo hi) {x : Int32} (hdg : decode cc pc = .ok (.ineg, 1)) (k : WG p l e R s m args below meth c cells slots Q G nL (pc + 1) lv (.int (-x) :: stk) st) : WG p l e R s m args below meth c cells slots Q G nL pc lv (.int x :: stk) st :=
  fun H locs ls hP hS hl => lv_ineg C.1 C.2.1 hdg (k H locs ls hP hS hl)
def ushr (x y : Int32) : Int32 := (x.toUInt32 >>> (y.toUInt32 &&& Int32.toUInt32 31)).toInt32
theorem g_iushr (C : Cx p s m args c cc nL own G lo hi) {x y : Int32} (hdg : decode cc pc = .ok (.iushr, 1)) (k : WG p l e R s m args below meth c cells slots Q G nL (pc + 1) lv (.int (ushr x y) :: stk) st) : WG p l e R s m args below meth c cells slots Q G nL pc lv (.int y :: .int x :: stk) st :=
  fun H locs ls hP hS hl => lv_iushr C.1 C.2.1 hdg rfl (k H locs ls hP hS hl)
def toChr (x : Int32) : Int32 := (x.toUInt32 % 65536).toInt32
theorem g_i2c (C : Cx p s m args c cc nL own G lo hi) {x : Int32} (hdg : decode cc pc = .ok (.i2c, 1)) (k : WG p l e R s m args below meth c cells slots Q G nL (pc + 1) lv (.int (toChr x) :: stk) st) : WG p l e R s m args below meth c cells slots Q G nL pc lv (.int x :: stk) st :=
  fun H locs ls hP hS hl => lv_i2c C.1 C.2.1 hdg rfl (k H locs ls hP hS hl)
theorem g_dup (C : Cx p s m args c cc nL own G lo hi) {va : Value} (hdg : decode cc pc = .ok (.dup, 1)) (hc : va.category = 1) (k : WG p l e R s m args below meth c cells slots Q G nL (pc + 1) lv (va :: va :: stk) st) : WG p l e R s m args below meth c cells slots Q G nL pc lv (va :: stk) st :=
  fun H locs ls hP hS hl => lv_dup C.1 C.2.1 hdg hc (k H locs ls hP hS hl)
theorem g_dup2 (C : Cx p s m args c cc nL own G lo hi) {va vb : Value} (hdg : decode cc pc = .ok (.dup2, 1)) (hc : va.category = 1) (hd : vb.category = 1) (k : WG p l e R s m args below meth c cells slots Q G nL (pc + 1) lv (va :: vb :: va :: vb :: stk) st) : WG p l e R s m args below meth c cells slots Q G nL pc lv (va :: vb :: stk) st :=
  fun H locs ls hP hS hl => lv_dup2_11 C.1 C.2.1 hdg hc hd (k H locs ls hP hS hl)
theorem g_pop (C : Cx p s m args c cc nL own G lo hi) {va : Value} (hdg : decode cc pc = .ok (.pop, 1)) (hc : va.category = 1) (k : WG p l e R s m args below meth c cells slots Q G nL (pc + 1) lv stk st) : WG p l e R s m args below meth c cells slots Q G nL pc lv (va :: stk) st :=
  fun H locs ls hP hS hl => lv_pop C.1 C.2.1 hdg hc (k H locs ls hP hS hl)
theorem g_goto (C : Cx p s m args c cc nL own G lo hi) {off : Int} (tgt : Nat) (hdg : decode cc pc = .ok (.goto off, 3)) (ht : (pc : Int) + off = (tgt : Int)) (k : WG p l e R s m args below meth c cells slots Q G nL tgt lv stk st) : WG p l e R s m args below meth c cells slots Q G nL pc lv stk st :=
  fun H locs ls hP hS hl => lv_goto C.1 C.2.1 hdg ht (k H locs ls hP hS hl)
theorem g_topi {x : Int32} (k : ∀ y : Int32, y = x → WG p l e R s m args below meth c cells slots Q G nL pc lv (.int y :: stk) st) : WG p l e R s m args below meth c cells slots Q G nL pc lv (.int x :: stk) st := k x rfl
theorem g_if_eq (C : Cx p s m args c cc nL own G lo hi) {x : Int32} {off : Int} (tgt : Nat) (hdg : decode cc pc = .ok (.ifCond .eq off, 3)) (ht : (pc : Int) + off = (tgt : Int)) (kt : x = 0 → WG p l e R s m args below meth c cells slots Q G nL tgt lv stk st) (kf : ¬ x = 0 → WG p l e R s m args below meth c cells slots Q G nL (pc + 3) lv stk st) : WG p l e R s m args below meth c cells slots Q G nL pc lv (.int x :: stk) st :=
  fun H locs ls hP hS hl => lv_if_eq C.1 C.2.1 hdg ht (fun h => kt h H locs ls hP hS hl) (fun h => kf h H locs ls hP hS hl)
theorem g_icmp_eq (C : Cx p s m args c cc nL own G lo hi) {x y : Int32} {off : Int} (tgt : Nat) (hdg : decode cc pc = .ok (.if_icmp .eq off, 3)) (ht : (pc : Int) + off = (tgt : Int)) (kt : x = y → WG p l e R s m args below meth c cells slots Q G nL tgt lv stk st) (kf : ¬ x = y → WG p l e R s m args below meth c cells slots Q G nL (pc + 3) lv stk st) : WG p l e R s m args below meth c cells slots Q G nL pc lv (.int y :: .int x :: stk) st :=
  fun H locs ls hP hS hl => lv_icmp_eq C.1 C.2.1 hdg ht (fun h => kt h H locs ls hP hS hl) (fun h => kf h H locs ls hP hS hl)
theorem g_if_ne (C : Cx p s m args c cc nL own G lo hi) {x : Int32} {off : Int} (tgt : Nat) (hdg : decode cc pc = .ok (.ifCond .ne off, 3)) (ht : (pc : Int) + off = (tgt : Int)) (kt : ¬ x = 0 → WG p l e R s m args below meth c cells slots Q G nL tgt lv stk st) (kf : x = 0 → WG p l e R s m args below meth c cells slots Q G nL (pc + 3) lv stk st) : WG p l e R s m args below meth c cells slots Q G nL pc lv (.int x :: stk) st :=
  fun H locs ls hP hS hl => lv_if_ne C.1 C.2.1 hdg ht (fun h => kt h H locs ls hP hS hl) (fun h => kf h H locs ls hP hS hl)
theorem g_icmp_ne (C : Cx p s m args c cc nL own G lo hi) {x y : Int32} {off : Int} (tgt : Nat) (hdg : decode cc pc = .ok (.if_icmp .ne off, 3)) (ht : (pc : Int) + off = (tgt : Int)) (kt : ¬ x = y → WG p l e R s m args below meth c cells slots Q G nL tgt lv stk st) (kf : x = y → WG p l e R s m args below meth c cells slots Q G nL (pc + 3) lv stk st) : WG p l e R s m args below meth c cells slots Q G nL pc lv (.int y :: .int x :: stk) st :=
  fun H locs ls hP hS hl => lv_icmp_ne C.1 C.2.1 hdg ht (fun h => kt h H locs ls hP hS hl) (fun h => kf h H locs ls hP hS hl)
theorem g_if_lt (C : Cx p s m args c cc nL own G lo hi) {x : Int32} {off : Int} (tgt : Nat) (hdg : decode cc pc = .ok (.ifCond .lt off, 3)) (ht : (pc : Int) + off = (tgt : Int)) (kt : x < 0 → WG p l e R s m args below meth c cells slots Q G nL tgt lv stk st) (kf : ¬ x < 0 → WG p l e R s m args below meth c cells slots Q G nL (pc + 3) lv stk st) : WG p l e R s m args below meth c cells slots Q G nL pc lv (.int x :: stk) st :=
  fun H locs ls hP hS hl => lv_if_lt C.1 C.2.1 hdg ht (fun h => kt h H locs ls hP hS hl) (fun h => kf h H locs ls hP hS hl)
theorem g_icmp_lt (C : Cx p s m args c cc nL own G lo hi) {x y : Int32} {off : Int} (tgt : Nat) (hdg : decode cc pc = .ok (.if_icmp .lt off, 3)) (ht : (pc : Int) + off = (tgt : Int)) (kt : x < y → WG p l e R s m args below meth c cells slots Q G nL tgt lv stk st) (kf : ¬ x < y → WG p l e R s m args below meth c cells slots Q G nL (pc + 3) lv stk st) : WG p l e R s m args below meth c cells slots Q G nL pc lv (.int y :: .int x :: stk) st :=
  fun H locs ls hP hS hl => lv_icmp_lt C.1 C.2.1 hdg ht (fun h => kt h H locs ls hP hS hl) (fun h => kf h H locs ls hP hS hl)
theorem g_if_ge (C : Cx p s m args c cc nL own G lo hi) {x : Int32} {off : Int} (tgt : Nat) (hdg : decode cc pc = .ok (.ifCond .ge off, 3)) (ht : (pc : Int) + off = (tgt : Int)) (kt : 0 ≤ x → WG p l e R s m args below meth c cells slots Q G nL tgt lv stk st) (kf : ¬ 0 ≤ x → WG p l e R s m args below meth c cells slots Q G nL (pc + 3) lv stk st) : WG p l e R s m args below meth c cells slots Q G nL pc lv (.int x :: stk) st :=
  fun H locs ls hP hS hl => lv_if_ge C.1 C.2.1 hdg ht (fun h => kt h H locs ls hP hS hl) (fun h => kf h H locs ls hP hS hl)
theorem g_icmp_ge (C : Cx p s m args c cc nL own G lo hi) {x y : Int32} {off : Int} (tgt : Nat) (hdg : decode cc pc = .ok (.if_icmp .ge off, 3)) (ht : (pc : Int) + off = (tgt : Int)) (kt : y ≤ x → WG p l e R s m args below meth c cells slots Q G nL tgt lv stk st) (kf : ¬ y ≤ x → WG p l e R s m args below meth c cells slots Q G nL (pc + 3) lv stk st) : WG p l e R s m args below meth c cells slots Q G nL pc lv (.int y :: .int x :: stk) st :=
  fun H locs ls hP hS hl => lv_icmp_ge C.1 C.2.1 hdg ht (fun h => kt h H locs ls hP hS hl) (fun h => kf h H locs ls hP hS hl)
theorem g_if_gt (C : Cx p s m args c cc nL own G lo hi) {x : Int32} {off : Int} (tgt : Nat) (hdg : decode cc pc = .ok (.ifCond .gt off, 3)) (ht : (pc : Int) + off = (tgt : Int)) (kt : 0 < x → WG p l e R s m args below meth c cells slots Q G nL tgt lv stk st) (kf : ¬ 0 < x → WG p l e R s m args below meth c cells slots Q G nL (pc + 3) lv stk st) : WG p l e R s m args below meth c cells slots Q G nL pc lv (.int x :: stk) st :=
  fun H locs ls hP hS hl => lv_if_gt C.1 C.2.1 hdg ht (fun h => kt h H locs ls hP hS hl) (fun h => kf h H locs ls hP hS hl)
theorem g_icmp_gt (C : Cx p s m args c cc nL own G lo hi) {x y : Int32} {off : Int} (tgt : Nat) (hdg : decode cc pc = .ok (.if_icmp .gt off, 3)) (ht : (pc : Int) + off = (tgt : Int)) (kt : y < x → WG p l e R s m args below meth c cells slots Q G nL tgt lv stk st) (kf : ¬ y < x → WG p l e R s m args below meth c cells slots Q G nL (pc + 3) lv stk st) : WG p l e R s m args below meth c cells slots Q G nL pc lv (.int y :: .int x :: stk) st :=
  fun H locs ls hP hS hl => lv_icmp_gt C.1 C.2.1 hdg ht (fun h => kt h H locs ls hP hS hl) (fun h => kf h H locs ls hP hS hl)
theorem g_if_le (C : Cx p s m args c cc nL own G lo hi) {x : Int32} {off : Int} (tgt : Nat) (hdg : decode cc pc = .ok (.ifCond .le off, 3)) (ht : (pc : Int) + off = (tgt : Int)) (kt : x ≤ 0 → WG p l e R s m args below meth c cells slots Q G nL tgt lv stk st) (kf : ¬ x ≤ 0 → WG p l e R s m args below meth c cells slots Q G nL (pc + 3) lv stk st) : WG p l e R s m args below meth c cells slots Q G nL pc lv (.int x :: stk) st :=
  fun H locs ls hP hS hl => lv_if_le C.1 C.2.1 hdg ht (fun h => kt h H locs ls hP hS hl) (fun h => kf h H locs ls hP hS hl)
theorem g_icmp_le (C : Cx p s m args c cc nL own G lo hi) {x y : Int32} {off : Int} (tgt : Nat) (hdg : decode cc pc = .ok (.if_icmp .le off, 3)) (ht : (pc : Int) + off = (tgt : Int)) (kt : x ≤ y → WG p l e R s m args below meth c cells slots Q G nL tgt lv stk st) (kf : ¬ x ≤ y → WG p l e R s m args below meth c cells slots Q G nL (pc + 3) lv stk st) : WG p l e R s m args below meth c cells slots Q G nL pc lv (.int y :: .int x :: stk) st :=
  fun H locs ls hP hS hl => lv_icmp_le C.1 C.2.1 hdg ht (fun h => kt h H locs ls hP hS hl) (fun h => kf h H locs ls hP hS hl)
theorem g_table (C : Cx p s m args c cc nL own G lo hi) {dflt lo' hi' : Int} {offs : Array Int} {len : Nat} {x : Int32} (tgt : Nat) (hdg : decode cc pc = .ok (.tableswitch dflt lo' hi' offs, len)) (h : x.toInt < lo' ∨ hi' < x.toInt) (ht : (pc : Int) + dflt = (tgt : Int)) (k : WG p l e R s m args below meth c cells slots Q G nL tgt lv stk st) : WG p l e R s m args below meth c cells slots Q G nL pc lv (.int x :: stk) st :=
  fun H locs ls hP hS hl => lv_tableOut C.1 C.2.1 hdg h ht (k H locs ls hP hS hl)
theorem g_tableIn (C : Cx p s m args c cc nL own G lo hi) {dflt lo' hi' : Int} {offs : Array Int} {len : Nat} {x : Int32} {off : Int} (tgt : Nat) (hdg : decode cc pc = .ok (.tableswitch dflt lo' hi' offs, len)) (h1 : ¬ x.toInt < lo') (h2 : ¬ hi' < x.toInt) (ho : offs[(x.toInt - lo').toNat]? = some off) (ht : (pc : Int) + off = (tgt : Int)) (k : WG p l e R s m args below meth c cells slots Q G nL tgt lv stk st) : WG p l e R s m args below meth c cells slots Q G nL pc lv (.int x :: stk) st :=
  fun H locs ls hP hS hl => lv_tableIn C.1 C.2.1 hdg h1 h2 ho ht (k H locs ls hP hS hl)
theorem g_get {ci N index kk : Nat} {Cn : String} {T : u_T} {fs : List Value} {v : Value} (C : Cx p s m args c cc nL own G lo hi) (hin : ∀ w ∈ u_ws Cn T N, w ∈ tblG) (hks : kk ∈ gks G) (hcell : cellF G kk (st kk) = .inr (ci, fs)) (hc : vwCl[ci]? = some (Cn, T, N)) (j : Nat) (hj : j < N) (hlink : Cond.fieldLink own index (T j).1 (T j).2.1 (T j).2.2.1 ∈ tblG) (hv : fs[j]? = some v) (hdg : decode cc pc = .ok (.getfield index, 3)) (k : WG p l e R s m args below meth c cells slots Q G nL (pc + 3) lv (v :: stk) st) : WG p l e R s m args below meth c cells slots Q G nL pc lv (.ref (gh G kk) :: stk) st := by
  intro H locs ls hP hS hl
  obtain ⟨i, hi1, hi2⟩ := wld_at (G := G) (st := st) hks
  rw [hcell] at hi2
  exact va_get C.1 C.2.1 C.2.2.2.2.1 hin C.2.2.2.1 C.2.2.2.2.2.1 hP i hi2 hc j hj (C.2.2.2.2.1 _ hlink) (fun _ h => h) hv hdg (k H locs ls hP hS hl)
theorem g_put {ci N index kk : Nat} {Cn : String} {T : u_T} {fs : List Value} {v : Value} {ty0 : Nat → FieldType} {ty : FieldType} (x : Int32) (C : Cx p s m args c cc nL own G lo hi) (hin : ∀ w ∈ u_ws Cn T N, w ∈ tblG) (hty : ∀ k, k < N → parseFieldDescriptor (T k).2.2.1 = some (ty0 k)) (hnm : ∀ a, a < N → ∀ b, b < N → a ≠ b → (T a).2.1 ≠ (T b).2.1) (hks : kk ∈ gks G) (hcell : cellF G kk (st kk) = .inr (ci, fs)) (hc : vwCl[ci]? = some (Cn, T, N)) (j : Nat) (hj : j < N) (hlink : Cond.fieldLink own index (T j).1 (T j).2.1 (T j).2.2.1 ∈ tblG) (hfin : (T j).2.2.2 = false) (hd : parseFieldDescriptor (T j).2.2.1 = some ty) (hn : narrow ty v = v) (hfit : fits ty v = true) (hl' : j < fs.length) (hcell' : cellF G kk (upd (st kk) j x) = .inr (ci, fs.set j v)) (hdg : decode cc pc = .ok (.putfield index, 3)) (k : WG p l e R s m args below meth c cells slots Q G nL (pc + 3) lv stk (up2 st kk j x)) : WG p l e R s m args below meth c cells slots Q G nL pc lv (v :: .ref (gh G kk) :: stk) st := by
  intro H locs ls hP hS hl
  obtain ⟨i, hi1, hi2⟩ := wld_at (G := G) (st := st) hks
  rw [hcell] at hi2
  refine va_put C.1 C.2.1 C.2.2.2.2.1 hin ty0 hty hnm C.2.2.2.1 C.2.2.2.2.2.1 hP (wld_D C.2.2.2.2.2.2.2.1 st) hS i hi2 hc j hj (C.2.2.2.2.1 _ hlink) (fun _ h => h) hfin hd hn hfit hl' hdg (fun H1 locs1 hP1 _ hS1 => ?_)
  rw [← hcell', wld_set C.2.2.2.2.2.2.2.1 hi1] at hP1
  exact k H1 locs1 ls hP1 hS1 hl
theorem g_iald {n kk : Nat} {i : Int32} (C : Cx p s m args c cc nL own G lo hi) (hks : kk ∈ gks G) (hcell : cellF G kk (st kk) = .inl (gI G, n, .inl (st kk))) (hin : vp_in i n) (hdg : decode cc pc = .ok (.iaload, 1)) (k : WG p l e R s m args below meth c cells slots Q G nL (pc + 1) lv (.int (st kk i.toNatClampNeg) :: stk) st) : WG p l e R s m args below meth c cells slots Q G nL pc lv (.int i :: .ref (gh G kk) :: stk) st := by
  intro H locs ls hP hS hl
  obtain ⟨j, hi1, hi2⟩ := wld_at (G := G) (st := st) hks
  rw [hcell] at hi2
  exact va_iald C.1 C.2.1 C.2.2.2.2.2.1 hP j 0 hi2 rfl hin hdg (k H locs ls hP hS hl)
theorem g_cald {n kk : Nat} {i : Int32} (C : Cx p s m args c cc nL own G lo hi) (hks : kk ∈ gks G) (hcell : cellF G kk (st kk) = .inl (gC G, n, .inl (st kk))) (hin : vp_in i n) (hdg : decode cc pc = .ok (.caload, 1)) (k : WG p l e R s m args below meth c cells slots Q G nL (pc + 1) lv (.int (st kk i.toNatClampNeg) :: stk) st) : WG p l e R s m args below meth c cells slots Q G nL pc lv (.int i :: .ref (gh G kk) :: stk) st := by
  intro H locs ls hP hS hl
  obtain ⟨j, hi1, hi2⟩ := wld_at (G := G) (st := st) hks
  rw [hcell] at hi2
  exact va_cald C.1 C.2.1 C.2.2.2.2.2.1 hP j 1 hi2 rfl hin hdg (k H locs ls hP hS hl)
theorem g_zald {n kk : Nat} {i : Int32} (C : Cx p s m args c cc nL own G lo hi) (hks : kk ∈ gks G) (hcell : cellF G kk (st kk) = .inl (gZ G, n, .inl (st kk))) (hin : vp_in i n) (hdg : decode cc pc = .ok (.baload, 1)) (k : WG p l e R s m args below meth c cells slots Q G nL (pc + 1) lv (.int (st kk i.toNatClampNeg) :: stk) st) : WG p l e R s m args below meth c cells slots Q G nL pc lv (.int i :: .ref (gh G kk) :: stk) st := by
  intro H locs ls hP hS hl
  obtain ⟨j, hi1, hi2⟩ := wld_at (G := G) (st := st) hks
  rw [hcell] at hi2
  exact va_zald C.1 C.2.1 C.2.2.2.2.2.1 hP j 2 hi2 rfl hin hdg (k H locs ls hP hS hl)
theorem g_iast {n kk : Nat} {i x : Int32} (C : Cx p s m args c cc nL own G lo hi) (hks : kk ∈ gks G) (hcell : ∀ f, cellF G kk f = .inl (gI G, n, .inl f)) (hin : vp_in i n) (hdg : decode cc pc = .ok (.iastore, 1)) (k : WG p l e R s m args below meth c cells slots Q G nL (pc + 1) lv stk (up2 st kk i.toNatClampNeg x)) : WG p l e R s m args below meth c cells slots Q G nL pc lv (.int x :: .int i :: .ref (gh G kk) :: stk) st := by
  intro H locs ls hP hS hl
  obtain ⟨j, hi1, hi2⟩ := wld_at (G := G) (st := st) hks
  rw [hcell] at hi2
  refine va_iast C.1 C.2.1 C.2.2.2.2.2.1 hP (wld_D C.2.2.2.2.2.2.2.1 st) hS j 0 hi2 rfl hin hdg (fun H1 locs1 hP1 _ hS1 => ?_)
  rw [← hcell, wld_set C.2.2.2.2.2.2.2.1 hi1] at hP1
  exact k H1 locs1 ls hP1 hS1 hl
theorem g_cast {n kk : Nat} {i x : Int32} (C : Cx p s m args c cc nL own G lo hi) (hks : kk ∈ gks G) (hcell : ∀ f, cellF G kk f = .inl (gC G, n, .inl f)) (hin : vp_in i n) (hdg : decode cc pc = .ok (.castore, 1)) (k : WG p l e R s m args below meth c cells slots Q G nL (pc + 1) lv stk (up2 st kk i.toNatClampNeg (vp_nar .char x))) : WG p l e R s m args below meth c cells slots Q G nL pc lv (.int x :: .int i :: .ref (gh G kk) :: stk) st := by
  intro H locs ls hP hS hl
  obtain ⟨j, hi1, hi2⟩ := wld_at (G := G) (st := st) hks
  rw [hcell] at hi2
  refine va_cast C.1 C.2.1 C.2.2.2.2.2.1 hP (wld_D C.2.2.2.2.2.2.2.1 st) hS j 1 hi2 rfl hin hdg (fun H1 locs1 hP1 _ hS1 => ?_)
  rw [← hcell, wld_set C.2.2.2.2.2.2.2.1 hi1] at hP1
  exact k H1 locs1 ls hP1 hS1 hl
theorem g_zast {n kk : Nat} {i x : Int32} (C : Cx p s m args c cc nL own G lo hi) (hks : kk ∈ gks G) (hcell : ∀ f, cellF G kk f = .inl (gZ G, n, .inl f)) (hin : vp_in i n) (hdg : decode cc pc = .ok (.bastore, 1)) (k : WG p l e R s m args below meth c cells slots Q G nL (pc + 1) lv stk (up2 st kk i.toNatClampNeg (vp_nar .boolean x))) : WG p l e R s m args below meth c cells slots Q G nL pc lv (.int x :: .int i :: .ref (gh G kk) :: stk) st := by
  intro H locs ls hP hS hl
  obtain ⟨j, hi1, hi2⟩ := wld_at (G := G) (st := st) hks
  rw [hcell] at hi2
  refine va_zast C.1 C.2.1 C.2.2.2.2.2.1 hP (wld_D C.2.2.2.2.2.2.2.1 st) hS j 2 hi2 rfl hin hdg (fun H1 locs1 hP1 _ hS1 => ?_)
  rw [← hcell, wld_set C.2.2.2.2.2.2.2.1 hi1] at hP1
  exact k H1 locs1 ls hP1 hS1 hl
theorem g_alen {n kk t0 : Nat} {cA : ClassId} {ty : FieldType} {f : Nat → Int32} (C : Cx p s m args c cc nL own G lo hi) (hks : kk ∈ gks G) (v : Int32) (hcell : cellF G kk (st kk) = .inl (cA, n, .inl f)) (ht : (gT G)[t0]? = some (cA, ty)) (hv : Int32.ofNat n = v) (hdg : decode cc pc = .ok (.arraylength, 1)) (k : WG p l e R s m args below meth c cells slots Q G nL (pc + 1) lv (.int v :: stk) st) : WG p l e R s m args below meth c cells slots Q G nL pc lv (.ref (gh G kk) :: stk) st := by
  intro H locs ls hP hS hl
  obtain ⟨j, hi1, hi2⟩ := wld_at (G := G) (st := st) hks
  rw [hcell] at hi2
  exact va_alen C.1 C.2.1 C.2.2.2.2.2.1 hP j t0 hi2 ht hv hdg (k H locs ls hP hS hl)
theorem g_copy {n0 n1 k0 k1 index : Nat} {sp dp n : Int32} (C : Cx p s m args c cc nL own G lo hi) (hlink : Cond.methodLink own index arraycopyName ∈ tblG) (hw : Cond.native arraycopyName ∈ tblG ∧ Cond.static arraycopyName ∈ tblG ∧ Cond.initialized "java/lang/System" ∈ tblG) (hk0 : k0 ∈ gks G) (hk1 : k1 ∈ gks G) (hc0 : ∀ f, cellF G k0 f = .inl (gI G, n0, .inl f)) (hc1 : ∀ f, cellF G k1 f = .inl (gI G, n1, .inl f))
    (h : ¬ sp < 0 ∧ ¬ dp < 0 ∧ ¬ n < 0 ∧ sp.toNatClampNeg + n.toNatClampNeg ≤ n0 ∧ dp.toNatClampNeg + n.toNatClampNeg ≤ n1) (hframes : 1 ≤ R.frames) (hlocals : (stk.map fun v => v.category).sum + (nativeFrameWords "java/lang/System" "arraycopy" 5 + 11) ≤ R.locals) (hdg : decode cc pc = .ok (.invokestatic index, 3))
    (k : WG p l e R s m args below meth c cells slots Q G nL (pc + 3) lv stk (upR st k1 (va_cpy (st k0) (st k1) sp.toNatClampNeg dp.toNatClampNeg n.toNatClampNeg))) : WG p l e R s m args below meth c cells slots Q G nL pc lv (.int n :: .int dp :: .ref (gh G k1) :: .int sp :: .ref (gh G k0) :: stk) st := by
  intro H locs ls hP hS hl
  obtain ⟨j0, hi0, hj0⟩ := wld_at (G := G) (st := st) hk0
  obtain ⟨j1, hi1, hj1⟩ := wld_at (G := G) (st := st) hk1
  rw [hc0] at hj0
  rw [hc1] at hj1
  refine va_copyi C.1 C.2.1 (C.2.2.1.trans hl.1.symm) C.2.2.2.1 (C.2.2.2.2.1 _ hlink) (C.2.2.2.2.1 _ hw.1) (C.2.2.2.2.1 _ hw.2.1) (C.2.2.2.2.1 _ hw.2.2) C.2.2.2.2.2.1 hP (wld_D C.2.2.2.2.2.2.2.1 st) hS j0 j1 0 0 hj0 hj1 rfl rfl rfl h.1 h.2.1 h.2.2.1 h.2.2.2.1 h.2.2.2.2 (fun i _ => rfl) hframes hlocals hdg (fun H1 locs1 hP1 _ hS1 => ?_)
  rw [← hc1, wld_set C.2.2.2.2.2.2.2.1 hi1] at hP1
  exact k H1 locs1 ls hP1 hS1 hl
end GROWS
