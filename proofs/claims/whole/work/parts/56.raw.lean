theorem tw_49 : Cond.classLink RL 7 RX4 ∈ tblG := tblG_in 49 (by decide +kernel) rfl
theorem tw_50 : Cond.instantiable RX4 5 ∈ tblG := tblG_in 50 (by decide +kernel) rfl
theorem tw_51 : Cond.methodLink RL 9 yX4_init ∈ tblG := tblG_in 51 (by decide +kernel) rfl
theorem tw_52 : Cond.instanceMethod yX4_init ∈ tblG := tblG_in 52 (by decide +kernel) rfl
theorem tw_53 : Cond.code yX4_init cX4_init 2 none ∈ tblG := tblG_in 53 (by decide +kernel) rfl
theorem tw_54 : Cond.methodLink RX4 1 Lib.objectInit ∈ tblG := tblG_in 54 (by decide +kernel) rfl
theorem tw_55 : Cond.instanceMethod Lib.objectInit ∈ tblG := tblG_in 55 (by decide +kernel) rfl
theorem tw_56 : Cond.code Lib.objectInit ⟨#[0xb1]⟩ 1 none ∈ tblG := tblG_in 56 (by decide +kernel) rfl
theorem tw_57 : Cond.classLink RX4 7 RX1 ∈ tblG := tblG_in 57 (by decide +kernel) rfl
theorem tw_58 : Cond.instantiable RX1 3 ∈ tblG := tblG_in 58 (by decide +kernel) rfl
theorem tw_60 : Cond.instanceMethod yX1_init ∈ tblG := tblG_in 60 (by decide +kernel) rfl
theorem tw_61 : Cond.code yX1_init cX1_init 1 none ∈ tblG := tblG_in 61 (by decide +kernel) rfl
theorem tw_62 : Cond.methodLink RX1 5 Lib.objectInit ∈ tblG := tblG_in 62 (by decide +kernel) rfl
theorem tw_73 : Cond.arrayClass .int ∈ tblG := tblG_in 73 (by decide +kernel) rfl
theorem tw_74 : Cond.classLink RX4 19 RX2 ∈ tblG := tblG_in 74 (by decide +kernel) rfl
theorem tw_75 : Cond.instantiable RX2 6 ∈ tblG := tblG_in 75 (by decide +kernel) rfl
theorem tw_77 : Cond.instanceMethod yX2_init ∈ tblG := tblG_in 77 (by decide +kernel) rfl
theorem tw_78 : Cond.code yX2_init cX2_init 1 none ∈ tblG := tblG_in 78 (by decide +kernel) rfl
theorem tw_79 : Cond.methodLink RX2 3 Lib.objectInit ∈ tblG := tblG_in 79 (by decide +kernel) rfl
theorem tw_80 : Cond.classLink RX2 15 RX1 ∈ tblG := tblG_in 80 (by decide +kernel) rfl
theorem tw_101 : Cond.arrayClass .char ∈ tblG := tblG_in 101 (by decide +kernel) rfl
theorem tw_102 : Cond.classLink RX4 26 RX0 ∈ tblG := tblG_in 102 (by decide +kernel) rfl
theorem tw_103 : Cond.instantiable RX0 3 ∈ tblG := tblG_in 103 (by decide +kernel) rfl
theorem tw_105 : Cond.instanceMethod yX0_init ∈ tblG := tblG_in 105 (by decide +kernel) rfl
theorem tw_106 : Cond.code yX0_init cX0_init 1 none ∈ tblG := tblG_in 106 (by decide +kernel) rfl
theorem tw_107 : Cond.methodLink RX0 3 Lib.objectInit ∈ tblG := tblG_in 107 (by decide +kernel) rfl
theorem tw_118 : Cond.classLink RX4 33 RX3 ∈ tblG := tblG_in 118 (by decide +kernel) rfl
theorem tw_119 : Cond.instantiable RX3 3 ∈ tblG := tblG_in 119 (by decide +kernel) rfl
theorem tw_121 : Cond.instanceMethod yX3_init ∈ tblG := tblG_in 121 (by decide +kernel) rfl
theorem tw_122 : Cond.code yX3_init cX3_init 1 none ∈ tblG := tblG_in 122 (by decide +kernel) rfl
theorem tw_123 : Cond.methodLink RX3 3 Lib.objectInit ∈ tblG := tblG_in 123 (by decide +kernel) rfl
theorem tw_134 : Cond.arrayClass .boolean ∈ tblG := tblG_in 134 (by decide +kernel) rfl
theorem tw_605 : Cond.classLink RL 10 RX5 ∈ tblG := tblG_in 605 (by decide +kernel) rfl
theorem tw_606 : Cond.instantiable RX5 11 ∈ tblG := tblG_in 606 (by decide +kernel) rfl
theorem tw_607 : Cond.methodLink RL 12 yX5_init ∈ tblG := tblG_in 607 (by decide +kernel) rfl
theorem tw_608 : Cond.instanceMethod yX5_init ∈ tblG := tblG_in 608 (by decide +kernel) rfl
theorem tw_609 : Cond.code yX5_init cX5_init 1 none ∈ tblG := tblG_in 609 (by decide +kernel) rfl
theorem tw_610 : Cond.methodLink RX5 1 Lib.objectInit ∈ tblG := tblG_in 610 (by decide +kernel) rfl
/-! the world while cells are made: X as it was, T made here -/
def WR (p : Program) (l : Launch) (e : Env) (R : Room) (s : State) (m : MethodId) (args : Array Value) (below : List Frame) (meth : Method) (c : Code) (cells slots : Nat) (Q : State → Prop) (G : Gp) (X : va_W) (nL pc : Nat) (lv : List (Nat × Value)) (stk : List Value) (T : va_W) : Prop :=
  ∀ (H : Heap) (locs : List Loc) (ls : Array Slot), va_P (gD G) vwCl (X ++ T) H → va_D (gA G) (X ++ T) → va_S (gA G) s.heap H locs → lv_has ls nL lv → W p l e R s m args below meth c H locs cells slots Q (F0 m pc ls stk)
def Px (G : Gp) (X T : va_W) (U : State) : Prop := va_P (gD G) vwCl (X ++ T) U.heap ∧ va_D (gA G) (X ++ T) ∧ va_K (gD G) vwCl (gT G) U ∧ gE G U ∧ ∀ q, U.heap.size ≤ q → gA G q
def QN (G : Gp) (X : va_W) (T : List Nat → va_W) : Array Value → State → Outcome → State → Prop := va_Qv (S := List Nat) (fun _ => True) (fun u t => va_P (gD G) vwCl (X ++ T u) t.heap ∧ va_D (gA G) (X ++ T u)) (gA G)
def MN (l : Launch) (G : Gp) (y : MethodName) (cc : ByteArray) (n : Nat) (rm : Room) (mc ms a : Nat) (X T0 : va_W) (T : List Nat → va_W) : Prop :=
  Met l y (.code y cc n none :: tblG) rm (va_Pc [.ref a] (Px G X T0)) (QN G X T) mc ms (gA G)
theorem Px_blind (G : Gp) (X T : va_W) (av : List Value) : FrameBlind (va_Pc av (Px G X T)) := by
  intro a U g mk h
  obtain ⟨h0, h1, h2, h3, h4, h5⟩ := h
  exact ⟨h0, h1, h2, va_K.moved (u := U) (U := U.calling g mk a) (Vm.Alike.refl U.vm) h3, gE.same (u := U) rfl rfl h4, h5⟩
theorem xt_get {X T : va_W} {j : Nat} {v : Nat × va_E} (h : T[j]? = some v) : (X ++ T)[X.length + j]? = some v := by
  rw [List.getElem?_append_right (Nat.le_add_right _ _), Nat.add_sub_cancel_left]; exact h
theorem xt_set {X T T2 : va_W} {j : Nat} {v : Nat × va_E} (h : T.set j v = T2) : (X ++ T).set (X.length + j) v = X ++ T2 := by
  rw [List.set_append_right _ _ (Nat.le_add_right _ _), Nat.add_sub_cancel_left, h]
section RAW
variable {p : Program} {l : Launch} {e : Env} {R : Room} {s : State} {m : MethodId} {args : Array Value} {below : List Frame} {meth : Method} {c : Code} {cells slots : Nat} {Q : State → Prop} {G : Gp} {X T : va_W} {nL pc : Nat} {lv : List (Nat × Value)} {stk : List Value} {cc : ByteArray} {own : String}
theorem r_aload0 {x : Nat} (C : Cx p s m args c cc nL own G 0 0) (hdg : decode cc pc = .ok (.aload_n 0, 1)) (ha : lv[0]? = some (0, .ref x)) (k : WR p l e R s m args below meth c cells slots Q G X nL (pc + 1) lv (.ref x :: stk) T) : WR p l e R s m args below meth c cells slots Q G X nL pc lv stk T :=
  fun H locs ls hP hD hS hl => lv_aload_n C.1 C.2.1 hdg rfl (lv_at hl 0 ha) (k H locs ls hP hD hS hl)
theorem r_iconst (C : Cx p s m args c cc nL own G 0 0) {n : Int} (v : Int32) (hdg : decode cc pc = .ok (.iconst n, 1)) (hv : Int32.ofInt n = v) (k : WR p l e R s m args below meth c cells slots Q G X nL (pc + 1) lv (.int v :: stk) T) : WR p l e R s m args below meth c cells slots Q G X nL pc lv stk T :=
  fun H locs ls hP hD hS hl => lv_iconst C.1 C.2.1 hdg hv (k H locs ls hP hD hS hl)
theorem r_bipush (C : Cx p s m args c cc nL own G 0 0) {n : Int} (v : Int32) (hdg : decode cc pc = .ok (.bipush n, 2)) (hv : (Int8.ofInt n).toInt32 = v) (k : WR p l e R s m args below meth c cells slots Q G X nL (pc + 2) lv (.int v :: stk) T) : WR p l e R s m args below meth c cells slots Q G X nL pc lv stk T :=
  fun H locs ls hP hD hS hl => lv_bipush C.1 C.2.1 hdg hv (k H locs ls hP hD hS hl)
theorem r_sipush (C : Cx p s m args c cc nL own G 0 0) {n : Int} (v : Int32) (hdg : decode cc pc = .ok (.sipush n, 3)) (hv : (Int16.ofInt n).toInt32 = v) (k : WR p l e R s m args below meth c cells slots Q G X nL (pc + 3) lv (.int v :: stk) T) : WR p l e R s m args below meth c cells slots Q G X nL pc lv stk T :=
  fun H locs ls hP hD hS hl => lv_sipush C.1 C.2.1 hdg hv (k H locs ls hP hD hS hl)
theorem r_dup {x : Nat} (C : Cx p s m args c cc nL own G 0 0) (hdg : decode cc pc = .ok (.dup, 1)) (k : WR p l e R s m args below meth c cells slots Q G X nL (pc + 1) lv (.ref x :: .ref x :: stk) T) : WR p l e R s m args below meth c cells slots Q G X nL pc lv (.ref x :: stk) T :=
  fun H locs ls hP hD hS hl => lv_dup C.1 C.2.1 hdg rfl (k H locs ls hP hD hS hl)
theorem r_astore {x i : Nat} {q : Fin 4} {lv' : List (Nat × Value)} (C : Cx p s m args c cc nL own G 0 0) (hdg : decode cc pc = .ok (.astore_n q, 1)) (hi : (q : Nat) = i) (hn : i < nL) (hl' : (i, Value.ref x) :: lv.filter (fun q => !(q.1 == i) && !(q.1 + 1 == i && q.2.category == 2)) = lv') (k : WR p l e R s m args below meth c cells slots Q G X nL (pc + 1) lv' stk T) : WR p l e R s m args below meth c cells slots Q G X nL pc lv (.ref x :: stk) T :=
  fun H locs ls hP hD hS hl => lv_astore_n C.1 C.2.1 hdg hi hl hn hl' (fun ls hl => k H locs ls hP hD hS hl)
theorem r_obj {a idx : Nat} (C : Cx p s m args c cc nL own G 0 0) (hlk : Cond.methodLink own idx Lib.objectInit ∈ tblG) (hdg : decode cc pc = .ok (.invokespecial idx, 3)) (hR : 1 ≤ R.frames ∧ 20 ≤ R.locals) (hW : (stk.map fun v => v.category).sum ≤ 8) (k : WR p l e R s m args below meth c cells slots Q G X nL (pc + 3) lv stk T) : WR p l e R s m args below meth c cells slots Q G X nL pc lv (.ref a :: stk) T :=
  fun H locs ls hP hD hS hl => W.objInit C.1 C.2.1 C.2.2.2.1 (C.2.2.2.2.1 _ hlk) (C.2.2.2.2.1 _ tw_55) (C.2.2.2.2.1 _ tw_56) rfl (hl.1.trans C.2.2.1.symm) rfl hdg hR.1 (by have := lv_room (m := m) (pc := pc) (ls := ls) (rest := .ref a :: stk) hW; have := hR.2; omega) (k H locs ls hP hD hS hl)
theorem r_newa {atype : ArrayType} {ty : FieldType} {t0 N : Nat} {cA0 : ClassId} {n : Int32} (C : Cx p s m args c cc nL own G 0 0) (A : ∀ q, s.heap.size ≤ q → gA G q) (hw : Cond.arrayClass (newarray.typeOf atype) ∈ tblG) (hty : newarray.typeOf atype = ty) (ht : (gT G)[t0]? = some (cA0, ty)) (hRA : ∀ cA, va_RA s cA ty → va_RA s cA0 ty → cA = cA0) (ha : ∀ cA : ClassId, vp_cell cA (N, .inl (fun _ => 0)) = arrV cA N (fun _ => defaultValue ty)) (hn : ¬ n < 0) (hN : n.toNatClampNeg = N) (hbytes : N * componentBytes ty ≤ 536870912) (hcells : cells + 1 ≤ R.cells) (hslots : slots + N ≤ R.slots) (hdg : decode cc pc = .ok (.newarray atype, 2))
    (k : ∀ q, WR p l e R s m args below meth c (cells + 1) (slots + N) Q G X nL (pc + 2) lv (.ref q :: stk) (T ++ [(q, .inl (cA0, N, .inl (fun _ => 0)))])) : WR p l e R s m args below meth c cells slots Q G X nL pc lv (.int n :: stk) T := by
  intro H locs ls hP hD hS hl
  refine va_newa C.1 C.2.1 (C.2.2.2.2.1 _ hw) hty C.2.2.2.2.2.1 hP hD hS A (a0 := (N, .inl (fun _ => 0))) ha hn hN hbytes hcells hslots hdg (fun q cA H1 hK1 hP1 hD1 hS1 => ?_)
  have e : cA = cA0 := hRA cA (hK1.2 3 (cA, ty) rfl).2 (C.2.2.2.2.2.1.2 t0 (cA0, ty) ht).2
  subst e
  rw [List.append_assoc] at hP1 hD1
  exact k q H1 locs ls hP1 hD1 hS1 hl
theorem r_put {ci N index a : Nat} {Cn : String} {T0 : u_T} {T2 : va_W} {fs : List Value} {v : Value} {ty0 : Nat → FieldType} {ty : FieldType} (C : Cx p s m args c cc nL own G 0 0) (hin : ∀ w ∈ u_ws Cn T0 N, w ∈ tblG) (hty : ∀ k, k < N → parseFieldDescriptor (T0 k).2.2.1 = some (ty0 k)) (hnm : ∀ a, a < N → ∀ b, b < N → a ≠ b → (T0 a).2.1 ≠ (T0 b).2.1) (q0 : Nat) (he : T[q0]? = some (a, .inr (ci, fs))) (hc : vwCl[ci]? = some (Cn, T0, N)) (j : Nat) (hj : j < N) (hlink : Cond.fieldLink own index (T0 j).1 (T0 j).2.1 (T0 j).2.2.1 ∈ tblG) (hfin : (T0 j).2.2.2 = false) (hd : parseFieldDescriptor (T0 j).2.2.1 = some ty) (hn : narrow ty v = v) (hfit : fits ty v = true) (hl' : j < fs.length) (hT : T.set q0 (a, .inr (ci, fs.set j v)) = T2) (hdg : decode cc pc = .ok (.putfield index, 3)) (k : WR p l e R s m args below meth c cells slots Q G X nL (pc + 3) lv stk T2) : WR p l e R s m args below meth c cells slots Q G X nL pc lv (v :: .ref a :: stk) T := by
  intro H locs ls hP hD hS hl
  refine va_put C.1 C.2.1 C.2.2.2.2.1 hin ty0 hty hnm C.2.2.2.1 C.2.2.2.2.2.1 hP hD hS (X.length + q0) (xt_get he) hc j hj (C.2.2.2.2.1 _ hlink) (fun _ h => h) hfin hd hn hfit hl' hdg (fun H1 locs1 hP1 hD1 hS1 => ?_)
  rw [xt_set hT] at hP1 hD1
  exact k H1 locs1 ls hP1 hD1 hS1 hl
theorem r_putF {ci N index a : Nat} {Cn : String} {T0 : u_T} {T2 : va_W} {fs : List Value} {v : Value} {ty0 : Nat → FieldType} {ty : FieldType} (C : Cx p s m args c cc nL own G 0 0) (hnm2 : meth.name = "<init>") (hin : ∀ w ∈ u_ws Cn T0 N, w ∈ tblG) (hty : ∀ k, k < N → parseFieldDescriptor (T0 k).2.2.1 = some (ty0 k)) (hnm : ∀ a, a < N → ∀ b, b < N → a ≠ b → (T0 a).2.1 ≠ (T0 b).2.1) (q0 : Nat) (he : T[q0]? = some (a, .inr (ci, fs))) (hc : vwCl[ci]? = some (Cn, T0, N)) (j : Nat) (hj : j < N) (hlink : Cond.fieldLink own index (T0 j).1 (T0 j).2.1 (T0 j).2.2.1 ∈ tblG) (hfin : (T0 j).2.2.2 = true) (hdecl : (T0 j).1 = own) (hd : parseFieldDescriptor (T0 j).2.2.1 = some ty) (hn : narrow ty v = v) (hfit : fits ty v = true) (hl' : j < fs.length) (hT : T.set q0 (a, .inr (ci, fs.set j v)) = T2) (hdg : decode cc pc = .ok (.putfield index, 3)) (k : WR p l e R s m args below meth c cells slots Q G X nL (pc + 3) lv stk T2) : WR p l e R s m args below meth c cells slots Q G X nL pc lv (v :: .ref a :: stk) T := by
  intro H locs ls hP hD hS hl
  refine va_putF C.1 C.2.1 C.2.2.2.2.1 hin ty0 hty hnm C.2.2.2.1 C.2.2.2.2.2.1 hP hD hS (X.length + q0) (xt_get he) hc j hj (C.2.2.2.2.1 _ hlink) (fun _ h => h) hfin hnm2 hdecl hd hn hfit hl' hdg (fun H1 locs1 hP1 hD1 hS1 => ?_)
  rw [xt_set hT] at hP1 hD1
  exact k H1 locs1 ls hP1 hD1 hS1 hl
theorem r_get {ci N index a : Nat} {Cn : String} {T0 : u_T} {fs : List Value} {v : Value} (C : Cx p s m args c cc nL own G 0 0) (hin : ∀ w ∈ u_ws Cn T0 N, w ∈ tblG) (q0 : Nat) (he : T[q0]? = some (a, .inr (ci, fs))) (hc : vwCl[ci]? = some (Cn, T0, N)) (j : Nat) (hj : j < N) (hlink : Cond.fieldLink own index (T0 j).1 (T0 j).2.1 (T0 j).2.2.1 ∈ tblG) (hv : fs[j]? = some v) (hdg : decode cc pc = .ok (.getfield index, 3)) (k : WR p l e R s m args below meth c cells slots Q G X nL (pc + 3) lv (v :: stk) T) : WR p l e R s m args below meth c cells slots Q G X nL pc lv (.ref a :: stk) T :=
  fun H locs ls hP hD hS hl => va_get C.1 C.2.1 C.2.2.2.2.1 hin C.2.2.2.1 C.2.2.2.2.2.1 hP (X.length + q0) (xt_get he) hc j hj (C.2.2.2.2.1 _ hlink) (fun _ h => h) hv hdg (k H locs ls hP hD hS hl)
theorem r_new {ci N index : Nat} {Cn : String} {T0 : u_T} {fs : List Value} {ty0 : Nat → FieldType} (C : Cx p s m args c cc nL own G 0 0) (A : ∀ q, s.heap.size ≤ q → gA G q) (hin : ∀ w ∈ u_ws Cn T0 N, w ∈ tblG) (hty : ∀ k, k < N → parseFieldDescriptor (T0 k).2.2.1 = some (ty0 k)) (hcl : Cond.classLink own index Cn ∈ tblG) (hinst : Cond.instantiable Cn N ∈ tblG) (hini : Cond.initialized Cn ∈ tblG) (hc : vwCl[ci]? = some (Cn, T0, N)) (hfs : ∀ j, j < N → defaultValue (ty0 j) = vp_V fs j) (hcells : cells + 1 ≤ R.cells) (hslots : slots + N ≤ R.slots) (hdg : decode cc pc = .ok (.new index, 3)) (k : ∀ q, WR p l e R s m args below meth c (cells + 1) (slots + N) Q G X nL (pc + 3) lv (.ref q :: stk) (T ++ [(q, .inr (ci, fs))])) : WR p l e R s m args below meth c cells slots Q G X nL pc lv stk T := by
  intro H locs ls hP hD hS hl
  refine va_new C.1 C.2.1 C.2.2.2.2.1 hin ty0 hty C.2.2.2.1 (C.2.2.2.2.1 _ hcl) (C.2.2.2.2.1 _ hinst) (C.2.2.2.2.1 _ hini) C.2.2.2.2.2.1 hP hD hS A hc hfs hcells hslots hdg (fun q H1 hP1 hD1 hS1 => ?_)
  rw [List.append_assoc] at hP1 hD1
  exact k q H1 locs ls hP1 hD1 hS1 hl
theorem r_pre (C : Cx p s m args c cc nL own G 0 0) (A : ∀ q, s.heap.size ≤ q → gA G q) {H : Heap} {locs : List Loc} {X' T' : va_W} (he : X ++ T = X' ++ T') (hP : va_P (gD G) vwCl (X ++ T) H) (hD : va_D (gA G) (X ++ T)) (hS : va_S (gA G) s.heap H locs) (av : List Value) (U : State) (hU : U.heap = H) (hW : s.WarmedH U.vm) : va_Pc av (Px G X' T') av.toArray U :=
  ⟨rfl, by rw [hU, ← he]; exact hP, by rw [← he]; exact hD, va_K.moved hW.alike C.2.2.2.2.2.1, C.2.2.2.2.2.2.1.pass hS hU hW, fun q hq => A q (Nat.le_trans hS.1 (by rw [← hU]; exact hq))⟩
theorem r_ctor {y : MethodName} {cy : ByteArray} {ny mc ms index b : Nat} {rm : Room} {host : String} {T1 T0 : va_W} {T' : List Nat → va_W} (C : Cx p s m args c cc nL own G 0 0) (A : ∀ q, s.heap.size ≤ q → gA G q) (hM : MN l G y cy ny rm mc ms b (X ++ T1) T0 T') (hT : T = T1 ++ T0) (hcode : Cond.code y cy ny none ∈ tblG) (hini : Cond.initialized y.cls ∈ tblG) (hd : y.cls ≠ "java/lang/invoke/MethodHandle" ∧ y.cls ≠ "java/lang/invoke/VarHandle" ∧ (parseMethodDescriptor y.desc).map (fun d => d.parameters.length) = some 0) (hnm : y.name = "<init>") (him : Cond.instanceMethod y ∈ tblG) (hlk : gE G s → va_Nw (.methodLinkNest own index y host) s) (hrc : rm.cells = mc) (hrs : rm.slots = ms) (hR : rm.frames + 1 ≤ R.frames ∧ 8 + (ny + 11) + rm.locals ≤ R.locals) (hW : (stk.map fun v => v.category).sum ≤ 8) (hdg : decode cc pc = .ok (.invokespecial index, 3)) (hf : cells + mc ≤ R.cells ∧ slots + ms ≤ R.slots)
    (k : ∀ u, WR p l e R s m args below meth c (cells + mc) (slots + ms) Q G X nL (pc + 3) lv stk (T1 ++ T' u)) : WR p l e R s m args below meth c cells slots Q G X nL pc lv (.ref b :: stk) T := by
  intro H locs ls hP hD hS hl
  have he : X ++ T = (X ++ T1) ++ T0 := by rw [hT, List.append_assoc]
  refine va_callv (va_runIN (As := []) (rest := stk) (b := b) ⟨C.1, C.2.1, C.2.2.1, C.2.2.2.1, C.2.2.2.2.1⟩ hM ⟨va_cnB 0 C.2.2.2.2.1 (tblG_goodIn hcode) rfl hrc hrs (hlk C.2.2.2.2.2.2.1) (C.2.2.2.2.1 _ hini) hd hR, hnm, C.2.2.2.2.1 _ him⟩ ⟨Px_blind G _ _ _, fun U hU hW => r_pre C A he hP hD hS [.ref b] U hU hW⟩ rfl rfl hl.1 rfl (lv_room hW) hdg hf) hS (fun _ _ h => h) (fun _ h => h) (fun u t H1 locs1 ht hvm hw hB hz hk hS1 => ?_)
  obtain ⟨hB1, hB2⟩ := hB
  rw [ht, List.append_assoc] at hB1
  rw [List.append_assoc] at hB2
  exact k u H1 locs1 ls hB1 hB2 hS1 hl
theorem r_vret {T' : List Nat → va_W} (C : Cx p s m args c cc nL own G 0 0) (hr : meth.sig.returnType = none) (hlk : meth.locks = false) (u : List Nat) (hT : T = T' u) (hdg : decode cc pc = .ok (.return_, 1)) : WR p l e R s m args below meth c cells slots (MQ below (QN G X T') args s cells slots (gA G)) G X nL pc lv [] T :=
  fun H locs ls hP hD hS hl => W.vret C.1 C.2.1 hr (fun t ht hW => ⟨⟨u, rfl, trivial, by rw [ht, ← hT]; exact hP, by rw [← hT]; exact hD⟩, hS.F ht⟩) hS.2.2 hdg hlk
theorem MN.of {y : MethodName} {rm : Room} {mc ms a : Nat} {T0 : va_W} {T' : List Nat → va_W} (hO : gOK G) (hy : plainName y.cls = true) (ho : y.cls = own) (hnm : y.name = "<init>") (hn : 1 ≤ nL)
    (body : ∀ (p : Program) (e : Env) (s : State) (m : MethodId) (args : Array Value) (below : List Frame) (meth : Method) (c : Code), Cx p s m args c cc nL own G 0 0 → (∀ q, s.heap.size ≤ q → gA G q) → meth.name = "<init>" → meth.sig.returnType = none → meth.locks = false → WR p l e rm s m args below meth c 0 0 (MQ below (QN G X T') args s mc ms (gA G)) G X nL 0 [(0, .ref a)] [] T0) : MN l G y cc nL rm mc ms a X T0 T' := by
  refine Met.ofW (cc := cc) (maxL := nL) (ret := none) hy rfl ?_
  intro p e s m args below meth c s₁ B hml hv
  obtain ⟨rfl, hP, hD, hK, hE, hA⟩ := hv
  have hts := atoms_spec (ws := .code y cc nL none :: tblG) B.pre
  have hown : s.vm.findClass own = some m.cls := by rw [← ho]; exact findClass_of_methodNamed B.named
  have hl := lv_entry [.ref a] (n := nL) hn
  rw [lg_entry_eq]
  exact body p e s m _ below meth c ⟨B.exec, B.bytes, hml, hown, fun w hw => hts w (List.mem_cons_of_mem _ hw), hK, hE, hO, fun k h1 h2 => absurd h2 (by omega)⟩ hA ((name_of_methodNamed B.named B.method).1.trans hnm) B.returns B.notSynchronized s.heap [] _ hP hD va_S.rf hl
end RAW
