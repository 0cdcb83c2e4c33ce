def gB (G : Gp) (st : St) (t : State) : Prop := va_P (gD G) vwCl (wld G st) t.heap
def gPre (G : Gp) (av : List Value) (st : St) : Array Value → State → Prop := va_Pc av (fun U => va_P (gD G) vwCl (wld G st) U.heap ∧ va_K (gD G) vwCl (gT G) U ∧ gE G U)
def MI (l : Launch) (G : Gp) (y : MethodName) (cc : ByteArray) (n : Nat) (ret : Option FieldType) (rm : Room) (av : List Value) (st : St) (Q : Int32 → St → Prop) : Prop :=
  Met l y (.code y cc n ret :: tblG) rm (gPre G av st) (va_Qi Q (gB G) (gA G)) 0 0 (gA G)
def MV (l : Launch) (G : Gp) (y : MethodName) (cc : ByteArray) (n : Nat) (rm : Room) (av : List Value) (st : St) (Q : St → Prop) : Prop :=
  Met l y (.code y cc n none :: tblG) rm (gPre G av st) (va_Qv Q (gB G) (gA G)) 0 0 (gA G)
def MR (l : Launch) (G : Gp) (y : MethodName) (cc : ByteArray) (n : Nat) (ret : Option FieldType) (rm : Room) (av : List Value) (st : St) (Q : Nat → St → Prop) : Prop :=
  Met l y (.code y cc n ret :: tblG) rm (gPre G av st) (va_Qr (S := Nat × St) (fun u => Q u.1 u.2) (fun u a t => a = gh G u.1 ∧ gB G u.2 t) (gA G)) 0 0 (gA G)
theorem gPre_blind (G : Gp) (av : List Value) (st : St) : FrameBlind (gPre G av st) := by
  intro a U g mk h
  obtain ⟨h0, h1, h2, h3⟩ := h
  exact ⟨h0, h1, va_K.moved (u := U) (U := U.calling g mk a) (Vm.Alike.refl U.vm) h2, gE.same (u := U) rfl rfl h3⟩
/-- a callee's words -/
def Kw (y : MethodName) (cy : ByteArray) (ny : Nat) (ret : Option FieldType) (na : Nat) : Prop :=
  Cond.code y cy ny ret ∈ tblG ∧ Cond.initialized y.cls ∈ tblG ∧ (y.cls ≠ "java/lang/invoke/MethodHandle" ∧ y.cls ≠ "java/lang/invoke/VarHandle" ∧ (parseMethodDescriptor y.desc).map (fun d => d.parameters.length) = some na)
def Kv (y : MethodName) (cy : ByteArray) (ny : Nat) (ret : Option FieldType) (na : Nat) : Prop := Kw y cy ny ret na ∧ Cond.instanceMethod y ∈ tblG ∧ Cond.selects y.cls y y ∈ tblG
def Ks (y : MethodName) (cy : ByteArray) (ny : Nat) (ret : Option FieldType) (na : Nat) : Prop := Kw y cy ny ret na ∧ Cond.static y ∈ tblG
section GCALLS
variable {p : Program} {l : Launch} {e : Env} {R : Room} {s : State} {m : MethodId} {args : Array Value} {below : List Frame} {meth : Method} {c : Code} {cells slots : Nat} {Q : State → Prop} {G : Gp} {nL pc lo hi : Nat} {lv : List (Nat × Value)} {stk : List Value} {st : St} {cc : ByteArray} {own : String}
variable {y : MethodName} {cy : ByteArray} {ny na index : Nat} {ret : Option FieldType} {rm : Room} {As rest : List Value} {b : Nat}
theorem g_callB (C : Cx p s m args c cc nL own G lo hi) (K : Kw y cy ny ret na) (hl : Cond.methodLink own index y ∈ tblG) (hrc : rm.cells = 0) (hrs : rm.slots = 0) (hR : rm.frames + 1 ≤ R.frames ∧ 8 + (ny + 11) + rm.locals ≤ R.locals) : CallB R s args own index y cy ny ret (.code y cy ny ret :: tblG) rm 0 0 na :=
  callB_of na C.2.2.2.2.1 (tblG_goodIn K.1) rfl hrc hrs (C.2.2.2.2.1 _ K.2.1) (C.2.2.2.2.1 _ hl) K.2.2 hR
theorem g_pre (C : Cx p s m args c cc nL own G lo hi) {H : Heap} {locs : List Loc} (hP : va_P (gD G) vwCl (wld G st) H) (hS : va_S (gA G) s.heap H locs) (av : List Value) (U : State) (hU : U.heap = H) (hW : s.WarmedH U.vm) : gPre G av st av.toArray U :=
  ⟨rfl, by rw [hU]; exact hP, va_K.moved hW.alike C.2.2.2.2.2.1, C.2.2.2.2.2.2.1.pass hS hU hW⟩
theorem g_recv {H : Heap} {kk ci : Nat} {q : vw_C} {fs : List Value} (C : Cx p s m args c cc nL own G lo hi) (hP : va_P (gD G) vwCl (wld G st) H) (hks : kk ∈ gks G) (hcell : cellF G kk (st kk) = .inr (ci, fs)) (hc : vwCl[ci]? = some q) : ∃ cell : Cell, H[gh G kk]? = some cell ∧ cell.vm.isStatics = false ∧ s.vm.findClass q.1 = some cell.cls := by
  obtain ⟨i, hi1, hi2⟩ := wld_at (G := G) (st := st) hks
  rw [hcell] at hi2
  exact va_recv C.2.2.2.2.2.1 hP hc hi2
/-- the receiver, of the wanted kind, whatever the heap is -/
def Rv (G : Gp) (s : State) (st : St) (b : Nat) (Cn : String) : Prop := ∀ (H : Heap) (locs : List Loc), va_P (gD G) vwCl (wld G st) H → va_S (gA G) s.heap H locs → ∃ cell : Cell, H[b]? = some cell ∧ cell.vm.isStatics = false ∧ s.vm.findClass Cn = some cell.cls
theorem Rv.of {kk ci : Nat} {q : vw_C} {fs : List Value} (C : Cx p s m args c cc nL own G lo hi) (hks : kk ∈ gks G) (hcell : cellF G kk (st kk) = .inr (ci, fs)) (hc : vwCl[ci]? = some q) : Rv G s st (gh G kk) q.1 := fun _ _ hP _ => g_recv C hP hks hcell hc
theorem Rv.str (C : Cx p s m args c cc nL own G lo hi) {i : Nat} (hi : i < nSx) : Rv G s st (gK G i) "java/lang/String" := fun _ _ _ hS => vk_recv C.2.2.2.2.2.2.1.2.2.2.2.2.1 hi hS
theorem g_runV {Qc : Array Value → State → Outcome → State → Prop} (C : Cx p s m args c cc nL own G lo hi) (hM : Met l y (.code y cy ny ret :: tblG) rm (gPre G (.ref b :: As) st) Qc 0 0 (gA G)) (K : Kv y cy ny ret na) (hlk : Cond.methodLink own index y ∈ tblG) (hv : Rv G s st b y.cls) (hrc : rm.cells = 0) (hrs : rm.slots = 0) (hR : rm.frames + 1 ≤ R.frames ∧ 8 + (ny + 11) + rm.locals ≤ R.locals) (hn : As.length = na) (hstk : stk = As.reverse ++ .ref b :: rest) (hW : (rest.map fun v => v.category).sum ≤ 8) (hdg : decode cc pc = .ok (.invokevirtual index, 3)) (hf : cells ≤ R.cells ∧ slots ≤ R.slots)
    {H : Heap} {locs : List Loc} {ls : Array Slot} (hP : va_P (gD G) vwCl (wld G st) H) (hS : va_S (gA G) s.heap H locs) (hl : lv_has ls nL lv) : va_Run p l e R s m args below meth c H locs cells slots 0 0 (F0 m pc ls stk) rest (Qc (Value.ref b :: As).toArray) (gA G) :=
  va_runV (C := y.cls) (As := As) (rest := rest) (b := b) ⟨C.1, C.2.1, C.2.2.1, C.2.2.2.1, C.2.2.2.2.1⟩ hM ⟨g_callB C K.1 hlk hrc hrs hR, C.2.2.2.2.1 _ K.2.1, C.2.2.2.2.1 _ K.2.2⟩ ⟨gPre_blind G _ st, hv H locs hP hS, fun U hU hW => g_pre C hP hS (.ref b :: As) U hU hW⟩ rfl hn hl.1 hstk (lv_room hW) hdg hf
theorem g_runS {Qc : Array Value → State → Outcome → State → Prop} (C : Cx p s m args c cc nL own G lo hi) (hM : Met l y (.code y cy ny ret :: tblG) rm (gPre G As st) Qc 0 0 (gA G)) (K : Ks y cy ny ret na) (hlk : Cond.methodLink own index y ∈ tblG) (hrc : rm.cells = 0) (hrs : rm.slots = 0) (hR : rm.frames + 1 ≤ R.frames ∧ 8 + (ny + 11) + rm.locals ≤ R.locals) (hn : As.length = na) (hstk : stk = As.reverse ++ rest) (hW : (rest.map fun v => v.category).sum ≤ 8) (hdg : decode cc pc = .ok (.invokestatic index, 3)) (hf : cells ≤ R.cells ∧ slots ≤ R.slots)
    {H : Heap} {locs : List Loc} {ls : Array Slot} (hP : va_P (gD G) vwCl (wld G st) H) (hS : va_S (gA G) s.heap H locs) (hl : lv_has ls nL lv) : va_Run p l e R s m args below meth c H locs cells slots 0 0 (F0 m pc ls stk) rest (Qc As.toArray) (gA G) :=
  va_runS (As := As) (rest := rest) ⟨C.1, C.2.1, C.2.2.1, C.2.2.2.1, C.2.2.2.2.1⟩ hM ⟨g_callB C K.1 hlk hrc hrs hR, C.2.2.2.2.1 _ K.2⟩ ⟨gPre_blind G _ st, fun U hU hW => g_pre C hP hS As U hU hW⟩ rfl hn hl.1 hstk (lv_room hW) hdg hf
theorem g_callVi {Q' : Int32 → St → Prop} (C : Cx p s m args c cc nL own G lo hi) (hM : MI l G y cy ny ret rm (.ref b :: As) st Q') (K : Kv y cy ny ret na) (hlk : Cond.methodLink own index y ∈ tblG) (hv : Rv G s st b y.cls) (hrc : rm.cells = 0) (hrs : rm.slots = 0) (hR : rm.frames + 1 ≤ R.frames ∧ 8 + (ny + 11) + rm.locals ≤ R.locals) (hn : As.length = na) (hstk : stk = As.reverse ++ .ref b :: rest) (hW : (rest.map fun v => v.category).sum ≤ 8) (hdg : decode cc pc = .ok (.invokevirtual index, 3)) (hf : cells ≤ R.cells ∧ slots ≤ R.slots)
    (k : ∀ (r : Int32) (st' : St), Q' r st' → WG p l e R s m args below meth c cells slots Q G nL (pc + 3) lv (.int r :: rest) st') : WG p l e R s m args below meth c cells slots Q G nL pc lv stk st :=
  fun H locs ls hP hS hl => va_calli (g_runV C hM K hlk hv hrc hrs hR hn hstk hW hdg hf hP hS hl) hS (fun _ _ h => h) (fun _ h => h) (fun r u t H1 locs1 ht hvm hw hB hz hk hS1 => k r u hw H1 locs1 ls (by rw [← ht]; exact hB) hS1 hl)
theorem g_callVv {Q' : St → Prop} (C : Cx p s m args c cc nL own G lo hi) (hM : MV l G y cy ny rm (.ref b :: As) st Q') (K : Kv y cy ny none na) (hlk : Cond.methodLink own index y ∈ tblG) (hv : Rv G s st b y.cls) (hrc : rm.cells = 0) (hrs : rm.slots = 0) (hR : rm.frames + 1 ≤ R.frames ∧ 8 + (ny + 11) + rm.locals ≤ R.locals) (hn : As.length = na) (hstk : stk = As.reverse ++ .ref b :: rest) (hW : (rest.map fun v => v.category).sum ≤ 8) (hdg : decode cc pc = .ok (.invokevirtual index, 3)) (hf : cells ≤ R.cells ∧ slots ≤ R.slots)
    (k : ∀ (st' : St), Q' st' → WG p l e R s m args below meth c cells slots Q G nL (pc + 3) lv rest st') : WG p l e R s m args below meth c cells slots Q G nL pc lv stk st :=
  fun H locs ls hP hS hl => va_callv (g_runV C hM K hlk hv hrc hrs hR hn hstk hW hdg hf hP hS hl) hS (fun _ _ h => h) (fun _ h => h) (fun u t H1 locs1 ht hvm hw hB hz hk hS1 => k u hw H1 locs1 ls (by rw [← ht]; exact hB) hS1 hl)
theorem g_callVr {Q' : Nat → St → Prop} (C : Cx p s m args c cc nL own G lo hi) (hM : MR l G y cy ny ret rm (.ref b :: As) st Q') (K : Kv y cy ny ret na) (hlk : Cond.methodLink own index y ∈ tblG) (hv : Rv G s st b y.cls) (hrc : rm.cells = 0) (hrs : rm.slots = 0) (hR : rm.frames + 1 ≤ R.frames ∧ 8 + (ny + 11) + rm.locals ≤ R.locals) (hn : As.length = na) (hstk : stk = As.reverse ++ .ref b :: rest) (hW : (rest.map fun v => v.category).sum ≤ 8) (hdg : decode cc pc = .ok (.invokevirtual index, 3)) (hf : cells ≤ R.cells ∧ slots ≤ R.slots)
    (k : ∀ (r : Nat) (st' : St), Q' r st' → WG p l e R s m args below meth c cells slots Q G nL (pc + 3) lv (.ref (gh G r) :: rest) st') : WG p l e R s m args below meth c cells slots Q G nL pc lv stk st :=
  fun H locs ls hP hS hl => va_callr (g_runV C hM K hlk hv hrc hrs hR hn hstk hW hdg hf hP hS hl) hS (fun _ _ h => h) (fun _ h => h) (fun u a t H1 locs1 ht hvm hw hB hz hk hS1 => by rw [hB.1]; exact k u.1 u.2 hw H1 locs1 ls (by rw [← ht]; exact hB.2) hS1 hl)
theorem g_callSi {Q' : Int32 → St → Prop} (C : Cx p s m args c cc nL own G lo hi) (hM : MI l G y cy ny ret rm As st Q') (K : Ks y cy ny ret na) (hlk : Cond.methodLink own index y ∈ tblG) (hrc : rm.cells = 0) (hrs : rm.slots = 0) (hR : rm.frames + 1 ≤ R.frames ∧ 8 + (ny + 11) + rm.locals ≤ R.locals) (hn : As.length = na) (hstk : stk = As.reverse ++ rest) (hW : (rest.map fun v => v.category).sum ≤ 8) (hdg : decode cc pc = .ok (.invokestatic index, 3)) (hf : cells ≤ R.cells ∧ slots ≤ R.slots)
    (k : ∀ (r : Int32) (st' : St), Q' r st' → WG p l e R s m args below meth c cells slots Q G nL (pc + 3) lv (.int r :: rest) st') : WG p l e R s m args below meth c cells slots Q G nL pc lv stk st :=
  fun H locs ls hP hS hl => va_calli (g_runS C hM K hlk hrc hrs hR hn hstk hW hdg hf hP hS hl) hS (fun _ _ h => h) (fun _ h => h) (fun r u t H1 locs1 ht hvm hw hB hz hk hS1 => k r u hw H1 locs1 ls (by rw [← ht]; exact hB) hS1 hl)
theorem g_callSv {Q' : St → Prop} (C : Cx p s m args c cc nL own G lo hi) (hM : MV l G y cy ny rm As st Q') (K : Ks y cy ny none na) (hlk : Cond.methodLink own index y ∈ tblG) (hrc : rm.cells = 0) (hrs : rm.slots = 0) (hR : rm.frames + 1 ≤ R.frames ∧ 8 + (ny + 11) + rm.locals ≤ R.locals) (hn : As.length = na) (hstk : stk = As.reverse ++ rest) (hW : (rest.map fun v => v.category).sum ≤ 8) (hdg : decode cc pc = .ok (.invokestatic index, 3)) (hf : cells ≤ R.cells ∧ slots ≤ R.slots)
    (k : ∀ (st' : St), Q' st' → WG p l e R s m args below meth c cells slots Q G nL (pc + 3) lv rest st') : WG p l e R s m args below meth c cells slots Q G nL pc lv stk st :=
  fun H locs ls hP hS hl => va_callv (g_runS C hM K hlk hrc hrs hR hn hstk hW hdg hf hP hS hl) hS (fun _ _ h => h) (fun _ h => h) (fun u t H1 locs1 ht hvm hw hB hz hk hS1 => k u hw H1 locs1 ls (by rw [← ht]; exact hB) hS1 hl)
theorem g_callSr {Q' : Nat → St → Prop} (C : Cx p s m args c cc nL own G lo hi) (hM : MR l G y cy ny ret rm As st Q') (K : Ks y cy ny ret na) (hlk : Cond.methodLink own index y ∈ tblG) (hrc : rm.cells = 0) (hrs : rm.slots = 0) (hR : rm.frames + 1 ≤ R.frames ∧ 8 + (ny + 11) + rm.locals ≤ R.locals) (hn : As.length = na) (hstk : stk = As.reverse ++ rest) (hW : (rest.map fun v => v.category).sum ≤ 8) (hdg : decode cc pc = .ok (.invokestatic index, 3)) (hf : cells ≤ R.cells ∧ slots ≤ R.slots)
    (k : ∀ (r : Nat) (st' : St), Q' r st' → WG p l e R s m args below meth c cells slots Q G nL (pc + 3) lv (.ref (gh G r) :: rest) st') : WG p l e R s m args below meth c cells slots Q G nL pc lv stk st :=
  fun H locs ls hP hS hl => va_callr (g_runS C hM K hlk hrc hrs hR hn hstk hW hdg hf hP hS hl) hS (fun _ _ h => h) (fun _ h => h) (fun u a t H1 locs1 ht hvm hw hB hz hk hS1 => by rw [hB.1]; exact k u.1 u.2 hw H1 locs1 ls (by rw [← ht]; exact hB.2) hS1 hl)
theorem MI.of {Q : Int32 → St → Prop} {av : List Value} (hO : gOK G) (hwin : ∀ k, lo ≤ k → k < hi → k ∈ gks G) (hy : plainName y.cls = true) (ho : y.cls = own) (hn : (lg_sl av).length ≤ nL)
    (body : ∀ (p : Program) (e : Env) (s : State) (m : MethodId) (args : Array Value) (below : List Frame) (meth : Method) (c : Code), Cx p s m args c cc nL own G lo hi → meth.sig.returnType = ret → meth.locks = false → WG p l e rm s m args below meth c 0 0 (MQ below (va_Qi Q (gB G) (gA G)) args s 0 0 (gA G)) G nL 0 (lv_args 0 av) [] st) : MI l G y cc nL ret rm av st Q := by
  refine Met.ofW (cc := cc) (maxL := nL) (ret := ret) hy rfl ?_
  intro p e s m args below meth c s₁ B hml hv
  obtain ⟨rfl, hP, hK, hE⟩ := hv
  have hts := atoms_spec (ws := .code y cc nL ret :: tblG) B.pre
  have hown : s.vm.findClass own = some m.cls := by rw [← ho]; exact findClass_of_methodNamed B.named
  have hl := lv_entry av hn
  rw [lg_entry_eq]
  exact body p e s m _ below meth c ⟨B.exec, B.bytes, hml, hown, fun w hw => hts w (List.mem_cons_of_mem _ hw), hK, hE, hO, hwin⟩ B.returns B.notSynchronized s.heap [] _ hP va_S.rf hl
theorem MV.of {Q : St → Prop} {av : List Value} (hO : gOK G) (hwin : ∀ k, lo ≤ k → k < hi → k ∈ gks G) (hy : plainName y.cls = true) (ho : y.cls = own) (hn : (lg_sl av).length ≤ nL)
    (body : ∀ (p : Program) (e : Env) (s : State) (m : MethodId) (args : Array Value) (below : List Frame) (meth : Method) (c : Code), Cx p s m args c cc nL own G lo hi → meth.sig.returnType = none → meth.locks = false → WG p l e rm s m args below meth c 0 0 (MQ below (va_Qv Q (gB G) (gA G)) args s 0 0 (gA G)) G nL 0 (lv_args 0 av) [] st) : MV l G y cc nL rm av st Q := by
  refine Met.ofW (cc := cc) (maxL := nL) (ret := none) hy rfl ?_
  intro p e s m args below meth c s₁ B hml hv
  obtain ⟨rfl, hP, hK, hE⟩ := hv
  have hts := atoms_spec (ws := .code y cc nL none :: tblG) B.pre
  have hown : s.vm.findClass own = some m.cls := by rw [← ho]; exact findClass_of_methodNamed B.named
  have hl := lv_entry av hn
  rw [lg_entry_eq]
  exact body p e s m _ below meth c ⟨B.exec, B.bytes, hml, hown, fun w hw => hts w (List.mem_cons_of_mem _ hw), hK, hE, hO, hwin⟩ B.returns B.notSynchronized s.heap [] _ hP va_S.rf hl
theorem MR.of {Q : Nat → St → Prop} {av : List Value} (hO : gOK G) (hwin : ∀ k, lo ≤ k → k < hi → k ∈ gks G) (hy : plainName y.cls = true) (ho : y.cls = own) (hn : (lg_sl av).length ≤ nL)
    (body : ∀ (p : Program) (e : Env) (s : State) (m : MethodId) (args : Array Value) (below : List Frame) (meth : Method) (c : Code), Cx p s m args c cc nL own G lo hi → meth.sig.returnType = ret → meth.locks = false → WG p l e rm s m args below meth c 0 0 (MQ below (va_Qr (S := Nat × St) (fun u => Q u.1 u.2) (fun u a t => a = gh G u.1 ∧ gB G u.2 t) (gA G)) args s 0 0 (gA G)) G nL 0 (lv_args 0 av) [] st) : MR l G y cc nL ret rm av st Q := by
  refine Met.ofW (cc := cc) (maxL := nL) (ret := ret) hy rfl ?_
  intro p e s m args below meth c s₁ B hml hv
  obtain ⟨rfl, hP, hK, hE⟩ := hv
  have hts := atoms_spec (ws := .code y cc nL ret :: tblG) B.pre
  have hown : s.vm.findClass own = some m.cls := by rw [← ho]; exact findClass_of_methodNamed B.named
  have hl := lv_entry av hn
  rw [lg_entry_eq]
  exact body p e s m _ below meth c ⟨B.exec, B.bytes, hml, hown, fun w hw => hts w (List.mem_cons_of_mem _ hw), hK, hE, hO, hwin⟩ B.returns B.notSynchronized s.heap [] _ hP va_S.rf hl
theorem g_iret {Q' : Int32 → St → Prop} {v : Int32} (C : Cx p s m args c cc nL own G lo hi) (hr : meth.sig.returnType = some .int) (hlk : meth.locks = false) (hq : Q' v st) (hdg : decode cc pc = .ok (.ireturn, 1)) : WG p l e R s m args below meth c 0 0 (MQ below (va_Qi Q' (gB G) (gA G)) args s 0 0 (gA G)) G nL pc lv [.int v] st :=
  fun H locs ls hP hS hl => W.iret C.1 C.2.1 hr (fun t ht hW => ⟨⟨v, st, rfl, hq, by unfold gB; rw [ht]; exact hP⟩, hS.F ht⟩) hS.2.2 hdg hlk
theorem nar_bool {v : Int32} (h : v = 0 ∨ v = 1) : narrow .boolean (.int v) = .int v := by rcases h with rfl | rfl <;> rfl
theorem g_zret {Q' : Int32 → St → Prop} {v : Int32} {ty : FieldType} (C : Cx p s m args c cc nL own G lo hi) (hr : meth.sig.returnType = some ty) (hlk : meth.locks = false) (hn : narrow ty (.int v) = .int v) (hq : Q' v st) (hdg : decode cc pc = .ok (.ireturn, 1)) : WG p l e R s m args below meth c 0 0 (MQ below (va_Qi Q' (gB G) (gA G)) args s 0 0 (gA G)) G nL pc lv [.int v] st :=
  fun H locs ls hP hS hl => W.zret C.1 C.2.1 hr hn (fun t ht hW => ⟨⟨v, st, rfl, hq, by unfold gB; rw [ht]; exact hP⟩, hS.F ht⟩) hS.2.2 hdg hlk
theorem g_vret {Q' : St → Prop} (C : Cx p s m args c cc nL own G lo hi) (hr : meth.sig.returnType = none) (hlk : meth.locks = false) (hq : Q' st) (hdg : decode cc pc = .ok (.return_, 1)) : WG p l e R s m args below meth c 0 0 (MQ below (va_Qv Q' (gB G) (gA G)) args s 0 0 (gA G)) G nL pc lv [] st :=
  fun H locs ls hP hS hl => W.vret C.1 C.2.1 hr (fun t ht hW => ⟨⟨st, rfl, hq, by unfold gB; rw [ht]; exact hP⟩, hS.F ht⟩) hS.2.2 hdg hlk
theorem g_aret {Q' : Nat → St → Prop} {kk : Nat} {nm : String} (C : Cx p s m args c cc nL own G lo hi) (hr : meth.sig.returnType = some (.object nm)) (hlk : meth.locks = false) (hq : Q' kk st) (hdg : decode cc pc = .ok (.areturn, 1)) : WG p l e R s m args below meth c 0 0 (MQ below (va_Qr (S := Nat × St) (fun u => Q' u.1 u.2) (fun u a t => a = gh G u.1 ∧ gB G u.2 t) (gA G)) args s 0 0 (gA G)) G nL pc lv [.ref (gh G kk)] st :=
  fun H locs ls hP hS hl => W.aret C.1 C.2.1 hr (Or.inl ⟨nm, rfl⟩) (Or.inr ⟨_, rfl⟩) (fun t ht hW => ⟨⟨(kk, st), gh G kk, rfl, hq, rfl, by unfold gB; rw [ht]; exact hP⟩, hS.F ht⟩) hS.2.2 hdg hlk
-- statics
theorem g_gets {Cn n d : String} {v : Value} (C : Cx p s m args c cc nL own G lo hi) (hZ : gE G s → va_Z Cn n d v (gA G) s s.heap) (hlink : Cond.fieldLink own index Cn n d ∈ tblG) (hdg : decode cc pc = .ok (.getstatic index, 3)) (k : WG p l e R s m args below meth c cells slots Q G nL (pc + 3) lv (v :: stk) st) : WG p l e R s m args below meth c cells slots Q G nL pc lv stk st :=
  fun H locs ls hP hS hl => va_gets C.1 C.2.1 (hZ C.2.2.2.2.2.2.1) hS C.2.2.2.1 (C.2.2.2.2.1 _ hlink) (fun _ h => h) hdg (k H locs ls hP hS hl)
theorem g_getsN {Cn n d host : String} {v : Value} (C : Cx p s m args c cc nL own G lo hi) (hZ : gE G s → va_Z Cn n d v (gA G) s s.heap) (hlink : gE G s → va_Nw (.fieldLinkNest own index Cn n d host) s) (hdg : decode cc pc = .ok (.getstatic index, 3)) (k : WG p l e R s m args below meth c cells slots Q G nL (pc + 3) lv (v :: stk) st) : WG p l e R s m args below meth c cells slots Q G nL pc lv stk st :=
  fun H locs ls hP hS hl => va_getsN C.1 C.2.1 (hZ C.2.2.2.2.2.2.1) hS C.2.2.2.1 (va_Nw.use rfl (hlink C.2.2.2.2.2.2.1)) (fun _ h => h) hdg (k H locs ls hP hS hl)
theorem g_ti {t N : Nat} {f : Nat → Int32} {i : Int32} (C : Cx p s m args c cc nL own G lo hi) (hT : gE G s → va_T .int t N (fun j => .int (f j)) (gA G) s s.heap) (hin : vp_in i N) (hdg : decode cc pc = .ok (.iaload, 1)) (k : WG p l e R s m args below meth c cells slots Q G nL (pc + 1) lv (.int (f i.toNatClampNeg) :: stk) st) : WG p l e R s m args below meth c cells slots Q G nL pc lv (.int i :: .ref t :: stk) st :=
  fun H locs ls hP hS hl => va_ti C.1 C.2.1 (hT C.2.2.2.2.2.2.1) hS hin rfl hdg (k H locs ls hP hS hl)
end GCALLS
