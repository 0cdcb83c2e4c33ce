def gMk (G : Gp) (h : Nat → Nat) (ks : List Nat) : Gp := (G.1, G.2.1, h, G.2.2.2.1, ks, G.2.2.2.2.2)
theorem gOK_of {G : Gp} {n : Nat} {st : St} (hk : gks G = List.range n) (hD : va_D (gA G) (wld G st)) : gOK G := by
  have at_ : ∀ a, a < n → (wld G st)[a]? = some (gh G a, cellF G a (st a)) := by
    intro a ha
    unfold wld
    rw [hk, List.getElem?_map, List.getElem?_range ha]; rfl
  refine ⟨by rw [hk]; exact List.nodup_range, fun a ha b hb e => ?_, fun a ha => ?_⟩
  · rw [hk, List.mem_range] at ha hb
    exact hD.1 a b _ _ (at_ a ha) (at_ b hb) e
  · rw [hk, List.mem_range] at ha
    exact hD.2 a _ (at_ a ha)
theorem cell_mk {G : Gp} {h h2 : Nat → Nat} {ks ks2 : List Nat} (e : ∀ j, j < 17 → h2 j = h j) : ∀ k, k < 17 → ∀ f, cellF (gMk G h2 ks2) k f = cellF (gMk G h ks) k f := by
  have hh : ∀ j, j < 17 → gh (gMk G h2 ks2) j = gh (gMk G h ks) j := e
  intro k hk f
  rcases (show k = 0 ∨ k = 1 ∨ k = 3 ∨ k = 5 ∨ k = 7 ∨ k = 9 ∨ k = 11 ∨ k = 14 ∨ k = 2 ∨ k = 4 ∨ k = 6 ∨ k = 8 ∨ k = 10 ∨ k = 12 ∨ k = 13 ∨ k = 15 ∨ k = 16 by omega) with rfl | rfl | rfl | rfl | rfl | rfl | rfl | rfl | rfl | rfl | rfl | rfl | rfl | rfl | rfl | rfl | rfl
  · show Sum.inr (4, [Value.ref (gh (gMk G h2 ks2) 1), .ref (gh (gMk G h2 ks2) 3), .ref (gh (gMk G h2 ks2) 5), .ref (gh (gMk G h2 ks2) 11), .ref (gh (gMk G h2 ks2) 14)]) = _
    rw [hh 1 (by omega), hh 3 (by omega), hh 5 (by omega), hh 11 (by omega), hh 14 (by omega)]; rfl
  · show Sum.inr (1, [Value.ref (gh (gMk G h2 ks2) 2), .int (f 1), .int (f 2)]) = _
    rw [hh 2 (by omega)]; rfl
  · show Sum.inr (1, [Value.ref (gh (gMk G h2 ks2) 4), .int (f 1), .int (f 2)]) = _
    rw [hh 4 (by omega)]; rfl
  · show Sum.inr (2, [Value.ref (gh (gMk G h2 ks2) 6), .ref (gh (gMk G h2 ks2) 7), .ref (gh (gMk G h2 ks2) 9), .ref (gh (gMk G h2 ks2) (selOf (f 3))), .int (f 4), .int (f 5)]) = _
    rw [hh 6 (by omega), hh 7 (by omega), hh 9 (by omega), hh (selOf (f 3)) (isPol_sel _).lt]; rfl
  · show Sum.inr (1, [Value.ref (gh (gMk G h2 ks2) 8), .int (f 1), .int (f 2)]) = _
    rw [hh 8 (by omega)]; rfl
  · show Sum.inr (1, [Value.ref (gh (gMk G h2 ks2) 10), .int (f 1), .int (f 2)]) = _
    rw [hh 10 (by omega)]; rfl
  · show Sum.inr (0, [Value.ref (gh (gMk G h2 ks2) 12), .ref (gh (gMk G h2 ks2) 13), .int (f 2)]) = _
    rw [hh 12 (by omega), hh 13 (by omega)]; rfl
  · show Sum.inr (3, [Value.ref (gh (gMk G h2 ks2) 15), .ref (gh (gMk G h2 ks2) 16), .int (f 2)]) = _
    rw [hh 15 (by omega), hh 16 (by omega)]; rfl
  all_goals rfl
def st0 : St := fun _ _ => 0
def stU (st : St) : St := fun k => if k < 17 then st k else fun _ => 0
def hU (h : Nat → Nat) (L : List Nat) : Nat → Nat := fun k => if k < 17 then h k else L.getD (k - 17) 0
theorem Cx.mk2 {p : Program} {s : State} {m : MethodId} {args : Array Value} {c : Code} {cc : ByteArray} {nL : Nat} {own : String} {G : Gp} {h : Nat → Nat} {n lo hi : Nat} (C : Cx p s m args c cc nL own G 0 0) (hO : gOK (gMk G h (List.range n))) (hn : hi ≤ n) : Cx p s m args c cc nL own (gMk G h (List.range n)) lo hi :=
  ⟨C.1, C.2.1, C.2.2.1, C.2.2.2.1, C.2.2.2.2.1, C.2.2.2.2.2.1, C.2.2.2.2.2.2.1, hO, fun k _ h2 => List.mem_range.mpr (by omega)⟩
def Q4 (G : Gp) (a : Nat) (Q : St → Prop) : Array Value → State → Outcome → State → Prop := va_Qv (S := (Nat → Nat) × St) (fun u => u.1 0 = a ∧ gOK (gMk G u.1 (List.range 17)) ∧ Q u.2) (fun u t => va_P (gD G) vwCl (wld (gMk G u.1 (List.range 17)) u.2) t.heap) (gA G)
def Q5 (G : Gp) (h : Nat → Nat) (a : Nat) (Q : St → Prop) : Array Value → State → Outcome → State → Prop := va_Qv (S := (Nat → Nat) × St) (fun u => ((∀ k, k < 17 → u.1 k = h k) ∧ u.1 17 = a) ∧ gOK (gMk G u.1 (List.range 25)) ∧ Q u.2) (fun u t => va_P (gD G) vwCl (wld (gMk G u.1 (List.range 25)) u.2) t.heap) (gA G)
section PUB
variable {p : Program} {l : Launch} {e : Env} {R : Room} {s : State} {m : MethodId} {args : Array Value} {below : List Frame} {meth : Method} {c : Code} {cells slots : Nat} {Q : State → Prop} {G : Gp} {X T : va_W} {nL pc : Nat} {lv : List (Nat × Value)} {stk : List Value} {cc : ByteArray} {own : String}
theorem r_sw {h : Nat → Nat} {n : Nat} {st : St} (hw : X ++ T = wld (gMk G h (List.range n)) st) (k : gOK (gMk G h (List.range n)) → WG p l e R s m args below meth c cells slots Q (gMk G h (List.range n)) nL pc lv stk st) : WR p l e R s m args below meth c cells slots Q G X nL pc lv stk T := by
  intro H locs ls hP hD hS hl
  rw [hw] at hP hD
  exact k (gOK_of (n := n) rfl hD) H locs ls hP hS hl
theorem MQ.of {y : MethodName} {rm : Room} {mc ms a : Nat} {T0 : va_W} {Qc : Array Value → State → Outcome → State → Prop} (hO : gOK G) (hy : plainName y.cls = true) (ho : y.cls = own) (hnm : y.name = "<init>") (hn : 1 ≤ nL)
    (body : ∀ (p : Program) (e : Env) (s : State) (m : MethodId) (args : Array Value) (below : List Frame) (meth : Method) (c : Code), Cx p s m args c cc nL own G 0 0 → (∀ q, s.heap.size ≤ q → gA G q) → meth.name = "<init>" → meth.sig.returnType = none → meth.locks = false → WR p l e rm s m args below meth c 0 0 (MQ below Qc args s mc ms (gA G)) G X nL 0 [(0, .ref a)] [] T0) : Met l y (.code y cc nL none :: tblG) rm (va_Pc [.ref a] (Px G X T0)) Qc mc ms (gA G) := by
  refine Met.ofW (cc := cc) (maxL := nL) (ret := none) hy rfl ?_
  intro p e s m args below meth c s₁ B hml hv
  obtain ⟨rfl, hP, hD, hK, hE, hA⟩ := hv
  have hts := atoms_spec (ws := .code y cc nL none :: tblG) B.pre
  have hown : s.vm.findClass own = some m.cls := by rw [← ho]; exact findClass_of_methodNamed B.named
  have hl := lv_entry [.ref a] (n := nL) hn
  rw [lg_entry_eq]
  exact body p e s m _ below meth c ⟨B.exec, B.bytes, hml, hown, fun w hw => hts w (List.mem_cons_of_mem _ hw), hK, hE, hO, fun k h1 h2 => absurd h2 (by omega)⟩ hA ((name_of_methodNamed B.named B.method).1.trans hnm) B.returns B.notSynchronized s.heap [] _ hP hD va_S.rf hl
theorem r_ctorP {y : MethodName} {cy : ByteArray} {ny mc ms index b : Nat} {rm : Room} {post : (Nat → Nat) × St → Prop} {wl : (Nat → Nat) × St → va_W} (C : Cx p s m args c cc nL own G 0 0) (A : ∀ q, s.heap.size ≤ q → gA G q) (hM : Met l y (.code y cy ny none :: tblG) rm (va_Pc [.ref b] (Px G X T)) (va_Qv post (fun u t => va_P (gD G) vwCl (wl u) t.heap) (gA G)) mc ms (gA G)) (hcode : Cond.code y cy ny none ∈ tblG) (hini : Cond.initialized y.cls ∈ tblG) (hd : y.cls ≠ "java/lang/invoke/MethodHandle" ∧ y.cls ≠ "java/lang/invoke/VarHandle" ∧ (parseMethodDescriptor y.desc).map (fun d => d.parameters.length) = some 0) (hnm : y.name = "<init>") (him : Cond.instanceMethod y ∈ tblG) (hlk : Cond.methodLink own index y ∈ tblG) (hrc : rm.cells = mc) (hrs : rm.slots = ms) (hR : rm.frames + 1 ≤ R.frames ∧ 8 + (ny + 11) + rm.locals ≤ R.locals) (hW : (stk.map fun v => v.category).sum ≤ 8) (hdg : decode cc pc = .ok (.invokespecial index, 3)) (hf : cells + mc ≤ R.cells ∧ slots + ms ≤ R.slots)
    (k : ∀ u, post u → ∀ (H : Heap) (locs : List Loc) (ls : Array Slot), va_P (gD G) vwCl (wl u) H → va_S (gA G) s.heap H locs → lv_has ls nL lv → W p l e R s m args below meth c H locs (cells + mc) (slots + ms) Q (F0 m (pc + 3) ls stk)) : WR p l e R s m args below meth c cells slots Q G X nL pc lv (.ref b :: stk) T := by
  intro H locs ls hP hD hS hl
  refine va_callv (va_runI (As := []) (rest := stk) (b := b) ⟨C.1, C.2.1, C.2.2.1, C.2.2.2.1, C.2.2.2.2.1⟩ hM ⟨callB_of 0 C.2.2.2.2.1 (tblG_goodIn hcode) rfl hrc hrs (C.2.2.2.2.1 _ hini) (C.2.2.2.2.1 _ hlk) hd hR, hnm, C.2.2.2.2.1 _ him⟩ ⟨Px_blind G _ _ _, fun U hU hW => r_pre C A rfl hP hD hS [.ref b] U hU hW⟩ rfl rfl hl.1 rfl (lv_room hW) hdg hf) hS (fun _ _ h => h) (fun _ h => h) (fun u t H1 locs1 ht hvm hw hB hz hk hS1 => ?_)
  rw [ht] at hB
  exact k u hw H1 locs1 ls hB hS1 hl
end PUB
set_option maxHeartbeats 4000000 in
set_option maxRecDepth 100000 in
theorem n_X4_init (l : Launch) (G : Gp) (hO : gOK G) (a : Nat) {Q : St → Prop} (hw : wp_X4_initT st0 Q) : Met l yX4_init (.code yX4_init cX4_init 2 none :: tblG) { frames := 8, cells := 16, slots := 988, locals := 175 } (va_Pc [.ref a] (Px G [] [(a, .inr (4, [.null, .null, .null, .null, .null]))])) (Q4 G a Q) 16 988 (gA G) := by
  refine MQ.of (X := []) (own := RX4) hO (by decide) rfl rfl (Nat.le_of_ble_eq_true rfl) (fun p e s m args below meth c C A hnm hr hlk => ?_)
  refine r_aload0 C dX4_init_0 rfl ?_
  refine r_obj C tw_54 dX4_init_1 ⟨Nat.le_of_ble_eq_true rfl, Nat.le_of_ble_eq_true rfl⟩ (Nat.le_of_ble_eq_true rfl) ?_
  refine r_aload0 C dX4_init_4 rfl ?_
  refine r_new (ci := 1) (fs := [.null, .int 0, .int 0]) C A inX1 tyX1_ok tw_57 tw_58 tw_37 rfl (by decide) (Nat.le_of_ble_eq_true rfl) (Nat.le_of_ble_eq_true rfl) dX4_init_5 (fun q0 => ?_)
  refine r_dup C dX4_init_8 ?_
  refine r_ctor (host := "PolicyComparer") (rm := { frames := 1, cells := 1, slots := 25, locals := 20 }) (mc := 1) (ms := 25) (T1 := [(a, .inr (4, [.null, .null, .null, .null, .null]))]) C A (n_X1_init l G hO (([] : va_W) ++ [(a, .inr (4, [.null, .null, .null, .null, .null]))]) q0) rfl tw_61 tw_37 (by decide +kernel) rfl tw_60 (fun h => h.2.2.2.2.2.2.2.2.2.1) rfl rfl ⟨Nat.le_of_ble_eq_true rfl, Nat.le_of_ble_eq_true rfl⟩ (Nat.le_of_ble_eq_true rfl) dX4_init_9 ⟨Nat.le_of_ble_eq_true rfl, Nat.le_of_ble_eq_true rfl⟩ (fun u1 => ?_)
  refine r_putF (ty := (.object "PolicyComparer$Policy")) (T2 := [(a, .inr (4, [.ref q0, .null, .null, .null, .null])), (q0, .inr (1, [.ref (u1.getD 0 0), .int 0, .int 0])), ((u1.getD 0 0), .inl (gI G, 25, .inl (fun _ => 0)))]) C hnm inX4 tyX4_ok nmX4 0 rfl rfl 0 (by decide) tw_289 rfl rfl (by decide +kernel) rfl rfl (Nat.le_of_ble_eq_true rfl) rfl dX4_init_12 ?_
  refine r_aload0 C dX4_init_15 rfl ?_
  refine r_new (ci := 1) (fs := [.null, .int 0, .int 0]) C A inX1 tyX1_ok tw_57 tw_58 tw_37 rfl (by decide) (Nat.le_of_ble_eq_true rfl) (Nat.le_of_ble_eq_true rfl) dX4_init_16 (fun q2 => ?_)
  refine r_dup C dX4_init_19 ?_
  refine r_ctor (host := "PolicyComparer") (rm := { frames := 1, cells := 1, slots := 25, locals := 20 }) (mc := 1) (ms := 25) (T1 := [(a, .inr (4, [.ref q0, .null, .null, .null, .null])), (q0, .inr (1, [.ref (u1.getD 0 0), .int 0, .int 0])), ((u1.getD 0 0), .inl (gI G, 25, .inl (fun _ => 0)))]) C A (n_X1_init l G hO (([] : va_W) ++ [(a, .inr (4, [.ref q0, .null, .null, .null, .null])), (q0, .inr (1, [.ref (u1.getD 0 0), .int 0, .int 0])), ((u1.getD 0 0), .inl (gI G, 25, .inl (fun _ => 0)))]) q2) rfl tw_61 tw_37 (by decide +kernel) rfl tw_60 (fun h => h.2.2.2.2.2.2.2.2.2.1) rfl rfl ⟨Nat.le_of_ble_eq_true rfl, Nat.le_of_ble_eq_true rfl⟩ (Nat.le_of_ble_eq_true rfl) dX4_init_20 ⟨Nat.le_of_ble_eq_true rfl, Nat.le_of_ble_eq_true rfl⟩ (fun u3 => ?_)
  refine r_putF (ty := (.object "PolicyComparer$Policy")) (T2 := [(a, .inr (4, [.ref q0, .ref q2, .null, .null, .null])), (q0, .inr (1, [.ref (u1.getD 0 0), .int 0, .int 0])), ((u1.getD 0 0), .inl (gI G, 25, .inl (fun _ => 0))), (q2, .inr (1, [.ref (u3.getD 0 0), .int 0, .int 0])), ((u3.getD 0 0), .inl (gI G, 25, .inl (fun _ => 0)))]) C hnm inX4 tyX4_ok nmX4 0 rfl rfl 1 (by decide) tw_290 rfl rfl (by decide +kernel) rfl rfl (Nat.le_of_ble_eq_true rfl) rfl dX4_init_23 ?_
  refine r_aload0 C dX4_init_26 rfl ?_
  refine r_new (ci := 2) (fs := [.null, .null, .null, .null, .int 0, .int 0]) C A inX2 tyX2_ok tw_74 tw_75 tw_38 rfl (by decide) (Nat.le_of_ble_eq_true rfl) (Nat.le_of_ble_eq_true rfl) dX4_init_27 (fun q4 => ?_)
  refine r_dup C dX4_init_30 ?_
  refine r_ctor (host := "PolicyComparer") (rm := { frames := 2, cells := 5, slots := 296, locals := 40 }) (mc := 5) (ms := 296) (T1 := [(a, .inr (4, [.ref q0, .ref q2, .null, .null, .null])), (q0, .inr (1, [.ref (u1.getD 0 0), .int 0, .int 0])), ((u1.getD 0 0), .inl (gI G, 25, .inl (fun _ => 0))), (q2, .inr (1, [.ref (u3.getD 0 0), .int 0, .int 0])), ((u3.getD 0 0), .inl (gI G, 25, .inl (fun _ => 0)))]) C A (n_X2_init l G hO (([] : va_W) ++ [(a, .inr (4, [.ref q0, .ref q2, .null, .null, .null])), (q0, .inr (1, [.ref (u1.getD 0 0), .int 0, .int 0])), ((u1.getD 0 0), .inl (gI G, 25, .inl (fun _ => 0))), (q2, .inr (1, [.ref (u3.getD 0 0), .int 0, .int 0])), ((u3.getD 0 0), .inl (gI G, 25, .inl (fun _ => 0)))]) q4) rfl tw_78 tw_38 (by decide +kernel) rfl tw_77 (fun h => h.2.2.2.2.2.2.2.2.2.2.1) rfl rfl ⟨Nat.le_of_ble_eq_true rfl, Nat.le_of_ble_eq_true rfl⟩ (Nat.le_of_ble_eq_true rfl) dX4_init_31 ⟨Nat.le_of_ble_eq_true rfl, Nat.le_of_ble_eq_true rfl⟩ (fun u5 => ?_)
  refine r_putF (ty := (.object "PolicyComparer$PolicyText")) (T2 := [(a, .inr (4, [.ref q0, .ref q2, .ref q4, .null, .null])), (q0, .inr (1, [.ref (u1.getD 0 0), .int 0, .int 0])), ((u1.getD 0 0), .inl (gI G, 25, .inl (fun _ => 0))), (q2, .inr (1, [.ref (u3.getD 0 0), .int 0, .int 0])), ((u3.getD 0 0), .inl (gI G, 25, .inl (fun _ => 0))), (q4, .inr (2, [.ref (u5.getD 0 0), .ref (u5.getD 1 0), .ref (u5.getD 3 0), .ref (u5.getD 1 0), .int 0, .int 0])), ((u5.getD 0 0), .inl (gC G, 240, .inl (fun _ => 0))), ((u5.getD 1 0), .inr (1, [.ref (u5.getD 2 0), .int 0, .int 0])), ((u5.getD 2 0), .inl (gI G, 25, .inl (fun _ => 0))), ((u5.getD 3 0), .inr (1, [.ref (u5.getD 4 0), .int 0, .int 0])), ((u5.getD 4 0), .inl (gI G, 25, .inl (fun _ => 0)))]) C hnm inX4 tyX4_ok nmX4 0 rfl rfl 2 (by decide) tw_291 rfl rfl (by decide +kernel) rfl rfl (Nat.le_of_ble_eq_true rfl) rfl dX4_init_34 ?_
  refine r_aload0 C dX4_init_37 rfl ?_
  refine r_new (ci := 0) (fs := [.null, .null, .int 0]) C A inX0 tyX0_ok tw_102 tw_103 tw_39 rfl (by decide) (Nat.le_of_ble_eq_true rfl) (Nat.le_of_ble_eq_true rfl) dX4_init_38 (fun q6 => ?_)
  refine r_dup C dX4_init_41 ?_
  refine r_ctor (host := "PolicyComparer") (rm := { frames := 1, cells := 2, slots := 112, locals := 20 }) (mc := 2) (ms := 112) (T1 := [(a, .inr (4, [.ref q0, .ref q2, .ref q4, .null, .null])), (q0, .inr (1, [.ref (u1.getD 0 0), .int 0, .int 0])), ((u1.getD 0 0), .inl (gI G, 25, .inl (fun _ => 0))), (q2, .inr (1, [.ref (u3.getD 0 0), .int 0, .int 0])), ((u3.getD 0 0), .inl (gI G, 25, .inl (fun _ => 0))), (q4, .inr (2, [.ref (u5.getD 0 0), .ref (u5.getD 1 0), .ref (u5.getD 3 0), .ref (u5.getD 1 0), .int 0, .int 0])), ((u5.getD 0 0), .inl (gC G, 240, .inl (fun _ => 0))), ((u5.getD 1 0), .inr (1, [.ref (u5.getD 2 0), .int 0, .int 0])), ((u5.getD 2 0), .inl (gI G, 25, .inl (fun _ => 0))), ((u5.getD 3 0), .inr (1, [.ref (u5.getD 4 0), .int 0, .int 0])), ((u5.getD 4 0), .inl (gI G, 25, .inl (fun _ => 0)))]) C A (n_X0_init l G hO (([] : va_W) ++ [(a, .inr (4, [.ref q0, .ref q2, .ref q4, .null, .null])), (q0, .inr (1, [.ref (u1.getD 0 0), .int 0, .int 0])), ((u1.getD 0 0), .inl (gI G, 25, .inl (fun _ => 0))), (q2, .inr (1, [.ref (u3.getD 0 0), .int 0, .int 0])), ((u3.getD 0 0), .inl (gI G, 25, .inl (fun _ => 0))), (q4, .inr (2, [.ref (u5.getD 0 0), .ref (u5.getD 1 0), .ref (u5.getD 3 0), .ref (u5.getD 1 0), .int 0, .int 0])), ((u5.getD 0 0), .inl (gC G, 240, .inl (fun _ => 0))), ((u5.getD 1 0), .inr (1, [.ref (u5.getD 2 0), .int 0, .int 0])), ((u5.getD 2 0), .inl (gI G, 25, .inl (fun _ => 0))), ((u5.getD 3 0), .inr (1, [.ref (u5.getD 4 0), .int 0, .int 0])), ((u5.getD 4 0), .inl (gI G, 25, .inl (fun _ => 0)))]) q6) rfl tw_106 tw_39 (by decide +kernel) rfl tw_105 (fun h => h.2.2.2.2.2.2.2.2.2.2.2.1) rfl rfl ⟨Nat.le_of_ble_eq_true rfl, Nat.le_of_ble_eq_true rfl⟩ (Nat.le_of_ble_eq_true rfl) dX4_init_42 ⟨Nat.le_of_ble_eq_true rfl, Nat.le_of_ble_eq_true rfl⟩ (fun u7 => ?_)
  refine r_putF (ty := (.object "PolicyComparer$History")) (T2 := [(a, .inr (4, [.ref q0, .ref q2, .ref q4, .ref q6, .null])), (q0, .inr (1, [.ref (u1.getD 0 0), .int 0, .int 0])), ((u1.getD 0 0), .inl (gI G, 25, .inl (fun _ => 0))), (q2, .inr (1, [.ref (u3.getD 0 0), .int 0, .int 0])), ((u3.getD 0 0), .inl (gI G, 25, .inl (fun _ => 0))), (q4, .inr (2, [.ref (u5.getD 0 0), .ref (u5.getD 1 0), .ref (u5.getD 3 0), .ref (u5.getD 1 0), .int 0, .int 0])), ((u5.getD 0 0), .inl (gC G, 240, .inl (fun _ => 0))), ((u5.getD 1 0), .inr (1, [.ref (u5.getD 2 0), .int 0, .int 0])), ((u5.getD 2 0), .inl (gI G, 25, .inl (fun _ => 0))), ((u5.getD 3 0), .inr (1, [.ref (u5.getD 4 0), .int 0, .int 0])), ((u5.getD 4 0), .inl (gI G, 25, .inl (fun _ => 0))), (q6, .inr (0, [.ref (u7.getD 0 0), .ref (u7.getD 1 0), .int 0])), ((u7.getD 0 0), .inl (gI G, 4, .inl (fun _ => 0))), ((u7.getD 1 0), .inl (gI G, 108, .inl (fun _ => 0)))]) C hnm inX4 tyX4_ok nmX4 0 rfl rfl 3 (by decide) tw_292 rfl rfl (by decide +kernel) rfl rfl (Nat.le_of_ble_eq_true rfl) rfl dX4_init_45 ?_
  refine r_aload0 C dX4_init_48 rfl ?_
  refine r_new (ci := 3) (fs := [.null, .null, .int 0]) C A inX3 tyX3_ok tw_118 tw_119 tw_40 rfl (by decide) (Nat.le_of_ble_eq_true rfl) (Nat.le_of_ble_eq_true rfl) dX4_init_49 (fun q8 => ?_)
  refine r_dup C dX4_init_52 ?_
  refine r_ctor (host := "PolicyComparer") (rm := { frames := 1, cells := 2, slots := 512, locals := 20 }) (mc := 2) (ms := 512) (T1 := [(a, .inr (4, [.ref q0, .ref q2, .ref q4, .ref q6, .null])), (q0, .inr (1, [.ref (u1.getD 0 0), .int 0, .int 0])), ((u1.getD 0 0), .inl (gI G, 25, .inl (fun _ => 0))), (q2, .inr (1, [.ref (u3.getD 0 0), .int 0, .int 0])), ((u3.getD 0 0), .inl (gI G, 25, .inl (fun _ => 0))), (q4, .inr (2, [.ref (u5.getD 0 0), .ref (u5.getD 1 0), .ref (u5.getD 3 0), .ref (u5.getD 1 0), .int 0, .int 0])), ((u5.getD 0 0), .inl (gC G, 240, .inl (fun _ => 0))), ((u5.getD 1 0), .inr (1, [.ref (u5.getD 2 0), .int 0, .int 0])), ((u5.getD 2 0), .inl (gI G, 25, .inl (fun _ => 0))), ((u5.getD 3 0), .inr (1, [.ref (u5.getD 4 0), .int 0, .int 0])), ((u5.getD 4 0), .inl (gI G, 25, .inl (fun _ => 0))), (q6, .inr (0, [.ref (u7.getD 0 0), .ref (u7.getD 1 0), .int 0])), ((u7.getD 0 0), .inl (gI G, 4, .inl (fun _ => 0))), ((u7.getD 1 0), .inl (gI G, 108, .inl (fun _ => 0)))]) C A (n_X3_init l G hO (([] : va_W) ++ [(a, .inr (4, [.ref q0, .ref q2, .ref q4, .ref q6, .null])), (q0, .inr (1, [.ref (u1.getD 0 0), .int 0, .int 0])), ((u1.getD 0 0), .inl (gI G, 25, .inl (fun _ => 0))), (q2, .inr (1, [.ref (u3.getD 0 0), .int 0, .int 0])), ((u3.getD 0 0), .inl (gI G, 25, .inl (fun _ => 0))), (q4, .inr (2, [.ref (u5.getD 0 0), .ref (u5.getD 1 0), .ref (u5.getD 3 0), .ref (u5.getD 1 0), .int 0, .int 0])), ((u5.getD 0 0), .inl (gC G, 240, .inl (fun _ => 0))), ((u5.getD 1 0), .inr (1, [.ref (u5.getD 2 0), .int 0, .int 0])), ((u5.getD 2 0), .inl (gI G, 25, .inl (fun _ => 0))), ((u5.getD 3 0), .inr (1, [.ref (u5.getD 4 0), .int 0, .int 0])), ((u5.getD 4 0), .inl (gI G, 25, .inl (fun _ => 0))), (q6, .inr (0, [.ref (u7.getD 0 0), .ref (u7.getD 1 0), .int 0])), ((u7.getD 0 0), .inl (gI G, 4, .inl (fun _ => 0))), ((u7.getD 1 0), .inl (gI G, 108, .inl (fun _ => 0)))]) q8) rfl tw_122 tw_40 (by decide +kernel) rfl tw_121 (fun h => h.2.2.2.2.2.2.2.2.2.2.2.2.1) rfl rfl ⟨Nat.le_of_ble_eq_true rfl, Nat.le_of_ble_eq_true rfl⟩ (Nat.le_of_ble_eq_true rfl) dX4_init_53 ⟨Nat.le_of_ble_eq_true rfl, Nat.le_of_ble_eq_true rfl⟩ (fun u9 => ?_)
  refine r_putF (ty := (.object "PolicyComparer$RuleSets")) (T2 := [(a, .inr (4, [.ref q0, .ref q2, .ref q4, .ref q6, .ref q8])), (q0, .inr (1, [.ref (u1.getD 0 0), .int 0, .int 0])), ((u1.getD 0 0), .inl (gI G, 25, .inl (fun _ => 0))), (q2, .inr (1, [.ref (u3.getD 0 0), .int 0, .int 0])), ((u3.getD 0 0), .inl (gI G, 25, .inl (fun _ => 0))), (q4, .inr (2, [.ref (u5.getD 0 0), .ref (u5.getD 1 0), .ref (u5.getD 3 0), .ref (u5.getD 1 0), .int 0, .int 0])), ((u5.getD 0 0), .inl (gC G, 240, .inl (fun _ => 0))), ((u5.getD 1 0), .inr (1, [.ref (u5.getD 2 0), .int 0, .int 0])), ((u5.getD 2 0), .inl (gI G, 25, .inl (fun _ => 0))), ((u5.getD 3 0), .inr (1, [.ref (u5.getD 4 0), .int 0, .int 0])), ((u5.getD 4 0), .inl (gI G, 25, .inl (fun _ => 0))), (q6, .inr (0, [.ref (u7.getD 0 0), .ref (u7.getD 1 0), .int 0])), ((u7.getD 0 0), .inl (gI G, 4, .inl (fun _ => 0))), ((u7.getD 1 0), .inl (gI G, 108, .inl (fun _ => 0))), (q8, .inr (3, [.ref (u9.getD 0 0), .ref (u9.getD 1 0), .int 0])), ((u9.getD 0 0), .inl (gI G, 256, .inl (fun _ => 0))), ((u9.getD 1 0), .inl (gZ G, 256, .inl (fun _ => 0)))]) C hnm inX4 tyX4_ok nmX4 0 rfl rfl 4 (by decide) tw_293 rfl rfl (by decide +kernel) rfl rfl (Nat.le_of_ble_eq_true rfl) rfl dX4_init_56 ?_
  refine r_sw (h := fun k => [a, q0, (u1.getD 0 0), q2, (u3.getD 0 0), q4, (u5.getD 0 0), (u5.getD 1 0), (u5.getD 2 0), (u5.getD 3 0), (u5.getD 4 0), q6, (u7.getD 0 0), (u7.getD 1 0), q8, (u9.getD 0 0), (u9.getD 1 0)].getD k 0) (n := 17) (st := st0) rfl (fun hO1 => ?_)
  refine t_X4_initT l _ hO1 (fun k _ h2 => List.mem_range.mpr h2) (C.mk2 hO1 (Nat.le_refl _)) (Q := Q) (fun lv st hq => ?_) hw
  exact fun H locs ls hP hS hl => W.vret C.1 C.2.1 hr (fun t ht hW => ⟨⟨(fun k => [a, q0, (u1.getD 0 0), q2, (u3.getD 0 0), q4, (u5.getD 0 0), (u5.getD 1 0), (u5.getD 2 0), (u5.getD 3 0), (u5.getD 4 0), q6, (u7.getD 0 0), (u7.getD 1 0), q8, (u9.getD 0 0), (u9.getD 1 0)].getD k 0, st), rfl, ⟨rfl, hO1, hq⟩, by show va_P _ _ _ t.heap; rw [ht]; exact hP⟩, hS.F ht⟩) hS.2.2 dX4_init_113 hlk
theorem wld_two (G : Gp) (h : Nat → Nat) (L : List Nat) (st : St) : wld (gMk G h (List.range 17)) st ++ [(L.getD 0 0, .inr (5, [.int 0, .ref (L.getD 1 0), .ref (L.getD 2 0), .ref (L.getD 3 0), .ref (L.getD 4 0), .int 0, .ref (L.getD 5 0), .ref (L.getD 6 0), .int 0, .int 0, .ref (L.getD 7 0)])), (L.getD 1 0, .inl (gI G, 240, .inl (fun _ => 0))), (L.getD 2 0, .inl (gI G, 84, .inl (fun _ => 0))), (L.getD 3 0, .inl (gI G, 84, .inl (fun _ => 0))), (L.getD 4 0, .inl (gI G, 336, .inl (fun _ => 0))), (L.getD 5 0, .inl (gI G, 1024, .inl (fun _ => 0))), (L.getD 6 0, .inl (gI G, 1024, .inl (fun _ => 0))), (L.getD 7 0, .inl (gI G, 5, .inl (fun _ => 0)))] = wld (gMk G (hU h L) (List.range 25)) (stU st) := by
  have e25 : List.range 25 = List.range 17 ++ [17, 18, 19, 20, 21, 22, 23, 24] := by decide
  unfold wld
  show List.map _ (List.range 17) ++ _ = List.map _ (List.range 25)
  rw [e25, List.map_append]
  congr 1
  refine List.map_congr_left (fun k hk => ?_)
  have hk := List.mem_range.mp hk
  have e1 : hU h L k = h k := if_pos hk
  have e2 : stU st k = st k := if_pos hk
  show (h k, _) = (hU h L k, _)
  rw [e1, e2]
  exact congrArg (Prod.mk (h k)) (cell_mk (fun j hj => if_pos hj) k hk _).symm
set_option maxHeartbeats 4000000 in
set_option maxRecDepth 100000 in
theorem n_X5_init (l : Launch) (G : Gp) (hO : gOK G) (h : Nat → Nat) (st : St) (a : Nat) {Q : St → Prop} (hw : wp_X5_initT (stU st) Q) : Met l yX5_init (.code yX5_init cX5_init 1 none :: tblG) { frames := 1, cells := 7, slots := 2797, locals := 28 } (va_Pc [.ref a] (Px G (wld (gMk G h (List.range 17)) st) [(a, .inr (5, [.int 0, .null, .null, .null, .null, .int 0, .null, .null, .int 0, .int 0, .null]))])) (Q5 G h a Q) 7 2797 (gA G) := by
  obtain ⟨X, hX⟩ : ∃ X : va_W, X = wld (gMk G h (List.range 17)) st := ⟨_, rfl⟩
  rw [← hX]
  refine MQ.of (own := RX5) hO (by decide) rfl rfl (Nat.le_of_ble_eq_true rfl) (fun p e s m args below meth c C A hnm hr hlk => ?_)
  refine r_aload0 C dX5_init_0 rfl ?_
  refine r_obj C tw_610 dX5_init_1 ⟨Nat.le_of_ble_eq_true rfl, Nat.le_of_ble_eq_true rfl⟩ (Nat.le_of_ble_eq_true rfl) ?_
  refine r_aload0 C dX5_init_4 rfl ?_
  refine r_sipush C 240 dX5_init_5 rfl ?_
  refine r_newa (atype := .int) (ty := .int) (t0 := 0) (cA0 := gI G) (N := 240) C A tw_73 rfl rfl (fun cA h1 h2 => Option.some.inj (h1.symm.trans h2)) (fun _ => rfl) (by decide) rfl (Nat.le_of_ble_eq_true rfl) (Nat.le_of_ble_eq_true rfl) (Nat.le_of_ble_eq_true rfl) dX5_init_8 (fun q0 => ?_)
  refine r_putF (ty := (.array .int)) (T2 := [(a, .inr (5, [.int 0, .ref q0, .null, .null, .null, .int 0, .null, .null, .int 0, .int 0, .null])), (q0, .inl (gI G, 240, .inl (fun _ => 0)))]) C hnm inX5 tyX5_ok nmX5 0 rfl rfl 1 (by decide) tw_624 rfl rfl (by decide +kernel) rfl rfl (Nat.le_of_ble_eq_true rfl) rfl dX5_init_10 ?_
  refine r_aload0 C dX5_init_13 rfl ?_
  refine r_bipush C 84 dX5_init_14 rfl ?_
  refine r_newa (atype := .int) (ty := .int) (t0 := 0) (cA0 := gI G) (N := 84) C A tw_73 rfl rfl (fun cA h1 h2 => Option.some.inj (h1.symm.trans h2)) (fun _ => rfl) (by decide) rfl (Nat.le_of_ble_eq_true rfl) (Nat.le_of_ble_eq_true rfl) (Nat.le_of_ble_eq_true rfl) dX5_init_16 (fun q1 => ?_)
  refine r_putF (ty := (.array .int)) (T2 := [(a, .inr (5, [.int 0, .ref q0, .ref q1, .null, .null, .int 0, .null, .null, .int 0, .int 0, .null])), (q0, .inl (gI G, 240, .inl (fun _ => 0))), (q1, .inl (gI G, 84, .inl (fun _ => 0)))]) C hnm inX5 tyX5_ok nmX5 0 rfl rfl 2 (by decide) tw_625 rfl rfl (by decide +kernel) rfl rfl (Nat.le_of_ble_eq_true rfl) rfl dX5_init_18 ?_
  refine r_aload0 C dX5_init_21 rfl ?_
  refine r_bipush C 84 dX5_init_22 rfl ?_
  refine r_newa (atype := .int) (ty := .int) (t0 := 0) (cA0 := gI G) (N := 84) C A tw_73 rfl rfl (fun cA h1 h2 => Option.some.inj (h1.symm.trans h2)) (fun _ => rfl) (by decide) rfl (Nat.le_of_ble_eq_true rfl) (Nat.le_of_ble_eq_true rfl) (Nat.le_of_ble_eq_true rfl) dX5_init_24 (fun q2 => ?_)
  refine r_putF (ty := (.array .int)) (T2 := [(a, .inr (5, [.int 0, .ref q0, .ref q1, .ref q2, .null, .int 0, .null, .null, .int 0, .int 0, .null])), (q0, .inl (gI G, 240, .inl (fun _ => 0))), (q1, .inl (gI G, 84, .inl (fun _ => 0))), (q2, .inl (gI G, 84, .inl (fun _ => 0)))]) C hnm inX5 tyX5_ok nmX5 0 rfl rfl 3 (by decide) tw_626 rfl rfl (by decide +kernel) rfl rfl (Nat.le_of_ble_eq_true rfl) rfl dX5_init_26 ?_
  refine r_aload0 C dX5_init_29 rfl ?_
  refine r_sipush C 336 dX5_init_30 rfl ?_
  refine r_newa (atype := .int) (ty := .int) (t0 := 0) (cA0 := gI G) (N := 336) C A tw_73 rfl rfl (fun cA h1 h2 => Option.some.inj (h1.symm.trans h2)) (fun _ => rfl) (by decide) rfl (Nat.le_of_ble_eq_true rfl) (Nat.le_of_ble_eq_true rfl) (Nat.le_of_ble_eq_true rfl) dX5_init_33 (fun q3 => ?_)
  refine r_putF (ty := (.array .int)) (T2 := [(a, .inr (5, [.int 0, .ref q0, .ref q1, .ref q2, .ref q3, .int 0, .null, .null, .int 0, .int 0, .null])), (q0, .inl (gI G, 240, .inl (fun _ => 0))), (q1, .inl (gI G, 84, .inl (fun _ => 0))), (q2, .inl (gI G, 84, .inl (fun _ => 0))), (q3, .inl (gI G, 336, .inl (fun _ => 0)))]) C hnm inX5 tyX5_ok nmX5 0 rfl rfl 4 (by decide) tw_627 rfl rfl (by decide +kernel) rfl rfl (Nat.le_of_ble_eq_true rfl) rfl dX5_init_35 ?_
  refine r_aload0 C dX5_init_38 rfl ?_
  refine r_sipush C 1024 dX5_init_39 rfl ?_
  refine r_newa (atype := .int) (ty := .int) (t0 := 0) (cA0 := gI G) (N := 1024) C A tw_73 rfl rfl (fun cA h1 h2 => Option.some.inj (h1.symm.trans h2)) (fun _ => rfl) (by decide) rfl (Nat.le_of_ble_eq_true rfl) (Nat.le_of_ble_eq_true rfl) (Nat.le_of_ble_eq_true rfl) dX5_init_42 (fun q4 => ?_)
  refine r_putF (ty := (.array .int)) (T2 := [(a, .inr (5, [.int 0, .ref q0, .ref q1, .ref q2, .ref q3, .int 0, .ref q4, .null, .int 0, .int 0, .null])), (q0, .inl (gI G, 240, .inl (fun _ => 0))), (q1, .inl (gI G, 84, .inl (fun _ => 0))), (q2, .inl (gI G, 84, .inl (fun _ => 0))), (q3, .inl (gI G, 336, .inl (fun _ => 0))), (q4, .inl (gI G, 1024, .inl (fun _ => 0)))]) C hnm inX5 tyX5_ok nmX5 0 rfl rfl 6 (by decide) tw_629 rfl rfl (by decide +kernel) rfl rfl (Nat.le_of_ble_eq_true rfl) rfl dX5_init_44 ?_
  refine r_aload0 C dX5_init_47 rfl ?_
  refine r_sipush C 1024 dX5_init_48 rfl ?_
  refine r_newa (atype := .int) (ty := .int) (t0 := 0) (cA0 := gI G) (N := 1024) C A tw_73 rfl rfl (fun cA h1 h2 => Option.some.inj (h1.symm.trans h2)) (fun _ => rfl) (by decide) rfl (Nat.le_of_ble_eq_true rfl) (Nat.le_of_ble_eq_true rfl) (Nat.le_of_ble_eq_true rfl) dX5_init_51 (fun q5 => ?_)
  refine r_putF (ty := (.array .int)) (T2 := [(a, .inr (5, [.int 0, .ref q0, .ref q1, .ref q2, .ref q3, .int 0, .ref q4, .ref q5, .int 0, .int 0, .null])), (q0, .inl (gI G, 240, .inl (fun _ => 0))), (q1, .inl (gI G, 84, .inl (fun _ => 0))), (q2, .inl (gI G, 84, .inl (fun _ => 0))), (q3, .inl (gI G, 336, .inl (fun _ => 0))), (q4, .inl (gI G, 1024, .inl (fun _ => 0))), (q5, .inl (gI G, 1024, .inl (fun _ => 0)))]) C hnm inX5 tyX5_ok nmX5 0 rfl rfl 7 (by decide) tw_630 rfl rfl (by decide +kernel) rfl rfl (Nat.le_of_ble_eq_true rfl) rfl dX5_init_53 ?_
  refine r_aload0 C dX5_init_56 rfl ?_
  refine r_iconst C 5 dX5_init_57 rfl ?_
  refine r_newa (atype := .int) (ty := .int) (t0 := 0) (cA0 := gI G) (N := 5) C A tw_73 rfl rfl (fun cA h1 h2 => Option.some.inj (h1.symm.trans h2)) (fun _ => rfl) (by decide) rfl (Nat.le_of_ble_eq_true rfl) (Nat.le_of_ble_eq_true rfl) (Nat.le_of_ble_eq_true rfl) dX5_init_58 (fun q6 => ?_)
  refine r_putF (ty := (.array .int)) (T2 := [(a, .inr (5, [.int 0, .ref q0, .ref q1, .ref q2, .ref q3, .int 0, .ref q4, .ref q5, .int 0, .int 0, .ref q6])), (q0, .inl (gI G, 240, .inl (fun _ => 0))), (q1, .inl (gI G, 84, .inl (fun _ => 0))), (q2, .inl (gI G, 84, .inl (fun _ => 0))), (q3, .inl (gI G, 336, .inl (fun _ => 0))), (q4, .inl (gI G, 1024, .inl (fun _ => 0))), (q5, .inl (gI G, 1024, .inl (fun _ => 0))), (q6, .inl (gI G, 5, .inl (fun _ => 0)))]) C hnm inX5 tyX5_ok nmX5 0 rfl rfl 10 (by decide) tw_633 rfl rfl (by decide +kernel) rfl rfl (Nat.le_of_ble_eq_true rfl) rfl dX5_init_60 ?_
  subst hX
  refine r_sw (h := hU h [a, q0, q1, q2, q3, q4, q5, q6]) (n := 25) (st := stU st) (wld_two G h [a, q0, q1, q2, q3, q4, q5, q6] st) (fun hO1 => ?_)
  refine t_X5_initT l _ hO1 (fun k _ h2 => List.mem_range.mpr h2) (C.mk2 hO1 (Nat.le_refl _)) (Q := Q) (fun lv st hq => ?_) hw
  exact fun H locs ls hP hS hl => W.vret C.1 C.2.1 hr (fun t ht hW => ⟨⟨(hU h [a, q0, q1, q2, q3, q4, q5, q6], st), rfl, ⟨⟨fun k hk => if_pos hk, rfl⟩, hO1, hq⟩, by show va_P _ _ _ t.heap; rw [ht]; exact hP⟩, hS.F ht⟩) hS.2.2 dX5_init_178 hlk
