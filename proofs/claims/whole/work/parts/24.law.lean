theorem sw31 (x : Int32) : x = (0 : Int32) ∨ x = (1 : Int32) ∨ x = (2 : Int32) ∨ x = (3 : Int32) ∨ x = (4 : Int32) ∨ x = (5 : Int32) ∨ x = (6 : Int32) ∨ x = (7 : Int32) ∨ x = (8 : Int32) ∨ x = (9 : Int32) ∨ x = (10 : Int32) ∨ x = (11 : Int32) ∨ x = (12 : Int32) ∨ x = (13 : Int32) ∨ x = (14 : Int32) ∨ x = (15 : Int32) ∨ x = (16 : Int32) ∨ x = (17 : Int32) ∨ x = (18 : Int32) ∨ x = (19 : Int32) ∨ x = (20 : Int32) ∨ x = (21 : Int32) ∨ x = (22 : Int32) ∨ x = (23 : Int32) ∨ x = (24 : Int32) ∨ x = (25 : Int32) ∨ x = (26 : Int32) ∨ x = (27 : Int32) ∨ x = (28 : Int32) ∨ x = (29 : Int32) ∨ x = (30 : Int32) ∨ ((¬ x = (0 : Int32) ∧ ¬ x = (1 : Int32) ∧ ¬ x = (2 : Int32) ∧ ¬ x = (3 : Int32) ∧ ¬ x = (4 : Int32) ∧ ¬ x = (5 : Int32) ∧ ¬ x = (6 : Int32) ∧ ¬ x = (7 : Int32) ∧ ¬ x = (8 : Int32) ∧ ¬ x = (9 : Int32) ∧ ¬ x = (10 : Int32) ∧ ¬ x = (11 : Int32) ∧ ¬ x = (12 : Int32) ∧ ¬ x = (13 : Int32) ∧ ¬ x = (14 : Int32) ∧ ¬ x = (15 : Int32) ∧ ¬ x = (16 : Int32) ∧ ¬ x = (17 : Int32) ∧ ¬ x = (18 : Int32) ∧ ¬ x = (19 : Int32) ∧ ¬ x = (20 : Int32) ∧ ¬ x = (21 : Int32) ∧ ¬ x = (22 : Int32) ∧ ¬ x = (23 : Int32) ∧ ¬ x = (24 : Int32) ∧ ¬ x = (25 : Int32) ∧ ¬ x = (26 : Int32) ∧ ¬ x = (27 : Int32) ∧ ¬ x = (28 : Int32) ∧ ¬ x = (29 : Int32) ∧ ¬ x = (30 : Int32)) ∧ (x.toInt < 0 ∨ 30 < x.toInt)) := by
  rcases pk_ix x (n := 31) (by decide) with q | q | ⟨j, q, e⟩
  · exact Or.inr (Or.inr (Or.inr (Or.inr (Or.inr (Or.inr (Or.inr (Or.inr (Or.inr (Or.inr (Or.inr (Or.inr (Or.inr (Or.inr (Or.inr (Or.inr (Or.inr (Or.inr (Or.inr (Or.inr (Or.inr (Or.inr (Or.inr (Or.inr (Or.inr (Or.inr (Or.inr (Or.inr (Or.inr (Or.inr (Or.inr (⟨by refine ⟨?_, ?_, ?_, ?_, ?_, ?_, ?_, ?_, ?_, ?_, ?_, ?_, ?_, ?_, ?_, ?_, ?_, ?_, ?_, ?_, ?_, ?_, ?_, ?_, ?_, ?_, ?_, ?_, ?_, ?_, ?_⟩ <;> (intro z; rw [z] at q; exact absurd q (by decide)), Or.inl (by simpa using Int32.lt_iff_toInt_lt.mp q)⟩)))))))))))))))))))))))))))))))
  · exact Or.inr (Or.inr (Or.inr (Or.inr (Or.inr (Or.inr (Or.inr (Or.inr (Or.inr (Or.inr (Or.inr (Or.inr (Or.inr (Or.inr (Or.inr (Or.inr (Or.inr (Or.inr (Or.inr (Or.inr (Or.inr (Or.inr (Or.inr (Or.inr (Or.inr (Or.inr (Or.inr (Or.inr (Or.inr (Or.inr (Or.inr (⟨by refine ⟨?_, ?_, ?_, ?_, ?_, ?_, ?_, ?_, ?_, ?_, ?_, ?_, ?_, ?_, ?_, ?_, ?_, ?_, ?_, ?_, ?_, ?_, ?_, ?_, ?_, ?_, ?_, ?_, ?_, ?_, ?_⟩ <;> (intro z; rw [z] at q; exact absurd q (by decide)), Or.inr (by have h := Int32.le_iff_toInt_le.mp q; rw [nI_toInt (by decide)] at h; omega)⟩)))))))))))))))))))))))))))))))
  · subst e
    have key : ∀ j : Nat, j < 31 → (nI j = (0 : Int32) ∨ nI j = (1 : Int32) ∨ nI j = (2 : Int32) ∨ nI j = (3 : Int32) ∨ nI j = (4 : Int32) ∨ nI j = (5 : Int32) ∨ nI j = (6 : Int32) ∨ nI j = (7 : Int32) ∨ nI j = (8 : Int32) ∨ nI j = (9 : Int32) ∨ nI j = (10 : Int32) ∨ nI j = (11 : Int32) ∨ nI j = (12 : Int32) ∨ nI j = (13 : Int32) ∨ nI j = (14 : Int32) ∨ nI j = (15 : Int32) ∨ nI j = (16 : Int32) ∨ nI j = (17 : Int32) ∨ nI j = (18 : Int32) ∨ nI j = (19 : Int32) ∨ nI j = (20 : Int32) ∨ nI j = (21 : Int32) ∨ nI j = (22 : Int32) ∨ nI j = (23 : Int32) ∨ nI j = (24 : Int32) ∨ nI j = (25 : Int32) ∨ nI j = (26 : Int32) ∨ nI j = (27 : Int32) ∨ nI j = (28 : Int32) ∨ nI j = (29 : Int32) ∨ nI j = (30 : Int32)) := by decide +kernel
    have h := key j q
    simp only [← or_assoc] at h ⊢
    exact Or.inl h
section GLAW
variable {p : Program} {l : Launch} {e : Env} {s : State} {m : MethodId} {below : List Frame} {meth : Method} {c : Code} {G : Gp} {nL pc lo hi : Nat} {lv : List (Nat × Value)} {stk : List Value} {st : St} {cc : ByteArray} {own : String} {b L : Nat} {xs : Nat → Int32} {args : Array Value} {R : Room} {cells slots : Nat} {Q : State → Prop}
theorem g_sld (C : Cx p s m args c cc nL own G lo hi) (X : va_X b L xs s s.heap ∧ b < s.heap.size ∧ ¬ gA G b) {i : Int32} (hin : vp_in i L) (hdg : decode cc pc = .ok (.iaload, 1)) (k : WG p l e R s m args below meth c cells slots Q G nL (pc + 1) lv (.int (xs i.toNatClampNeg) :: stk) st) : WG p l e R s m args below meth c cells slots Q G nL pc lv (.int i :: .ref b :: stk) st :=
  fun H locs ls hP hS hl => va_sld C.1 C.2.1 X.1 X.2.1 X.2.2 hS hin hdg (k H locs ls hP hS hl)
theorem g_slen (C : Cx p s m args c cc nL own G lo hi) (X : va_X b L xs s s.heap ∧ b < s.heap.size ∧ ¬ gA G b) (hdg : decode cc pc = .ok (.arraylength, 1)) (k : WG p l e R s m args below meth c cells slots Q G nL (pc + 1) lv (.int (nI L) :: stk) st) : WG p l e R s m args below meth c cells slots Q G nL pc lv (.ref b :: stk) st :=
  fun H locs ls hP hS hl => va_slen C.1 C.2.1 X.1 X.2.1 X.2.2 hS hdg (k H locs ls hP hS hl)
theorem g_lret (C : Cx p s m #[Value.ref b] c cL_law nL own G lo hi) (hr : meth.sig.returnType = ret) (hlk : meth.locks = false) (hA : ∀ q, gA G q → s.heap.size ≤ q) (hdg : decode cL_law pc = .ok (.ireturn, 1)) : WG p l e room_1 s m #[Value.ref b] below meth c 25 3801 (lw_Z below #[Value.ref b] s) G nL pc lv [.int 1] st :=
  fun H locs ls hP hS hl => va_forget (fun q hq => hA _ (hS.2.2 q hq)) (lw_ret C.1 C.2.1 hr hlk hdg)
end GLAW
set_option maxHeartbeats 40000000 in
set_option maxRecDepth 100000 in
theorem law_loop {p : Program} (l : Launch) {e : Env} {s : State} {m : MethodId} {below : List Frame} {meth : Method} {c : Code} {b L : Nat} {xs : Nat → Int32} (G : Gp) (hO : gOK G) (hwC : ∀ k, 0 ≤ k → k < 17 → k ∈ gks G) (hwM : ∀ k, 17 ≤ k → k < 25 → k ∈ gks G) (C : Cx p s m #[Value.ref b] c cL_law 4 RL G 0 25) (X : va_X b L xs s s.heap ∧ b < s.heap.size ∧ ¬ gA G b) (hr : meth.sig.returnType = ret) (hlk : meth.locks = false) (hAq : ∀ q, gA G q → s.heap.size ≤ q) {st : St} (hw : wp_L L xs st) : WG p l e room_1 s m #[Value.ref b] below meth c 25 3801 (lw_Z below #[Value.ref b] s) G 4 18 [(0, .ref b), (1, .ref (gh G 0)), (2, .ref (gh G 17)), (3, .int 0)] [] st := by
  unfold wp_L at hw
  obtain ⟨P18, hP18⟩ : ∃ P : Int32 → St → Prop, P = fun x3 st => WG p l e room_1 s m #[Value.ref b] below meth c 25 3801 (lw_Z below #[Value.ref b] s) G 4 18 [(0, .ref b), (1, .ref (gh G 0)), (2, .ref (gh G 17)), (3, .int x3)] [] st := ⟨_, rfl⟩
  replace hw := hw P18 (by
    intro x3 st hw
    rw [hP18]
    refine g_iload_n C 3 dL_law_18 rfl rfl ?_
    refine g_aload_n C 0 dL_law_19 rfl rfl ?_
    refine g_slen C X dL_law_20 ?_
    refine g_iconst C (5 : Int32) dL_law_21 (by decide) ?_
    refine g_isub C dL_law_22 ?_
    refine g_icmp_gt C 1001 dL_law_23 (by decide) (fun c_189 => ?_) (fun c_189 => ?_)
    · replace hw := hw.1 c_189
      refine g_iconst C (1 : Int32) dL_law_1001 (by decide) ?_
      exact g_lret C hr hlk hAq dL_law_1002
    · replace hw := hw.2 c_189
      refine g_aload_n C 0 dL_law_26 rfl rfl ?_
      refine g_iload_n C 3 dL_law_27 rfl rfl ?_
      refine g_sld C X hw.1 dL_law_28 ?_
      replace hw := hw.2
      refine g_bipush C (31 : Int32) dL_law_29 (by decide) ?_
      refine g_iand C dL_law_31 ?_
      rcases sw31 ((xs x3.toNatClampNeg) &&& (31 : Int32)) with c_1 | c_1 | c_1 | c_1 | c_1 | c_1 | c_1 | c_1 | c_1 | c_1 | c_1 | c_1 | c_1 | c_1 | c_1 | c_1 | c_1 | c_1 | c_1 | c_1 | c_1 | c_1 | c_1 | c_1 | c_1 | c_1 | c_1 | c_1 | c_1 | c_1 | c_1 | c_1
      · replace hw := hw.1 c_1
        refine g_tableIn C 172 dL_law_32 (by rw [c_1]; decide) (by rw [c_1]; decide) (by rw [c_1]; rfl) (by decide) ?_
        refine g_aload_n C 1 dL_law_172 rfl rfl ?_
        refine g_aload_n C 0 dL_law_173 rfl rfl ?_
        refine g_iload_n C 3 dL_law_174 rfl rfl ?_
        refine g_iconst C (1 : Int32) dL_law_175 (by decide) ?_
        refine g_iadd C dL_law_176 ?_
        refine g_sld C X hw.1 dL_law_177 ?_
        replace hw := hw.2
        refine g_callVi C (c_X4_append l G hO hwC hw) kX4_append tw_306 (Rv.of C (C.win (by decide) (by decide)) rfl (ci := 4) rfl) rfl rfl ⟨Nat.le_of_ble_eq_true rfl, Nat.le_of_ble_eq_true rfl⟩ (As := [.int (xs (x3 + (1 : Int32)).toNatClampNeg)]) (rest := []) rfl rfl (Nat.le_of_ble_eq_true rfl) dL_law_178 ⟨Nat.le_of_ble_eq_true rfl, Nat.le_of_ble_eq_true rfl⟩ (fun r_3 s_2 hw => ?_)
        refine g_aload_n C 2 dL_law_181 rfl rfl ?_
        refine g_aload_n C 0 dL_law_182 rfl rfl ?_
        refine g_iload_n C 3 dL_law_183 rfl rfl ?_
        refine g_iconst C (1 : Int32) dL_law_184 (by decide) ?_
        refine g_iadd C dL_law_185 ?_
        refine g_sld C X hw.1 dL_law_186 ?_
        replace hw := hw.2
        refine g_callVi C (c_X5_append l G hO hwM hw) kX5_append tw_657 (Rv.of C (C.win (by decide) (by decide)) rfl (ci := 5) rfl) rfl rfl ⟨Nat.le_of_ble_eq_true rfl, Nat.le_of_ble_eq_true rfl⟩ (As := [.int (xs (x3 + (1 : Int32)).toNatClampNeg)]) (rest := [.int r_3]) rfl rfl (Nat.le_of_ble_eq_true rfl) dL_law_187 ⟨Nat.le_of_ble_eq_true rfl, Nat.le_of_ble_eq_true rfl⟩ (fun r_5 s_4 hw => ?_)
        refine g_icmp_eq C 995 dL_law_190 (by decide) (fun c_7 => ?_) (fun c_7 => ?_)
        · replace hw := hw.1 c_7
          obtain ⟨x3_6, ex3_6⟩ : ∃ z : Int32, z = x3 + (5 : Int32) := ⟨_, rfl⟩
          replace hw := hw x3_6 ex3_6
          refine g_iinc C x3_6 3 dL_law_995 rfl ex3_6.symm (by decide) (lv' := [(3, .int x3_6), (0, .ref b), (1, .ref (gh G 0)), (2, .ref (gh G 17))]) rfl ?_
          refine g_goto C 18 dL_law_998 (by decide) ?_
          rw [hP18] at hw
          exact g_perm [1, 2, 3, 0] rfl (hw)
        · replace hw := hw.2 c_7
          refine g_iconst C (0 : Int32) dL_law_193 (by decide) ?_
          exact hw.elim
      · replace hw := hw.2.1 c_1
        refine g_tableIn C 195 dL_law_32 (by rw [c_1]; decide) (by rw [c_1]; decide) (by rw [c_1]; rfl) (by decide) ?_
        refine g_aload_n C 1 dL_law_195 rfl rfl ?_
        refine g_callVi C (c_X4_clearText l G hO hwC hw) kX4_clearText tw_314 (Rv.of C (C.win (by decide) (by decide)) rfl (ci := 4) rfl) rfl rfl ⟨Nat.le_of_ble_eq_true rfl, Nat.le_of_ble_eq_true rfl⟩ (As := []) (rest := []) rfl rfl (Nat.le_of_ble_eq_true rfl) dL_law_196 ⟨Nat.le_of_ble_eq_true rfl, Nat.le_of_ble_eq_true rfl⟩ (fun r_9 s_8 hw => ?_)
        refine g_aload_n C 2 dL_law_199 rfl rfl ?_
        refine g_callVi C (c_X5_clearText l G hO hwM hw) kX5_clearText tw_664 (Rv.of C (C.win (by decide) (by decide)) rfl (ci := 5) rfl) rfl rfl ⟨Nat.le_of_ble_eq_true rfl, Nat.le_of_ble_eq_true rfl⟩ (As := []) (rest := [.int r_9]) rfl rfl (Nat.le_of_ble_eq_true rfl) dL_law_200 ⟨Nat.le_of_ble_eq_true rfl, Nat.le_of_ble_eq_true rfl⟩ (fun r_11 s_10 hw => ?_)
        refine g_icmp_eq C 995 dL_law_203 (by decide) (fun c_13 => ?_) (fun c_13 => ?_)
        · replace hw := hw.1 c_13
          obtain ⟨x3_12, ex3_12⟩ : ∃ z : Int32, z = x3 + (5 : Int32) := ⟨_, rfl⟩
          replace hw := hw x3_12 ex3_12
          refine g_iinc C x3_12 3 dL_law_995 rfl ex3_12.symm (by decide) (lv' := [(3, .int x3_12), (0, .ref b), (1, .ref (gh G 0)), (2, .ref (gh G 17))]) rfl ?_
          refine g_goto C 18 dL_law_998 (by decide) ?_
          rw [hP18] at hw
          exact g_perm [1, 2, 3, 0] rfl (hw)
        · replace hw := hw.2 c_13
          refine g_iconst C (0 : Int32) dL_law_206 (by decide) ?_
          exact hw.elim
      · replace hw := hw.2.2.1 c_1
        refine g_tableIn C 208 dL_law_32 (by rw [c_1]; decide) (by rw [c_1]; decide) (by rw [c_1]; rfl) (by decide) ?_
        refine g_aload_n C 1 dL_law_208 rfl rfl ?_
        refine g_callVi C (c_X4_syntaxError l G hO hwC hw) kX4_syntaxError tw_318 (Rv.of C (C.win (by decide) (by decide)) rfl (ci := 4) rfl) rfl rfl ⟨Nat.le_of_ble_eq_true rfl, Nat.le_of_ble_eq_true rfl⟩ (As := []) (rest := []) rfl rfl (Nat.le_of_ble_eq_true rfl) dL_law_209 ⟨Nat.le_of_ble_eq_true rfl, Nat.le_of_ble_eq_true rfl⟩ (fun r_15 s_14 hw => ?_)
        refine g_aload_n C 2 dL_law_212 rfl rfl ?_
        refine g_callVi C (c_X5_syntaxError l G hO hwM hw) kX5_syntaxError tw_668 (Rv.of C (C.win (by decide) (by decide)) rfl (ci := 5) rfl) rfl rfl ⟨Nat.le_of_ble_eq_true rfl, Nat.le_of_ble_eq_true rfl⟩ (As := []) (rest := [.int r_15]) rfl rfl (Nat.le_of_ble_eq_true rfl) dL_law_213 ⟨Nat.le_of_ble_eq_true rfl, Nat.le_of_ble_eq_true rfl⟩ (fun r_17 s_16 hw => ?_)
        refine g_icmp_eq C 995 dL_law_216 (by decide) (fun c_19 => ?_) (fun c_19 => ?_)
        · replace hw := hw.1 c_19
          obtain ⟨x3_18, ex3_18⟩ : ∃ z : Int32, z = x3 + (5 : Int32) := ⟨_, rfl⟩
          replace hw := hw x3_18 ex3_18
          refine g_iinc C x3_18 3 dL_law_995 rfl ex3_18.symm (by decide) (lv' := [(3, .int x3_18), (0, .ref b), (1, .ref (gh G 0)), (2, .ref (gh G 17))]) rfl ?_
          refine g_goto C 18 dL_law_998 (by decide) ?_
          rw [hP18] at hw
          exact g_perm [1, 2, 3, 0] rfl (hw)
        · replace hw := hw.2 c_19
          refine g_iconst C (0 : Int32) dL_law_219 (by decide) ?_
          exact hw.elim
      · replace hw := hw.2.2.2.1 c_1
        refine g_tableIn C 221 dL_law_32 (by rw [c_1]; decide) (by rw [c_1]; decide) (by rw [c_1]; rfl) (by decide) ?_
        refine g_aload_n C 1 dL_law_221 rfl rfl ?_
        refine g_callVi C (c_X4_load l G hO hwC hw) kX4_load tw_322 (Rv.of C (C.win (by decide) (by decide)) rfl (ci := 4) rfl) rfl rfl ⟨Nat.le_of_ble_eq_true rfl, Nat.le_of_ble_eq_true rfl⟩ (As := []) (rest := []) rfl rfl (Nat.le_of_ble_eq_true rfl) dL_law_222 ⟨Nat.le_of_ble_eq_true rfl, Nat.le_of_ble_eq_true rfl⟩ (fun r_21 s_20 hw => ?_)
        refine g_aload_n C 2 dL_law_225 rfl rfl ?_
        refine g_callVi C (c_X5_load l G hO hwM hw) kX5_load tw_713 (Rv.of C (C.win (by decide) (by decide)) rfl (ci := 5) rfl) rfl rfl ⟨Nat.le_of_ble_eq_true rfl, Nat.le_of_ble_eq_true rfl⟩ (As := []) (rest := [.int r_21]) rfl rfl (Nat.le_of_ble_eq_true rfl) dL_law_226 ⟨Nat.le_of_ble_eq_true rfl, Nat.le_of_ble_eq_true rfl⟩ (fun r_23 s_22 hw => ?_)
        refine g_icmp_eq C 995 dL_law_229 (by decide) (fun c_25 => ?_) (fun c_25 => ?_)
        · replace hw := hw.1 c_25
          obtain ⟨x3_24, ex3_24⟩ : ∃ z : Int32, z = x3 + (5 : Int32) := ⟨_, rfl⟩
          replace hw := hw x3_24 ex3_24
          refine g_iinc C x3_24 3 dL_law_995 rfl ex3_24.symm (by decide) (lv' := [(3, .int x3_24), (0, .ref b), (1, .ref (gh G 0)), (2, .ref (gh G 17))]) rfl ?_
          refine g_goto C 18 dL_law_998 (by decide) ?_
          rw [hP18] at hw
          exact g_perm [1, 2, 3, 0] rfl (hw)
        · replace hw := hw.2 c_25
          refine g_iconst C (0 : Int32) dL_law_232 (by decide) ?_
          exact hw.elim
      · replace hw := hw.2.2.2.2.1 c_1
        refine g_tableIn C 234 dL_law_32 (by rw [c_1]; decide) (by rw [c_1]; decide) (by rw [c_1]; rfl) (by decide) ?_
        refine g_aload_n C 1 dL_law_234 rfl rfl ?_
        refine g_aload_n C 0 dL_law_235 rfl rfl ?_
        refine g_iload_n C 3 dL_law_236 rfl rfl ?_
        refine g_iconst C (1 : Int32) dL_law_237 (by decide) ?_
        refine g_iadd C dL_law_238 ?_
        refine g_sld C X hw.1 dL_law_239 ?_
        replace hw := hw.2
        refine g_aload_n C 0 dL_law_240 rfl rfl ?_
        refine g_iload_n C 3 dL_law_241 rfl rfl ?_
        refine g_iconst C (2 : Int32) dL_law_242 (by decide) ?_
        refine g_iadd C dL_law_243 ?_
        refine g_sld C X hw.1 dL_law_244 ?_
        replace hw := hw.2
        refine g_aload_n C 0 dL_law_245 rfl rfl ?_
        refine g_iload_n C 3 dL_law_246 rfl rfl ?_
        refine g_iconst C (3 : Int32) dL_law_247 (by decide) ?_
        refine g_iadd C dL_law_248 ?_
        refine g_sld C X hw.1 dL_law_249 ?_
        replace hw := hw.2
        refine g_callVi C (c_X4_addRule l G hO hwC hw) kX4_addRule tw_331 (Rv.of C (C.win (by decide) (by decide)) rfl (ci := 4) rfl) rfl rfl ⟨Nat.le_of_ble_eq_true rfl, Nat.le_of_ble_eq_true rfl⟩ (As := [.int (xs (x3 + (1 : Int32)).toNatClampNeg), .int (xs (x3 + (2 : Int32)).toNatClampNeg), .int (xs (x3 + (3 : Int32)).toNatClampNeg)]) (rest := []) rfl rfl (Nat.le_of_ble_eq_true rfl) dL_law_250 ⟨Nat.le_of_ble_eq_true rfl, Nat.le_of_ble_eq_true rfl⟩ (fun r_27 s_26 hw => ?_)
        refine g_aload_n C 2 dL_law_253 rfl rfl ?_
        refine g_aload_n C 0 dL_law_254 rfl rfl ?_
        refine g_iload_n C 3 dL_law_255 rfl rfl ?_
        refine g_iconst C (1 : Int32) dL_law_256 (by decide) ?_
        refine g_iadd C dL_law_257 ?_
        refine g_sld C X hw.1 dL_law_258 ?_
        replace hw := hw.2
        refine g_aload_n C 0 dL_law_259 rfl rfl ?_
        refine g_iload_n C 3 dL_law_260 rfl rfl ?_
        refine g_iconst C (2 : Int32) dL_law_261 (by decide) ?_
        refine g_iadd C dL_law_262 ?_
        refine g_sld C X hw.1 dL_law_263 ?_
        replace hw := hw.2
        refine g_aload_n C 0 dL_law_264 rfl rfl ?_
        refine g_iload_n C 3 dL_law_265 rfl rfl ?_
        refine g_iconst C (3 : Int32) dL_law_266 (by decide) ?_
        refine g_iadd C dL_law_267 ?_
        refine g_sld C X hw.1 dL_law_268 ?_
        replace hw := hw.2
        refine g_callVi C (c_X5_addRule l G hO hwM hw) kX5_addRule tw_722 (Rv.of C (C.win (by decide) (by decide)) rfl (ci := 5) rfl) rfl rfl ⟨Nat.le_of_ble_eq_true rfl, Nat.le_of_ble_eq_true rfl⟩ (As := [.int (xs (x3 + (1 : Int32)).toNatClampNeg), .int (xs (x3 + (2 : Int32)).toNatClampNeg), .int (xs (x3 + (3 : Int32)).toNatClampNeg)]) (rest := [.int r_27]) rfl rfl (Nat.le_of_ble_eq_true rfl) dL_law_269 ⟨Nat.le_of_ble_eq_true rfl, Nat.le_of_ble_eq_true rfl⟩ (fun r_29 s_28 hw => ?_)
        refine g_icmp_eq C 995 dL_law_272 (by decide) (fun c_31 => ?_) (fun c_31 => ?_)
        · replace hw := hw.1 c_31
          obtain ⟨x3_30, ex3_30⟩ : ∃ z : Int32, z = x3 + (5 : Int32) := ⟨_, rfl⟩
          replace hw := hw x3_30 ex3_30
          refine g_iinc C x3_30 3 dL_law_995 rfl ex3_30.symm (by decide) (lv' := [(3, .int x3_30), (0, .ref b), (1, .ref (gh G 0)), (2, .ref (gh G 17))]) rfl ?_
          refine g_goto C 18 dL_law_998 (by decide) ?_
          rw [hP18] at hw
          exact g_perm [1, 2, 3, 0] rfl (hw)
        · replace hw := hw.2 c_31
          refine g_iconst C (0 : Int32) dL_law_275 (by decide) ?_
          exact hw.elim
      · replace hw := hw.2.2.2.2.2.1 c_1
        refine g_tableIn C 277 dL_law_32 (by rw [c_1]; decide) (by rw [c_1]; decide) (by rw [c_1]; rfl) (by decide) ?_
        refine g_aload_n C 1 dL_law_277 rfl rfl ?_
        refine g_aload_n C 0 dL_law_278 rfl rfl ?_
        refine g_iload_n C 3 dL_law_279 rfl rfl ?_
        refine g_iconst C (1 : Int32) dL_law_280 (by decide) ?_
        refine g_iadd C dL_law_281 ?_
        refine g_sld C X hw.1 dL_law_282 ?_
        replace hw := hw.2
        refine g_aload_n C 0 dL_law_283 rfl rfl ?_
        refine g_iload_n C 3 dL_law_284 rfl rfl ?_
        refine g_iconst C (2 : Int32) dL_law_285 (by decide) ?_
        refine g_iadd C dL_law_286 ?_
        refine g_sld C X hw.1 dL_law_287 ?_
        replace hw := hw.2
        refine g_callVi C (c_X4_removeRule l G hO hwC hw) kX4_removeRule tw_359 (Rv.of C (C.win (by decide) (by decide)) rfl (ci := 4) rfl) rfl rfl ⟨Nat.le_of_ble_eq_true rfl, Nat.le_of_ble_eq_true rfl⟩ (As := [.int (xs (x3 + (1 : Int32)).toNatClampNeg), .int (xs (x3 + (2 : Int32)).toNatClampNeg)]) (rest := []) rfl rfl (Nat.le_of_ble_eq_true rfl) dL_law_288 ⟨Nat.le_of_ble_eq_true rfl, Nat.le_of_ble_eq_true rfl⟩ (fun r_33 s_32 hw => ?_)
        refine g_aload_n C 2 dL_law_291 rfl rfl ?_
        refine g_aload_n C 0 dL_law_292 rfl rfl ?_
        refine g_iload_n C 3 dL_law_293 rfl rfl ?_
        refine g_iconst C (1 : Int32) dL_law_294 (by decide) ?_
        refine g_iadd C dL_law_295 ?_
        refine g_sld C X hw.1 dL_law_296 ?_
        replace hw := hw.2
        refine g_aload_n C 0 dL_law_297 rfl rfl ?_
        refine g_iload_n C 3 dL_law_298 rfl rfl ?_
        refine g_iconst C (2 : Int32) dL_law_299 (by decide) ?_
        refine g_iadd C dL_law_300 ?_
        refine g_sld C X hw.1 dL_law_301 ?_
        replace hw := hw.2
        refine g_callVi C (c_X5_removeRule l G hO hwM hw) kX5_removeRule tw_737 (Rv.of C (C.win (by decide) (by decide)) rfl (ci := 5) rfl) rfl rfl ⟨Nat.le_of_ble_eq_true rfl, Nat.le_of_ble_eq_true rfl⟩ (As := [.int (xs (x3 + (1 : Int32)).toNatClampNeg), .int (xs (x3 + (2 : Int32)).toNatClampNeg)]) (rest := [.int r_33]) rfl rfl (Nat.le_of_ble_eq_true rfl) dL_law_302 ⟨Nat.le_of_ble_eq_true rfl, Nat.le_of_ble_eq_true rfl⟩ (fun r_35 s_34 hw => ?_)
        refine g_icmp_eq C 995 dL_law_305 (by decide) (fun c_37 => ?_) (fun c_37 => ?_)
        · replace hw := hw.1 c_37
          obtain ⟨x3_36, ex3_36⟩ : ∃ z : Int32, z = x3 + (5 : Int32) := ⟨_, rfl⟩
          replace hw := hw x3_36 ex3_36
          refine g_iinc C x3_36 3 dL_law_995 rfl ex3_36.symm (by decide) (lv' := [(3, .int x3_36), (0, .ref b), (1, .ref (gh G 0)), (2, .ref (gh G 17))]) rfl ?_
          refine g_goto C 18 dL_law_998 (by decide) ?_
          rw [hP18] at hw
          exact g_perm [1, 2, 3, 0] rfl (hw)
        · replace hw := hw.2 c_37
          refine g_iconst C (0 : Int32) dL_law_308 (by decide) ?_
          exact hw.elim
      · replace hw := hw.2.2.2.2.2.2.1 c_1
        refine g_tableIn C 310 dL_law_32 (by rw [c_1]; decide) (by rw [c_1]; decide) (by rw [c_1]; rfl) (by decide) ?_
        refine g_aload_n C 1 dL_law_310 rfl rfl ?_
        refine g_aload_n C 0 dL_law_311 rfl rfl ?_
        refine g_iload_n C 3 dL_law_312 rfl rfl ?_
        refine g_iconst C (1 : Int32) dL_law_313 (by decide) ?_
        refine g_iadd C dL_law_314 ?_
        refine g_sld C X hw.1 dL_law_315 ?_
        replace hw := hw.2
        refine g_aload_n C 0 dL_law_316 rfl rfl ?_
        refine g_iload_n C 3 dL_law_317 rfl rfl ?_
        refine g_iconst C (2 : Int32) dL_law_318 (by decide) ?_
        refine g_iadd C dL_law_319 ?_
        refine g_sld C X hw.1 dL_law_320 ?_
        replace hw := hw.2
        refine g_aload_n C 0 dL_law_321 rfl rfl ?_
        refine g_iload_n C 3 dL_law_322 rfl rfl ?_
        refine g_iconst C (3 : Int32) dL_law_323 (by decide) ?_
        refine g_iadd C dL_law_324 ?_
        refine g_sld C X hw.1 dL_law_325 ?_
        replace hw := hw.2
        refine g_callVi C (c_X4_moveRule l G hO hwC hw) kX4_moveRule tw_374 (Rv.of C (C.win (by decide) (by decide)) rfl (ci := 4) rfl) rfl rfl ⟨Nat.le_of_ble_eq_true rfl, Nat.le_of_ble_eq_true rfl⟩ (As := [.int (xs (x3 + (1 : Int32)).toNatClampNeg), .int (xs (x3 + (2 : Int32)).toNatClampNeg), .int (xs (x3 + (3 : Int32)).toNatClampNeg)]) (rest := []) rfl rfl (Nat.le_of_ble_eq_true rfl) dL_law_326 ⟨Nat.le_of_ble_eq_true rfl, Nat.le_of_ble_eq_true rfl⟩ (fun r_39 s_38 hw => ?_)
        refine g_aload_n C 2 dL_law_329 rfl rfl ?_
        refine g_aload_n C 0 dL_law_330 rfl rfl ?_
        refine g_iload_n C 3 dL_law_331 rfl rfl ?_
        refine g_iconst C (1 : Int32) dL_law_332 (by decide) ?_
        refine g_iadd C dL_law_333 ?_
        refine g_sld C X hw.1 dL_law_334 ?_
        replace hw := hw.2
        refine g_aload_n C 0 dL_law_335 rfl rfl ?_
        refine g_iload_n C 3 dL_law_336 rfl rfl ?_
        refine g_iconst C (2 : Int32) dL_law_337 (by decide) ?_
        refine g_iadd C dL_law_338 ?_
        refine g_sld C X hw.1 dL_law_339 ?_
        replace hw := hw.2
        refine g_aload_n C 0 dL_law_340 rfl rfl ?_
        refine g_iload_n C 3 dL_law_341 rfl rfl ?_
        refine g_iconst C (3 : Int32) dL_law_342 (by decide) ?_
        refine g_iadd C dL_law_343 ?_
        refine g_sld C X hw.1 dL_law_344 ?_
        replace hw := hw.2
        refine g_callVi C (c_X5_moveRule l G hO hwM hw) kX5_moveRule tw_749 (Rv.of C (C.win (by decide) (by decide)) rfl (ci := 5) rfl) rfl rfl ⟨Nat.le_of_ble_eq_true rfl, Nat.le_of_ble_eq_true rfl⟩ (As := [.int (xs (x3 + (1 : Int32)).toNatClampNeg), .int (xs (x3 + (2 : Int32)).toNatClampNeg), .int (xs (x3 + (3 : Int32)).toNatClampNeg)]) (rest := [.int r_39]) rfl rfl (Nat.le_of_ble_eq_true rfl) dL_law_345 ⟨Nat.le_of_ble_eq_true rfl, Nat.le_of_ble_eq_true rfl⟩ (fun r_41 s_40 hw => ?_)
        refine g_icmp_eq C 995 dL_law_348 (by decide) (fun c_43 => ?_) (fun c_43 => ?_)
        · replace hw := hw.1 c_43
          obtain ⟨x3_42, ex3_42⟩ : ∃ z : Int32, z = x3 + (5 : Int32) := ⟨_, rfl⟩
          replace hw := hw x3_42 ex3_42
          refine g_iinc C x3_42 3 dL_law_995 rfl ex3_42.symm (by decide) (lv' := [(3, .int x3_42), (0, .ref b), (1, .ref (gh G 0)), (2, .ref (gh G 17))]) rfl ?_
          refine g_goto C 18 dL_law_998 (by decide) ?_
          rw [hP18] at hw
          exact g_perm [1, 2, 3, 0] rfl (hw)
        · replace hw := hw.2 c_43
          refine g_iconst C (0 : Int32) dL_law_351 (by decide) ?_
          exact hw.elim
      · replace hw := hw.2.2.2.2.2.2.2.1 c_1
        refine g_tableIn C 353 dL_law_32 (by rw [c_1]; decide) (by rw [c_1]; decide) (by rw [c_1]; rfl) (by decide) ?_
        refine g_aload_n C 1 dL_law_353 rfl rfl ?_
        refine g_aload_n C 0 dL_law_354 rfl rfl ?_
        refine g_iload_n C 3 dL_law_355 rfl rfl ?_
        refine g_iconst C (1 : Int32) dL_law_356 (by decide) ?_
        refine g_iadd C dL_law_357 ?_
        refine g_sld C X hw.1 dL_law_358 ?_
        replace hw := hw.2
        refine g_aload_n C 0 dL_law_359 rfl rfl ?_
        refine g_iload_n C 3 dL_law_360 rfl rfl ?_
        refine g_iconst C (2 : Int32) dL_law_361 (by decide) ?_
        refine g_iadd C dL_law_362 ?_
        refine g_sld C X hw.1 dL_law_363 ?_
        replace hw := hw.2
        refine g_callVi C (c_X4_setAlgorithm l G hO hwC hw) kX4_setAlgorithm tw_386 (Rv.of C (C.win (by decide) (by decide)) rfl (ci := 4) rfl) rfl rfl ⟨Nat.le_of_ble_eq_true rfl, Nat.le_of_ble_eq_true rfl⟩ (As := [.int (xs (x3 + (1 : Int32)).toNatClampNeg), .int (xs (x3 + (2 : Int32)).toNatClampNeg)]) (rest := []) rfl rfl (Nat.le_of_ble_eq_true rfl) dL_law_364 ⟨Nat.le_of_ble_eq_true rfl, Nat.le_of_ble_eq_true rfl⟩ (fun r_45 s_44 hw => ?_)
        refine g_aload_n C 2 dL_law_367 rfl rfl ?_
        refine g_aload_n C 0 dL_law_368 rfl rfl ?_
        refine g_iload_n C 3 dL_law_369 rfl rfl ?_
        refine g_iconst C (1 : Int32) dL_law_370 (by decide) ?_
        refine g_iadd C dL_law_371 ?_
        refine g_sld C X hw.1 dL_law_372 ?_
        replace hw := hw.2
        refine g_aload_n C 0 dL_law_373 rfl rfl ?_
        refine g_iload_n C 3 dL_law_374 rfl rfl ?_
        refine g_iconst C (2 : Int32) dL_law_375 (by decide) ?_
        refine g_iadd C dL_law_376 ?_
        refine g_sld C X hw.1 dL_law_377 ?_
        replace hw := hw.2
        refine g_callVi C (c_X5_setAlgorithm l G hO hwM hw) kX5_setAlgorithm tw_753 (Rv.of C (C.win (by decide) (by decide)) rfl (ci := 5) rfl) rfl rfl ⟨Nat.le_of_ble_eq_true rfl, Nat.le_of_ble_eq_true rfl⟩ (As := [.int (xs (x3 + (1 : Int32)).toNatClampNeg), .int (xs (x3 + (2 : Int32)).toNatClampNeg)]) (rest := [.int r_45]) rfl rfl (Nat.le_of_ble_eq_true rfl) dL_law_378 ⟨Nat.le_of_ble_eq_true rfl, Nat.le_of_ble_eq_true rfl⟩ (fun r_47 s_46 hw => ?_)
        refine g_icmp_eq C 995 dL_law_381 (by decide) (fun c_49 => ?_) (fun c_49 => ?_)
        · replace hw := hw.1 c_49
          obtain ⟨x3_48, ex3_48⟩ : ∃ z : Int32, z = x3 + (5 : Int32) := ⟨_, rfl⟩
          replace hw := hw x3_48 ex3_48
          refine g_iinc C x3_48 3 dL_law_995 rfl ex3_48.symm (by decide) (lv' := [(3, .int x3_48), (0, .ref b), (1, .ref (gh G 0)), (2, .ref (gh G 17))]) rfl ?_
          refine g_goto C 18 dL_law_998 (by decide) ?_
          rw [hP18] at hw
          exact g_perm [1, 2, 3, 0] rfl (hw)
        · replace hw := hw.2 c_49
          refine g_iconst C (0 : Int32) dL_law_384 (by decide) ?_
          exact hw.elim
      · replace hw := hw.2.2.2.2.2.2.2.2.1 c_1
        refine g_tableIn C 386 dL_law_32 (by rw [c_1]; decide) (by rw [c_1]; decide) (by rw [c_1]; rfl) (by decide) ?_
        refine g_aload_n C 1 dL_law_386 rfl rfl ?_
        refine g_aload_n C 0 dL_law_387 rfl rfl ?_
        refine g_iload_n C 3 dL_law_388 rfl rfl ?_
        refine g_iconst C (1 : Int32) dL_law_389 (by decide) ?_
        refine g_iadd C dL_law_390 ?_
        refine g_sld C X hw.1 dL_law_391 ?_
        replace hw := hw.2
        refine g_aload_n C 0 dL_law_392 rfl rfl ?_
        refine g_iload_n C 3 dL_law_393 rfl rfl ?_
        refine g_iconst C (2 : Int32) dL_law_394 (by decide) ?_
        refine g_iadd C dL_law_395 ?_
        refine g_sld C X hw.1 dL_law_396 ?_
        replace hw := hw.2
        refine g_aload_n C 0 dL_law_397 rfl rfl ?_
        refine g_iload_n C 3 dL_law_398 rfl rfl ?_
        refine g_iconst C (3 : Int32) dL_law_399 (by decide) ?_
        refine g_iadd C dL_law_400 ?_
        refine g_sld C X hw.1 dL_law_401 ?_
        replace hw := hw.2
        refine g_aload_n C 0 dL_law_402 rfl rfl ?_
        refine g_iload_n C 3 dL_law_403 rfl rfl ?_
        refine g_iconst C (4 : Int32) dL_law_404 (by decide) ?_
        refine g_iadd C dL_law_405 ?_
        refine g_sld C X hw.1 dL_law_406 ?_
        replace hw := hw.2
        refine g_callVi C (c_X4_setTarget l G hO hwC hw) kX4_setTarget tw_395 (Rv.of C (C.win (by decide) (by decide)) rfl (ci := 4) rfl) rfl rfl ⟨Nat.le_of_ble_eq_true rfl, Nat.le_of_ble_eq_true rfl⟩ (As := [.int (xs (x3 + (1 : Int32)).toNatClampNeg), .int (xs (x3 + (2 : Int32)).toNatClampNeg), .int (xs (x3 + (3 : Int32)).toNatClampNeg), .int (xs (x3 + (4 : Int32)).toNatClampNeg)]) (rest := []) rfl rfl (Nat.le_of_ble_eq_true rfl) dL_law_407 ⟨Nat.le_of_ble_eq_true rfl, Nat.le_of_ble_eq_true rfl⟩ (fun r_51 s_50 hw => ?_)
        refine g_aload_n C 2 dL_law_410 rfl rfl ?_
        refine g_aload_n C 0 dL_law_411 rfl rfl ?_
        refine g_iload_n C 3 dL_law_412 rfl rfl ?_
        refine g_iconst C (1 : Int32) dL_law_413 (by decide) ?_
        refine g_iadd C dL_law_414 ?_
        refine g_sld C X hw.1 dL_law_415 ?_
        replace hw := hw.2
        refine g_aload_n C 0 dL_law_416 rfl rfl ?_
        refine g_iload_n C 3 dL_law_417 rfl rfl ?_
        refine g_iconst C (2 : Int32) dL_law_418 (by decide) ?_
        refine g_iadd C dL_law_419 ?_
        refine g_sld C X hw.1 dL_law_420 ?_
        replace hw := hw.2
        refine g_aload_n C 0 dL_law_421 rfl rfl ?_
        refine g_iload_n C 3 dL_law_422 rfl rfl ?_
        refine g_iconst C (3 : Int32) dL_law_423 (by decide) ?_
        refine g_iadd C dL_law_424 ?_
        refine g_sld C X hw.1 dL_law_425 ?_
        replace hw := hw.2
        refine g_aload_n C 0 dL_law_426 rfl rfl ?_
        refine g_iload_n C 3 dL_law_427 rfl rfl ?_
        refine g_iconst C (4 : Int32) dL_law_428 (by decide) ?_
        refine g_iadd C dL_law_429 ?_
        refine g_sld C X hw.1 dL_law_430 ?_
        replace hw := hw.2
        refine g_callVi C (c_X5_setTarget l G hO hwM hw) kX5_setTarget tw_757 (Rv.of C (C.win (by decide) (by decide)) rfl (ci := 5) rfl) rfl rfl ⟨Nat.le_of_ble_eq_true rfl, Nat.le_of_ble_eq_true rfl⟩ (As := [.int (xs (x3 + (1 : Int32)).toNatClampNeg), .int (xs (x3 + (2 : Int32)).toNatClampNeg), .int (xs (x3 + (3 : Int32)).toNatClampNeg), .int (xs (x3 + (4 : Int32)).toNatClampNeg)]) (rest := [.int r_51]) rfl rfl (Nat.le_of_ble_eq_true rfl) dL_law_431 ⟨Nat.le_of_ble_eq_true rfl, Nat.le_of_ble_eq_true rfl⟩ (fun r_53 s_52 hw => ?_)
        refine g_icmp_eq C 995 dL_law_434 (by decide) (fun c_55 => ?_) (fun c_55 => ?_)
        · replace hw := hw.1 c_55
          obtain ⟨x3_54, ex3_54⟩ : ∃ z : Int32, z = x3 + (5 : Int32) := ⟨_, rfl⟩
          replace hw := hw x3_54 ex3_54
          refine g_iinc C x3_54 3 dL_law_995 rfl ex3_54.symm (by decide) (lv' := [(3, .int x3_54), (0, .ref b), (1, .ref (gh G 0)), (2, .ref (gh G 17))]) rfl ?_
          refine g_goto C 18 dL_law_998 (by decide) ?_
          rw [hP18] at hw
          exact g_perm [1, 2, 3, 0] rfl (hw)
        · replace hw := hw.2 c_55
          refine g_iconst C (0 : Int32) dL_law_437 (by decide) ?_
          exact hw.elim
      · replace hw := hw.2.2.2.2.2.2.2.2.2.1 c_1
        refine g_tableIn C 439 dL_law_32 (by rw [c_1]; decide) (by rw [c_1]; decide) (by rw [c_1]; rfl) (by decide) ?_
        refine g_aload_n C 1 dL_law_439 rfl rfl ?_
        refine g_aload_n C 0 dL_law_440 rfl rfl ?_
        refine g_iload_n C 3 dL_law_441 rfl rfl ?_
        refine g_iconst C (1 : Int32) dL_law_442 (by decide) ?_
        refine g_iadd C dL_law_443 ?_
        refine g_sld C X hw.1 dL_law_444 ?_
        replace hw := hw.2
        refine g_aload_n C 0 dL_law_445 rfl rfl ?_
        refine g_iload_n C 3 dL_law_446 rfl rfl ?_
        refine g_iconst C (2 : Int32) dL_law_447 (by decide) ?_
        refine g_iadd C dL_law_448 ?_
        refine g_sld C X hw.1 dL_law_449 ?_
        replace hw := hw.2
        refine g_callVi C (c_X4_flipEffect l G hO hwC hw) kX4_flipEffect tw_411 (Rv.of C (C.win (by decide) (by decide)) rfl (ci := 4) rfl) rfl rfl ⟨Nat.le_of_ble_eq_true rfl, Nat.le_of_ble_eq_true rfl⟩ (As := [.int (xs (x3 + (1 : Int32)).toNatClampNeg), .int (xs (x3 + (2 : Int32)).toNatClampNeg)]) (rest := []) rfl rfl (Nat.le_of_ble_eq_true rfl) dL_law_450 ⟨Nat.le_of_ble_eq_true rfl, Nat.le_of_ble_eq_true rfl⟩ (fun r_57 s_56 hw => ?_)
        refine g_aload_n C 2 dL_law_453 rfl rfl ?_
        refine g_aload_n C 0 dL_law_454 rfl rfl ?_
        refine g_iload_n C 3 dL_law_455 rfl rfl ?_
        refine g_iconst C (1 : Int32) dL_law_456 (by decide) ?_
        refine g_iadd C dL_law_457 ?_
        refine g_sld C X hw.1 dL_law_458 ?_
        replace hw := hw.2
        refine g_aload_n C 0 dL_law_459 rfl rfl ?_
        refine g_iload_n C 3 dL_law_460 rfl rfl ?_
        refine g_iconst C (2 : Int32) dL_law_461 (by decide) ?_
        refine g_iadd C dL_law_462 ?_
        refine g_sld C X hw.1 dL_law_463 ?_
        replace hw := hw.2
        refine g_callVi C (c_X5_flipEffect l G hO hwM hw) kX5_flipEffect tw_761 (Rv.of C (C.win (by decide) (by decide)) rfl (ci := 5) rfl) rfl rfl ⟨Nat.le_of_ble_eq_true rfl, Nat.le_of_ble_eq_true rfl⟩ (As := [.int (xs (x3 + (1 : Int32)).toNatClampNeg), .int (xs (x3 + (2 : Int32)).toNatClampNeg)]) (rest := [.int r_57]) rfl rfl (Nat.le_of_ble_eq_true rfl) dL_law_464 ⟨Nat.le_of_ble_eq_true rfl, Nat.le_of_ble_eq_true rfl⟩ (fun r_59 s_58 hw => ?_)
        refine g_icmp_eq C 995 dL_law_467 (by decide) (fun c_61 => ?_) (fun c_61 => ?_)
        · replace hw := hw.1 c_61
          obtain ⟨x3_60, ex3_60⟩ : ∃ z : Int32, z = x3 + (5 : Int32) := ⟨_, rfl⟩
          replace hw := hw x3_60 ex3_60
          refine g_iinc C x3_60 3 dL_law_995 rfl ex3_60.symm (by decide) (lv' := [(3, .int x3_60), (0, .ref b), (1, .ref (gh G 0)), (2, .ref (gh G 17))]) rfl ?_
          refine g_goto C 18 dL_law_998 (by decide) ?_
          rw [hP18] at hw
          exact g_perm [1, 2, 3, 0] rfl (hw)
        · replace hw := hw.2 c_61
          refine g_iconst C (0 : Int32) dL_law_470 (by decide) ?_
          exact hw.elim
      · replace hw := hw.2.2.2.2.2.2.2.2.2.2.1 c_1
        refine g_tableIn C 472 dL_law_32 (by rw [c_1]; decide) (by rw [c_1]; decide) (by rw [c_1]; rfl) (by decide) ?_
        refine g_aload_n C 1 dL_law_472 rfl rfl ?_
        refine g_callVi C (c_X4_copyOldToNew l G hO hwC hw) kX4_copyOldToNew tw_419 (Rv.of C (C.win (by decide) (by decide)) rfl (ci := 4) rfl) rfl rfl ⟨Nat.le_of_ble_eq_true rfl, Nat.le_of_ble_eq_true rfl⟩ (As := []) (rest := []) rfl rfl (Nat.le_of_ble_eq_true rfl) dL_law_473 ⟨Nat.le_of_ble_eq_true rfl, Nat.le_of_ble_eq_true rfl⟩ (fun r_63 s_62 hw => ?_)
        refine g_aload_n C 2 dL_law_476 rfl rfl ?_
        refine g_callVi C (c_X5_copyOldToNew l G hO hwM hw) kX5_copyOldToNew tw_765 (Rv.of C (C.win (by decide) (by decide)) rfl (ci := 5) rfl) rfl rfl ⟨Nat.le_of_ble_eq_true rfl, Nat.le_of_ble_eq_true rfl⟩ (As := []) (rest := [.int r_63]) rfl rfl (Nat.le_of_ble_eq_true rfl) dL_law_477 ⟨Nat.le_of_ble_eq_true rfl, Nat.le_of_ble_eq_true rfl⟩ (fun r_65 s_64 hw => ?_)
        refine g_icmp_eq C 995 dL_law_480 (by decide) (fun c_67 => ?_) (fun c_67 => ?_)
        · replace hw := hw.1 c_67
          obtain ⟨x3_66, ex3_66⟩ : ∃ z : Int32, z = x3 + (5 : Int32) := ⟨_, rfl⟩
          replace hw := hw x3_66 ex3_66
          refine g_iinc C x3_66 3 dL_law_995 rfl ex3_66.symm (by decide) (lv' := [(3, .int x3_66), (0, .ref b), (1, .ref (gh G 0)), (2, .ref (gh G 17))]) rfl ?_
          refine g_goto C 18 dL_law_998 (by decide) ?_
          rw [hP18] at hw
          exact g_perm [1, 2, 3, 0] rfl (hw)
        · replace hw := hw.2 c_67
          refine g_iconst C (0 : Int32) dL_law_483 (by decide) ?_
          exact hw.elim
      · replace hw := hw.2.2.2.2.2.2.2.2.2.2.2.1 c_1
        refine g_tableIn C 485 dL_law_32 (by rw [c_1]; decide) (by rw [c_1]; decide) (by rw [c_1]; rfl) (by decide) ?_
        refine g_aload_n C 1 dL_law_485 rfl rfl ?_
        refine g_callVi C (c_X4_undo l G hO hwC hw) kX4_undo tw_423 (Rv.of C (C.win (by decide) (by decide)) rfl (ci := 4) rfl) rfl rfl ⟨Nat.le_of_ble_eq_true rfl, Nat.le_of_ble_eq_true rfl⟩ (As := []) (rest := []) rfl rfl (Nat.le_of_ble_eq_true rfl) dL_law_486 ⟨Nat.le_of_ble_eq_true rfl, Nat.le_of_ble_eq_true rfl⟩ (fun r_69 s_68 hw => ?_)
        refine g_aload_n C 2 dL_law_489 rfl rfl ?_
        refine g_callVi C (c_X5_undo l G hO hwM hw) kX5_undo tw_718 (Rv.of C (C.win (by decide) (by decide)) rfl (ci := 5) rfl) rfl rfl ⟨Nat.le_of_ble_eq_true rfl, Nat.le_of_ble_eq_true rfl⟩ (As := []) (rest := [.int r_69]) rfl rfl (Nat.le_of_ble_eq_true rfl) dL_law_490 ⟨Nat.le_of_ble_eq_true rfl, Nat.le_of_ble_eq_true rfl⟩ (fun r_71 s_70 hw => ?_)
        refine g_icmp_eq C 995 dL_law_493 (by decide) (fun c_73 => ?_) (fun c_73 => ?_)
        · replace hw := hw.1 c_73
          obtain ⟨x3_72, ex3_72⟩ : ∃ z : Int32, z = x3 + (5 : Int32) := ⟨_, rfl⟩
          replace hw := hw x3_72 ex3_72
          refine g_iinc C x3_72 3 dL_law_995 rfl ex3_72.symm (by decide) (lv' := [(3, .int x3_72), (0, .ref b), (1, .ref (gh G 0)), (2, .ref (gh G 17))]) rfl ?_
          refine g_goto C 18 dL_law_998 (by decide) ?_
          rw [hP18] at hw
          exact g_perm [1, 2, 3, 0] rfl (hw)
        · replace hw := hw.2 c_73
          refine g_iconst C (0 : Int32) dL_law_496 (by decide) ?_
          exact hw.elim
      · replace hw := hw.2.2.2.2.2.2.2.2.2.2.2.2.1 c_1
        refine g_tableIn C 498 dL_law_32 (by rw [c_1]; decide) (by rw [c_1]; decide) (by rw [c_1]; rfl) (by decide) ?_
        refine g_aload_n C 1 dL_law_498 rfl rfl ?_
        refine g_aload_n C 0 dL_law_499 rfl rfl ?_
        refine g_iload_n C 3 dL_law_500 rfl rfl ?_
        refine g_iconst C (1 : Int32) dL_law_501 (by decide) ?_
        refine g_iadd C dL_law_502 ?_
        refine g_sld C X hw.1 dL_law_503 ?_
        replace hw := hw.2
        refine g_callVi C (c_X4_ruleCount l G hO hwC hw) kX4_ruleCount tw_443 (Rv.of C (C.win (by decide) (by decide)) rfl (ci := 4) rfl) rfl rfl ⟨Nat.le_of_ble_eq_true rfl, Nat.le_of_ble_eq_true rfl⟩ (As := [.int (xs (x3 + (1 : Int32)).toNatClampNeg)]) (rest := []) rfl rfl (Nat.le_of_ble_eq_true rfl) dL_law_504 ⟨Nat.le_of_ble_eq_true rfl, Nat.le_of_ble_eq_true rfl⟩ (fun r_75 s_74 hw => ?_)
        refine g_aload_n C 2 dL_law_507 rfl rfl ?_
        refine g_aload_n C 0 dL_law_508 rfl rfl ?_
        refine g_iload_n C 3 dL_law_509 rfl rfl ?_
        refine g_iconst C (1 : Int32) dL_law_510 (by decide) ?_
        refine g_iadd C dL_law_511 ?_
        refine g_sld C X hw.1 dL_law_512 ?_
        replace hw := hw.2
        refine g_callVi C (c_X5_ruleCount l G hO hwM hw) kX5_ruleCount tw_769 (Rv.of C (C.win (by decide) (by decide)) rfl (ci := 5) rfl) rfl rfl ⟨Nat.le_of_ble_eq_true rfl, Nat.le_of_ble_eq_true rfl⟩ (As := [.int (xs (x3 + (1 : Int32)).toNatClampNeg)]) (rest := [.int r_75]) rfl rfl (Nat.le_of_ble_eq_true rfl) dL_law_513 ⟨Nat.le_of_ble_eq_true rfl, Nat.le_of_ble_eq_true rfl⟩ (fun r_77 s_76 hw => ?_)
        refine g_icmp_eq C 995 dL_law_516 (by decide) (fun c_79 => ?_) (fun c_79 => ?_)
        · replace hw := hw.1 c_79
          obtain ⟨x3_78, ex3_78⟩ : ∃ z : Int32, z = x3 + (5 : Int32) := ⟨_, rfl⟩
          replace hw := hw x3_78 ex3_78
          refine g_iinc C x3_78 3 dL_law_995 rfl ex3_78.symm (by decide) (lv' := [(3, .int x3_78), (0, .ref b), (1, .ref (gh G 0)), (2, .ref (gh G 17))]) rfl ?_
          refine g_goto C 18 dL_law_998 (by decide) ?_
          rw [hP18] at hw
          exact g_perm [1, 2, 3, 0] rfl (hw)
        · replace hw := hw.2 c_79
          refine g_iconst C (0 : Int32) dL_law_519 (by decide) ?_
          exact hw.elim
      · replace hw := hw.2.2.2.2.2.2.2.2.2.2.2.2.2.1 c_1
        refine g_tableIn C 521 dL_law_32 (by rw [c_1]; decide) (by rw [c_1]; decide) (by rw [c_1]; rfl) (by decide) ?_
        refine g_aload_n C 1 dL_law_521 rfl rfl ?_
        refine g_aload_n C 0 dL_law_522 rfl rfl ?_
        refine g_iload_n C 3 dL_law_523 rfl rfl ?_
        refine g_iconst C (1 : Int32) dL_law_524 (by decide) ?_
        refine g_iadd C dL_law_525 ?_
        refine g_sld C X hw.1 dL_law_526 ?_
        replace hw := hw.2
        refine g_aload_n C 0 dL_law_527 rfl rfl ?_
        refine g_iload_n C 3 dL_law_528 rfl rfl ?_
        refine g_iconst C (2 : Int32) dL_law_529 (by decide) ?_
        refine g_iadd C dL_law_530 ?_
        refine g_sld C X hw.1 dL_law_531 ?_
        replace hw := hw.2
        refine g_callVi C (c_X4_effectOf l G hO hwC hw) kX4_effectOf tw_447 (Rv.of C (C.win (by decide) (by decide)) rfl (ci := 4) rfl) rfl rfl ⟨Nat.le_of_ble_eq_true rfl, Nat.le_of_ble_eq_true rfl⟩ (As := [.int (xs (x3 + (1 : Int32)).toNatClampNeg), .int (xs (x3 + (2 : Int32)).toNatClampNeg)]) (rest := []) rfl rfl (Nat.le_of_ble_eq_true rfl) dL_law_532 ⟨Nat.le_of_ble_eq_true rfl, Nat.le_of_ble_eq_true rfl⟩ (fun r_81 s_80 hw => ?_)
        refine g_aload_n C 2 dL_law_535 rfl rfl ?_
        refine g_aload_n C 0 dL_law_536 rfl rfl ?_
        refine g_iload_n C 3 dL_law_537 rfl rfl ?_
        refine g_iconst C (1 : Int32) dL_law_538 (by decide) ?_
        refine g_iadd C dL_law_539 ?_
        refine g_sld C X hw.1 dL_law_540 ?_
        replace hw := hw.2
        refine g_aload_n C 0 dL_law_541 rfl rfl ?_
        refine g_iload_n C 3 dL_law_542 rfl rfl ?_
        refine g_iconst C (2 : Int32) dL_law_543 (by decide) ?_
        refine g_iadd C dL_law_544 ?_
        refine g_sld C X hw.1 dL_law_545 ?_
        replace hw := hw.2
        refine g_callVi C (c_X5_effectOf l G hO hwM hw) kX5_effectOf tw_773 (Rv.of C (C.win (by decide) (by decide)) rfl (ci := 5) rfl) rfl rfl ⟨Nat.le_of_ble_eq_true rfl, Nat.le_of_ble_eq_true rfl⟩ (As := [.int (xs (x3 + (1 : Int32)).toNatClampNeg), .int (xs (x3 + (2 : Int32)).toNatClampNeg)]) (rest := [.int r_81]) rfl rfl (Nat.le_of_ble_eq_true rfl) dL_law_546 ⟨Nat.le_of_ble_eq_true rfl, Nat.le_of_ble_eq_true rfl⟩ (fun r_83 s_82 hw => ?_)
        refine g_icmp_eq C 995 dL_law_549 (by decide) (fun c_85 => ?_) (fun c_85 => ?_)
        · replace hw := hw.1 c_85
          obtain ⟨x3_84, ex3_84⟩ : ∃ z : Int32, z = x3 + (5 : Int32) := ⟨_, rfl⟩
          replace hw := hw x3_84 ex3_84
          refine g_iinc C x3_84 3 dL_law_995 rfl ex3_84.symm (by decide) (lv' := [(3, .int x3_84), (0, .ref b), (1, .ref (gh G 0)), (2, .ref (gh G 17))]) rfl ?_
          refine g_goto C 18 dL_law_998 (by decide) ?_
          rw [hP18] at hw
          exact g_perm [1, 2, 3, 0] rfl (hw)
        · replace hw := hw.2 c_85
          refine g_iconst C (0 : Int32) dL_law_552 (by decide) ?_
          exact hw.elim
      · replace hw := hw.2.2.2.2.2.2.2.2.2.2.2.2.2.2.1 c_1
        refine g_tableIn C 554 dL_law_32 (by rw [c_1]; decide) (by rw [c_1]; decide) (by rw [c_1]; rfl) (by decide) ?_
        refine g_aload_n C 1 dL_law_554 rfl rfl ?_
        refine g_aload_n C 0 dL_law_555 rfl rfl ?_
        refine g_iload_n C 3 dL_law_556 rfl rfl ?_
        refine g_iconst C (1 : Int32) dL_law_557 (by decide) ?_
        refine g_iadd C dL_law_558 ?_
        refine g_sld C X hw.1 dL_law_559 ?_
        replace hw := hw.2
        refine g_aload_n C 0 dL_law_560 rfl rfl ?_
        refine g_iload_n C 3 dL_law_561 rfl rfl ?_
        refine g_iconst C (2 : Int32) dL_law_562 (by decide) ?_
        refine g_iadd C dL_law_563 ?_
        refine g_sld C X hw.1 dL_law_564 ?_
        replace hw := hw.2
        refine g_aload_n C 0 dL_law_565 rfl rfl ?_
        refine g_iload_n C 3 dL_law_566 rfl rfl ?_
        refine g_iconst C (3 : Int32) dL_law_567 (by decide) ?_
        refine g_iadd C dL_law_568 ?_
        refine g_sld C X hw.1 dL_law_569 ?_
        replace hw := hw.2
        refine g_callVi C (c_X4_targetOf l G hO hwC hw) kX4_targetOf tw_451 (Rv.of C (C.win (by decide) (by decide)) rfl (ci := 4) rfl) rfl rfl ⟨Nat.le_of_ble_eq_true rfl, Nat.le_of_ble_eq_true rfl⟩ (As := [.int (xs (x3 + (1 : Int32)).toNatClampNeg), .int (xs (x3 + (2 : Int32)).toNatClampNeg), .int (xs (x3 + (3 : Int32)).toNatClampNeg)]) (rest := []) rfl rfl (Nat.le_of_ble_eq_true rfl) dL_law_570 ⟨Nat.le_of_ble_eq_true rfl, Nat.le_of_ble_eq_true rfl⟩ (fun r_87 s_86 hw => ?_)
        refine g_aload_n C 2 dL_law_573 rfl rfl ?_
        refine g_aload_n C 0 dL_law_574 rfl rfl ?_
        refine g_iload_n C 3 dL_law_575 rfl rfl ?_
        refine g_iconst C (1 : Int32) dL_law_576 (by decide) ?_
        refine g_iadd C dL_law_577 ?_
        refine g_sld C X hw.1 dL_law_578 ?_
        replace hw := hw.2
        refine g_aload_n C 0 dL_law_579 rfl rfl ?_
        refine g_iload_n C 3 dL_law_580 rfl rfl ?_
        refine g_iconst C (2 : Int32) dL_law_581 (by decide) ?_
        refine g_iadd C dL_law_582 ?_
        refine g_sld C X hw.1 dL_law_583 ?_
        replace hw := hw.2
        refine g_aload_n C 0 dL_law_584 rfl rfl ?_
        refine g_iload_n C 3 dL_law_585 rfl rfl ?_
        refine g_iconst C (3 : Int32) dL_law_586 (by decide) ?_
        refine g_iadd C dL_law_587 ?_
        refine g_sld C X hw.1 dL_law_588 ?_
        replace hw := hw.2
        refine g_callVi C (c_X5_targetOf l G hO hwM hw) kX5_targetOf tw_777 (Rv.of C (C.win (by decide) (by decide)) rfl (ci := 5) rfl) rfl rfl ⟨Nat.le_of_ble_eq_true rfl, Nat.le_of_ble_eq_true rfl⟩ (As := [.int (xs (x3 + (1 : Int32)).toNatClampNeg), .int (xs (x3 + (2 : Int32)).toNatClampNeg), .int (xs (x3 + (3 : Int32)).toNatClampNeg)]) (rest := [.int r_87]) rfl rfl (Nat.le_of_ble_eq_true rfl) dL_law_589 ⟨Nat.le_of_ble_eq_true rfl, Nat.le_of_ble_eq_true rfl⟩ (fun r_89 s_88 hw => ?_)
        refine g_icmp_eq C 995 dL_law_592 (by decide) (fun c_91 => ?_) (fun c_91 => ?_)
        · replace hw := hw.1 c_91
          obtain ⟨x3_90, ex3_90⟩ : ∃ z : Int32, z = x3 + (5 : Int32) := ⟨_, rfl⟩
          replace hw := hw x3_90 ex3_90
          refine g_iinc C x3_90 3 dL_law_995 rfl ex3_90.symm (by decide) (lv' := [(3, .int x3_90), (0, .ref b), (1, .ref (gh G 0)), (2, .ref (gh G 17))]) rfl ?_
          refine g_goto C 18 dL_law_998 (by decide) ?_
          rw [hP18] at hw
          exact g_perm [1, 2, 3, 0] rfl (hw)
        · replace hw := hw.2 c_91
          refine g_iconst C (0 : Int32) dL_law_595 (by decide) ?_
          exact hw.elim
      · replace hw := hw.2.2.2.2.2.2.2.2.2.2.2.2.2.2.2.1 c_1
        refine g_tableIn C 597 dL_law_32 (by rw [c_1]; decide) (by rw [c_1]; decide) (by rw [c_1]; rfl) (by decide) ?_
        refine g_aload_n C 1 dL_law_597 rfl rfl ?_
        refine g_aload_n C 0 dL_law_598 rfl rfl ?_
        refine g_iload_n C 3 dL_law_599 rfl rfl ?_
        refine g_iconst C (1 : Int32) dL_law_600 (by decide) ?_
        refine g_iadd C dL_law_601 ?_
        refine g_sld C X hw.1 dL_law_602 ?_
        replace hw := hw.2
        refine g_callVi C (c_X4_algorithmOf l G hO hwC hw) kX4_algorithmOf tw_455 (Rv.of C (C.win (by decide) (by decide)) rfl (ci := 4) rfl) rfl rfl ⟨Nat.le_of_ble_eq_true rfl, Nat.le_of_ble_eq_true rfl⟩ (As := [.int (xs (x3 + (1 : Int32)).toNatClampNeg)]) (rest := []) rfl rfl (Nat.le_of_ble_eq_true rfl) dL_law_603 ⟨Nat.le_of_ble_eq_true rfl, Nat.le_of_ble_eq_true rfl⟩ (fun r_93 s_92 hw => ?_)
        refine g_aload_n C 2 dL_law_606 rfl rfl ?_
        refine g_aload_n C 0 dL_law_607 rfl rfl ?_
        refine g_iload_n C 3 dL_law_608 rfl rfl ?_
        refine g_iconst C (1 : Int32) dL_law_609 (by decide) ?_
        refine g_iadd C dL_law_610 ?_
        refine g_sld C X hw.1 dL_law_611 ?_
        replace hw := hw.2
        refine g_callVi C (c_X5_algorithmOf l G hO hwM hw) kX5_algorithmOf tw_781 (Rv.of C (C.win (by decide) (by decide)) rfl (ci := 5) rfl) rfl rfl ⟨Nat.le_of_ble_eq_true rfl, Nat.le_of_ble_eq_true rfl⟩ (As := [.int (xs (x3 + (1 : Int32)).toNatClampNeg)]) (rest := [.int r_93]) rfl rfl (Nat.le_of_ble_eq_true rfl) dL_law_612 ⟨Nat.le_of_ble_eq_true rfl, Nat.le_of_ble_eq_true rfl⟩ (fun r_95 s_94 hw => ?_)
        refine g_icmp_eq C 995 dL_law_615 (by decide) (fun c_97 => ?_) (fun c_97 => ?_)
        · replace hw := hw.1 c_97
          obtain ⟨x3_96, ex3_96⟩ : ∃ z : Int32, z = x3 + (5 : Int32) := ⟨_, rfl⟩
          replace hw := hw x3_96 ex3_96
          refine g_iinc C x3_96 3 dL_law_995 rfl ex3_96.symm (by decide) (lv' := [(3, .int x3_96), (0, .ref b), (1, .ref (gh G 0)), (2, .ref (gh G 17))]) rfl ?_
          refine g_goto C 18 dL_law_998 (by decide) ?_
          rw [hP18] at hw
          exact g_perm [1, 2, 3, 0] rfl (hw)
        · replace hw := hw.2 c_97
          refine g_iconst C (0 : Int32) dL_law_618 (by decide) ?_
          exact hw.elim
      · replace hw := hw.2.2.2.2.2.2.2.2.2.2.2.2.2.2.2.2.1 c_1
        refine g_tableIn C 620 dL_law_32 (by rw [c_1]; decide) (by rw [c_1]; decide) (by rw [c_1]; rfl) (by decide) ?_
        refine g_aload_n C 1 dL_law_620 rfl rfl ?_
        refine g_aload_n C 0 dL_law_621 rfl rfl ?_
        refine g_iload_n C 3 dL_law_622 rfl rfl ?_
        refine g_iconst C (1 : Int32) dL_law_623 (by decide) ?_
        refine g_iadd C dL_law_624 ?_
        refine g_sld C X hw.1 dL_law_625 ?_
        replace hw := hw.2
        refine g_aload_n C 0 dL_law_626 rfl rfl ?_
        refine g_iload_n C 3 dL_law_627 rfl rfl ?_
        refine g_iconst C (2 : Int32) dL_law_628 (by decide) ?_
        refine g_iadd C dL_law_629 ?_
        refine g_sld C X hw.1 dL_law_630 ?_
        replace hw := hw.2
        refine g_callVi C (c_X4_decide l G hO hwC hw) kX4_decide tw_459 (Rv.of C (C.win (by decide) (by decide)) rfl (ci := 4) rfl) rfl rfl ⟨Nat.le_of_ble_eq_true rfl, Nat.le_of_ble_eq_true rfl⟩ (As := [.int (xs (x3 + (1 : Int32)).toNatClampNeg), .int (xs (x3 + (2 : Int32)).toNatClampNeg)]) (rest := []) rfl rfl (Nat.le_of_ble_eq_true rfl) dL_law_631 ⟨Nat.le_of_ble_eq_true rfl, Nat.le_of_ble_eq_true rfl⟩ (fun r_99 s_98 hw => ?_)
        refine g_aload_n C 2 dL_law_634 rfl rfl ?_
        refine g_aload_n C 0 dL_law_635 rfl rfl ?_
        refine g_iload_n C 3 dL_law_636 rfl rfl ?_
        refine g_iconst C (1 : Int32) dL_law_637 (by decide) ?_
        refine g_iadd C dL_law_638 ?_
        refine g_sld C X hw.1 dL_law_639 ?_
        replace hw := hw.2
        refine g_aload_n C 0 dL_law_640 rfl rfl ?_
        refine g_iload_n C 3 dL_law_641 rfl rfl ?_
        refine g_iconst C (2 : Int32) dL_law_642 (by decide) ?_
        refine g_iadd C dL_law_643 ?_
        refine g_sld C X hw.1 dL_law_644 ?_
        replace hw := hw.2
        refine g_callVi C (c_X5_decide l G hO hwM hw) kX5_decide tw_785 (Rv.of C (C.win (by decide) (by decide)) rfl (ci := 5) rfl) rfl rfl ⟨Nat.le_of_ble_eq_true rfl, Nat.le_of_ble_eq_true rfl⟩ (As := [.int (xs (x3 + (1 : Int32)).toNatClampNeg), .int (xs (x3 + (2 : Int32)).toNatClampNeg)]) (rest := [.int r_99]) rfl rfl (Nat.le_of_ble_eq_true rfl) dL_law_645 ⟨Nat.le_of_ble_eq_true rfl, Nat.le_of_ble_eq_true rfl⟩ (fun r_101 s_100 hw => ?_)
        refine g_icmp_eq C 995 dL_law_648 (by decide) (fun c_103 => ?_) (fun c_103 => ?_)
        · replace hw := hw.1 c_103
          obtain ⟨x3_102, ex3_102⟩ : ∃ z : Int32, z = x3 + (5 : Int32) := ⟨_, rfl⟩
          replace hw := hw x3_102 ex3_102
          refine g_iinc C x3_102 3 dL_law_995 rfl ex3_102.symm (by decide) (lv' := [(3, .int x3_102), (0, .ref b), (1, .ref (gh G 0)), (2, .ref (gh G 17))]) rfl ?_
          refine g_goto C 18 dL_law_998 (by decide) ?_
          rw [hP18] at hw
          exact g_perm [1, 2, 3, 0] rfl (hw)
        · replace hw := hw.2 c_103
          refine g_iconst C (0 : Int32) dL_law_651 (by decide) ?_
          exact hw.elim
      · replace hw := hw.2.2.2.2.2.2.2.2.2.2.2.2.2.2.2.2.2.1 c_1
        refine g_tableIn C 653 dL_law_32 (by rw [c_1]; decide) (by rw [c_1]; decide) (by rw [c_1]; rfl) (by decide) ?_
        refine g_aload_n C 1 dL_law_653 rfl rfl ?_
        refine g_aload_n C 0 dL_law_654 rfl rfl ?_
        refine g_iload_n C 3 dL_law_655 rfl rfl ?_
        refine g_iconst C (1 : Int32) dL_law_656 (by decide) ?_
        refine g_iadd C dL_law_657 ?_
        refine g_sld C X hw.1 dL_law_658 ?_
        replace hw := hw.2
        refine g_aload_n C 0 dL_law_659 rfl rfl ?_
        refine g_iload_n C 3 dL_law_660 rfl rfl ?_
        refine g_iconst C (2 : Int32) dL_law_661 (by decide) ?_
        refine g_iadd C dL_law_662 ?_
        refine g_sld C X hw.1 dL_law_663 ?_
        replace hw := hw.2
        refine g_callVi C (c_X4_decisionCount l G hO hwC hw) kX4_decisionCount tw_490 (Rv.of C (C.win (by decide) (by decide)) rfl (ci := 4) rfl) rfl rfl ⟨Nat.le_of_ble_eq_true rfl, Nat.le_of_ble_eq_true rfl⟩ (As := [.int (xs (x3 + (1 : Int32)).toNatClampNeg), .int (xs (x3 + (2 : Int32)).toNatClampNeg)]) (rest := []) rfl rfl (Nat.le_of_ble_eq_true rfl) dL_law_664 ⟨Nat.le_of_ble_eq_true rfl, Nat.le_of_ble_eq_true rfl⟩ (fun r_105 s_104 hw => ?_)
        refine g_aload_n C 2 dL_law_667 rfl rfl ?_
        refine g_aload_n C 0 dL_law_668 rfl rfl ?_
        refine g_iload_n C 3 dL_law_669 rfl rfl ?_
        refine g_iconst C (1 : Int32) dL_law_670 (by decide) ?_
        refine g_iadd C dL_law_671 ?_
        refine g_sld C X hw.1 dL_law_672 ?_
        replace hw := hw.2
        refine g_aload_n C 0 dL_law_673 rfl rfl ?_
        refine g_iload_n C 3 dL_law_674 rfl rfl ?_
        refine g_iconst C (2 : Int32) dL_law_675 (by decide) ?_
        refine g_iadd C dL_law_676 ?_
        refine g_sld C X hw.1 dL_law_677 ?_
        replace hw := hw.2
        refine g_callVi C (c_X5_decisionCount l G hO hwM hw) kX5_decisionCount tw_813 (Rv.of C (C.win (by decide) (by decide)) rfl (ci := 5) rfl) rfl rfl ⟨Nat.le_of_ble_eq_true rfl, Nat.le_of_ble_eq_true rfl⟩ (As := [.int (xs (x3 + (1 : Int32)).toNatClampNeg), .int (xs (x3 + (2 : Int32)).toNatClampNeg)]) (rest := [.int r_105]) rfl rfl (Nat.le_of_ble_eq_true rfl) dL_law_678 ⟨Nat.le_of_ble_eq_true rfl, Nat.le_of_ble_eq_true rfl⟩ (fun r_107 s_106 hw => ?_)
        refine g_icmp_eq C 995 dL_law_681 (by decide) (fun c_109 => ?_) (fun c_109 => ?_)
        · replace hw := hw.1 c_109
          obtain ⟨x3_108, ex3_108⟩ : ∃ z : Int32, z = x3 + (5 : Int32) := ⟨_, rfl⟩
          replace hw := hw x3_108 ex3_108
          refine g_iinc C x3_108 3 dL_law_995 rfl ex3_108.symm (by decide) (lv' := [(3, .int x3_108), (0, .ref b), (1, .ref (gh G 0)), (2, .ref (gh G 17))]) rfl ?_
          refine g_goto C 18 dL_law_998 (by decide) ?_
          rw [hP18] at hw
          exact g_perm [1, 2, 3, 0] rfl (hw)
        · replace hw := hw.2 c_109
          refine g_iconst C (0 : Int32) dL_law_684 (by decide) ?_
          exact hw.elim
      · replace hw := hw.2.2.2.2.2.2.2.2.2.2.2.2.2.2.2.2.2.2.1 c_1
        refine g_tableIn C 686 dL_law_32 (by rw [c_1]; decide) (by rw [c_1]; decide) (by rw [c_1]; rfl) (by decide) ?_
        refine g_aload_n C 1 dL_law_686 rfl rfl ?_
        refine g_aload_n C 0 dL_law_687 rfl rfl ?_
        refine g_iload_n C 3 dL_law_688 rfl rfl ?_
        refine g_iconst C (1 : Int32) dL_law_689 (by decide) ?_
        refine g_iadd C dL_law_690 ?_
        refine g_sld C X hw.1 dL_law_691 ?_
        replace hw := hw.2
        refine g_aload_n C 0 dL_law_692 rfl rfl ?_
        refine g_iload_n C 3 dL_law_693 rfl rfl ?_
        refine g_iconst C (2 : Int32) dL_law_694 (by decide) ?_
        refine g_iadd C dL_law_695 ?_
        refine g_sld C X hw.1 dL_law_696 ?_
        replace hw := hw.2
        refine g_callVi C (c_X4_applicableRules l G hO hwC hw) kX4_applicableRules tw_500 (Rv.of C (C.win (by decide) (by decide)) rfl (ci := 4) rfl) rfl rfl ⟨Nat.le_of_ble_eq_true rfl, Nat.le_of_ble_eq_true rfl⟩ (As := [.int (xs (x3 + (1 : Int32)).toNatClampNeg), .int (xs (x3 + (2 : Int32)).toNatClampNeg)]) (rest := []) rfl rfl (Nat.le_of_ble_eq_true rfl) dL_law_697 ⟨Nat.le_of_ble_eq_true rfl, Nat.le_of_ble_eq_true rfl⟩ (fun r_111 s_110 hw => ?_)
        refine g_aload_n C 2 dL_law_700 rfl rfl ?_
        refine g_aload_n C 0 dL_law_701 rfl rfl ?_
        refine g_iload_n C 3 dL_law_702 rfl rfl ?_
        refine g_iconst C (1 : Int32) dL_law_703 (by decide) ?_
        refine g_iadd C dL_law_704 ?_
        refine g_sld C X hw.1 dL_law_705 ?_
        replace hw := hw.2
        refine g_aload_n C 0 dL_law_706 rfl rfl ?_
        refine g_iload_n C 3 dL_law_707 rfl rfl ?_
        refine g_iconst C (2 : Int32) dL_law_708 (by decide) ?_
        refine g_iadd C dL_law_709 ?_
        refine g_sld C X hw.1 dL_law_710 ?_
        replace hw := hw.2
        refine g_callVi C (c_X5_applicableRules l G hO hwM hw) kX5_applicableRules tw_817 (Rv.of C (C.win (by decide) (by decide)) rfl (ci := 5) rfl) rfl rfl ⟨Nat.le_of_ble_eq_true rfl, Nat.le_of_ble_eq_true rfl⟩ (As := [.int (xs (x3 + (1 : Int32)).toNatClampNeg), .int (xs (x3 + (2 : Int32)).toNatClampNeg)]) (rest := [.int r_111]) rfl rfl (Nat.le_of_ble_eq_true rfl) dL_law_711 ⟨Nat.le_of_ble_eq_true rfl, Nat.le_of_ble_eq_true rfl⟩ (fun r_113 s_112 hw => ?_)
        refine g_icmp_eq C 995 dL_law_714 (by decide) (fun c_115 => ?_) (fun c_115 => ?_)
        · replace hw := hw.1 c_115
          obtain ⟨x3_114, ex3_114⟩ : ∃ z : Int32, z = x3 + (5 : Int32) := ⟨_, rfl⟩
          replace hw := hw x3_114 ex3_114
          refine g_iinc C x3_114 3 dL_law_995 rfl ex3_114.symm (by decide) (lv' := [(3, .int x3_114), (0, .ref b), (1, .ref (gh G 0)), (2, .ref (gh G 17))]) rfl ?_
          refine g_goto C 18 dL_law_998 (by decide) ?_
          rw [hP18] at hw
          exact g_perm [1, 2, 3, 0] rfl (hw)
        · replace hw := hw.2 c_115
          refine g_iconst C (0 : Int32) dL_law_717 (by decide) ?_
          exact hw.elim
      · replace hw := hw.2.2.2.2.2.2.2.2.2.2.2.2.2.2.2.2.2.2.2.1 c_1
        refine g_tableIn C 719 dL_law_32 (by rw [c_1]; decide) (by rw [c_1]; decide) (by rw [c_1]; rfl) (by decide) ?_
        refine g_aload_n C 1 dL_law_719 rfl rfl ?_
        refine g_callVi C (c_X4_gainCount l G hO hwC hw) kX4_gainCount tw_506 (Rv.of C (C.win (by decide) (by decide)) rfl (ci := 4) rfl) rfl rfl ⟨Nat.le_of_ble_eq_true rfl, Nat.le_of_ble_eq_true rfl⟩ (As := []) (rest := []) rfl rfl (Nat.le_of_ble_eq_true rfl) dL_law_720 ⟨Nat.le_of_ble_eq_true rfl, Nat.le_of_ble_eq_true rfl⟩ (fun r_117 s_116 hw => ?_)
        refine g_aload_n C 2 dL_law_723 rfl rfl ?_
        refine g_callVi C (c_X5_gainCount l G hO hwM hw) kX5_gainCount tw_821 (Rv.of C (C.win (by decide) (by decide)) rfl (ci := 5) rfl) rfl rfl ⟨Nat.le_of_ble_eq_true rfl, Nat.le_of_ble_eq_true rfl⟩ (As := []) (rest := [.int r_117]) rfl rfl (Nat.le_of_ble_eq_true rfl) dL_law_724 ⟨Nat.le_of_ble_eq_true rfl, Nat.le_of_ble_eq_true rfl⟩ (fun r_119 s_118 hw => ?_)
        refine g_icmp_eq C 995 dL_law_727 (by decide) (fun c_121 => ?_) (fun c_121 => ?_)
        · replace hw := hw.1 c_121
          obtain ⟨x3_120, ex3_120⟩ : ∃ z : Int32, z = x3 + (5 : Int32) := ⟨_, rfl⟩
          replace hw := hw x3_120 ex3_120
          refine g_iinc C x3_120 3 dL_law_995 rfl ex3_120.symm (by decide) (lv' := [(3, .int x3_120), (0, .ref b), (1, .ref (gh G 0)), (2, .ref (gh G 17))]) rfl ?_
          refine g_goto C 18 dL_law_998 (by decide) ?_
          rw [hP18] at hw
          exact g_perm [1, 2, 3, 0] rfl (hw)
        · replace hw := hw.2 c_121
          refine g_iconst C (0 : Int32) dL_law_730 (by decide) ?_
          exact hw.elim
      · replace hw := hw.2.2.2.2.2.2.2.2.2.2.2.2.2.2.2.2.2.2.2.2.1 c_1
        refine g_tableIn C 732 dL_law_32 (by rw [c_1]; decide) (by rw [c_1]; decide) (by rw [c_1]; rfl) (by decide) ?_
        refine g_aload_n C 1 dL_law_732 rfl rfl ?_
        refine g_callVi C (c_X4_lossCount l G hO hwC hw) kX4_lossCount tw_516 (Rv.of C (C.win (by decide) (by decide)) rfl (ci := 4) rfl) rfl rfl ⟨Nat.le_of_ble_eq_true rfl, Nat.le_of_ble_eq_true rfl⟩ (As := []) (rest := []) rfl rfl (Nat.le_of_ble_eq_true rfl) dL_law_733 ⟨Nat.le_of_ble_eq_true rfl, Nat.le_of_ble_eq_true rfl⟩ (fun r_123 s_122 hw => ?_)
        refine g_aload_n C 2 dL_law_736 rfl rfl ?_
        refine g_callVi C (c_X5_lossCount l G hO hwM hw) kX5_lossCount tw_829 (Rv.of C (C.win (by decide) (by decide)) rfl (ci := 5) rfl) rfl rfl ⟨Nat.le_of_ble_eq_true rfl, Nat.le_of_ble_eq_true rfl⟩ (As := []) (rest := [.int r_123]) rfl rfl (Nat.le_of_ble_eq_true rfl) dL_law_737 ⟨Nat.le_of_ble_eq_true rfl, Nat.le_of_ble_eq_true rfl⟩ (fun r_125 s_124 hw => ?_)
        refine g_icmp_eq C 995 dL_law_740 (by decide) (fun c_127 => ?_) (fun c_127 => ?_)
        · replace hw := hw.1 c_127
          obtain ⟨x3_126, ex3_126⟩ : ∃ z : Int32, z = x3 + (5 : Int32) := ⟨_, rfl⟩
          replace hw := hw x3_126 ex3_126
          refine g_iinc C x3_126 3 dL_law_995 rfl ex3_126.symm (by decide) (lv' := [(3, .int x3_126), (0, .ref b), (1, .ref (gh G 0)), (2, .ref (gh G 17))]) rfl ?_
          refine g_goto C 18 dL_law_998 (by decide) ?_
          rw [hP18] at hw
          exact g_perm [1, 2, 3, 0] rfl (hw)
        · replace hw := hw.2 c_127
          refine g_iconst C (0 : Int32) dL_law_743 (by decide) ?_
          exact hw.elim
      · replace hw := hw.2.2.2.2.2.2.2.2.2.2.2.2.2.2.2.2.2.2.2.2.2.1 c_1
        refine g_tableIn C 745 dL_law_32 (by rw [c_1]; decide) (by rw [c_1]; decide) (by rw [c_1]; rfl) (by decide) ?_
        refine g_aload_n C 1 dL_law_745 rfl rfl ?_
        refine g_aload_n C 0 dL_law_746 rfl rfl ?_
        refine g_iload_n C 3 dL_law_747 rfl rfl ?_
        refine g_iconst C (1 : Int32) dL_law_748 (by decide) ?_
        refine g_iadd C dL_law_749 ?_
        refine g_sld C X hw.1 dL_law_750 ?_
        replace hw := hw.2
        refine g_aload_n C 0 dL_law_751 rfl rfl ?_
        refine g_iload_n C 3 dL_law_752 rfl rfl ?_
        refine g_iconst C (2 : Int32) dL_law_753 (by decide) ?_
        refine g_iadd C dL_law_754 ?_
        refine g_sld C X hw.1 dL_law_755 ?_
        replace hw := hw.2
        refine g_callVi C (c_X4_gainCountOf l G hO hwC hw) kX4_gainCountOf tw_520 (Rv.of C (C.win (by decide) (by decide)) rfl (ci := 4) rfl) rfl rfl ⟨Nat.le_of_ble_eq_true rfl, Nat.le_of_ble_eq_true rfl⟩ (As := [.int (xs (x3 + (1 : Int32)).toNatClampNeg), .int (xs (x3 + (2 : Int32)).toNatClampNeg)]) (rest := []) rfl rfl (Nat.le_of_ble_eq_true rfl) dL_law_756 ⟨Nat.le_of_ble_eq_true rfl, Nat.le_of_ble_eq_true rfl⟩ (fun r_129 s_128 hw => ?_)
        refine g_aload_n C 2 dL_law_759 rfl rfl ?_
        refine g_aload_n C 0 dL_law_760 rfl rfl ?_
        refine g_iload_n C 3 dL_law_761 rfl rfl ?_
        refine g_iconst C (1 : Int32) dL_law_762 (by decide) ?_
        refine g_iadd C dL_law_763 ?_
        refine g_sld C X hw.1 dL_law_764 ?_
        replace hw := hw.2
        refine g_aload_n C 0 dL_law_765 rfl rfl ?_
        refine g_iload_n C 3 dL_law_766 rfl rfl ?_
        refine g_iconst C (2 : Int32) dL_law_767 (by decide) ?_
        refine g_iadd C dL_law_768 ?_
        refine g_sld C X hw.1 dL_law_769 ?_
        replace hw := hw.2
        refine g_callVi C (c_X5_gainCountOf l G hO hwM hw) kX5_gainCountOf tw_837 (Rv.of C (C.win (by decide) (by decide)) rfl (ci := 5) rfl) rfl rfl ⟨Nat.le_of_ble_eq_true rfl, Nat.le_of_ble_eq_true rfl⟩ (As := [.int (xs (x3 + (1 : Int32)).toNatClampNeg), .int (xs (x3 + (2 : Int32)).toNatClampNeg)]) (rest := [.int r_129]) rfl rfl (Nat.le_of_ble_eq_true rfl) dL_law_770 ⟨Nat.le_of_ble_eq_true rfl, Nat.le_of_ble_eq_true rfl⟩ (fun r_131 s_130 hw => ?_)
        refine g_icmp_eq C 995 dL_law_773 (by decide) (fun c_133 => ?_) (fun c_133 => ?_)
        · replace hw := hw.1 c_133
          obtain ⟨x3_132, ex3_132⟩ : ∃ z : Int32, z = x3 + (5 : Int32) := ⟨_, rfl⟩
          replace hw := hw x3_132 ex3_132
          refine g_iinc C x3_132 3 dL_law_995 rfl ex3_132.symm (by decide) (lv' := [(3, .int x3_132), (0, .ref b), (1, .ref (gh G 0)), (2, .ref (gh G 17))]) rfl ?_
          refine g_goto C 18 dL_law_998 (by decide) ?_
          rw [hP18] at hw
          exact g_perm [1, 2, 3, 0] rfl (hw)
        · replace hw := hw.2 c_133
          refine g_iconst C (0 : Int32) dL_law_776 (by decide) ?_
          exact hw.elim
      · replace hw := hw.2.2.2.2.2.2.2.2.2.2.2.2.2.2.2.2.2.2.2.2.2.2.1 c_1
        refine g_tableIn C 778 dL_law_32 (by rw [c_1]; decide) (by rw [c_1]; decide) (by rw [c_1]; rfl) (by decide) ?_
        refine g_aload_n C 1 dL_law_778 rfl rfl ?_
        refine g_aload_n C 0 dL_law_779 rfl rfl ?_
        refine g_iload_n C 3 dL_law_780 rfl rfl ?_
        refine g_iconst C (1 : Int32) dL_law_781 (by decide) ?_
        refine g_iadd C dL_law_782 ?_
        refine g_sld C X hw.1 dL_law_783 ?_
        replace hw := hw.2
        refine g_callVi C (c_X4_nextGain l G hO hwC hw) kX4_nextGain tw_529 (Rv.of C (C.win (by decide) (by decide)) rfl (ci := 4) rfl) rfl rfl ⟨Nat.le_of_ble_eq_true rfl, Nat.le_of_ble_eq_true rfl⟩ (As := [.int (xs (x3 + (1 : Int32)).toNatClampNeg)]) (rest := []) rfl rfl (Nat.le_of_ble_eq_true rfl) dL_law_784 ⟨Nat.le_of_ble_eq_true rfl, Nat.le_of_ble_eq_true rfl⟩ (fun r_135 s_134 hw => ?_)
        refine g_aload_n C 2 dL_law_787 rfl rfl ?_
        refine g_aload_n C 0 dL_law_788 rfl rfl ?_
        refine g_iload_n C 3 dL_law_789 rfl rfl ?_
        refine g_iconst C (1 : Int32) dL_law_790 (by decide) ?_
        refine g_iadd C dL_law_791 ?_
        refine g_sld C X hw.1 dL_law_792 ?_
        replace hw := hw.2
        refine g_callVi C (c_X5_nextGain l G hO hwM hw) kX5_nextGain tw_841 (Rv.of C (C.win (by decide) (by decide)) rfl (ci := 5) rfl) rfl rfl ⟨Nat.le_of_ble_eq_true rfl, Nat.le_of_ble_eq_true rfl⟩ (As := [.int (xs (x3 + (1 : Int32)).toNatClampNeg)]) (rest := [.int r_135]) rfl rfl (Nat.le_of_ble_eq_true rfl) dL_law_793 ⟨Nat.le_of_ble_eq_true rfl, Nat.le_of_ble_eq_true rfl⟩ (fun r_137 s_136 hw => ?_)
        refine g_icmp_eq C 995 dL_law_796 (by decide) (fun c_139 => ?_) (fun c_139 => ?_)
        · replace hw := hw.1 c_139
          obtain ⟨x3_138, ex3_138⟩ : ∃ z : Int32, z = x3 + (5 : Int32) := ⟨_, rfl⟩
          replace hw := hw x3_138 ex3_138
          refine g_iinc C x3_138 3 dL_law_995 rfl ex3_138.symm (by decide) (lv' := [(3, .int x3_138), (0, .ref b), (1, .ref (gh G 0)), (2, .ref (gh G 17))]) rfl ?_
          refine g_goto C 18 dL_law_998 (by decide) ?_
          rw [hP18] at hw
          exact g_perm [1, 2, 3, 0] rfl (hw)
        · replace hw := hw.2 c_139
          refine g_iconst C (0 : Int32) dL_law_799 (by decide) ?_
          exact hw.elim
      · replace hw := hw.2.2.2.2.2.2.2.2.2.2.2.2.2.2.2.2.2.2.2.2.2.2.2.1 c_1
        refine g_tableIn C 801 dL_law_32 (by rw [c_1]; decide) (by rw [c_1]; decide) (by rw [c_1]; rfl) (by decide) ?_
        refine g_aload_n C 1 dL_law_801 rfl rfl ?_
        refine g_aload_n C 0 dL_law_802 rfl rfl ?_
        refine g_iload_n C 3 dL_law_803 rfl rfl ?_
        refine g_iconst C (1 : Int32) dL_law_804 (by decide) ?_
        refine g_iadd C dL_law_805 ?_
        refine g_sld C X hw.1 dL_law_806 ?_
        replace hw := hw.2
        refine g_callVi C (c_X4_nextLoss l G hO hwC hw) kX4_nextLoss tw_536 (Rv.of C (C.win (by decide) (by decide)) rfl (ci := 4) rfl) rfl rfl ⟨Nat.le_of_ble_eq_true rfl, Nat.le_of_ble_eq_true rfl⟩ (As := [.int (xs (x3 + (1 : Int32)).toNatClampNeg)]) (rest := []) rfl rfl (Nat.le_of_ble_eq_true rfl) dL_law_807 ⟨Nat.le_of_ble_eq_true rfl, Nat.le_of_ble_eq_true rfl⟩ (fun r_141 s_140 hw => ?_)
        refine g_aload_n C 2 dL_law_810 rfl rfl ?_
        refine g_aload_n C 0 dL_law_811 rfl rfl ?_
        refine g_iload_n C 3 dL_law_812 rfl rfl ?_
        refine g_iconst C (1 : Int32) dL_law_813 (by decide) ?_
        refine g_iadd C dL_law_814 ?_
        refine g_sld C X hw.1 dL_law_815 ?_
        replace hw := hw.2
        refine g_callVi C (c_X5_nextLoss l G hO hwM hw) kX5_nextLoss tw_845 (Rv.of C (C.win (by decide) (by decide)) rfl (ci := 5) rfl) rfl rfl ⟨Nat.le_of_ble_eq_true rfl, Nat.le_of_ble_eq_true rfl⟩ (As := [.int (xs (x3 + (1 : Int32)).toNatClampNeg)]) (rest := [.int r_141]) rfl rfl (Nat.le_of_ble_eq_true rfl) dL_law_816 ⟨Nat.le_of_ble_eq_true rfl, Nat.le_of_ble_eq_true rfl⟩ (fun r_143 s_142 hw => ?_)
        refine g_icmp_eq C 995 dL_law_819 (by decide) (fun c_145 => ?_) (fun c_145 => ?_)
        · replace hw := hw.1 c_145
          obtain ⟨x3_144, ex3_144⟩ : ∃ z : Int32, z = x3 + (5 : Int32) := ⟨_, rfl⟩
          replace hw := hw x3_144 ex3_144
          refine g_iinc C x3_144 3 dL_law_995 rfl ex3_144.symm (by decide) (lv' := [(3, .int x3_144), (0, .ref b), (1, .ref (gh G 0)), (2, .ref (gh G 17))]) rfl ?_
          refine g_goto C 18 dL_law_998 (by decide) ?_
          rw [hP18] at hw
          exact g_perm [1, 2, 3, 0] rfl (hw)
        · replace hw := hw.2 c_145
          refine g_iconst C (0 : Int32) dL_law_822 (by decide) ?_
          exact hw.elim
      · replace hw := hw.2.2.2.2.2.2.2.2.2.2.2.2.2.2.2.2.2.2.2.2.2.2.2.2.1 c_1
        refine g_tableIn C 824 dL_law_32 (by rw [c_1]; decide) (by rw [c_1]; decide) (by rw [c_1]; rfl) (by decide) ?_
        refine g_aload_n C 1 dL_law_824 rfl rfl ?_
        refine g_aload_n C 0 dL_law_825 rfl rfl ?_
        refine g_iload_n C 3 dL_law_826 rfl rfl ?_
        refine g_iconst C (1 : Int32) dL_law_827 (by decide) ?_
        refine g_iadd C dL_law_828 ?_
        refine g_sld C X hw.1 dL_law_829 ?_
        replace hw := hw.2
        refine g_aload_n C 0 dL_law_830 rfl rfl ?_
        refine g_iload_n C 3 dL_law_831 rfl rfl ?_
        refine g_iconst C (2 : Int32) dL_law_832 (by decide) ?_
        refine g_iadd C dL_law_833 ?_
        refine g_sld C X hw.1 dL_law_834 ?_
        replace hw := hw.2
        refine g_callVi C (c_X4_transitionCount l G hO hwC hw) kX4_transitionCount tw_540 (Rv.of C (C.win (by decide) (by decide)) rfl (ci := 4) rfl) rfl rfl ⟨Nat.le_of_ble_eq_true rfl, Nat.le_of_ble_eq_true rfl⟩ (As := [.int (xs (x3 + (1 : Int32)).toNatClampNeg), .int (xs (x3 + (2 : Int32)).toNatClampNeg)]) (rest := []) rfl rfl (Nat.le_of_ble_eq_true rfl) dL_law_835 ⟨Nat.le_of_ble_eq_true rfl, Nat.le_of_ble_eq_true rfl⟩ (fun r_147 s_146 hw => ?_)
        refine g_aload_n C 2 dL_law_838 rfl rfl ?_
        refine g_aload_n C 0 dL_law_839 rfl rfl ?_
        refine g_iload_n C 3 dL_law_840 rfl rfl ?_
        refine g_iconst C (1 : Int32) dL_law_841 (by decide) ?_
        refine g_iadd C dL_law_842 ?_
        refine g_sld C X hw.1 dL_law_843 ?_
        replace hw := hw.2
        refine g_aload_n C 0 dL_law_844 rfl rfl ?_
        refine g_iload_n C 3 dL_law_845 rfl rfl ?_
        refine g_iconst C (2 : Int32) dL_law_846 (by decide) ?_
        refine g_iadd C dL_law_847 ?_
        refine g_sld C X hw.1 dL_law_848 ?_
        replace hw := hw.2
        refine g_callVi C (c_X5_transitionCount l G hO hwM hw) kX5_transitionCount tw_849 (Rv.of C (C.win (by decide) (by decide)) rfl (ci := 5) rfl) rfl rfl ⟨Nat.le_of_ble_eq_true rfl, Nat.le_of_ble_eq_true rfl⟩ (As := [.int (xs (x3 + (1 : Int32)).toNatClampNeg), .int (xs (x3 + (2 : Int32)).toNatClampNeg)]) (rest := [.int r_147]) rfl rfl (Nat.le_of_ble_eq_true rfl) dL_law_849 ⟨Nat.le_of_ble_eq_true rfl, Nat.le_of_ble_eq_true rfl⟩ (fun r_149 s_148 hw => ?_)
        refine g_icmp_eq C 995 dL_law_852 (by decide) (fun c_151 => ?_) (fun c_151 => ?_)
        · replace hw := hw.1 c_151
          obtain ⟨x3_150, ex3_150⟩ : ∃ z : Int32, z = x3 + (5 : Int32) := ⟨_, rfl⟩
          replace hw := hw x3_150 ex3_150
          refine g_iinc C x3_150 3 dL_law_995 rfl ex3_150.symm (by decide) (lv' := [(3, .int x3_150), (0, .ref b), (1, .ref (gh G 0)), (2, .ref (gh G 17))]) rfl ?_
          refine g_goto C 18 dL_law_998 (by decide) ?_
          rw [hP18] at hw
          exact g_perm [1, 2, 3, 0] rfl (hw)
        · replace hw := hw.2 c_151
          refine g_iconst C (0 : Int32) dL_law_855 (by decide) ?_
          exact hw.elim
      · replace hw := hw.2.2.2.2.2.2.2.2.2.2.2.2.2.2.2.2.2.2.2.2.2.2.2.2.2.1 c_1
        refine g_tableIn C 857 dL_law_32 (by rw [c_1]; decide) (by rw [c_1]; decide) (by rw [c_1]; rfl) (by decide) ?_
        refine g_aload_n C 1 dL_law_857 rfl rfl ?_
        refine g_aload_n C 0 dL_law_858 rfl rfl ?_
        refine g_iload_n C 3 dL_law_859 rfl rfl ?_
        refine g_iconst C (1 : Int32) dL_law_860 (by decide) ?_
        refine g_iadd C dL_law_861 ?_
        refine g_sld C X hw.1 dL_law_862 ?_
        replace hw := hw.2
        refine g_callVi C (c_X4_grantedShareBits l G hO hwC hw) kX4_grantedShareBits tw_544 (Rv.of C (C.win (by decide) (by decide)) rfl (ci := 4) rfl) rfl rfl ⟨Nat.le_of_ble_eq_true rfl, Nat.le_of_ble_eq_true rfl⟩ (As := [.int (xs (x3 + (1 : Int32)).toNatClampNeg)]) (rest := []) rfl rfl (Nat.le_of_ble_eq_true rfl) dL_law_863 ⟨Nat.le_of_ble_eq_true rfl, Nat.le_of_ble_eq_true rfl⟩ (fun r_153 s_152 hw => ?_)
        refine g_aload_n C 2 dL_law_866 rfl rfl ?_
        refine g_aload_n C 0 dL_law_867 rfl rfl ?_
        refine g_iload_n C 3 dL_law_868 rfl rfl ?_
        refine g_iconst C (1 : Int32) dL_law_869 (by decide) ?_
        refine g_iadd C dL_law_870 ?_
        refine g_sld C X hw.1 dL_law_871 ?_
        replace hw := hw.2
        refine g_callVi C (c_X5_grantedShareBits l G hO hwM hw) kX5_grantedShareBits tw_853 (Rv.of C (C.win (by decide) (by decide)) rfl (ci := 5) rfl) rfl rfl ⟨Nat.le_of_ble_eq_true rfl, Nat.le_of_ble_eq_true rfl⟩ (As := [.int (xs (x3 + (1 : Int32)).toNatClampNeg)]) (rest := [.int r_153]) rfl rfl (Nat.le_of_ble_eq_true rfl) dL_law_872 ⟨Nat.le_of_ble_eq_true rfl, Nat.le_of_ble_eq_true rfl⟩ (fun r_155 s_154 hw => ?_)
        refine g_icmp_eq C 995 dL_law_875 (by decide) (fun c_157 => ?_) (fun c_157 => ?_)
        · replace hw := hw.1 c_157
          obtain ⟨x3_156, ex3_156⟩ : ∃ z : Int32, z = x3 + (5 : Int32) := ⟨_, rfl⟩
          replace hw := hw x3_156 ex3_156
          refine g_iinc C x3_156 3 dL_law_995 rfl ex3_156.symm (by decide) (lv' := [(3, .int x3_156), (0, .ref b), (1, .ref (gh G 0)), (2, .ref (gh G 17))]) rfl ?_
          refine g_goto C 18 dL_law_998 (by decide) ?_
          rw [hP18] at hw
          exact g_perm [1, 2, 3, 0] rfl (hw)
        · replace hw := hw.2 c_157
          refine g_iconst C (0 : Int32) dL_law_878 (by decide) ?_
          exact hw.elim
      · replace hw := hw.2.2.2.2.2.2.2.2.2.2.2.2.2.2.2.2.2.2.2.2.2.2.2.2.2.2.1 c_1
        refine g_tableIn C 880 dL_law_32 (by rw [c_1]; decide) (by rw [c_1]; decide) (by rw [c_1]; rfl) (by decide) ?_
        refine g_aload_n C 1 dL_law_880 rfl rfl ?_
        refine g_aload_n C 0 dL_law_881 rfl rfl ?_
        refine g_iload_n C 3 dL_law_882 rfl rfl ?_
        refine g_iconst C (1 : Int32) dL_law_883 (by decide) ?_
        refine g_iadd C dL_law_884 ?_
        refine g_sld C X hw.1 dL_law_885 ?_
        replace hw := hw.2
        refine g_aload_n C 0 dL_law_886 rfl rfl ?_
        refine g_iload_n C 3 dL_law_887 rfl rfl ?_
        refine g_iconst C (2 : Int32) dL_law_888 (by decide) ?_
        refine g_iadd C dL_law_889 ?_
        refine g_sld C X hw.1 dL_law_890 ?_
        replace hw := hw.2
        refine g_callVi C (c_X4_isRedundant l G hO hwC hw) kX4_isRedundant tw_556 (Rv.of C (C.win (by decide) (by decide)) rfl (ci := 4) rfl) rfl rfl ⟨Nat.le_of_ble_eq_true rfl, Nat.le_of_ble_eq_true rfl⟩ (As := [.int (xs (x3 + (1 : Int32)).toNatClampNeg), .int (xs (x3 + (2 : Int32)).toNatClampNeg)]) (rest := []) rfl rfl (Nat.le_of_ble_eq_true rfl) dL_law_891 ⟨Nat.le_of_ble_eq_true rfl, Nat.le_of_ble_eq_true rfl⟩ (fun r_159 s_158 hw => ?_)
        refine g_aload_n C 2 dL_law_894 rfl rfl ?_
        refine g_aload_n C 0 dL_law_895 rfl rfl ?_
        refine g_iload_n C 3 dL_law_896 rfl rfl ?_
        refine g_iconst C (1 : Int32) dL_law_897 (by decide) ?_
        refine g_iadd C dL_law_898 ?_
        refine g_sld C X hw.1 dL_law_899 ?_
        replace hw := hw.2
        refine g_aload_n C 0 dL_law_900 rfl rfl ?_
        refine g_iload_n C 3 dL_law_901 rfl rfl ?_
        refine g_iconst C (2 : Int32) dL_law_902 (by decide) ?_
        refine g_iadd C dL_law_903 ?_
        refine g_sld C X hw.1 dL_law_904 ?_
        replace hw := hw.2
        refine g_callVi C (c_X5_isRedundant l G hO hwM hw) kX5_isRedundant tw_870 (Rv.of C (C.win (by decide) (by decide)) rfl (ci := 5) rfl) rfl rfl ⟨Nat.le_of_ble_eq_true rfl, Nat.le_of_ble_eq_true rfl⟩ (As := [.int (xs (x3 + (1 : Int32)).toNatClampNeg), .int (xs (x3 + (2 : Int32)).toNatClampNeg)]) (rest := [.int r_159]) rfl rfl (Nat.le_of_ble_eq_true rfl) dL_law_905 ⟨Nat.le_of_ble_eq_true rfl, Nat.le_of_ble_eq_true rfl⟩ (fun r_161 s_160 hw => ?_)
        refine g_icmp_eq C 995 dL_law_908 (by decide) (fun c_163 => ?_) (fun c_163 => ?_)
        · replace hw := hw.1 c_163
          obtain ⟨x3_162, ex3_162⟩ : ∃ z : Int32, z = x3 + (5 : Int32) := ⟨_, rfl⟩
          replace hw := hw x3_162 ex3_162
          refine g_iinc C x3_162 3 dL_law_995 rfl ex3_162.symm (by decide) (lv' := [(3, .int x3_162), (0, .ref b), (1, .ref (gh G 0)), (2, .ref (gh G 17))]) rfl ?_
          refine g_goto C 18 dL_law_998 (by decide) ?_
          rw [hP18] at hw
          exact g_perm [1, 2, 3, 0] rfl (hw)
        · replace hw := hw.2 c_163
          refine g_iconst C (0 : Int32) dL_law_911 (by decide) ?_
          exact hw.elim
      · replace hw := hw.2.2.2.2.2.2.2.2.2.2.2.2.2.2.2.2.2.2.2.2.2.2.2.2.2.2.2.1 c_1
        refine g_tableIn C 913 dL_law_32 (by rw [c_1]; decide) (by rw [c_1]; decide) (by rw [c_1]; rfl) (by decide) ?_
        refine g_aload_n C 1 dL_law_913 rfl rfl ?_
        refine g_aload_n C 0 dL_law_914 rfl rfl ?_
        refine g_iload_n C 3 dL_law_915 rfl rfl ?_
        refine g_iconst C (1 : Int32) dL_law_916 (by decide) ?_
        refine g_iadd C dL_law_917 ?_
        refine g_sld C X hw.1 dL_law_918 ?_
        replace hw := hw.2
        refine g_aload_n C 0 dL_law_919 rfl rfl ?_
        refine g_iload_n C 3 dL_law_920 rfl rfl ?_
        refine g_iconst C (2 : Int32) dL_law_921 (by decide) ?_
        refine g_iadd C dL_law_922 ?_
        refine g_sld C X hw.1 dL_law_923 ?_
        replace hw := hw.2
        refine g_callVi C (c_X4_witness l G hO hwC hw) kX4_witness tw_564 (Rv.of C (C.win (by decide) (by decide)) rfl (ci := 4) rfl) rfl rfl ⟨Nat.le_of_ble_eq_true rfl, Nat.le_of_ble_eq_true rfl⟩ (As := [.int (xs (x3 + (1 : Int32)).toNatClampNeg), .int (xs (x3 + (2 : Int32)).toNatClampNeg)]) (rest := []) rfl rfl (Nat.le_of_ble_eq_true rfl) dL_law_924 ⟨Nat.le_of_ble_eq_true rfl, Nat.le_of_ble_eq_true rfl⟩ (fun r_165 s_164 hw => ?_)
        refine g_aload_n C 2 dL_law_927 rfl rfl ?_
        refine g_aload_n C 0 dL_law_928 rfl rfl ?_
        refine g_iload_n C 3 dL_law_929 rfl rfl ?_
        refine g_iconst C (1 : Int32) dL_law_930 (by decide) ?_
        refine g_iadd C dL_law_931 ?_
        refine g_sld C X hw.1 dL_law_932 ?_
        replace hw := hw.2
        refine g_aload_n C 0 dL_law_933 rfl rfl ?_
        refine g_iload_n C 3 dL_law_934 rfl rfl ?_
        refine g_iconst C (2 : Int32) dL_law_935 (by decide) ?_
        refine g_iadd C dL_law_936 ?_
        refine g_sld C X hw.1 dL_law_937 ?_
        replace hw := hw.2
        refine g_callVi C (c_X5_witness l G hO hwM hw) kX5_witness tw_858 (Rv.of C (C.win (by decide) (by decide)) rfl (ci := 5) rfl) rfl rfl ⟨Nat.le_of_ble_eq_true rfl, Nat.le_of_ble_eq_true rfl⟩ (As := [.int (xs (x3 + (1 : Int32)).toNatClampNeg), .int (xs (x3 + (2 : Int32)).toNatClampNeg)]) (rest := [.int r_165]) rfl rfl (Nat.le_of_ble_eq_true rfl) dL_law_938 ⟨Nat.le_of_ble_eq_true rfl, Nat.le_of_ble_eq_true rfl⟩ (fun r_167 s_166 hw => ?_)
        refine g_icmp_eq C 995 dL_law_941 (by decide) (fun c_169 => ?_) (fun c_169 => ?_)
        · replace hw := hw.1 c_169
          obtain ⟨x3_168, ex3_168⟩ : ∃ z : Int32, z = x3 + (5 : Int32) := ⟨_, rfl⟩
          replace hw := hw x3_168 ex3_168
          refine g_iinc C x3_168 3 dL_law_995 rfl ex3_168.symm (by decide) (lv' := [(3, .int x3_168), (0, .ref b), (1, .ref (gh G 0)), (2, .ref (gh G 17))]) rfl ?_
          refine g_goto C 18 dL_law_998 (by decide) ?_
          rw [hP18] at hw
          exact g_perm [1, 2, 3, 0] rfl (hw)
        · replace hw := hw.2 c_169
          refine g_iconst C (0 : Int32) dL_law_944 (by decide) ?_
          exact hw.elim
      · replace hw := hw.2.2.2.2.2.2.2.2.2.2.2.2.2.2.2.2.2.2.2.2.2.2.2.2.2.2.2.2.1 c_1
        refine g_tableIn C 946 dL_law_32 (by rw [c_1]; decide) (by rw [c_1]; decide) (by rw [c_1]; rfl) (by decide) ?_
        refine g_aload_n C 1 dL_law_946 rfl rfl ?_
        refine g_aload_n C 0 dL_law_947 rfl rfl ?_
        refine g_iload_n C 3 dL_law_948 rfl rfl ?_
        refine g_iconst C (1 : Int32) dL_law_949 (by decide) ?_
        refine g_iadd C dL_law_950 ?_
        refine g_sld C X hw.1 dL_law_951 ?_
        replace hw := hw.2
        refine g_callVi C (c_X4_irredundantCore l G hO hwC hw) kX4_irredundantCore tw_568 (Rv.of C (C.win (by decide) (by decide)) rfl (ci := 4) rfl) rfl rfl ⟨Nat.le_of_ble_eq_true rfl, Nat.le_of_ble_eq_true rfl⟩ (As := [.int (xs (x3 + (1 : Int32)).toNatClampNeg)]) (rest := []) rfl rfl (Nat.le_of_ble_eq_true rfl) dL_law_952 ⟨Nat.le_of_ble_eq_true rfl, Nat.le_of_ble_eq_true rfl⟩ (fun r_171 s_170 hw => ?_)
        refine g_aload_n C 2 dL_law_955 rfl rfl ?_
        refine g_aload_n C 0 dL_law_956 rfl rfl ?_
        refine g_iload_n C 3 dL_law_957 rfl rfl ?_
        refine g_iconst C (1 : Int32) dL_law_958 (by decide) ?_
        refine g_iadd C dL_law_959 ?_
        refine g_sld C X hw.1 dL_law_960 ?_
        replace hw := hw.2
        refine g_callVi C (c_X5_irredundantCore l G hO hwM hw) kX5_irredundantCore tw_875 (Rv.of C (C.win (by decide) (by decide)) rfl (ci := 5) rfl) rfl rfl ⟨Nat.le_of_ble_eq_true rfl, Nat.le_of_ble_eq_true rfl⟩ (As := [.int (xs (x3 + (1 : Int32)).toNatClampNeg)]) (rest := [.int r_171]) rfl rfl (Nat.le_of_ble_eq_true rfl) dL_law_961 ⟨Nat.le_of_ble_eq_true rfl, Nat.le_of_ble_eq_true rfl⟩ (fun r_173 s_172 hw => ?_)
        refine g_icmp_eq C 995 dL_law_964 (by decide) (fun c_175 => ?_) (fun c_175 => ?_)
        · replace hw := hw.1 c_175
          obtain ⟨x3_174, ex3_174⟩ : ∃ z : Int32, z = x3 + (5 : Int32) := ⟨_, rfl⟩
          replace hw := hw x3_174 ex3_174
          refine g_iinc C x3_174 3 dL_law_995 rfl ex3_174.symm (by decide) (lv' := [(3, .int x3_174), (0, .ref b), (1, .ref (gh G 0)), (2, .ref (gh G 17))]) rfl ?_
          refine g_goto C 18 dL_law_998 (by decide) ?_
          rw [hP18] at hw
          exact g_perm [1, 2, 3, 0] rfl (hw)
        · replace hw := hw.2 c_175
          refine g_iconst C (0 : Int32) dL_law_967 (by decide) ?_
          exact hw.elim
      · replace hw := hw.2.2.2.2.2.2.2.2.2.2.2.2.2.2.2.2.2.2.2.2.2.2.2.2.2.2.2.2.2.1 c_1
        refine g_tableIn C 969 dL_law_32 (by rw [c_1]; decide) (by rw [c_1]; decide) (by rw [c_1]; rfl) (by decide) ?_
        refine g_aload_n C 1 dL_law_969 rfl rfl ?_
        refine g_callVi C (c_X4_leastRemoval l G hO hwC hw) kX4_leastRemoval tw_593 (Rv.of C (C.win (by decide) (by decide)) rfl (ci := 4) rfl) rfl rfl ⟨Nat.le_of_ble_eq_true rfl, Nat.le_of_ble_eq_true rfl⟩ (As := []) (rest := []) rfl rfl (Nat.le_of_ble_eq_true rfl) dL_law_970 ⟨Nat.le_of_ble_eq_true rfl, Nat.le_of_ble_eq_true rfl⟩ (fun r_177 s_176 hw => ?_)
        refine g_aload_n C 2 dL_law_973 rfl rfl ?_
        refine g_callVi C (c_X5_leastRemoval l G hO hwM hw) kX5_leastRemoval tw_879 (Rv.of C (C.win (by decide) (by decide)) rfl (ci := 5) rfl) rfl rfl ⟨Nat.le_of_ble_eq_true rfl, Nat.le_of_ble_eq_true rfl⟩ (As := []) (rest := [.int r_177]) rfl rfl (Nat.le_of_ble_eq_true rfl) dL_law_974 ⟨Nat.le_of_ble_eq_true rfl, Nat.le_of_ble_eq_true rfl⟩ (fun r_179 s_178 hw => ?_)
        refine g_icmp_eq C 995 dL_law_977 (by decide) (fun c_181 => ?_) (fun c_181 => ?_)
        · replace hw := hw.1 c_181
          obtain ⟨x3_180, ex3_180⟩ : ∃ z : Int32, z = x3 + (5 : Int32) := ⟨_, rfl⟩
          replace hw := hw x3_180 ex3_180
          refine g_iinc C x3_180 3 dL_law_995 rfl ex3_180.symm (by decide) (lv' := [(3, .int x3_180), (0, .ref b), (1, .ref (gh G 0)), (2, .ref (gh G 17))]) rfl ?_
          refine g_goto C 18 dL_law_998 (by decide) ?_
          rw [hP18] at hw
          exact g_perm [1, 2, 3, 0] rfl (hw)
        · replace hw := hw.2 c_181
          refine g_iconst C (0 : Int32) dL_law_980 (by decide) ?_
          exact hw.elim
      · replace hw := hw.2.2.2.2.2.2.2.2.2.2.2.2.2.2.2.2.2.2.2.2.2.2.2.2.2.2.2.2.2.2.1 c_1
        refine g_tableIn C 982 dL_law_32 (by rw [c_1]; decide) (by rw [c_1]; decide) (by rw [c_1]; rfl) (by decide) ?_
        refine g_aload_n C 1 dL_law_982 rfl rfl ?_
        refine g_callVi C (c_X4_historySize l G hO hwC hw) kX4_historySize tw_601 (Rv.of C (C.win (by decide) (by decide)) rfl (ci := 4) rfl) rfl rfl ⟨Nat.le_of_ble_eq_true rfl, Nat.le_of_ble_eq_true rfl⟩ (As := []) (rest := []) rfl rfl (Nat.le_of_ble_eq_true rfl) dL_law_983 ⟨Nat.le_of_ble_eq_true rfl, Nat.le_of_ble_eq_true rfl⟩ (fun r_183 s_182 hw => ?_)
        refine g_aload_n C 2 dL_law_986 rfl rfl ?_
        refine g_callVi C (c_X5_historySize l G hO hwM hw) kX5_historySize tw_887 (Rv.of C (C.win (by decide) (by decide)) rfl (ci := 5) rfl) rfl rfl ⟨Nat.le_of_ble_eq_true rfl, Nat.le_of_ble_eq_true rfl⟩ (As := []) (rest := [.int r_183]) rfl rfl (Nat.le_of_ble_eq_true rfl) dL_law_987 ⟨Nat.le_of_ble_eq_true rfl, Nat.le_of_ble_eq_true rfl⟩ (fun r_185 s_184 hw => ?_)
        refine g_icmp_eq C 995 dL_law_990 (by decide) (fun c_187 => ?_) (fun c_187 => ?_)
        · replace hw := hw.1 c_187
          obtain ⟨x3_186, ex3_186⟩ : ∃ z : Int32, z = x3 + (5 : Int32) := ⟨_, rfl⟩
          replace hw := hw x3_186 ex3_186
          refine g_iinc C x3_186 3 dL_law_995 rfl ex3_186.symm (by decide) (lv' := [(3, .int x3_186), (0, .ref b), (1, .ref (gh G 0)), (2, .ref (gh G 17))]) rfl ?_
          refine g_goto C 18 dL_law_998 (by decide) ?_
          rw [hP18] at hw
          exact g_perm [1, 2, 3, 0] rfl (hw)
        · replace hw := hw.2 c_187
          refine g_iconst C (0 : Int32) dL_law_993 (by decide) ?_
          exact hw.elim
      · replace hw := hw.2.2.2.2.2.2.2.2.2.2.2.2.2.2.2.2.2.2.2.2.2.2.2.2.2.2.2.2.2.2.2 c_1.1
        refine g_table C 995 dL_law_32 c_1.2 (by decide) ?_
        obtain ⟨x3_188, ex3_188⟩ : ∃ z : Int32, z = x3 + (5 : Int32) := ⟨_, rfl⟩
        replace hw := hw x3_188 ex3_188
        refine g_iinc C x3_188 3 dL_law_995 rfl ex3_188.symm (by decide) (lv' := [(3, .int x3_188), (0, .ref b), (1, .ref (gh G 0)), (2, .ref (gh G 17))]) rfl ?_
        refine g_goto C 18 dL_law_998 (by decide) ?_
        rw [hP18] at hw
        exact g_perm [1, 2, 3, 0] rfl (hw))
  rw [hP18] at hw
  exact hw
