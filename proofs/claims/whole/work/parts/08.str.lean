section GSTR
variable {p : Program} {l : Launch} {e : Env} {R : Room} {s : State} {m : MethodId} {args : Array Value} {below : List Frame} {meth : Method} {c : Code} {cells slots : Nat} {Q : State → Prop} {G : Gp} {nL pc lo hi : Nat} {lv : List (Nat × Value)} {stk : List Value} {st : St} {cc : ByteArray} {own : String} {index : Nat}
theorem gE.str (h : gE G s) {i : Nat} (hi : i < nSx) : va_OF "java/lang/String" "coder" "B" (.int 0) (gK G i) (gA G) s s.heap ∧ va_OF "java/lang/String" "value" "[B" (.ref (gV G i)) (gK G i) (gA G) s s.heap ∧ va_T .byte (gV G i) (lenSx.getD i 0) (fun j => .int ((bytSx.getD i []).getD j 0)) (gA G) s s.heap :=
  ((h.2.2.2.2.2.1).1 i hi).2
theorem g_sget {n d : String} {v : Value} {a : Nat} (C : Cx p s m args c cc nL own G lo hi) (hE : gE G s → va_OF "java/lang/String" n d v a (gA G) s s.heap) (hlink : Cond.fieldLink own index "java/lang/String" n d ∈ tblG) (hdg : decode cc pc = .ok (.getfield index, 3)) (k : WG p l e R s m args below meth c cells slots Q G nL (pc + 3) lv (v :: stk) st) : WG p l e R s m args below meth c cells slots Q G nL pc lv (.ref a :: stk) st :=
  fun H locs ls hP hS hl => vk_getf C.1 C.2.1 (hE C.2.2.2.2.2.2.1) hS C.2.2.2.1 (C.2.2.2.2.1 _ hlink) (fun _ h => h) hdg (k H locs ls hP hS hl)
theorem g_tlen {t N : Nat} {f : Nat → Value} {ty : FieldType} (C : Cx p s m args c cc nL own G lo hi) (v : Int32) (hT : gE G s → va_T ty t N f (gA G) s s.heap) (hv : Int32.ofNat N = v) (hdg : decode cc pc = .ok (.arraylength, 1)) (k : WG p l e R s m args below meth c cells slots Q G nL (pc + 1) lv (.int v :: stk) st) : WG p l e R s m args below meth c cells slots Q G nL pc lv (.ref t :: stk) st :=
  fun H locs ls hP hS hl => va_tlen C.1 C.2.1 (hT C.2.2.2.2.2.2.1) hS hv hdg (k H locs ls hP hS hl)
theorem g_tb {t N : Nat} {f : Nat → Value} {i : Int32} {v : Value} (C : Cx p s m args c cc nL own G lo hi) (hT : gE G s → va_T .byte t N f (gA G) s s.heap) (hin : vp_in i N) (hv : f i.toNatClampNeg = v) (hdg : decode cc pc = .ok (.baload, 1)) (k : WG p l e R s m args below meth c cells slots Q G nL (pc + 1) lv (v :: stk) st) : WG p l e R s m args below meth c cells slots Q G nL pc lv (.int i :: .ref t :: stk) st :=
  fun H locs ls hP hS hl => va_tb C.1 C.2.1 (hT C.2.2.2.2.2.2.1) hS hin hv hdg (k H locs ls hP hS hl)
end GSTR
theorem kJ0_length_8abf5 : Kv yJ0_length_8abf5 cJ0_length_8abf5 1 (some .int) 0 := ⟨⟨tw_139, tw_41, by decide +kernel⟩, tw_137, tw_138⟩
theorem kJ0_charAt_5068e : Kv yJ0_charAt_5068e cJ0_charAt_5068e 2 (some .char) 1 := ⟨⟨tw_149, tw_41, by decide +kernel⟩, tw_147, tw_148⟩
theorem kJ0_coder_7d493 : Kv yJ0_coder_7d493 cJ0_coder_7d493 1 (some .byte) 0 := ⟨⟨tw_143, tw_41, by decide +kernel⟩, tw_141, tw_142⟩
theorem kJ0_isLatin1_aae02 : Kv yJ0_isLatin1_aae02 cJ0_isLatin1_aae02 1 (some .boolean) 0 := ⟨⟨tw_153, tw_41, by decide +kernel⟩, tw_151, tw_152⟩
theorem kJ0_checkIndex_df160 : Ks yJ0_checkIndex_df160 cJ0_checkIndex_df160 2 none 2 := ⟨⟨tw_159, tw_41, by decide +kernel⟩, tw_158⟩
theorem kJ1_charAt_3b067 : Ks yJ1_charAt_3b067 cJ1_charAt_3b067 2 (some .char) 2 := ⟨⟨tw_156, tw_42, by decide +kernel⟩, tw_155⟩
theorem kJ3_checkIndex_8e157 : Ks yJ3_checkIndex_8e157 cJ3_checkIndex_8e157 3 (some .int) 3 := ⟨⟨tw_164, tw_43, by decide +kernel⟩, tw_163⟩
set_option maxHeartbeats 4000000 in
set_option maxRecDepth 100000 in
theorem c_J3_checkIndex_8e157 (l : Launch) (G : Gp) (hO : gOK G) (hwin : ∀ k, 0 ≤ k → k < 17 → k ∈ gks G) {x0 x1 : Int32} {v2 : Value} (hv2 : v2 = .null ∨ ∃ a, v2 = .ref a) {st : St} {Q : Int32 → St → Prop} (hw : (¬ x0 < 0 ∧ x0 < x1) ∧ Q x0 st) : MI l G yJ3_checkIndex_8e157 cJ3_checkIndex_8e157 3 (some .int) { frames := 0, cells := 0, slots := 0, locals := 0 } [.int x0, .int x1, v2] st Q := by
  have hn : (lg_sl [.int x0, .int x1, v2]).length ≤ 3 := by rcases hv2 with rfl | ⟨a, rfl⟩ <;> exact Nat.le_of_ble_eq_true rfl
  refine MI.of (own := RJ3) (lo := 0) (hi := 17) hO hwin (by decide) rfl hn (fun p e s m args below meth c C hr hlk => ?_)
  refine g_lv (lv' := [(0, .int x0), (1, .int x1), (2, v2)]) rfl ?_
  refine g_iload_n C 0 dJ3_checkIndex_8e157_0 rfl rfl ?_
  refine g_if_lt C 9 dJ3_checkIndex_8e157_1 (by decide) (fun h => absurd h hw.1.1) (fun h => ?_)
  refine g_iload_n C 0 dJ3_checkIndex_8e157_4 rfl rfl ?_
  refine g_iload_n C 1 dJ3_checkIndex_8e157_5 rfl rfl ?_
  refine g_icmp_lt C 16 dJ3_checkIndex_8e157_6 (by decide) (fun h => ?_) (fun h => absurd hw.1.2 h)
  refine g_iload_n C 0 dJ3_checkIndex_8e157_16 rfl rfl ?_
  exact g_iret C hr hlk hw.2 dJ3_checkIndex_8e157_17
set_option maxHeartbeats 4000000 in
set_option maxRecDepth 100000 in
theorem c_J0_checkIndex_df160 (l : Launch) (G : Gp) (hO : gOK G) (hwin : ∀ k, 0 ≤ k → k < 17 → k ∈ gks G) {x0 x1 : Int32} {st : St} {Q : St → Prop} (hw : (¬ x0 < 0 ∧ x0 < x1) ∧ Q st) : MV l G yJ0_checkIndex_df160 cJ0_checkIndex_df160 2 { frames := 1, cells := 0, slots := 0, locals := 22 } [.int x0, .int x1] st Q := by
  refine MV.of (own := RJ0) (lo := 0) (hi := 17) hO hwin (by decide) rfl (Nat.le_of_ble_eq_true rfl) (fun p e s m args below meth c C hr hlk => ?_)
  refine g_lv (lv' := [(0, .int x0), (1, .int x1)]) rfl ?_
  refine g_iload_n C 0 dJ0_checkIndex_df160_0 rfl rfl ?_
  refine g_iload_n C 1 dJ0_checkIndex_df160_1 rfl rfl ?_
  have key : ∀ v2 : Value, (v2 = .null ∨ ∃ a, v2 = .ref a) → WG p l e ({ frames := 1, cells := 0, slots := 0, locals := 22 } : Room) s m args below meth c 0 0 (MQ below (va_Qv Q (gB G) (gA G)) args s 0 0 (gA G)) G 2 5 [(0, .int x0), (1, .int x1)] [v2, .int x1, .int x0] st := by
    intro v2 hv2
    refine g_callSi C (c_J3_checkIndex_8e157 (x0 := x0) (x1 := x1) (Q := fun r s1 => Q s1) l G hO hwin hv2 hw) kJ3_checkIndex_8e157 tw_162 rfl rfl ⟨Nat.le_of_ble_eq_true rfl, Nat.le_of_ble_eq_true rfl⟩ (As := [.int x0, .int x1, v2]) (rest := []) rfl rfl (Nat.le_of_ble_eq_true rfl) dJ0_checkIndex_df160_5 ⟨Nat.le_of_ble_eq_true rfl, Nat.le_of_ble_eq_true rfl⟩ (fun r s1 hw => ?_)
    refine g_pop C dJ0_checkIndex_df160_8 rfl ?_
    exact g_vret C hr hlk hw dJ0_checkIndex_df160_9
  rcases C.2.2.2.2.2.2.1.2.2.2.2.1 with hz | ⟨a, hz⟩
  · exact g_gets C (fun _ => hz) tw_160 dJ0_checkIndex_df160_2 (key .null (Or.inl rfl))
  · exact g_gets C (fun _ => hz) tw_160 dJ0_checkIndex_df160_2 (key (.ref a) (Or.inr ⟨a, rfl⟩))
def chSx (i k : Nat) : Int32 := toChr ((bytSx.getD i []).getD k 0 &&& 255)
theorem chSx_nar (i k : Nat) : narrow .char (.int (chSx i k)) = .int (chSx i k) := pk_nc _
set_option maxHeartbeats 4000000 in
set_option maxRecDepth 100000 in
theorem c_J1_charAt_3b067 (l : Launch) (G : Gp) (hO : gOK G) (hwin : ∀ k, 0 ≤ k → k < 17 → k ∈ gks G) {i : Nat} (hi : i < nSx) {x1 : Int32} {st : St} {Q : Int32 → St → Prop} (hw : (vp_in x1 (lenSx.getD i 0) ∧ ¬ x1 < 0 ∧ x1 < Int32.ofNat (lenSx.getD i 0)) ∧ Q (chSx i x1.toNatClampNeg) st) : MI l G yJ1_charAt_3b067 cJ1_charAt_3b067 2 (some .char) { frames := 2, cells := 0, slots := 0, locals := 43 } [.ref (gV G i), .int x1] st Q := by
  refine MI.of (own := RJ1) (lo := 0) (hi := 17) hO hwin (by decide) rfl (Nat.le_of_ble_eq_true rfl) (fun p e s m args below meth c C hr hlk => ?_)
  refine g_lv (lv' := [(0, .ref (gV G i)), (1, .int x1)]) rfl ?_
  refine g_iload_n C 1 dJ1_charAt_3b067_0 rfl rfl ?_
  refine g_aload_n C 0 dJ1_charAt_3b067_1 rfl rfl ?_
  refine g_tlen C (Int32.ofNat (lenSx.getD i 0)) (fun h => (h.str hi).2.2) rfl dJ1_charAt_3b067_2 ?_
  refine g_callSv C (c_J0_checkIndex_df160 (Q := fun s1 => Q (chSx i x1.toNatClampNeg) s1) l G hO hwin ⟨hw.1.2, hw.2⟩) kJ0_checkIndex_df160 tw_157 rfl rfl ⟨Nat.le_of_ble_eq_true rfl, Nat.le_of_ble_eq_true rfl⟩ (As := [.int x1, .int (Int32.ofNat (lenSx.getD i 0))]) (rest := []) rfl rfl (Nat.le_of_ble_eq_true rfl) dJ1_charAt_3b067_3 ⟨Nat.le_of_ble_eq_true rfl, Nat.le_of_ble_eq_true rfl⟩ (fun s1 hq => ?_)
  refine g_aload_n C 0 dJ1_charAt_3b067_6 rfl rfl ?_
  refine g_iload_n C 1 dJ1_charAt_3b067_7 rfl rfl ?_
  refine g_tb C (fun h => (h.str hi).2.2) hw.1.1 rfl dJ1_charAt_3b067_8 ?_
  refine g_sipush C (255 : Int32) dJ1_charAt_3b067_9 (by decide) ?_
  refine g_iand C dJ1_charAt_3b067_12 ?_
  refine g_i2c C dJ1_charAt_3b067_13 ?_
  exact g_zret C hr hlk (chSx_nar i x1.toNatClampNeg) hq dJ1_charAt_3b067_14
set_option maxHeartbeats 4000000 in
set_option maxRecDepth 100000 in
theorem c_J0_isLatin1_aae02 (l : Launch) (G : Gp) (hO : gOK G) (hwin : ∀ k, 0 ≤ k → k < 17 → k ∈ gks G) {i : Nat} (hi : i < nSx) {st : St} {Q : Int32 → St → Prop} (hw : Q 1 st) : MI l G yJ0_isLatin1_aae02 cJ0_isLatin1_aae02 1 (some .boolean) { frames := 0, cells := 0, slots := 0, locals := 0 } [.ref (gK G i)] st Q := by
  refine MI.of (own := RJ0) (lo := 0) (hi := 17) hO hwin (by decide) rfl (Nat.le_of_ble_eq_true rfl) (fun p e s m args below meth c C hr hlk => ?_)
  refine g_lv (lv' := [(0, .ref (gK G i))]) rfl ?_
  refine g_gets C (fun h => h.2.2.2.1) tw_144 dJ0_isLatin1_aae02_0 ?_
  refine g_if_eq C 17 dJ0_isLatin1_aae02_3 (by decide) (fun h => absurd h (by decide)) (fun h => ?_)
  refine g_aload_n C 0 dJ0_isLatin1_aae02_6 rfl rfl ?_
  refine g_sget C (fun h => (h.str hi).1) tw_892 dJ0_isLatin1_aae02_7 ?_
  refine g_if_ne C 17 dJ0_isLatin1_aae02_10 (by decide) (fun h => absurd rfl h) (fun h => ?_)
  refine g_iconst C (1 : Int32) dJ0_isLatin1_aae02_13 (by decide) ?_
  refine g_goto C 18 dJ0_isLatin1_aae02_14 (by decide) ?_
  exact g_zret C hr hlk rfl hw dJ0_isLatin1_aae02_18
set_option maxHeartbeats 4000000 in
set_option maxRecDepth 100000 in
theorem c_J0_coder_7d493 (l : Launch) (G : Gp) (hO : gOK G) (hwin : ∀ k, 0 ≤ k → k < 17 → k ∈ gks G) {i : Nat} (hi : i < nSx) {st : St} {Q : Int32 → St → Prop} (hw : Q 0 st) : MI l G yJ0_coder_7d493 cJ0_coder_7d493 1 (some .byte) { frames := 0, cells := 0, slots := 0, locals := 0 } [.ref (gK G i)] st Q := by
  refine MI.of (own := RJ0) (lo := 0) (hi := 17) hO hwin (by decide) rfl (Nat.le_of_ble_eq_true rfl) (fun p e s m args below meth c C hr hlk => ?_)
  refine g_lv (lv' := [(0, .ref (gK G i))]) rfl ?_
  refine g_gets C (fun h => h.2.2.2.1) tw_144 dJ0_coder_7d493_0 ?_
  refine g_if_eq C 13 dJ0_coder_7d493_3 (by decide) (fun h => absurd h (by decide)) (fun h => ?_)
  refine g_aload_n C 0 dJ0_coder_7d493_6 rfl rfl ?_
  refine g_sget C (fun h => (h.str hi).1) tw_892 dJ0_coder_7d493_7 ?_
  refine g_goto C 14 dJ0_coder_7d493_10 (by decide) ?_
  exact g_zret C hr hlk rfl hw dJ0_coder_7d493_14
def wp_J0_length_8abf5 (i0 : Nat) (st : St) (Q : Int32 → St → Prop) : Prop := Q (Int32.ofNat (lenSx.getD i0 0)) st
def wp_J0_charAt_5068e (i0 : Nat) (x1 : Int32) (st : St) (Q : Int32 → St → Prop) : Prop := vp_in x1 (lenSx.getD i0 0) ∧ Q (chSx i0 x1.toNatClampNeg) st
theorem lenSx_lt : ∀ i, i < nSx → lenSx.getD i 0 < 2 ^ 31 := by decide +kernel
theorem vp_in_lt {x : Int32} {n : Nat} (hn : n < 2 ^ 31) (h : vp_in x n) : ¬ x < 0 ∧ x < Int32.ofNat n := by
  obtain ⟨j, hj, e⟩ := vp_in_of h hn
  subst e
  exact ⟨nI_pos (by omega), nI_lt hj hn⟩
set_option maxHeartbeats 4000000 in
set_option maxRecDepth 100000 in
theorem c_J0_length_8abf5 (l : Launch) (G : Gp) (hO : gOK G) (hwin : ∀ k, 0 ≤ k → k < 17 → k ∈ gks G) {i0 : Nat} (hi : i0 < nSx) {st : St} {Q : Int32 → St → Prop} (hw : wp_J0_length_8abf5 i0 st Q) : MI l G yJ0_length_8abf5 cJ0_length_8abf5 1 (some .int) { frames := 1, cells := 0, slots := 0, locals := 20 } [.ref (gK G i0)] st Q := by
  refine MI.of (own := RJ0) (lo := 0) (hi := 17) hO hwin (by decide) rfl (Nat.le_of_ble_eq_true rfl) (fun p e s m args below meth c C hr hlk => ?_)
  refine g_lv (lv' := [(0, .ref (gK G i0))]) rfl ?_
  unfold wp_J0_length_8abf5 at hw
  refine g_aload_n C 0 dJ0_length_8abf5_0 rfl rfl ?_
  refine g_sget C (fun h => (h.str hi).2.1) tw_891 dJ0_length_8abf5_1 ?_
  refine g_tlen C (Int32.ofNat (lenSx.getD i0 0)) (fun h => (h.str hi).2.2) rfl dJ0_length_8abf5_4 ?_
  refine g_aload_n C 0 dJ0_length_8abf5_5 rfl rfl ?_
  refine g_callVi C (c_J0_coder_7d493 (Q := fun r s1 => r = 0 ∧ Q (Int32.ofNat (lenSx.getD i0 0)) s1) l G hO hwin hi ⟨rfl, hw⟩) kJ0_coder_7d493 tw_140 (Rv.str C hi) rfl rfl ⟨Nat.le_of_ble_eq_true rfl, Nat.le_of_ble_eq_true rfl⟩ (As := []) (rest := [.int (Int32.ofNat (lenSx.getD i0 0))]) rfl rfl (Nat.le_of_ble_eq_true rfl) dJ0_length_8abf5_6 ⟨Nat.le_of_ble_eq_true rfl, Nat.le_of_ble_eq_true rfl⟩ (fun r s1 hw => ?_)
  obtain ⟨rfl, hw⟩ := hw
  refine g_ishr C dJ0_length_8abf5_9 ?_
  refine g_iret C hr hlk ?_ dJ0_length_8abf5_10
  rw [show Int32.ofNat (lenSx.getD i0 0) >>> ((0 : Int32) &&& 31) = Int32.ofNat (lenSx.getD i0 0) from ?_]
  · exact hw
  · have h := pk_shrN (n := lenSx.getD i0 0) (lenSx_lt i0 hi) ((0 : Int32) &&& 31) 0 (by decide)
    simpa using h
set_option maxHeartbeats 4000000 in
set_option maxRecDepth 100000 in
theorem c_J0_charAt_5068e (l : Launch) (G : Gp) (hO : gOK G) (hwin : ∀ k, 0 ≤ k → k < 17 → k ∈ gks G) {i0 : Nat} (hi : i0 < nSx) {x1 : Int32} {st : St} {Q : Int32 → St → Prop} (hw : wp_J0_charAt_5068e i0 x1 st Q) : MI l G yJ0_charAt_5068e cJ0_charAt_5068e 2 (some .char) { frames := 3, cells := 0, slots := 0, locals := 64 } [.ref (gK G i0), .int x1] st Q := by
  refine MI.of (own := RJ0) (lo := 0) (hi := 17) hO hwin (by decide) rfl (Nat.le_of_ble_eq_true rfl) (fun p e s m args below meth c C hr hlk => ?_)
  refine g_lv (lv' := [(0, .ref (gK G i0)), (1, .int x1)]) rfl ?_
  unfold wp_J0_charAt_5068e at hw
  refine g_aload_n C 0 dJ0_charAt_5068e_0 rfl rfl ?_
  refine g_callVi C (c_J0_isLatin1_aae02 (Q := fun r s1 => r = 1 ∧ Q (chSx i0 x1.toNatClampNeg) s1) l G hO hwin hi ⟨rfl, hw.2⟩) kJ0_isLatin1_aae02 tw_150 (Rv.str C hi) rfl rfl ⟨Nat.le_of_ble_eq_true rfl, Nat.le_of_ble_eq_true rfl⟩ (As := []) (rest := []) rfl rfl (Nat.le_of_ble_eq_true rfl) dJ0_charAt_5068e_1 ⟨Nat.le_of_ble_eq_true rfl, Nat.le_of_ble_eq_true rfl⟩ (fun r s1 hq => ?_)
  obtain ⟨rfl, hq⟩ := hq
  refine g_if_eq C 16 dJ0_charAt_5068e_4 (by decide) (fun h => absurd h (by decide)) (fun h => ?_)
  refine g_aload_n C 0 dJ0_charAt_5068e_7 rfl rfl ?_
  refine g_sget C (fun h => (h.str hi).2.1) tw_891 dJ0_charAt_5068e_8 ?_
  refine g_iload_n C 1 dJ0_charAt_5068e_11 rfl rfl ?_
  refine g_callSi C (c_J1_charAt_3b067 (Q := fun r s2 => r = chSx i0 x1.toNatClampNeg ∧ Q r s2) l G hO hwin hi ⟨⟨hw.1, vp_in_lt (lenSx_lt i0 hi) hw.1⟩, rfl, hq⟩) kJ1_charAt_3b067 tw_154 rfl rfl ⟨Nat.le_of_ble_eq_true rfl, Nat.le_of_ble_eq_true rfl⟩ (As := [.ref (gV G i0), .int x1]) (rest := []) rfl rfl (Nat.le_of_ble_eq_true rfl) dJ0_charAt_5068e_12 ⟨Nat.le_of_ble_eq_true rfl, Nat.le_of_ble_eq_true rfl⟩ (fun r s2 hq => ?_)
  exact g_zret C hr hlk (by rw [hq.1]; exact chSx_nar i0 x1.toNatClampNeg) hq.2 dJ0_charAt_5068e_15
