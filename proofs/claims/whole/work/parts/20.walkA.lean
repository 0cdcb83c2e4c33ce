set_option maxHeartbeats 4000000 in
set_option maxRecDepth 100000 in
theorem c_J6_bitCount_0f7a4 (l : Launch) (G : Gp) (hO : gOK G) (hwin : ∀ k, 0 ≤ k → k < 17 → k ∈ gks G) {x0 : Int32}  {st : St} {Q : Int32 → St → Prop} (hw : wp_J6_bitCount_0f7a4 x0 st Q) : MI l G yJ6_bitCount_0f7a4 cJ6_bitCount_0f7a4 1 (some .int) { frames := 0, cells := 0, slots := 0, locals := 0 } [.int x0] st Q := by
  refine MI.of (own := RJ6) (lo := 0) (hi := 17) hO hwin (by decide) rfl (Nat.le_of_ble_eq_true rfl) (fun p e s m args below meth c C hr hlk => ?_)
  refine g_lv (lv' := [(0, .int x0)]) rfl ?_
  unfold wp_J6_bitCount_0f7a4 at hw
  refine g_iload_n C 0 dJ6_bitCount_0f7a4_0 rfl rfl ?_
  refine g_iload_n C 0 dJ6_bitCount_0f7a4_1 rfl rfl ?_
  refine g_iconst C (1 : Int32) dJ6_bitCount_0f7a4_2 (by decide) ?_
  refine g_iushr C dJ6_bitCount_0f7a4_3 ?_
  refine g_ldcw C (1431655765 : Int32) tw_484 dJ6_bitCount_0f7a4_4 ?_
  refine g_iand C dJ6_bitCount_0f7a4_7 ?_
  refine g_isub C dJ6_bitCount_0f7a4_8 ?_
  refine g_topi (fun x0_1 ex0_1 => ?_)
  replace hw := hw x0_1 ex0_1
  refine g_istore_n C dJ6_bitCount_0f7a4_9 rfl (by decide) (lv' := [(0, .int x0_1)]) rfl ?_
  refine g_iload_n C 0 dJ6_bitCount_0f7a4_10 rfl rfl ?_
  refine g_ldcw C (858993459 : Int32) tw_485 dJ6_bitCount_0f7a4_11 ?_
  refine g_iand C dJ6_bitCount_0f7a4_14 ?_
  refine g_iload_n C 0 dJ6_bitCount_0f7a4_15 rfl rfl ?_
  refine g_iconst C (2 : Int32) dJ6_bitCount_0f7a4_16 (by decide) ?_
  refine g_iushr C dJ6_bitCount_0f7a4_17 ?_
  refine g_ldcw C (858993459 : Int32) tw_485 dJ6_bitCount_0f7a4_18 ?_
  refine g_iand C dJ6_bitCount_0f7a4_21 ?_
  refine g_iadd C dJ6_bitCount_0f7a4_22 ?_
  refine g_topi (fun x0_2 ex0_2 => ?_)
  replace hw := hw x0_2 ex0_2
  refine g_istore_n C dJ6_bitCount_0f7a4_23 rfl (by decide) (lv' := [(0, .int x0_2)]) rfl ?_
  refine g_iload_n C 0 dJ6_bitCount_0f7a4_24 rfl rfl ?_
  refine g_iload_n C 0 dJ6_bitCount_0f7a4_25 rfl rfl ?_
  refine g_iconst C (4 : Int32) dJ6_bitCount_0f7a4_26 (by decide) ?_
  refine g_iushr C dJ6_bitCount_0f7a4_27 ?_
  refine g_iadd C dJ6_bitCount_0f7a4_28 ?_
  refine g_ldcw C (252645135 : Int32) tw_486 dJ6_bitCount_0f7a4_29 ?_
  refine g_iand C dJ6_bitCount_0f7a4_32 ?_
  refine g_topi (fun x0_3 ex0_3 => ?_)
  replace hw := hw x0_3 ex0_3
  refine g_istore_n C dJ6_bitCount_0f7a4_33 rfl (by decide) (lv' := [(0, .int x0_3)]) rfl ?_
  refine g_iload_n C 0 dJ6_bitCount_0f7a4_34 rfl rfl ?_
  refine g_iload_n C 0 dJ6_bitCount_0f7a4_35 rfl rfl ?_
  refine g_bipush C (8 : Int32) dJ6_bitCount_0f7a4_36 (by decide) ?_
  refine g_iushr C dJ6_bitCount_0f7a4_38 ?_
  refine g_iadd C dJ6_bitCount_0f7a4_39 ?_
  refine g_topi (fun x0_4 ex0_4 => ?_)
  replace hw := hw x0_4 ex0_4
  refine g_istore_n C dJ6_bitCount_0f7a4_40 rfl (by decide) (lv' := [(0, .int x0_4)]) rfl ?_
  refine g_iload_n C 0 dJ6_bitCount_0f7a4_41 rfl rfl ?_
  refine g_iload_n C 0 dJ6_bitCount_0f7a4_42 rfl rfl ?_
  refine g_bipush C (16 : Int32) dJ6_bitCount_0f7a4_43 (by decide) ?_
  refine g_iushr C dJ6_bitCount_0f7a4_45 ?_
  refine g_iadd C dJ6_bitCount_0f7a4_46 ?_
  refine g_topi (fun x0_5 ex0_5 => ?_)
  replace hw := hw x0_5 ex0_5
  refine g_istore_n C dJ6_bitCount_0f7a4_47 rfl (by decide) (lv' := [(0, .int x0_5)]) rfl ?_
  refine g_iload_n C 0 dJ6_bitCount_0f7a4_48 rfl rfl ?_
  refine g_bipush C (63 : Int32) dJ6_bitCount_0f7a4_49 (by decide) ?_
  refine g_iand C dJ6_bitCount_0f7a4_51 ?_
  exact g_iret C hr hlk hw dJ6_bitCount_0f7a4_52

set_option maxHeartbeats 4000000 in
set_option maxRecDepth 100000 in
theorem c_J6_lowestOneBit_0f7a4 (l : Launch) (G : Gp) (hO : gOK G) (hwin : ∀ k, 0 ≤ k → k < 17 → k ∈ gks G) {x0 : Int32}  {st : St} {Q : Int32 → St → Prop} (hw : wp_J6_lowestOneBit_0f7a4 x0 st Q) : MI l G yJ6_lowestOneBit_0f7a4 cJ6_lowestOneBit_0f7a4 1 (some .int) { frames := 0, cells := 0, slots := 0, locals := 0 } [.int x0] st Q := by
  refine MI.of (own := RJ6) (lo := 0) (hi := 17) hO hwin (by decide) rfl (Nat.le_of_ble_eq_true rfl) (fun p e s m args below meth c C hr hlk => ?_)
  refine g_lv (lv' := [(0, .int x0)]) rfl ?_
  unfold wp_J6_lowestOneBit_0f7a4 at hw
  refine g_iload_n C 0 dJ6_lowestOneBit_0f7a4_0 rfl rfl ?_
  refine g_iload_n C 0 dJ6_lowestOneBit_0f7a4_1 rfl rfl ?_
  refine g_ineg C dJ6_lowestOneBit_0f7a4_2 ?_
  refine g_iand C dJ6_lowestOneBit_0f7a4_3 ?_
  exact g_iret C hr hlk hw dJ6_lowestOneBit_0f7a4_4

set_option maxHeartbeats 4000000 in
set_option maxRecDepth 100000 in
theorem c_J6_numberOfLeadingZeros_0f7a4 (l : Launch) (G : Gp) (hO : gOK G) (hwin : ∀ k, 0 ≤ k → k < 17 → k ∈ gks G) {x0 : Int32}  {st : St} {Q : Int32 → St → Prop} (hw : wp_J6_numberOfLeadingZeros_0f7a4 x0 st Q) : MI l G yJ6_numberOfLeadingZeros_0f7a4 cJ6_numberOfLeadingZeros_0f7a4 2 (some .int) { frames := 0, cells := 0, slots := 0, locals := 0 } [.int x0] st Q := by
  refine MI.of (own := RJ6) (lo := 0) (hi := 17) hO hwin (by decide) rfl (Nat.le_of_ble_eq_true rfl) (fun p e s m args below meth c C hr hlk => ?_)
  refine g_lv (lv' := [(0, .int x0)]) rfl ?_
  unfold wp_J6_numberOfLeadingZeros_0f7a4 at hw
  obtain ⟨P33, hP33⟩ : ∃ P : Int32 → Int32 → St → Prop, P = fun x0 x1 st => WG p l e ({ frames := 0, cells := 0, slots := 0, locals := 0 } : Room) s m args below meth c 0 0 (MQ below (va_Qi Q (gB G) (gA G)) args s 0 0 (gA G)) G 2 33 [(0, .int x0), (1, .int x1)] [] st := ⟨_, rfl⟩
  obtain ⟨P48, hP48⟩ : ∃ P : Int32 → Int32 → St → Prop, P = fun x0 x1 st => WG p l e ({ frames := 0, cells := 0, slots := 0, locals := 0 } : Room) s m args below meth c 0 0 (MQ below (va_Qi Q (gB G) (gA G)) args s 0 0 (gA G)) G 2 48 [(0, .int x0), (1, .int x1)] [] st := ⟨_, rfl⟩
  obtain ⟨P61, hP61⟩ : ∃ P : Int32 → Int32 → St → Prop, P = fun x0 x1 st => WG p l e ({ frames := 0, cells := 0, slots := 0, locals := 0 } : Room) s m args below meth c 0 0 (MQ below (va_Qi Q (gB G) (gA G)) args s 0 0 (gA G)) G 2 61 [(0, .int x0), (1, .int x1)] [] st := ⟨_, rfl⟩
  obtain ⟨P73, hP73⟩ : ∃ P : Int32 → Int32 → St → Prop, P = fun x0 x1 st => WG p l e ({ frames := 0, cells := 0, slots := 0, locals := 0 } : Room) s m args below meth c 0 0 (MQ below (va_Qi Q (gB G) (gA G)) args s 0 0 (gA G)) G 2 73 [(0, .int x0), (1, .int x1)] [] st := ⟨_, rfl⟩
  replace hw := hw P33 P48 P61 P73
  replace hw := hw (by
    intro x0 x1 st hw
    rw [hP33]
    refine g_iload_n C 0 dJ6_numberOfLeadingZeros_0f7a4_33 rfl rfl ?_
    refine g_sipush C (256 : Int32) dJ6_numberOfLeadingZeros_0f7a4_34 (by decide) ?_
    refine g_icmp_lt C 48 dJ6_numberOfLeadingZeros_0f7a4_37 (by decide) (fun c_3 => ?_) (fun c_3 => ?_)
    · replace hw := hw.1 c_3
      rw [hP48] at hw
      exact g_perm [0, 1] rfl (hw)
    · replace hw := hw.2 c_3
      obtain ⟨x1_1, ex1_1⟩ : ∃ z : Int32, z = x1 + (-8 : Int32) := ⟨_, rfl⟩
      replace hw := hw x1_1 ex1_1
      refine g_iinc C x1_1 1 dJ6_numberOfLeadingZeros_0f7a4_40 rfl ex1_1.symm (by decide) (lv' := [(1, .int x1_1), (0, .int x0)]) rfl ?_
      refine g_iload_n C 1 dJ6_numberOfLeadingZeros_0f7a4_43 rfl rfl ?_
      refine g_bipush C (8 : Int32) dJ6_numberOfLeadingZeros_0f7a4_44 (by decide) ?_
      refine g_iushr C dJ6_numberOfLeadingZeros_0f7a4_46 ?_
      refine g_topi (fun x0_2 ex0_2 => ?_)
      replace hw := hw x0_2 ex0_2
      refine g_istore_n C dJ6_numberOfLeadingZeros_0f7a4_47 rfl (by decide) (lv' := [(0, .int x0_2), (1, .int x1_1)]) rfl ?_
      rw [hP48] at hw
      exact g_perm [0, 1] rfl (hw))
  replace hw := hw (by
    intro x0 x1 st hw
    rw [hP48]
    refine g_iload_n C 0 dJ6_numberOfLeadingZeros_0f7a4_48 rfl rfl ?_
    refine g_bipush C (16 : Int32) dJ6_numberOfLeadingZeros_0f7a4_49 (by decide) ?_
    refine g_icmp_lt C 61 dJ6_numberOfLeadingZeros_0f7a4_51 (by decide) (fun c_6 => ?_) (fun c_6 => ?_)
    · replace hw := hw.1 c_6
      rw [hP61] at hw
      exact g_perm [0, 1] rfl (hw)
    · replace hw := hw.2 c_6
      obtain ⟨x1_4, ex1_4⟩ : ∃ z : Int32, z = x1 + (-4 : Int32) := ⟨_, rfl⟩
      replace hw := hw x1_4 ex1_4
      refine g_iinc C x1_4 1 dJ6_numberOfLeadingZeros_0f7a4_54 rfl ex1_4.symm (by decide) (lv' := [(1, .int x1_4), (0, .int x0)]) rfl ?_
      refine g_iload_n C 1 dJ6_numberOfLeadingZeros_0f7a4_57 rfl rfl ?_
      refine g_iconst C (4 : Int32) dJ6_numberOfLeadingZeros_0f7a4_58 (by decide) ?_
      refine g_iushr C dJ6_numberOfLeadingZeros_0f7a4_59 ?_
      refine g_topi (fun x0_5 ex0_5 => ?_)
      replace hw := hw x0_5 ex0_5
      refine g_istore_n C dJ6_numberOfLeadingZeros_0f7a4_60 rfl (by decide) (lv' := [(0, .int x0_5), (1, .int x1_4)]) rfl ?_
      rw [hP61] at hw
      exact g_perm [0, 1] rfl (hw))
  replace hw := hw (by
    intro x0 x1 st hw
    rw [hP61]
    refine g_iload_n C 0 dJ6_numberOfLeadingZeros_0f7a4_61 rfl rfl ?_
    refine g_iconst C (4 : Int32) dJ6_numberOfLeadingZeros_0f7a4_62 (by decide) ?_
    refine g_icmp_lt C 73 dJ6_numberOfLeadingZeros_0f7a4_63 (by decide) (fun c_9 => ?_) (fun c_9 => ?_)
    · replace hw := hw.1 c_9
      rw [hP73] at hw
      exact g_perm [0, 1] rfl (hw)
    · replace hw := hw.2 c_9
      obtain ⟨x1_7, ex1_7⟩ : ∃ z : Int32, z = x1 + (-2 : Int32) := ⟨_, rfl⟩
      replace hw := hw x1_7 ex1_7
      refine g_iinc C x1_7 1 dJ6_numberOfLeadingZeros_0f7a4_66 rfl ex1_7.symm (by decide) (lv' := [(1, .int x1_7), (0, .int x0)]) rfl ?_
      refine g_iload_n C 1 dJ6_numberOfLeadingZeros_0f7a4_69 rfl rfl ?_
      refine g_iconst C (2 : Int32) dJ6_numberOfLeadingZeros_0f7a4_70 (by decide) ?_
      refine g_iushr C dJ6_numberOfLeadingZeros_0f7a4_71 ?_
      refine g_topi (fun x0_8 ex0_8 => ?_)
      replace hw := hw x0_8 ex0_8
      refine g_istore_n C dJ6_numberOfLeadingZeros_0f7a4_72 rfl (by decide) (lv' := [(0, .int x0_8), (1, .int x1_7)]) rfl ?_
      rw [hP73] at hw
      exact g_perm [0, 1] rfl (hw))
  replace hw := hw (by
    intro x0 x1 st hw
    rw [hP73]
    refine g_iload_n C 1 dJ6_numberOfLeadingZeros_0f7a4_73 rfl rfl ?_
    refine g_iload_n C 0 dJ6_numberOfLeadingZeros_0f7a4_74 rfl rfl ?_
    refine g_iconst C (1 : Int32) dJ6_numberOfLeadingZeros_0f7a4_75 (by decide) ?_
    refine g_iushr C dJ6_numberOfLeadingZeros_0f7a4_76 ?_
    refine g_isub C dJ6_numberOfLeadingZeros_0f7a4_77 ?_
    exact g_iret C hr hlk hw dJ6_numberOfLeadingZeros_0f7a4_78)
  refine g_iload_n C 0 dJ6_numberOfLeadingZeros_0f7a4_0 rfl rfl ?_
  refine g_if_gt C 15 dJ6_numberOfLeadingZeros_0f7a4_1 (by decide) (fun c_14 => ?_) (fun c_14 => ?_)
  · replace hw := hw.1 c_14
    refine g_bipush C (31 : Int32) dJ6_numberOfLeadingZeros_0f7a4_15 (by decide) ?_
    refine g_istore_n C dJ6_numberOfLeadingZeros_0f7a4_17 rfl (by decide) (lv' := [(1, .int (31 : Int32)), (0, .int x0)]) rfl ?_
    refine g_iload_n C 1 dJ6_numberOfLeadingZeros_0f7a4_18 rfl rfl ?_
    refine g_ldcw C (65536 : Int32) tw_554 dJ6_numberOfLeadingZeros_0f7a4_19 ?_
    refine g_icmp_lt C 33 dJ6_numberOfLeadingZeros_0f7a4_22 (by decide) (fun c_12 => ?_) (fun c_12 => ?_)
    · replace hw := hw.1 c_12
      rw [hP33] at hw
      exact g_perm [1, 0] rfl (hw)
    · replace hw := hw.2 c_12
      obtain ⟨x1_10, ex1_10⟩ : ∃ z : Int32, z = (31 : Int32) + (-16 : Int32) := ⟨_, rfl⟩
      replace hw := hw x1_10 ex1_10
      refine g_iinc C x1_10 0 dJ6_numberOfLeadingZeros_0f7a4_25 rfl ex1_10.symm (by decide) (lv' := [(1, .int x1_10), (0, .int x0)]) rfl ?_
      refine g_iload_n C 1 dJ6_numberOfLeadingZeros_0f7a4_28 rfl rfl ?_
      refine g_bipush C (16 : Int32) dJ6_numberOfLeadingZeros_0f7a4_29 (by decide) ?_
      refine g_iushr C dJ6_numberOfLeadingZeros_0f7a4_31 ?_
      refine g_topi (fun x0_11 ex0_11 => ?_)
      replace hw := hw x0_11 ex0_11
      refine g_istore_n C dJ6_numberOfLeadingZeros_0f7a4_32 rfl (by decide) (lv' := [(0, .int x0_11), (1, .int x1_10)]) rfl ?_
      rw [hP33] at hw
      exact g_perm [0, 1] rfl (hw)
  · replace hw := hw.2 c_14
    refine g_iload_n C 0 dJ6_numberOfLeadingZeros_0f7a4_4 rfl rfl ?_
    refine g_if_ne C 13 dJ6_numberOfLeadingZeros_0f7a4_5 (by decide) (fun c_13 => ?_) (fun c_13 => ?_)
    · replace hw := hw.2 c_13
      refine g_iconst C (0 : Int32) dJ6_numberOfLeadingZeros_0f7a4_13 (by decide) ?_
      exact g_iret C hr hlk hw dJ6_numberOfLeadingZeros_0f7a4_14
    · replace hw := hw.1 c_13
      refine g_bipush C (32 : Int32) dJ6_numberOfLeadingZeros_0f7a4_8 (by decide) ?_
      refine g_goto C 14 dJ6_numberOfLeadingZeros_0f7a4_10 (by decide) ?_
      exact g_iret C hr hlk hw dJ6_numberOfLeadingZeros_0f7a4_14

set_option maxHeartbeats 4000000 in
set_option maxRecDepth 100000 in
theorem c_J7_fill_53178 (l : Launch) (G : Gp) (hO : gOK G) (hwin : ∀ k, 0 ≤ k → k < 17 → k ∈ gks G) {k0 : Nat} {x1 : Int32} (hk0 : isPol k0) {st : St} {Q : St → Prop} (hw : wp_J7_fill_53178 k0 x1 st Q) : MV l G yJ7_fill_53178 cJ7_fill_53178 4 { frames := 0, cells := 0, slots := 0, locals := 0 } [.ref (gh G (k0 + 1)), .int x1] st Q := by
  refine MV.of (own := RJ7) (lo := 0) (hi := 17) hO hwin (by decide) rfl (Nat.le_of_ble_eq_true rfl) (fun p e s m args below meth c C hr hlk => ?_)
  refine g_lv (lv' := [(0, .ref (gh G (k0 + 1))), (1, .int x1)]) rfl ?_
  unfold wp_J7_fill_53178 at hw
  obtain ⟨P5, hP5⟩ : ∃ P : Int32 → Int32 → St → Prop, P = fun x2 x3 st => WG p l e ({ frames := 0, cells := 0, slots := 0, locals := 0 } : Room) s m args below meth c 0 0 (MQ below (va_Qv Q (gB G) (gA G)) args s 0 0 (gA G)) G 4 5 [(0, .ref (gh G (k0 + 1))), (1, .int x1), (2, .int x2), (3, .int x3)] [] st := ⟨_, rfl⟩
  replace hw := hw P5
  replace hw := hw (by
    intro x2 x3 st hw
    rw [hP5]
    refine g_iload_n C 2 dJ7_fill_53178_5 rfl rfl ?_
    refine g_iload_n C 3 dJ7_fill_53178_6 rfl rfl ?_
    refine g_icmp_ge C 20 dJ7_fill_53178_7 (by decide) (fun c_2 => ?_) (fun c_2 => ?_)
    · replace hw := hw.1 c_2
      exact g_vret C hr hlk hw dJ7_fill_53178_20
    · replace hw := hw.2 c_2
      refine g_aload_n C 0 dJ7_fill_53178_10 rfl rfl ?_
      refine g_iload_n C 2 dJ7_fill_53178_11 rfl rfl ?_
      refine g_iload_n C 1 dJ7_fill_53178_12 rfl rfl ?_
      refine g_iast C (C.row hk0) (isPol.row hk0 G) hw.1 dJ7_fill_53178_13 ?_
      replace hw := hw.2
      obtain ⟨x2_1, ex2_1⟩ : ∃ z : Int32, z = x2 + (1 : Int32) := ⟨_, rfl⟩
      replace hw := hw x2_1 ex2_1
      refine g_iinc C x2_1 2 dJ7_fill_53178_14 rfl ex2_1.symm (by decide) (lv' := [(2, .int x2_1), (0, .ref (gh G (k0 + 1))), (1, .int x1), (3, .int x3)]) rfl ?_
      refine g_goto C 5 dJ7_fill_53178_17 (by decide) ?_
      rw [hP5] at hw
      exact g_perm [1, 2, 0, 3] rfl (hw))
  refine g_iconst C (0 : Int32) dJ7_fill_53178_0 (by decide) ?_
  refine g_istore_n C dJ7_fill_53178_1 rfl (by decide) (lv' := [(2, .int (0 : Int32)), (0, .ref (gh G (k0 + 1))), (1, .int x1)]) rfl ?_
  refine g_aload_n C 1 dJ7_fill_53178_2 rfl rfl ?_
  refine g_alen (t0 := 0) C (C.row hk0) (25 : Int32) (isPol.row hk0 G _) rfl rfl dJ7_fill_53178_3 ?_
  refine g_istore_n C dJ7_fill_53178_4 rfl (by decide) (lv' := [(3, .int (25 : Int32)), (2, .int (0 : Int32)), (0, .ref (gh G (k0 + 1))), (1, .int x1)]) rfl ?_
  rw [hP5] at hw
  exact g_perm [2, 3, 1, 0] rfl (hw)

set_option maxHeartbeats 4000000 in
set_option maxRecDepth 100000 in
theorem c_X1_size (l : Launch) (G : Gp) (hO : gOK G) (hwin : ∀ k, 0 ≤ k → k < 17 → k ∈ gks G) {k0 : Nat} (hk0 : isPol k0) {st : St} {Q : Int32 → St → Prop} (hw : wp_X1_size k0 st Q) : MI l G yX1_size cX1_size 1 (some .int) { frames := 0, cells := 0, slots := 0, locals := 0 } [.ref (gh G k0)] st Q := by
  refine MI.of (own := RX1) (lo := 0) (hi := 17) hO hwin (by decide) rfl (Nat.le_of_ble_eq_true rfl) (fun p e s m args below meth c C hr hlk => ?_)
  refine g_lv (lv' := [(0, .ref (gh G k0))]) rfl ?_
  unfold wp_X1_size at hw
  refine g_aload_n C 0 dX1_size_0 rfl rfl ?_
  refine g_get C inX1 (C.pol hk0) (isPol.cell hk0 G _) rfl 1 (by decide) tw_64 rfl dX1_size_1 ?_
  exact g_iret C hr hlk hw dX1_size_4

set_option maxHeartbeats 4000000 in
set_option maxRecDepth 100000 in
theorem c_X1_algorithm (l : Launch) (G : Gp) (hO : gOK G) (hwin : ∀ k, 0 ≤ k → k < 17 → k ∈ gks G) {k0 : Nat} (hk0 : isPol k0) {st : St} {Q : Int32 → St → Prop} (hw : wp_X1_algorithm k0 st Q) : MI l G yX1_algorithm cX1_algorithm 1 (some .int) { frames := 0, cells := 0, slots := 0, locals := 0 } [.ref (gh G k0)] st Q := by
  refine MI.of (own := RX1) (lo := 0) (hi := 17) hO hwin (by decide) rfl (Nat.le_of_ble_eq_true rfl) (fun p e s m args below meth c C hr hlk => ?_)
  refine g_lv (lv' := [(0, .ref (gh G k0))]) rfl ?_
  unfold wp_X1_algorithm at hw
  refine g_aload_n C 0 dX1_algorithm_0 rfl rfl ?_
  refine g_get C inX1 (C.pol hk0) (isPol.cell hk0 G _) rfl 2 (by decide) tw_65 rfl dX1_algorithm_1 ?_
  exact g_iret C hr hlk hw dX1_algorithm_4

set_option maxHeartbeats 4000000 in
set_option maxRecDepth 100000 in
theorem c_X1_use (l : Launch) (G : Gp) (hO : gOK G) (hwin : ∀ k, 0 ≤ k → k < 17 → k ∈ gks G) {k0 : Nat} {x1 : Int32} (hk0 : isPol k0) {st : St} {Q : St → Prop} (hw : wp_X1_use k0 x1 st Q) : MV l G yX1_use cX1_use 2 { frames := 0, cells := 0, slots := 0, locals := 0 } [.ref (gh G k0), .int x1] st Q := by
  refine MV.of (own := RX1) (lo := 0) (hi := 17) hO hwin (by decide) rfl (Nat.le_of_ble_eq_true rfl) (fun p e s m args below meth c C hr hlk => ?_)
  refine g_lv (lv' := [(0, .ref (gh G k0)), (1, .int x1)]) rfl ?_
  unfold wp_X1_use at hw
  refine g_aload_n C 0 dX1_use_0 rfl rfl ?_
  refine g_iload_n C 1 dX1_use_1 rfl rfl ?_
  refine g_put (ty := .int) x1 C inX1 tyX1_ok nmX1 (C.pol hk0) (isPol.cell hk0 G _) rfl 2 (by decide) tw_65 rfl (by decide +kernel) rfl rfl (Nat.le_of_ble_eq_true rfl) (isPol.cell hk0 G _) dX1_use_2 ?_
  exact g_vret C hr hlk hw dX1_use_5

set_option maxHeartbeats 4000000 in
set_option maxRecDepth 100000 in
theorem c_X1_empty (l : Launch) (G : Gp) (hO : gOK G) (hwin : ∀ k, 0 ≤ k → k < 17 → k ∈ gks G) {k0 : Nat} (hk0 : isPol k0) {st : St} {Q : St → Prop} (hw : wp_X1_empty k0 st Q) : MV l G yX1_empty cX1_empty 1 { frames := 1, cells := 0, slots := 0, locals := 23 } [.ref (gh G k0)] st Q := by
  refine MV.of (own := RX1) (lo := 0) (hi := 17) hO hwin (by decide) rfl (Nat.le_of_ble_eq_true rfl) (fun p e s m args below meth c C hr hlk => ?_)
  refine g_lv (lv' := [(0, .ref (gh G k0))]) rfl ?_
  unfold wp_X1_empty at hw
  refine g_aload_n C 0 dX1_empty_0 rfl rfl ?_
  refine g_get C inX1 (C.pol hk0) (isPol.cell hk0 G _) rfl 0 (by decide) tw_63 rfl dX1_empty_1 ?_
  refine g_iconst C (0 : Int32) dX1_empty_4 (by decide) ?_
  refine g_callSv C (c_J7_fill_53178 l G hO hwin hk0 hw) kJ7_fill_53178 tw_196 rfl rfl ⟨Nat.le_of_ble_eq_true rfl, Nat.le_of_ble_eq_true rfl⟩ (As := [.ref (gh G (k0 + 1)), .int (0 : Int32)]) (rest := []) rfl rfl (Nat.le_of_ble_eq_true rfl) dX1_empty_5 ⟨Nat.le_of_ble_eq_true rfl, Nat.le_of_ble_eq_true rfl⟩ (fun s_1 hw => ?_)
  refine g_aload_n C 0 dX1_empty_8 rfl rfl ?_
  refine g_iconst C (0 : Int32) dX1_empty_9 (by decide) ?_
  refine g_put (ty := .int) (0 : Int32) C inX1 tyX1_ok nmX1 (C.pol hk0) (isPol.cell hk0 G _) rfl 1 (by decide) tw_64 rfl (by decide +kernel) rfl rfl (Nat.le_of_ble_eq_true rfl) (isPol.cell hk0 G _) dX1_empty_10 ?_
  refine g_aload_n C 0 dX1_empty_13 rfl rfl ?_
  refine g_iconst C (0 : Int32) dX1_empty_14 (by decide) ?_
  refine g_put (ty := .int) (0 : Int32) C inX1 tyX1_ok nmX1 (C.pol hk0) (isPol.cell hk0 G _) rfl 2 (by decide) tw_65 rfl (by decide +kernel) rfl rfl (Nat.le_of_ble_eq_true rfl) (isPol.cell hk0 G _) dX1_empty_15 ?_
  exact g_vret C hr hlk hw dX1_empty_18

set_option maxHeartbeats 4000000 in
set_option maxRecDepth 100000 in
theorem c_X1_copyFrom (l : Launch) (G : Gp) (hO : gOK G) (hwin : ∀ k, 0 ≤ k → k < 17 → k ∈ gks G) {k0 : Nat} {k1 : Nat} (hk0 : isPol k0) (hk1 : isPol k1) {st : St} {Q : St → Prop} (hw : wp_X1_copyFrom k0 k1 st Q) : MV l G yX1_copyFrom cX1_copyFrom 2 { frames := 1, cells := 0, slots := 0, locals := 18 } [.ref (gh G k0), .ref (gh G k1)] st Q := by
  refine MV.of (own := RX1) (lo := 0) (hi := 17) hO hwin (by decide) rfl (Nat.le_of_ble_eq_true rfl) (fun p e s m args below meth c C hr hlk => ?_)
  refine g_lv (lv' := [(0, .ref (gh G k0)), (1, .ref (gh G k1))]) rfl ?_
  unfold wp_X1_copyFrom at hw
  refine g_aload_n C 1 dX1_copyFrom_0 rfl rfl ?_
  refine g_get C inX1 (C.pol hk1) (isPol.cell hk1 G _) rfl 0 (by decide) tw_63 rfl dX1_copyFrom_1 ?_
  refine g_iconst C (0 : Int32) dX1_copyFrom_4 (by decide) ?_
  refine g_aload_n C 0 dX1_copyFrom_5 rfl rfl ?_
  refine g_get C inX1 (C.pol hk0) (isPol.cell hk0 G _) rfl 0 (by decide) tw_63 rfl dX1_copyFrom_6 ?_
  refine g_iconst C (0 : Int32) dX1_copyFrom_9 (by decide) ?_
  refine g_bipush C (25 : Int32) dX1_copyFrom_10 (by decide) ?_
  refine g_copy C tw_278 kCopy (C.row hk1) (C.row hk0) (isPol.row hk1 G) (isPol.row hk0 G) hw.1 (by decide) (by decide) dX1_copyFrom_12 ?_
  replace hw := hw.2
  refine g_aload_n C 0 dX1_copyFrom_15 rfl rfl ?_
  refine g_aload_n C 1 dX1_copyFrom_16 rfl rfl ?_
  refine g_get C inX1 (C.pol hk1) (isPol.cell hk1 G _) rfl 1 (by decide) tw_64 rfl dX1_copyFrom_17 ?_
  refine g_put (ty := .int) ((upR st (k0 + 1) (va_cpy (st (k1 + 1)) (st (k0 + 1)) (0 : Int32).toNatClampNeg (0 : Int32).toNatClampNeg (25 : Int32).toNatClampNeg)) k1 1) C inX1 tyX1_ok nmX1 (C.pol hk0) (isPol.cell hk0 G _) rfl 1 (by decide) tw_64 rfl (by decide +kernel) rfl rfl (Nat.le_of_ble_eq_true rfl) (isPol.cell hk0 G _) dX1_copyFrom_20 ?_
  refine g_aload_n C 0 dX1_copyFrom_23 rfl rfl ?_
  refine g_aload_n C 1 dX1_copyFrom_24 rfl rfl ?_
  refine g_get C inX1 (C.pol hk1) (isPol.cell hk1 G _) rfl 2 (by decide) tw_65 rfl dX1_copyFrom_25 ?_
  refine g_put (ty := .int) ((up2 (upR st (k0 + 1) (va_cpy (st (k1 + 1)) (st (k0 + 1)) (0 : Int32).toNatClampNeg (0 : Int32).toNatClampNeg (25 : Int32).toNatClampNeg)) k0 1 ((upR st (k0 + 1) (va_cpy (st (k1 + 1)) (st (k0 + 1)) (0 : Int32).toNatClampNeg (0 : Int32).toNatClampNeg (25 : Int32).toNatClampNeg)) k1 1)) k1 2) C inX1 tyX1_ok nmX1 (C.pol hk0) (isPol.cell hk0 G _) rfl 2 (by decide) tw_65 rfl (by decide +kernel) rfl rfl (Nat.le_of_ble_eq_true rfl) (isPol.cell hk0 G _) dX1_copyFrom_28 ?_
  exact g_vret C hr hlk hw dX1_copyFrom_31

set_option maxHeartbeats 4000000 in
set_option maxRecDepth 100000 in
theorem c_X1_saveInto (l : Launch) (G : Gp) (hO : gOK G) (hwin : ∀ k, 0 ≤ k → k < 17 → k ∈ gks G) {k0 : Nat} {x2 : Int32} (hk0 : isPol k0) {st : St} {Q : St → Prop} (hw : wp_X1_saveInto k0 x2 st Q) : MV l G yX1_saveInto cX1_saveInto 3 { frames := 1, cells := 0, slots := 0, locals := 18 } [.ref (gh G k0), .ref (gh G 13), .int x2] st Q := by
  refine MV.of (own := RX1) (lo := 0) (hi := 17) hO hwin (by decide) rfl (Nat.le_of_ble_eq_true rfl) (fun p e s m args below meth c C hr hlk => ?_)
  refine g_lv (lv' := [(0, .ref (gh G k0)), (1, .ref (gh G 13)), (2, .int x2)]) rfl ?_
  unfold wp_X1_saveInto at hw
  refine g_iload_n C 2 dX1_saveInto_0 rfl rfl ?_
  refine g_if_lt C 13 dX1_saveInto_1 (by decide) (fun c_2 => ?_) (fun c_2 => ?_)
  · replace hw := hw.1 c_2
    exact g_vret C hr hlk hw dX1_saveInto_13
  · replace hw := hw.2 c_2
    refine g_iload_n C 2 dX1_saveInto_4 rfl rfl ?_
    refine g_aload_n C 1 dX1_saveInto_5 rfl rfl ?_
    refine g_alen (t0 := 0) C (C.win (by decide) (by decide)) (108 : Int32) rfl rfl rfl dX1_saveInto_6 ?_
    refine g_bipush C (27 : Int32) dX1_saveInto_7 (by decide) ?_
    refine g_isub C dX1_saveInto_9 ?_
    refine g_icmp_le C 14 dX1_saveInto_10 (by decide) (fun c_1 => ?_) (fun c_1 => ?_)
    · replace hw := hw.1 c_1
      refine g_aload_n C 0 dX1_saveInto_14 rfl rfl ?_
      refine g_get C inX1 (C.pol hk0) (isPol.cell hk0 G _) rfl 0 (by decide) tw_63 rfl dX1_saveInto_15 ?_
      refine g_iconst C (0 : Int32) dX1_saveInto_18 (by decide) ?_
      refine g_aload_n C 1 dX1_saveInto_19 rfl rfl ?_
      refine g_iload_n C 2 dX1_saveInto_20 rfl rfl ?_
      refine g_bipush C (25 : Int32) dX1_saveInto_21 (by decide) ?_
      refine g_copy C tw_278 kCopy (C.row hk0) (C.win (by decide) (by decide)) (isPol.row hk0 G) (fun _ => rfl) hw.1 (by decide) (by decide) dX1_saveInto_23 ?_
      replace hw := hw.2
      refine g_aload_n C 1 dX1_saveInto_26 rfl rfl ?_
      refine g_iload_n C 2 dX1_saveInto_27 rfl rfl ?_
      refine g_bipush C (25 : Int32) dX1_saveInto_28 (by decide) ?_
      refine g_iadd C dX1_saveInto_30 ?_
      refine g_aload_n C 0 dX1_saveInto_31 rfl rfl ?_
      refine g_get C inX1 (C.pol hk0) (isPol.cell hk0 G _) rfl 1 (by decide) tw_64 rfl dX1_saveInto_32 ?_
      refine g_iast C (C.win (by decide) (by decide)) (fun _ => rfl) hw.1 dX1_saveInto_35 ?_
      replace hw := hw.2
      refine g_aload_n C 1 dX1_saveInto_36 rfl rfl ?_
      refine g_iload_n C 2 dX1_saveInto_37 rfl rfl ?_
      refine g_bipush C (25 : Int32) dX1_saveInto_38 (by decide) ?_
      refine g_iadd C dX1_saveInto_40 ?_
      refine g_iconst C (1 : Int32) dX1_saveInto_41 (by decide) ?_
      refine g_iadd C dX1_saveInto_42 ?_
      refine g_aload_n C 0 dX1_saveInto_43 rfl rfl ?_
      refine g_get C inX1 (C.pol hk0) (isPol.cell hk0 G _) rfl 2 (by decide) tw_65 rfl dX1_saveInto_44 ?_
      refine g_iast C (C.win (by decide) (by decide)) (fun _ => rfl) hw.1 dX1_saveInto_47 ?_
      replace hw := hw.2
      exact g_vret C hr hlk hw dX1_saveInto_48
    · replace hw := hw.2 c_1
      exact g_vret C hr hlk hw dX1_saveInto_13

set_option maxHeartbeats 4000000 in
set_option maxRecDepth 100000 in
theorem c_X1_restoreFrom (l : Launch) (G : Gp) (hO : gOK G) (hwin : ∀ k, 0 ≤ k → k < 17 → k ∈ gks G) {k0 : Nat} {x2 : Int32} (hk0 : isPol k0) {st : St} {Q : St → Prop} (hw : wp_X1_restoreFrom k0 x2 st Q) : MV l G yX1_restoreFrom cX1_restoreFrom 3 { frames := 1, cells := 0, slots := 0, locals := 18 } [.ref (gh G k0), .ref (gh G 13), .int x2] st Q := by
  refine MV.of (own := RX1) (lo := 0) (hi := 17) hO hwin (by decide) rfl (Nat.le_of_ble_eq_true rfl) (fun p e s m args below meth c C hr hlk => ?_)
  refine g_lv (lv' := [(0, .ref (gh G k0)), (1, .ref (gh G 13)), (2, .int x2)]) rfl ?_
  unfold wp_X1_restoreFrom at hw
  refine g_iload_n C 2 dX1_restoreFrom_0 rfl rfl ?_
  refine g_if_lt C 13 dX1_restoreFrom_1 (by decide) (fun c_2 => ?_) (fun c_2 => ?_)
  · replace hw := hw.1 c_2
    exact g_vret C hr hlk hw dX1_restoreFrom_13
  · replace hw := hw.2 c_2
    refine g_iload_n C 2 dX1_restoreFrom_4 rfl rfl ?_
    refine g_aload_n C 1 dX1_restoreFrom_5 rfl rfl ?_
    refine g_alen (t0 := 0) C (C.win (by decide) (by decide)) (108 : Int32) rfl rfl rfl dX1_restoreFrom_6 ?_
    refine g_bipush C (27 : Int32) dX1_restoreFrom_7 (by decide) ?_
    refine g_isub C dX1_restoreFrom_9 ?_
    refine g_icmp_le C 14 dX1_restoreFrom_10 (by decide) (fun c_1 => ?_) (fun c_1 => ?_)
    · replace hw := hw.1 c_1
      refine g_aload_n C 1 dX1_restoreFrom_14 rfl rfl ?_
      refine g_iload_n C 2 dX1_restoreFrom_15 rfl rfl ?_
      refine g_aload_n C 0 dX1_restoreFrom_16 rfl rfl ?_
      refine g_get C inX1 (C.pol hk0) (isPol.cell hk0 G _) rfl 0 (by decide) tw_63 rfl dX1_restoreFrom_17 ?_
      refine g_iconst C (0 : Int32) dX1_restoreFrom_20 (by decide) ?_
      refine g_bipush C (25 : Int32) dX1_restoreFrom_21 (by decide) ?_
      refine g_copy C tw_278 kCopy (C.win (by decide) (by decide)) (C.row hk0) (fun _ => rfl) (isPol.row hk0 G) hw.1 (by decide) (by decide) dX1_restoreFrom_23 ?_
      replace hw := hw.2
      refine g_aload_n C 0 dX1_restoreFrom_26 rfl rfl ?_
      refine g_aload_n C 1 dX1_restoreFrom_27 rfl rfl ?_
      refine g_iload_n C 2 dX1_restoreFrom_28 rfl rfl ?_
      refine g_bipush C (25 : Int32) dX1_restoreFrom_29 (by decide) ?_
      refine g_iadd C dX1_restoreFrom_31 ?_
      refine g_iald C (C.win (by decide) (by decide)) rfl hw.1 dX1_restoreFrom_32 ?_
      replace hw := hw.2
      refine g_put (ty := .int) ((upR st (k0 + 1) (va_cpy (st 13) (st (k0 + 1)) x2.toNatClampNeg (0 : Int32).toNatClampNeg (25 : Int32).toNatClampNeg)) 13 (x2 + (25 : Int32)).toNatClampNeg) C inX1 tyX1_ok nmX1 (C.pol hk0) (isPol.cell hk0 G _) rfl 1 (by decide) tw_64 rfl (by decide +kernel) rfl rfl (Nat.le_of_ble_eq_true rfl) (isPol.cell hk0 G _) dX1_restoreFrom_33 ?_
      refine g_aload_n C 0 dX1_restoreFrom_36 rfl rfl ?_
      refine g_aload_n C 1 dX1_restoreFrom_37 rfl rfl ?_
      refine g_iload_n C 2 dX1_restoreFrom_38 rfl rfl ?_
      refine g_bipush C (25 : Int32) dX1_restoreFrom_39 (by decide) ?_
      refine g_iadd C dX1_restoreFrom_41 ?_
      refine g_iconst C (1 : Int32) dX1_restoreFrom_42 (by decide) ?_
      refine g_iadd C dX1_restoreFrom_43 ?_
      refine g_iald C (C.win (by decide) (by decide)) rfl hw.1 dX1_restoreFrom_44 ?_
      replace hw := hw.2
      refine g_put (ty := .int) ((up2 (upR st (k0 + 1) (va_cpy (st 13) (st (k0 + 1)) x2.toNatClampNeg (0 : Int32).toNatClampNeg (25 : Int32).toNatClampNeg)) k0 1 ((upR st (k0 + 1) (va_cpy (st 13) (st (k0 + 1)) x2.toNatClampNeg (0 : Int32).toNatClampNeg (25 : Int32).toNatClampNeg)) 13 (x2 + (25 : Int32)).toNatClampNeg)) 13 ((x2 + (25 : Int32)) + (1 : Int32)).toNatClampNeg) C inX1 tyX1_ok nmX1 (C.pol hk0) (isPol.cell hk0 G _) rfl 2 (by decide) tw_65 rfl (by decide +kernel) rfl rfl (Nat.le_of_ble_eq_true rfl) (isPol.cell hk0 G _) dX1_restoreFrom_45 ?_
      exact g_vret C hr hlk hw dX1_restoreFrom_48
    · replace hw := hw.2 c_1
      exact g_vret C hr hlk hw dX1_restoreFrom_13

set_option maxHeartbeats 4000000 in
set_option maxRecDepth 100000 in
theorem c_X1_withBitInserted (l : Launch) (G : Gp) (hO : gOK G) (hwin : ∀ k, 0 ≤ k → k < 17 → k ∈ gks G) {x0 : Int32} {x1 : Int32} {x2 : Int32}  {st : St} {Q : Int32 → St → Prop} (hw : wp_X1_withBitInserted x0 x1 x2 st Q) : MI l G yX1_withBitInserted cX1_withBitInserted 4 (some .int) { frames := 0, cells := 0, slots := 0, locals := 0 } [.int x0, .int x1, .int x2] st Q := by
  refine MI.of (own := RX1) (lo := 0) (hi := 17) hO hwin (by decide) rfl (Nat.le_of_ble_eq_true rfl) (fun p e s m args below meth c C hr hlk => ?_)
  refine g_lv (lv' := [(0, .int x0), (1, .int x1), (2, .int x2)]) rfl ?_
  unfold wp_X1_withBitInserted at hw
  refine g_iconst C (1 : Int32) dX1_withBitInserted_0 (by decide) ?_
  refine g_iload_n C 1 dX1_withBitInserted_1 rfl rfl ?_
  refine g_ishl C dX1_withBitInserted_2 ?_
  refine g_iconst C (1 : Int32) dX1_withBitInserted_3 (by decide) ?_
  refine g_isub C dX1_withBitInserted_4 ?_
  refine g_topi (fun x3_1 ex3_1 => ?_)
  replace hw := hw x3_1 ex3_1
  refine g_istore_n C dX1_withBitInserted_5 rfl (by decide) (lv' := [(3, .int x3_1), (0, .int x0), (1, .int x1), (2, .int x2)]) rfl ?_
  refine g_iload_n C 1 dX1_withBitInserted_6 rfl rfl ?_
  refine g_iload_n C 0 dX1_withBitInserted_7 rfl rfl ?_
  refine g_iand C dX1_withBitInserted_8 ?_
  refine g_iload_n C 3 dX1_withBitInserted_9 rfl rfl ?_
  refine g_iload_n C 2 dX1_withBitInserted_10 rfl rfl ?_
  refine g_ishl C dX1_withBitInserted_11 ?_
  refine g_ior C dX1_withBitInserted_12 ?_
  refine g_iload_n C 1 dX1_withBitInserted_13 rfl rfl ?_
  refine g_iload_n C 0 dX1_withBitInserted_14 rfl rfl ?_
  refine g_iconst C (-1 : Int32) dX1_withBitInserted_15 (by decide) ?_
  refine g_ixor C dX1_withBitInserted_16 ?_
  refine g_iand C dX1_withBitInserted_17 ?_
  refine g_iconst C (1 : Int32) dX1_withBitInserted_18 (by decide) ?_
  refine g_ishl C dX1_withBitInserted_19 ?_
  refine g_ior C dX1_withBitInserted_20 ?_
  exact g_iret C hr hlk hw dX1_withBitInserted_21

set_option maxHeartbeats 4000000 in
set_option maxRecDepth 100000 in
theorem c_X1_withBitDropped (l : Launch) (G : Gp) (hO : gOK G) (hwin : ∀ k, 0 ≤ k → k < 17 → k ∈ gks G) {x0 : Int32} {x1 : Int32}  {st : St} {Q : Int32 → St → Prop} (hw : wp_X1_withBitDropped x0 x1 st Q) : MI l G yX1_withBitDropped cX1_withBitDropped 3 (some .int) { frames := 0, cells := 0, slots := 0, locals := 0 } [.int x0, .int x1] st Q := by
  refine MI.of (own := RX1) (lo := 0) (hi := 17) hO hwin (by decide) rfl (Nat.le_of_ble_eq_true rfl) (fun p e s m args below meth c C hr hlk => ?_)
  refine g_lv (lv' := [(0, .int x0), (1, .int x1)]) rfl ?_
  unfold wp_X1_withBitDropped at hw
  refine g_iconst C (1 : Int32) dX1_withBitDropped_0 (by decide) ?_
  refine g_iload_n C 1 dX1_withBitDropped_1 rfl rfl ?_
  refine g_ishl C dX1_withBitDropped_2 ?_
  refine g_iconst C (1 : Int32) dX1_withBitDropped_3 (by decide) ?_
  refine g_isub C dX1_withBitDropped_4 ?_
  refine g_topi (fun x2_1 ex2_1 => ?_)
  replace hw := hw x2_1 ex2_1
  refine g_istore_n C dX1_withBitDropped_5 rfl (by decide) (lv' := [(2, .int x2_1), (0, .int x0), (1, .int x1)]) rfl ?_
  refine g_iload_n C 1 dX1_withBitDropped_6 rfl rfl ?_
  refine g_iload_n C 0 dX1_withBitDropped_7 rfl rfl ?_
  refine g_iand C dX1_withBitDropped_8 ?_
  refine g_iload_n C 1 dX1_withBitDropped_9 rfl rfl ?_
  refine g_iconst C (1 : Int32) dX1_withBitDropped_10 (by decide) ?_
  refine g_ishr C dX1_withBitDropped_11 ?_
  refine g_iload_n C 0 dX1_withBitDropped_12 rfl rfl ?_
  refine g_iconst C (-1 : Int32) dX1_withBitDropped_13 (by decide) ?_
  refine g_ixor C dX1_withBitDropped_14 ?_
  refine g_iand C dX1_withBitDropped_15 ?_
  refine g_ior C dX1_withBitDropped_16 ?_
  exact g_iret C hr hlk hw dX1_withBitDropped_17

set_option maxHeartbeats 4000000 in
set_option maxRecDepth 100000 in
theorem c_X1_majority (l : Launch) (G : Gp) (hO : gOK G) (hwin : ∀ k, 0 ≤ k → k < 17 → k ∈ gks G) {x0 : Int32} {x1 : Int32}  {st : St} {Q : Int32 → St → Prop} (hw : wp_X1_majority x0 x1 st Q) : MI l G yX1_majority cX1_majority 2 (some .int) { frames := 0, cells := 0, slots := 0, locals := 0 } [.int x0, .int x1] st Q := by
  refine MI.of (own := RX1) (lo := 0) (hi := 17) hO hwin (by decide) rfl (Nat.le_of_ble_eq_true rfl) (fun p e s m args below meth c C hr hlk => ?_)
  refine g_lv (lv' := [(0, .int x0), (1, .int x1)]) rfl ?_
  unfold wp_X1_majority at hw
  refine g_iload_n C 0 dX1_majority_0 rfl rfl ?_
  refine g_iload_n C 1 dX1_majority_1 rfl rfl ?_
  refine g_icmp_ne C 7 dX1_majority_2 (by decide) (fun c_2 => ?_) (fun c_2 => ?_)
  · replace hw := hw.2 c_2
    refine g_iload_n C 0 dX1_majority_7 rfl rfl ?_
    refine g_iload_n C 1 dX1_majority_8 rfl rfl ?_
    refine g_icmp_le C 16 dX1_majority_9 (by decide) (fun c_1 => ?_) (fun c_1 => ?_)
    · replace hw := hw.1 c_1
      refine g_iconst C (1 : Int32) dX1_majority_16 (by decide) ?_
      exact g_iret C hr hlk hw dX1_majority_17
    · replace hw := hw.2 c_1
      refine g_iconst C (0 : Int32) dX1_majority_12 (by decide) ?_
      refine g_goto C 17 dX1_majority_13 (by decide) ?_
      exact g_iret C hr hlk hw dX1_majority_17
  · replace hw := hw.1 c_2
    refine g_iconst C (3 : Int32) dX1_majority_5 (by decide) ?_
    exact g_iret C hr hlk hw dX1_majority_6

set_option maxHeartbeats 4000000 in
set_option maxRecDepth 100000 in
theorem c_X1_insertRule (l : Launch) (G : Gp) (hO : gOK G) (hwin : ∀ k, 0 ≤ k → k < 17 → k ∈ gks G) {k0 : Nat} {x1 : Int32} {x2 : Int32} (hk0 : isPol k0) {st : St} {Q : St → Prop} (hw : wp_X1_insertRule k0 x1 x2 st Q) : MV l G yX1_insertRule cX1_insertRule 4 { frames := 1, cells := 0, slots := 0, locals := 23 } [.ref (gh G k0), .int x1, .int x2] st Q := by
  refine MV.of (own := RX1) (lo := 0) (hi := 17) hO hwin (by decide) rfl (Nat.le_of_ble_eq_true rfl) (fun p e s m args below meth c C hr hlk => ?_)
  refine g_lv (lv' := [(0, .ref (gh G k0)), (1, .int x1), (2, .int x2)]) rfl ?_
  unfold wp_X1_insertRule at hw
  obtain ⟨P2, hP2⟩ : ∃ P : Int32 → St → Prop, P = fun x3 st => WG p l e ({ frames := 1, cells := 0, slots := 0, locals := 23 } : Room) s m args below meth c 0 0 (MQ below (va_Qv Q (gB G) (gA G)) args s 0 0 (gA G)) G 4 2 [(0, .ref (gh G k0)), (1, .int x1), (2, .int x2), (3, .int x3)] [] st := ⟨_, rfl⟩
  obtain ⟨P55, hP55⟩ : ∃ P : Int32 → Int32 → Int32 → Int32 → St → Prop, P = fun y1 y2 y3 y4 st => WG p l e ({ frames := 1, cells := 0, slots := 0, locals := 23 } : Room) s m args below meth c 0 0 (MQ below (va_Qv Q (gB G) (gA G)) args s 0 0 (gA G)) G 4 55 [(0, .ref (gh G k0)), (1, .int x1), (2, .int x2)] [.int y4, .int y3, .int y2, .int y1, .ref (gh G (k0 + 1))] st := ⟨_, rfl⟩
  replace hw := hw P2 P55
  replace hw := hw (by
    intro x3 st hw
    rw [hP2]
    refine g_iload_n C 3 dX1_insertRule_2 rfl rfl ?_
    refine g_bipush C (24 : Int32) dX1_insertRule_3 (by decide) ?_
    refine g_icmp_ge C 31 dX1_insertRule_5 (by decide) (fun c_5 => ?_) (fun c_5 => ?_)
    · replace hw := hw.1 c_5
      refine g_aload_n C 0 dX1_insertRule_31 rfl rfl ?_
      refine g_get C inX1 (C.pol hk0) (isPol.cell hk0 G _) rfl 0 (by decide) tw_63 rfl dX1_insertRule_32 ?_
      refine g_bipush C (24 : Int32) dX1_insertRule_35 (by decide) ?_
      refine g_aload_n C 0 dX1_insertRule_37 rfl rfl ?_
      refine g_get C inX1 (C.pol hk0) (isPol.cell hk0 G _) rfl 0 (by decide) tw_63 rfl dX1_insertRule_38 ?_
      refine g_bipush C (24 : Int32) dX1_insertRule_41 (by decide) ?_
      refine g_iald C (C.row hk0) (isPol.row hk0 G _) hw.1 dX1_insertRule_43 ?_
      replace hw := hw.2
      refine g_iload_n C 1 dX1_insertRule_44 rfl rfl ?_
      refine g_iload_n C 2 dX1_insertRule_45 rfl rfl ?_
      refine g_iconst C (1 : Int32) dX1_insertRule_46 (by decide) ?_
      refine g_icmp_ne C 54 dX1_insertRule_47 (by decide) (fun c_1 => ?_) (fun c_1 => ?_)
      · replace hw := hw.2 c_1
        refine g_iconst C (0 : Int32) dX1_insertRule_54 (by decide) ?_
        rw [hP55] at hw
        exact g_perm [0, 1, 2] rfl (hw)
      · replace hw := hw.1 c_1
        refine g_iconst C (1 : Int32) dX1_insertRule_50 (by decide) ?_
        refine g_goto C 55 dX1_insertRule_51 (by decide) ?_
        rw [hP55] at hw
        exact g_perm [0, 1, 2] rfl (hw)
    · replace hw := hw.2 c_5
      refine g_aload_n C 0 dX1_insertRule_8 rfl rfl ?_
      refine g_get C inX1 (C.pol hk0) (isPol.cell hk0 G _) rfl 0 (by decide) tw_63 rfl dX1_insertRule_9 ?_
      refine g_iload_n C 3 dX1_insertRule_12 rfl rfl ?_
      refine g_aload_n C 0 dX1_insertRule_13 rfl rfl ?_
      refine g_get C inX1 (C.pol hk0) (isPol.cell hk0 G _) rfl 0 (by decide) tw_63 rfl dX1_insertRule_14 ?_
      refine g_iload_n C 3 dX1_insertRule_17 rfl rfl ?_
      refine g_iald C (C.row hk0) (isPol.row hk0 G _) hw.1 dX1_insertRule_18 ?_
      replace hw := hw.2
      refine g_iload_n C 1 dX1_insertRule_19 rfl rfl ?_
      refine g_iconst C (1 : Int32) dX1_insertRule_20 (by decide) ?_
      refine g_callSi C (c_X1_withBitInserted l G hO hwin hw) kX1_withBitInserted tw_238 rfl rfl ⟨Nat.le_of_ble_eq_true rfl, Nat.le_of_ble_eq_true rfl⟩ (As := [.int (st (k0 + 1) x3.toNatClampNeg), .int x1, .int (1 : Int32)]) (rest := [.int x3, .ref (gh G (k0 + 1))]) rfl rfl (Nat.le_of_ble_eq_true rfl) dX1_insertRule_21 ⟨Nat.le_of_ble_eq_true rfl, Nat.le_of_ble_eq_true rfl⟩ (fun r_3 s_2 hw => ?_)
      refine g_iast C (C.row hk0) (isPol.row hk0 G) hw.1 dX1_insertRule_24 ?_
      replace hw := hw.2
      obtain ⟨x3_4, ex3_4⟩ : ∃ z : Int32, z = x3 + (1 : Int32) := ⟨_, rfl⟩
      replace hw := hw x3_4 ex3_4
      refine g_iinc C x3_4 3 dX1_insertRule_25 rfl ex3_4.symm (by decide) (lv' := [(3, .int x3_4), (0, .ref (gh G k0)), (1, .int x1), (2, .int x2)]) rfl ?_
      refine g_goto C 2 dX1_insertRule_28 (by decide) ?_
      rw [hP2] at hw
      exact g_perm [1, 2, 3, 0] rfl (hw))
  replace hw := hw (by
    intro y1 y2 y3 y4 st hw
    rw [hP55]
    refine g_callSi C (c_X1_withBitInserted l G hO hwin hw) kX1_withBitInserted tw_238 rfl rfl ⟨Nat.le_of_ble_eq_true rfl, Nat.le_of_ble_eq_true rfl⟩ (As := [.int y2, .int y3, .int y4]) (rest := [.int y1, .ref (gh G (k0 + 1))]) rfl rfl (Nat.le_of_ble_eq_true rfl) dX1_insertRule_55 ⟨Nat.le_of_ble_eq_true rfl, Nat.le_of_ble_eq_true rfl⟩ (fun r_7 s_6 hw => ?_)
    refine g_iast C (C.row hk0) (isPol.row hk0 G) hw.1 dX1_insertRule_58 ?_
    replace hw := hw.2
    refine g_aload_n C 0 dX1_insertRule_59 rfl rfl ?_
    refine g_dup C dX1_insertRule_60 rfl ?_
    refine g_get C inX1 (C.pol hk0) (isPol.cell hk0 G _) rfl 1 (by decide) tw_64 rfl dX1_insertRule_61 ?_
    refine g_iconst C (1 : Int32) dX1_insertRule_64 (by decide) ?_
    refine g_iadd C dX1_insertRule_65 ?_
    refine g_put (ty := .int) (((up2 s_6 (k0 + 1) y1.toNatClampNeg r_7) k0 1) + (1 : Int32)) C inX1 tyX1_ok nmX1 (C.pol hk0) (isPol.cell hk0 G _) rfl 1 (by decide) tw_64 rfl (by decide +kernel) rfl rfl (Nat.le_of_ble_eq_true rfl) (isPol.cell hk0 G _) dX1_insertRule_66 ?_
    exact g_vret C hr hlk hw dX1_insertRule_69)
  refine g_iconst C (0 : Int32) dX1_insertRule_0 (by decide) ?_
  refine g_istore_n C dX1_insertRule_1 rfl (by decide) (lv' := [(3, .int (0 : Int32)), (0, .ref (gh G k0)), (1, .int x1), (2, .int x2)]) rfl ?_
  rw [hP2] at hw
  exact g_perm [1, 2, 3, 0] rfl (hw)

set_option maxHeartbeats 4000000 in
set_option maxRecDepth 100000 in
theorem c_X1_dropRule (l : Launch) (G : Gp) (hO : gOK G) (hwin : ∀ k, 0 ≤ k → k < 17 → k ∈ gks G) {k0 : Nat} {x1 : Int32} (hk0 : isPol k0) {st : St} {Q : St → Prop} (hw : wp_X1_dropRule k0 x1 st Q) : MV l G yX1_dropRule cX1_dropRule 3 { frames := 1, cells := 0, slots := 0, locals := 22 } [.ref (gh G k0), .int x1] st Q := by
  refine MV.of (own := RX1) (lo := 0) (hi := 17) hO hwin (by decide) rfl (Nat.le_of_ble_eq_true rfl) (fun p e s m args below meth c C hr hlk => ?_)
  refine g_lv (lv' := [(0, .ref (gh G k0)), (1, .int x1)]) rfl ?_
  unfold wp_X1_dropRule at hw
  obtain ⟨P2, hP2⟩ : ∃ P : Int32 → St → Prop, P = fun x2 st => WG p l e ({ frames := 1, cells := 0, slots := 0, locals := 22 } : Room) s m args below meth c 0 0 (MQ below (va_Qv Q (gB G) (gA G)) args s 0 0 (gA G)) G 3 2 [(0, .ref (gh G k0)), (1, .int x1), (2, .int x2)] [] st := ⟨_, rfl⟩
  replace hw := hw P2
  replace hw := hw (by
    intro x2 st hw
    rw [hP2]
    refine g_iload_n C 2 dX1_dropRule_2 rfl rfl ?_
    refine g_bipush C (25 : Int32) dX1_dropRule_3 (by decide) ?_
    refine g_icmp_ge C 30 dX1_dropRule_5 (by decide) (fun c_4 => ?_) (fun c_4 => ?_)
    · replace hw := hw.1 c_4
      refine g_aload_n C 0 dX1_dropRule_30 rfl rfl ?_
      refine g_dup C dX1_dropRule_31 rfl ?_
      refine g_get C inX1 (C.pol hk0) (isPol.cell hk0 G _) rfl 1 (by decide) tw_64 rfl dX1_dropRule_32 ?_
      refine g_iconst C (1 : Int32) dX1_dropRule_35 (by decide) ?_
      refine g_isub C dX1_dropRule_36 ?_
      refine g_put (ty := .int) ((st k0 1) - (1 : Int32)) C inX1 tyX1_ok nmX1 (C.pol hk0) (isPol.cell hk0 G _) rfl 1 (by decide) tw_64 rfl (by decide +kernel) rfl rfl (Nat.le_of_ble_eq_true rfl) (isPol.cell hk0 G _) dX1_dropRule_37 ?_
      exact g_vret C hr hlk hw dX1_dropRule_40
    · replace hw := hw.2 c_4
      refine g_aload_n C 0 dX1_dropRule_8 rfl rfl ?_
      refine g_get C inX1 (C.pol hk0) (isPol.cell hk0 G _) rfl 0 (by decide) tw_63 rfl dX1_dropRule_9 ?_
      refine g_iload_n C 2 dX1_dropRule_12 rfl rfl ?_
      refine g_aload_n C 0 dX1_dropRule_13 rfl rfl ?_
      refine g_get C inX1 (C.pol hk0) (isPol.cell hk0 G _) rfl 0 (by decide) tw_63 rfl dX1_dropRule_14 ?_
      refine g_iload_n C 2 dX1_dropRule_17 rfl rfl ?_
      refine g_iald C (C.row hk0) (isPol.row hk0 G _) hw.1 dX1_dropRule_18 ?_
      replace hw := hw.2
      refine g_iload_n C 1 dX1_dropRule_19 rfl rfl ?_
      refine g_callSi C (c_X1_withBitDropped l G hO hwin hw) kX1_withBitDropped tw_371 rfl rfl ⟨Nat.le_of_ble_eq_true rfl, Nat.le_of_ble_eq_true rfl⟩ (As := [.int (st (k0 + 1) x2.toNatClampNeg), .int x1]) (rest := [.int x2, .ref (gh G (k0 + 1))]) rfl rfl (Nat.le_of_ble_eq_true rfl) dX1_dropRule_20 ⟨Nat.le_of_ble_eq_true rfl, Nat.le_of_ble_eq_true rfl⟩ (fun r_2 s_1 hw => ?_)
      refine g_iast C (C.row hk0) (isPol.row hk0 G) hw.1 dX1_dropRule_23 ?_
      replace hw := hw.2
      obtain ⟨x2_3, ex2_3⟩ : ∃ z : Int32, z = x2 + (1 : Int32) := ⟨_, rfl⟩
      replace hw := hw x2_3 ex2_3
      refine g_iinc C x2_3 2 dX1_dropRule_24 rfl ex2_3.symm (by decide) (lv' := [(2, .int x2_3), (0, .ref (gh G k0)), (1, .int x1)]) rfl ?_
      refine g_goto C 2 dX1_dropRule_27 (by decide) ?_
      rw [hP2] at hw
      exact g_perm [1, 2, 0] rfl (hw))
  refine g_iconst C (0 : Int32) dX1_dropRule_0 (by decide) ?_
  refine g_istore_n C dX1_dropRule_1 rfl (by decide) (lv' := [(2, .int (0 : Int32)), (0, .ref (gh G k0)), (1, .int x1)]) rfl ?_
  rw [hP2] at hw
  exact g_perm [1, 2, 0] rfl (hw)

set_option maxHeartbeats 4000000 in
set_option maxRecDepth 100000 in
theorem c_X1_shiftRule (l : Launch) (G : Gp) (hO : gOK G) (hwin : ∀ k, 0 ≤ k → k < 17 → k ∈ gks G) {k0 : Nat} {x1 : Int32} {x2 : Int32} (hk0 : isPol k0) {st : St} {Q : St → Prop} (hw : wp_X1_shiftRule k0 x1 x2 st Q) : MV l G yX1_shiftRule cX1_shiftRule 5 { frames := 1, cells := 0, slots := 0, locals := 23 } [.ref (gh G k0), .int x1, .int x2] st Q := by
  refine MV.of (own := RX1) (lo := 0) (hi := 17) hO hwin (by decide) rfl (Nat.le_of_ble_eq_true rfl) (fun p e s m args below meth c C hr hlk => ?_)
  refine g_lv (lv' := [(0, .ref (gh G k0)), (1, .int x1), (2, .int x2)]) rfl ?_
  unfold wp_X1_shiftRule at hw
  obtain ⟨P2, hP2⟩ : ∃ P : Int32 → St → Prop, P = fun x3 st => WG p l e ({ frames := 1, cells := 0, slots := 0, locals := 23 } : Room) s m args below meth c 0 0 (MQ below (va_Qv Q (gB G) (gA G)) args s 0 0 (gA G)) G 5 2 [(0, .ref (gh G k0)), (1, .int x1), (2, .int x2), (3, .int x3)] [] st := ⟨_, rfl⟩
  replace hw := hw P2
  replace hw := hw (by
    intro x3 st hw
    rw [hP2]
    refine g_iload_n C 3 dX1_shiftRule_2 rfl rfl ?_
    refine g_bipush C (25 : Int32) dX1_shiftRule_3 (by decide) ?_
    refine g_icmp_ge C 48 dX1_shiftRule_5 (by decide) (fun c_7 => ?_) (fun c_7 => ?_)
    · replace hw := hw.1 c_7
      exact g_vret C hr hlk hw dX1_shiftRule_48
    · replace hw := hw.2 c_7
      refine g_aload_n C 0 dX1_shiftRule_8 rfl rfl ?_
      refine g_get C inX1 (C.pol hk0) (isPol.cell hk0 G _) rfl 0 (by decide) tw_63 rfl dX1_shiftRule_9 ?_
      refine g_iload_n C 3 dX1_shiftRule_12 rfl rfl ?_
      refine g_iald C (C.row hk0) (isPol.row hk0 G _) hw.1 dX1_shiftRule_13 ?_
      replace hw := hw.2
      refine g_iload_n C 1 dX1_shiftRule_14 rfl rfl ?_
      refine g_ishr C dX1_shiftRule_15 ?_
      refine g_iconst C (1 : Int32) dX1_shiftRule_16 (by decide) ?_
      refine g_iand C dX1_shiftRule_17 ?_
      refine g_topi (fun x4_1 ex4_1 => ?_)
      replace hw := hw x4_1 ex4_1
      refine g_istore C dX1_shiftRule_18 (by decide) (lv' := [(4, .int x4_1), (0, .ref (gh G k0)), (1, .int x1), (2, .int x2), (3, .int x3)]) rfl ?_
      refine g_aload_n C 1 dX1_shiftRule_20 rfl rfl ?_
      refine g_get C inX1 (C.pol hk0) (isPol.cell hk0 G _) rfl 0 (by decide) tw_63 rfl dX1_shiftRule_21 ?_
      refine g_iload_n C 4 dX1_shiftRule_24 rfl rfl ?_
      refine g_aload_n C 1 dX1_shiftRule_25 rfl rfl ?_
      refine g_get C inX1 (C.pol hk0) (isPol.cell hk0 G _) rfl 0 (by decide) tw_63 rfl dX1_shiftRule_26 ?_
      refine g_iload_n C 4 dX1_shiftRule_29 rfl rfl ?_
      refine g_iald C (C.row hk0) (isPol.row hk0 G _) hw.1 dX1_shiftRule_30 ?_
      replace hw := hw.2
      refine g_iload_n C 2 dX1_shiftRule_31 rfl rfl ?_
      refine g_callSi C (c_X1_withBitDropped l G hO hwin hw) kX1_withBitDropped tw_371 rfl rfl ⟨Nat.le_of_ble_eq_true rfl, Nat.le_of_ble_eq_true rfl⟩ (As := [.int (st (k0 + 1) x3.toNatClampNeg), .int x1]) (rest := [.int x3, .ref (gh G (k0 + 1))]) rfl rfl (Nat.le_of_ble_eq_true rfl) dX1_shiftRule_32 ⟨Nat.le_of_ble_eq_true rfl, Nat.le_of_ble_eq_true rfl⟩ (fun r_3 s_2 hw => ?_)
      refine g_iload_n C 3 dX1_shiftRule_35 rfl rfl ?_
      refine g_iload C 0 dX1_shiftRule_36 rfl ?_
      refine g_callSi C (c_X1_withBitInserted l G hO hwin hw) kX1_withBitInserted tw_238 rfl rfl ⟨Nat.le_of_ble_eq_true rfl, Nat.le_of_ble_eq_true rfl⟩ (As := [.int r_3, .int x2, .int x4_1]) (rest := [.int x3, .ref (gh G (k0 + 1))]) rfl rfl (Nat.le_of_ble_eq_true rfl) dX1_shiftRule_38 ⟨Nat.le_of_ble_eq_true rfl, Nat.le_of_ble_eq_true rfl⟩ (fun r_5 s_4 hw => ?_)
      refine g_iast C (C.row hk0) (isPol.row hk0 G) hw.1 dX1_shiftRule_41 ?_
      replace hw := hw.2
      obtain ⟨x3_6, ex3_6⟩ : ∃ z : Int32, z = x3 + (1 : Int32) := ⟨_, rfl⟩
      replace hw := hw x3_6 ex3_6
      refine g_iinc C x3_6 4 dX1_shiftRule_42 rfl ex3_6.symm (by decide) (lv' := [(3, .int x3_6), (4, .int x4_1), (0, .ref (gh G k0)), (1, .int x1), (2, .int x2)]) rfl ?_
      refine g_goto C 2 dX1_shiftRule_45 (by decide) ?_
      rw [hP2] at hw
      exact g_perm [2, 3, 4, 0] rfl (hw))
  refine g_iconst C (0 : Int32) dX1_shiftRule_0 (by decide) ?_
  refine g_istore_n C dX1_shiftRule_1 rfl (by decide) (lv' := [(3, .int (0 : Int32)), (0, .ref (gh G k0)), (1, .int x1), (2, .int x2)]) rfl ?_
  rw [hP2] at hw
  exact g_perm [1, 2, 3, 0] rfl (hw)

set_option maxHeartbeats 4000000 in
set_option maxRecDepth 100000 in
theorem c_X1_restrict (l : Launch) (G : Gp) (hO : gOK G) (hwin : ∀ k, 0 ≤ k → k < 17 → k ∈ gks G) {k0 : Nat} {x1 : Int32} {x2 : Int32} {x3 : Int32} (hk0 : isPol k0) {st : St} {Q : St → Prop} (hw : wp_X1_restrict k0 x1 x2 x3 st Q) : MV l G yX1_restrict cX1_restrict 7 { frames := 0, cells := 0, slots := 0, locals := 0 } [.ref (gh G k0), .int x1, .int x2, .int x3] st Q := by
  refine MV.of (own := RX1) (lo := 0) (hi := 17) hO hwin (by decide) rfl (Nat.le_of_ble_eq_true rfl) (fun p e s m args below meth c C hr hlk => ?_)
  refine g_lv (lv' := [(0, .ref (gh G k0)), (1, .int x1), (2, .int x2), (3, .int x3)]) rfl ?_
  unfold wp_X1_restrict at hw
  obtain ⟨P10, hP10⟩ : ∃ P : Int32 → Int32 → St → Prop, P = fun x4 x5 st => WG p l e ({ frames := 0, cells := 0, slots := 0, locals := 0 } : Room) s m args below meth c 0 0 (MQ below (va_Qv Q (gB G) (gA G)) args s 0 0 (gA G)) G 7 10 [(0, .ref (gh G k0)), (1, .int x1), (2, .int x2), (3, .int x3), (4, .int x4), (5, .int x5)] [] st := ⟨_, rfl⟩
  replace hw := hw P10
  replace hw := hw (by
    intro x4 x5 st hw
    rw [hP10]
    refine g_iload C 5 dX1_restrict_10 rfl ?_
    refine g_getsN C (fun h => h.1.1) (fun h => h.2.2.2.2.2.2.2.1) dX1_restrict_12 ?_
    refine g_iload_n C 2 dX1_restrict_15 rfl rfl ?_
    refine g_ti C (fun h => h.1.2) hw.1 dX1_restrict_16 ?_
    replace hw := hw.2
    refine g_icmp_ge C 65 dX1_restrict_17 (by decide) (fun c_3 => ?_) (fun c_3 => ?_)
    · replace hw := hw.1 c_3
      exact g_vret C hr hlk hw dX1_restrict_65
    · replace hw := hw.2 c_3
      refine g_iload_n C 3 dX1_restrict_20 rfl rfl ?_
      refine g_iload C 5 dX1_restrict_21 rfl ?_
      refine g_ishr C dX1_restrict_23 ?_
      refine g_iconst C (1 : Int32) dX1_restrict_24 (by decide) ?_
      refine g_iand C dX1_restrict_25 ?_
      refine g_topi (fun x6_1 ex6_1 => ?_)
      replace hw := hw x6_1 ex6_1
      refine g_istore C dX1_restrict_26 (by decide) (lv' := [(6, .int x6_1), (0, .ref (gh G k0)), (1, .int x1), (2, .int x2), (3, .int x3), (4, .int x4), (5, .int x5)]) rfl ?_
      refine g_aload_n C 1 dX1_restrict_28 rfl rfl ?_
      refine g_get C inX1 (C.pol hk0) (isPol.cell hk0 G _) rfl 0 (by decide) tw_63 rfl dX1_restrict_29 ?_
      refine g_iload C 5 dX1_restrict_32 rfl ?_
      refine g_iload C 6 dX1_restrict_34 rfl ?_
      refine g_iadd C dX1_restrict_36 ?_
      refine g_aload_n C 1 dX1_restrict_37 rfl rfl ?_
      refine g_get C inX1 (C.pol hk0) (isPol.cell hk0 G _) rfl 0 (by decide) tw_63 rfl dX1_restrict_38 ?_
      refine g_iload C 5 dX1_restrict_41 rfl ?_
      refine g_iload C 6 dX1_restrict_43 rfl ?_
      refine g_iadd C dX1_restrict_45 ?_
      refine g_iald C (C.row hk0) (isPol.row hk0 G _) hw.1 dX1_restrict_46 ?_
      replace hw := hw.2
      refine g_iconst C (1 : Int32) dX1_restrict_47 (by decide) ?_
      refine g_iload_n C 2 dX1_restrict_48 rfl rfl ?_
      refine g_ishl C dX1_restrict_49 ?_
      refine g_iconst C (-1 : Int32) dX1_restrict_50 (by decide) ?_
      refine g_ixor C dX1_restrict_51 ?_
      refine g_iand C dX1_restrict_52 ?_
      refine g_iload C 0 dX1_restrict_53 rfl ?_
      refine g_iload_n C 2 dX1_restrict_55 rfl rfl ?_
      refine g_ishl C dX1_restrict_56 ?_
      refine g_ior C dX1_restrict_57 ?_
      refine g_iast C (C.row hk0) (isPol.row hk0 G) hw.1 dX1_restrict_58 ?_
      replace hw := hw.2
      obtain ⟨x5_2, ex5_2⟩ : ∃ z : Int32, z = x5 + (1 : Int32) := ⟨_, rfl⟩
      replace hw := hw x5_2 ex5_2
      refine g_iinc C x5_2 6 dX1_restrict_59 rfl ex5_2.symm (by decide) (lv' := [(5, .int x5_2), (6, .int x6_1), (0, .ref (gh G k0)), (1, .int x1), (2, .int x2), (3, .int x3), (4, .int x4)]) rfl ?_
      refine g_goto C 10 dX1_restrict_62 (by decide) ?_
      rw [hP10] at hw
      exact g_perm [2, 3, 4, 5, 6, 0] rfl (hw))
  refine g_gets C (fun h => h.2.2.1.1) tw_261 dX1_restrict_0 ?_
  refine g_iload_n C 2 dX1_restrict_3 rfl rfl ?_
  refine g_ti C (fun h => h.2.2.1.2) hw.1 dX1_restrict_4 ?_
  replace hw := hw.2
  refine g_topi (fun x4_4 ex4_4 => ?_)
  replace hw := hw x4_4 ex4_4
  refine g_istore C dX1_restrict_5 (by decide) (lv' := [(4, .int x4_4), (0, .ref (gh G k0)), (1, .int x1), (2, .int x2), (3, .int x3)]) rfl ?_
  refine g_iconst C (0 : Int32) dX1_restrict_7 (by decide) ?_
  refine g_istore C dX1_restrict_8 (by decide) (lv' := [(5, .int (0 : Int32)), (4, .int x4_4), (0, .ref (gh G k0)), (1, .int x1), (2, .int x2), (3, .int x3)]) rfl ?_
  rw [hP10] at hw
  exact g_perm [2, 3, 4, 5, 1, 0] rfl (hw)

set_option maxHeartbeats 4000000 in
set_option maxRecDepth 100000 in
theorem c_X1_valuesAt (l : Launch) (G : Gp) (hO : gOK G) (hwin : ∀ k, 0 ≤ k → k < 17 → k ∈ gks G) {k0 : Nat} {x1 : Int32} {x2 : Int32} (hk0 : isPol k0) {st : St} {Q : Int32 → St → Prop} (hw : wp_X1_valuesAt k0 x1 x2 st Q) : MI l G yX1_valuesAt cX1_valuesAt 6 (some .int) { frames := 0, cells := 0, slots := 0, locals := 0 } [.ref (gh G k0), .int x1, .int x2] st Q := by
  refine MI.of (own := RX1) (lo := 0) (hi := 17) hO hwin (by decide) rfl (Nat.le_of_ble_eq_true rfl) (fun p e s m args below meth c C hr hlk => ?_)
  refine g_lv (lv' := [(0, .ref (gh G k0)), (1, .int x1), (2, .int x2)]) rfl ?_
  unfold wp_X1_valuesAt at hw
  obtain ⟨P12, hP12⟩ : ∃ P : Int32 → Int32 → Int32 → St → Prop, P = fun x3 x4 x5 st => WG p l e ({ frames := 0, cells := 0, slots := 0, locals := 0 } : Room) s m args below meth c 0 0 (MQ below (va_Qi Q (gB G) (gA G)) args s 0 0 (gA G)) G 6 12 [(0, .ref (gh G k0)), (1, .int x1), (2, .int x2), (3, .int x3), (4, .int x4), (5, .int x5)] [] st := ⟨_, rfl⟩
  replace hw := hw P12
  replace hw := hw (by
    intro x3 x4 x5 st hw
    rw [hP12]
    refine g_iload C 5 dX1_valuesAt_12 rfl ?_
    refine g_getsN C (fun h => h.1.1) (fun h => h.2.2.2.2.2.2.2.1) dX1_valuesAt_14 ?_
    refine g_iload_n C 2 dX1_valuesAt_17 rfl rfl ?_
    refine g_ti C (fun h => h.1.2) hw.1 dX1_valuesAt_18 ?_
    replace hw := hw.2
    refine g_icmp_ge C 49 dX1_valuesAt_19 (by decide) (fun c_3 => ?_) (fun c_3 => ?_)
    · replace hw := hw.1 c_3
      refine g_iload C 4 dX1_valuesAt_49 rfl ?_
      exact g_iret C hr hlk hw dX1_valuesAt_51
    · replace hw := hw.2 c_3
      refine g_iload C 4 dX1_valuesAt_22 rfl ?_
      refine g_aload_n C 0 dX1_valuesAt_24 rfl rfl ?_
      refine g_get C inX1 (C.pol hk0) (isPol.cell hk0 G _) rfl 0 (by decide) tw_63 rfl dX1_valuesAt_25 ?_
      refine g_iload_n C 3 dX1_valuesAt_28 rfl rfl ?_
      refine g_iload C 5 dX1_valuesAt_29 rfl ?_
      refine g_iadd C dX1_valuesAt_31 ?_
      refine g_iald C (C.row hk0) (isPol.row hk0 G _) hw.1 dX1_valuesAt_32 ?_
      replace hw := hw.2
      refine g_iload_n C 1 dX1_valuesAt_33 rfl rfl ?_
      refine g_ishr C dX1_valuesAt_34 ?_
      refine g_iconst C (1 : Int32) dX1_valuesAt_35 (by decide) ?_
      refine g_iand C dX1_valuesAt_36 ?_
      refine g_iload C 5 dX1_valuesAt_37 rfl ?_
      refine g_ishl C dX1_valuesAt_39 ?_
      refine g_ior C dX1_valuesAt_40 ?_
      refine g_topi (fun x4_1 ex4_1 => ?_)
      replace hw := hw x4_1 ex4_1
      refine g_istore C dX1_valuesAt_41 (by decide) (lv' := [(4, .int x4_1), (0, .ref (gh G k0)), (1, .int x1), (2, .int x2), (3, .int x3), (5, .int x5)]) rfl ?_
      obtain ⟨x5_2, ex5_2⟩ : ∃ z : Int32, z = x5 + (1 : Int32) := ⟨_, rfl⟩
      replace hw := hw x5_2 ex5_2
      refine g_iinc C x5_2 5 dX1_valuesAt_43 rfl ex5_2.symm (by decide) (lv' := [(5, .int x5_2), (4, .int x4_1), (0, .ref (gh G k0)), (1, .int x1), (2, .int x2), (3, .int x3)]) rfl ?_
      refine g_goto C 12 dX1_valuesAt_46 (by decide) ?_
      rw [hP12] at hw
      exact g_perm [2, 3, 4, 5, 1, 0] rfl (hw))
  refine g_gets C (fun h => h.2.2.1.1) tw_261 dX1_valuesAt_0 ?_
  refine g_iload_n C 2 dX1_valuesAt_3 rfl rfl ?_
  refine g_ti C (fun h => h.2.2.1.2) hw.1 dX1_valuesAt_4 ?_
  replace hw := hw.2
  refine g_topi (fun x3_4 ex3_4 => ?_)
  replace hw := hw x3_4 ex3_4
  refine g_istore_n C dX1_valuesAt_5 rfl (by decide) (lv' := [(3, .int x3_4), (0, .ref (gh G k0)), (1, .int x1), (2, .int x2)]) rfl ?_
  refine g_iconst C (0 : Int32) dX1_valuesAt_6 (by decide) ?_
  refine g_istore C dX1_valuesAt_7 (by decide) (lv' := [(4, .int (0 : Int32)), (3, .int x3_4), (0, .ref (gh G k0)), (1, .int x1), (2, .int x2)]) rfl ?_
  refine g_iconst C (0 : Int32) dX1_valuesAt_9 (by decide) ?_
  refine g_istore C dX1_valuesAt_10 (by decide) (lv' := [(5, .int (0 : Int32)), (4, .int (0 : Int32)), (3, .int x3_4), (0, .ref (gh G k0)), (1, .int x1), (2, .int x2)]) rfl ?_
  rw [hP12] at hw
  exact g_perm [3, 4, 5, 2, 1, 0] rfl (hw)

set_option maxHeartbeats 4000000 in
set_option maxRecDepth 100000 in
theorem c_X1_turnEffect (l : Launch) (G : Gp) (hO : gOK G) (hwin : ∀ k, 0 ≤ k → k < 17 → k ∈ gks G) {k0 : Nat} {x1 : Int32} (hk0 : isPol k0) {st : St} {Q : St → Prop} (hw : wp_X1_turnEffect k0 x1 st Q) : MV l G yX1_turnEffect cX1_turnEffect 2 { frames := 0, cells := 0, slots := 0, locals := 0 } [.ref (gh G k0), .int x1] st Q := by
  refine MV.of (own := RX1) (lo := 0) (hi := 17) hO hwin (by decide) rfl (Nat.le_of_ble_eq_true rfl) (fun p e s m args below meth c C hr hlk => ?_)
  refine g_lv (lv' := [(0, .ref (gh G k0)), (1, .int x1)]) rfl ?_
  unfold wp_X1_turnEffect at hw
  refine g_aload_n C 0 dX1_turnEffect_0 rfl rfl ?_
  refine g_get C inX1 (C.pol hk0) (isPol.cell hk0 G _) rfl 0 (by decide) tw_63 rfl dX1_turnEffect_1 ?_
  refine g_bipush C (24 : Int32) dX1_turnEffect_4 (by decide) ?_
  refine g_dup2 C dX1_turnEffect_6 rfl rfl ?_
  refine g_iald C (C.row hk0) (isPol.row hk0 G _) hw.1 dX1_turnEffect_7 ?_
  replace hw := hw.2
  refine g_iconst C (1 : Int32) dX1_turnEffect_8 (by decide) ?_
  refine g_iload_n C 1 dX1_turnEffect_9 rfl rfl ?_
  refine g_ishl C dX1_turnEffect_10 ?_
  refine g_ixor C dX1_turnEffect_11 ?_
  refine g_iast C (C.row hk0) (isPol.row hk0 G) hw.1 dX1_turnEffect_12 ?_
  replace hw := hw.2
  exact g_vret C hr hlk hw dX1_turnEffect_13

set_option maxHeartbeats 4000000 in
set_option maxRecDepth 100000 in
theorem c_X1_effectAt (l : Launch) (G : Gp) (hO : gOK G) (hwin : ∀ k, 0 ≤ k → k < 17 → k ∈ gks G) {k0 : Nat} {x1 : Int32} (hk0 : isPol k0) {st : St} {Q : Int32 → St → Prop} (hw : wp_X1_effectAt k0 x1 st Q) : MI l G yX1_effectAt cX1_effectAt 2 (some .int) { frames := 0, cells := 0, slots := 0, locals := 0 } [.ref (gh G k0), .int x1] st Q := by
  refine MI.of (own := RX1) (lo := 0) (hi := 17) hO hwin (by decide) rfl (Nat.le_of_ble_eq_true rfl) (fun p e s m args below meth c C hr hlk => ?_)
  refine g_lv (lv' := [(0, .ref (gh G k0)), (1, .int x1)]) rfl ?_
  unfold wp_X1_effectAt at hw
  refine g_aload_n C 0 dX1_effectAt_0 rfl rfl ?_
  refine g_get C inX1 (C.pol hk0) (isPol.cell hk0 G _) rfl 0 (by decide) tw_63 rfl dX1_effectAt_1 ?_
  refine g_bipush C (24 : Int32) dX1_effectAt_4 (by decide) ?_
  refine g_iald C (C.row hk0) (isPol.row hk0 G _) hw.1 dX1_effectAt_6 ?_
  replace hw := hw.2
  refine g_iload_n C 1 dX1_effectAt_7 rfl rfl ?_
  refine g_ishr C dX1_effectAt_8 ?_
  refine g_iconst C (1 : Int32) dX1_effectAt_9 (by decide) ?_
  refine g_iand C dX1_effectAt_10 ?_
  refine g_if_eq C 18 dX1_effectAt_11 (by decide) (fun c_1 => ?_) (fun c_1 => ?_)
  · replace hw := hw.1 c_1
    refine g_iconst C (0 : Int32) dX1_effectAt_18 (by decide) ?_
    exact g_iret C hr hlk hw dX1_effectAt_19
  · replace hw := hw.2 c_1
    refine g_iconst C (1 : Int32) dX1_effectAt_14 (by decide) ?_
    refine g_goto C 19 dX1_effectAt_15 (by decide) ?_
    exact g_iret C hr hlk hw dX1_effectAt_19

set_option maxHeartbeats 4000000 in
set_option maxRecDepth 100000 in
theorem c_X1_allRules (l : Launch) (G : Gp) (hO : gOK G) (hwin : ∀ k, 0 ≤ k → k < 17 → k ∈ gks G) {k0 : Nat} (hk0 : isPol k0) {st : St} {Q : Int32 → St → Prop} (hw : wp_X1_allRules k0 st Q) : MI l G yX1_allRules cX1_allRules 1 (some .int) { frames := 0, cells := 0, slots := 0, locals := 0 } [.ref (gh G k0)] st Q := by
  refine MI.of (own := RX1) (lo := 0) (hi := 17) hO hwin (by decide) rfl (Nat.le_of_ble_eq_true rfl) (fun p e s m args below meth c C hr hlk => ?_)
  refine g_lv (lv' := [(0, .ref (gh G k0))]) rfl ?_
  unfold wp_X1_allRules at hw
  refine g_iconst C (1 : Int32) dX1_allRules_0 (by decide) ?_
  refine g_aload_n C 0 dX1_allRules_1 rfl rfl ?_
  refine g_get C inX1 (C.pol hk0) (isPol.cell hk0 G _) rfl 1 (by decide) tw_64 rfl dX1_allRules_2 ?_
  refine g_ishl C dX1_allRules_5 ?_
  refine g_iconst C (1 : Int32) dX1_allRules_6 (by decide) ?_
  refine g_isub C dX1_allRules_7 ?_
  exact g_iret C hr hlk hw dX1_allRules_8

set_option maxHeartbeats 4000000 in
set_option maxRecDepth 100000 in
theorem c_X1_applying (l : Launch) (G : Gp) (hO : gOK G) (hwin : ∀ k, 0 ≤ k → k < 17 → k ∈ gks G) {k0 : Nat} {x1 : Int32} (hk0 : isPol k0) {st : St} {Q : Int32 → St → Prop} (hw : wp_X1_applying k0 x1 st Q) : MI l G yX1_applying cX1_applying 2 (some .int) { frames := 0, cells := 0, slots := 0, locals := 0 } [.ref (gh G k0), .int x1] st Q := by
  refine MI.of (own := RX1) (lo := 0) (hi := 17) hO hwin (by decide) rfl (Nat.le_of_ble_eq_true rfl) (fun p e s m args below meth c C hr hlk => ?_)
  refine g_lv (lv' := [(0, .ref (gh G k0)), (1, .int x1)]) rfl ?_
  unfold wp_X1_applying at hw
  refine g_aload_n C 0 dX1_applying_0 rfl rfl ?_
  refine g_get C inX1 (C.pol hk0) (isPol.cell hk0 G _) rfl 0 (by decide) tw_63 rfl dX1_applying_1 ?_
  refine g_iconst C (0 : Int32) dX1_applying_4 (by decide) ?_
  refine g_iload_n C 1 dX1_applying_5 rfl rfl ?_
  refine g_bipush C (7 : Int32) dX1_applying_6 (by decide) ?_
  refine g_ishr C dX1_applying_8 ?_
  refine g_bipush C (7 : Int32) dX1_applying_9 (by decide) ?_
  refine g_iand C dX1_applying_11 ?_
  refine g_iadd C dX1_applying_12 ?_
  refine g_iald C (C.row hk0) (isPol.row hk0 G _) hw.1 dX1_applying_13 ?_
  replace hw := hw.2
  refine g_aload_n C 0 dX1_applying_14 rfl rfl ?_
  refine g_get C inX1 (C.pol hk0) (isPol.cell hk0 G _) rfl 0 (by decide) tw_63 rfl dX1_applying_15 ?_
  refine g_bipush C (8 : Int32) dX1_applying_18 (by decide) ?_
  refine g_iload_n C 1 dX1_applying_20 rfl rfl ?_
  refine g_iconst C (5 : Int32) dX1_applying_21 (by decide) ?_
  refine g_ishr C dX1_applying_22 ?_
  refine g_iconst C (3 : Int32) dX1_applying_23 (by decide) ?_
  refine g_iand C dX1_applying_24 ?_
  refine g_iadd C dX1_applying_25 ?_
  refine g_iald C (C.row hk0) (isPol.row hk0 G _) hw.1 dX1_applying_26 ?_
  replace hw := hw.2
  refine g_iand C dX1_applying_27 ?_
  refine g_aload_n C 0 dX1_applying_28 rfl rfl ?_
  refine g_get C inX1 (C.pol hk0) (isPol.cell hk0 G _) rfl 0 (by decide) tw_63 rfl dX1_applying_29 ?_
  refine g_bipush C (12 : Int32) dX1_applying_32 (by decide) ?_
  refine g_iload_n C 1 dX1_applying_34 rfl rfl ?_
  refine g_iconst C (2 : Int32) dX1_applying_35 (by decide) ?_
  refine g_ishr C dX1_applying_36 ?_
  refine g_bipush C (7 : Int32) dX1_applying_37 (by decide) ?_
  refine g_iand C dX1_applying_39 ?_
  refine g_iadd C dX1_applying_40 ?_
  refine g_iald C (C.row hk0) (isPol.row hk0 G _) hw.1 dX1_applying_41 ?_
  replace hw := hw.2
  refine g_iand C dX1_applying_42 ?_
  refine g_aload_n C 0 dX1_applying_43 rfl rfl ?_
  refine g_get C inX1 (C.pol hk0) (isPol.cell hk0 G _) rfl 0 (by decide) tw_63 rfl dX1_applying_44 ?_
  refine g_bipush C (20 : Int32) dX1_applying_47 (by decide) ?_
  refine g_iload_n C 1 dX1_applying_49 rfl rfl ?_
  refine g_iconst C (3 : Int32) dX1_applying_50 (by decide) ?_
  refine g_iand C dX1_applying_51 ?_
  refine g_iadd C dX1_applying_52 ?_
  refine g_iald C (C.row hk0) (isPol.row hk0 G _) hw.1 dX1_applying_53 ?_
  replace hw := hw.2
  refine g_iand C dX1_applying_54 ?_
  exact g_iret C hr hlk hw dX1_applying_55

set_option maxHeartbeats 4000000 in
set_option maxRecDepth 100000 in
theorem c_X1_decisionAmong (l : Launch) (G : Gp) (hO : gOK G) (hwin : ∀ k, 0 ≤ k → k < 17 → k ∈ gks G) {k0 : Nat} {x1 : Int32} (hk0 : isPol k0) {st : St} {Q : Int32 → St → Prop} (hw : wp_X1_decisionAmong k0 x1 st Q) : MI l G yX1_decisionAmong cX1_decisionAmong 3 (some .int) { frames := 1, cells := 0, slots := 0, locals := 21 } [.ref (gh G k0), .int x1] st Q := by
  refine MI.of (own := RX1) (lo := 0) (hi := 17) hO hwin (by decide) rfl (Nat.le_of_ble_eq_true rfl) (fun p e s m args below meth c C hr hlk => ?_)
  refine g_lv (lv' := [(0, .ref (gh G k0)), (1, .int x1)]) rfl ?_
  unfold wp_X1_decisionAmong at hw
  refine g_iload_n C 1 dX1_decisionAmong_0 rfl rfl ?_
  refine g_if_ne C 6 dX1_decisionAmong_1 (by decide) (fun c_18 => ?_) (fun c_18 => ?_)
  · replace hw := hw.2 c_18
    refine g_iload_n C 1 dX1_decisionAmong_6 rfl rfl ?_
    refine g_aload_n C 0 dX1_decisionAmong_7 rfl rfl ?_
    refine g_get C inX1 (C.pol hk0) (isPol.cell hk0 G _) rfl 0 (by decide) tw_63 rfl dX1_decisionAmong_8 ?_
    refine g_bipush C (24 : Int32) dX1_decisionAmong_11 (by decide) ?_
    refine g_iald C (C.row hk0) (isPol.row hk0 G _) hw.1 dX1_decisionAmong_13 ?_
    replace hw := hw.2
    refine g_iand C dX1_decisionAmong_14 ?_
    refine g_topi (fun x2_1 ex2_1 => ?_)
    replace hw := hw x2_1 ex2_1
    refine g_istore_n C dX1_decisionAmong_15 rfl (by decide) (lv' := [(2, .int x2_1), (0, .ref (gh G k0)), (1, .int x1)]) rfl ?_
    refine g_aload_n C 1 dX1_decisionAmong_16 rfl rfl ?_
    refine g_get C inX1 (C.pol hk0) (isPol.cell hk0 G _) rfl 2 (by decide) tw_65 rfl dX1_decisionAmong_17 ?_
    rcases sw4 (st k0 2) with c_2 | c_2 | c_2 | c_2 | c_2
    · replace hw := hw.1 c_2
      refine g_tableIn C 52 dX1_decisionAmong_20 (by rw [c_2]; decide) (by rw [c_2]; decide) (by rw [c_2]; rfl) (by decide) ?_
      refine g_iload_n C 0 dX1_decisionAmong_52 rfl rfl ?_
      refine g_iload_n C 2 dX1_decisionAmong_53 rfl rfl ?_
      refine g_callSi C (c_J6_lowestOneBit_0f7a4 l G hO hwin hw) kJ6_lowestOneBit_0f7a4 tw_478 rfl rfl ⟨Nat.le_of_ble_eq_true rfl, Nat.le_of_ble_eq_true rfl⟩ (As := [.int x1]) (rest := [.int x2_1]) rfl rfl (Nat.le_of_ble_eq_true rfl) dX1_decisionAmong_54 ⟨Nat.le_of_ble_eq_true rfl, Nat.le_of_ble_eq_true rfl⟩ (fun r_4 s_3 hw => ?_)
      refine g_iand C dX1_decisionAmong_57 ?_
      refine g_if_eq C 65 dX1_decisionAmong_58 (by decide) (fun c_5 => ?_) (fun c_5 => ?_)
      · replace hw := hw.1 c_5
        refine g_iconst C (0 : Int32) dX1_decisionAmong_65 (by decide) ?_
        exact g_iret C hr hlk hw dX1_decisionAmong_66
      · replace hw := hw.2 c_5
        refine g_iconst C (1 : Int32) dX1_decisionAmong_61 (by decide) ?_
        refine g_goto C 66 dX1_decisionAmong_62 (by decide) ?_
        exact g_iret C hr hlk hw dX1_decisionAmong_66
    · replace hw := hw.2.1 c_2
      refine g_tableIn C 67 dX1_decisionAmong_20 (by rw [c_2]; decide) (by rw [c_2]; decide) (by rw [c_2]; rfl) (by decide) ?_
      refine g_iload_n C 0 dX1_decisionAmong_67 rfl rfl ?_
      refine g_if_eq C 75 dX1_decisionAmong_68 (by decide) (fun c_6 => ?_) (fun c_6 => ?_)
      · replace hw := hw.1 c_6
        refine g_iconst C (0 : Int32) dX1_decisionAmong_75 (by decide) ?_
        exact g_iret C hr hlk hw dX1_decisionAmong_76
      · replace hw := hw.2 c_6
        refine g_iconst C (1 : Int32) dX1_decisionAmong_71 (by decide) ?_
        refine g_goto C 76 dX1_decisionAmong_72 (by decide) ?_
        exact g_iret C hr hlk hw dX1_decisionAmong_76
    · replace hw := hw.2.2.1 c_2
      refine g_tableIn C 77 dX1_decisionAmong_20 (by rw [c_2]; decide) (by rw [c_2]; decide) (by rw [c_2]; rfl) (by decide) ?_
      refine g_iload_n C 0 dX1_decisionAmong_77 rfl rfl ?_
      refine g_iload_n C 2 dX1_decisionAmong_78 rfl rfl ?_
      refine g_icmp_eq C 86 dX1_decisionAmong_79 (by decide) (fun c_7 => ?_) (fun c_7 => ?_)
      · replace hw := hw.1 c_7
        refine g_iconst C (1 : Int32) dX1_decisionAmong_86 (by decide) ?_
        exact g_iret C hr hlk hw dX1_decisionAmong_87
      · replace hw := hw.2 c_7
        refine g_iconst C (0 : Int32) dX1_decisionAmong_82 (by decide) ?_
        refine g_goto C 87 dX1_decisionAmong_83 (by decide) ?_
        exact g_iret C hr hlk hw dX1_decisionAmong_87
    · replace hw := hw.2.2.2.1 c_2
      refine g_tableIn C 88 dX1_decisionAmong_20 (by rw [c_2]; decide) (by rw [c_2]; decide) (by rw [c_2]; rfl) (by decide) ?_
      refine g_iload_n C 2 dX1_decisionAmong_88 rfl rfl ?_
      refine g_callSi C (c_J6_bitCount_0f7a4 l G hO hwin hw) kJ6_bitCount_0f7a4 tw_481 rfl rfl ⟨Nat.le_of_ble_eq_true rfl, Nat.le_of_ble_eq_true rfl⟩ (As := [.int x1]) (rest := []) rfl rfl (Nat.le_of_ble_eq_true rfl) dX1_decisionAmong_89 ⟨Nat.le_of_ble_eq_true rfl, Nat.le_of_ble_eq_true rfl⟩ (fun r_9 s_8 hw => ?_)
      refine g_iconst C (1 : Int32) dX1_decisionAmong_92 (by decide) ?_
      refine g_icmp_le C 100 dX1_decisionAmong_93 (by decide) (fun c_11 => ?_) (fun c_11 => ?_)
      · replace hw := hw.1 c_11
        refine g_iload_n C 0 dX1_decisionAmong_100 rfl rfl ?_
        refine g_if_eq C 108 dX1_decisionAmong_101 (by decide) (fun c_10 => ?_) (fun c_10 => ?_)
        · replace hw := hw.1 c_10
          refine g_iconst C (0 : Int32) dX1_decisionAmong_108 (by decide) ?_
          exact g_iret C hr hlk hw dX1_decisionAmong_109
        · replace hw := hw.2 c_10
          refine g_iconst C (1 : Int32) dX1_decisionAmong_104 (by decide) ?_
          refine g_goto C 109 dX1_decisionAmong_105 (by decide) ?_
          exact g_iret C hr hlk hw dX1_decisionAmong_109
      · replace hw := hw.2 c_11
        refine g_iconst C (3 : Int32) dX1_decisionAmong_96 (by decide) ?_
        refine g_goto C 109 dX1_decisionAmong_97 (by decide) ?_
        exact g_iret C hr hlk hw dX1_decisionAmong_109
    · replace hw := hw.2.2.2.2 c_2.1
      refine g_table C 110 dX1_decisionAmong_20 c_2.2 (by decide) ?_
      refine g_iload_n C 2 dX1_decisionAmong_110 rfl rfl ?_
      refine g_iload_n C 0 dX1_decisionAmong_111 rfl rfl ?_
      refine g_iconst C (-1 : Int32) dX1_decisionAmong_112 (by decide) ?_
      refine g_ixor C dX1_decisionAmong_113 ?_
      refine g_iand C dX1_decisionAmong_114 ?_
      refine g_callSi C (c_J6_bitCount_0f7a4 l G hO hwin hw) kJ6_bitCount_0f7a4 tw_481 rfl rfl ⟨Nat.le_of_ble_eq_true rfl, Nat.le_of_ble_eq_true rfl⟩ (As := [.int (x1 &&& (x2_1 ^^^ (-1 : Int32)))]) (rest := []) rfl rfl (Nat.le_of_ble_eq_true rfl) dX1_decisionAmong_115 ⟨Nat.le_of_ble_eq_true rfl, Nat.le_of_ble_eq_true rfl⟩ (fun r_13 s_12 hw => ?_)
      refine g_iload_n C 0 dX1_decisionAmong_118 rfl rfl ?_
      refine g_callSi C (c_J6_bitCount_0f7a4 l G hO hwin hw) kJ6_bitCount_0f7a4 tw_481 rfl rfl ⟨Nat.le_of_ble_eq_true rfl, Nat.le_of_ble_eq_true rfl⟩ (As := [.int x2_1]) (rest := [.int r_13]) rfl rfl (Nat.le_of_ble_eq_true rfl) dX1_decisionAmong_119 ⟨Nat.le_of_ble_eq_true rfl, Nat.le_of_ble_eq_true rfl⟩ (fun r_15 s_14 hw => ?_)
      refine g_callSi C (c_X1_majority l G hO hwin hw) kX1_majority tw_487 rfl rfl ⟨Nat.le_of_ble_eq_true rfl, Nat.le_of_ble_eq_true rfl⟩ (As := [.int r_13, .int r_15]) (rest := []) rfl rfl (Nat.le_of_ble_eq_true rfl) dX1_decisionAmong_122 ⟨Nat.le_of_ble_eq_true rfl, Nat.le_of_ble_eq_true rfl⟩ (fun r_17 s_16 hw => ?_)
      exact g_iret C hr hlk hw dX1_decisionAmong_125
  · replace hw := hw.1 c_18
    refine g_iconst C (2 : Int32) dX1_decisionAmong_4 (by decide) ?_
    exact g_iret C hr hlk hw dX1_decisionAmong_5

set_option maxHeartbeats 4000000 in
set_option maxRecDepth 100000 in
theorem c_X1_decisionOn (l : Launch) (G : Gp) (hO : gOK G) (hwin : ∀ k, 0 ≤ k → k < 17 → k ∈ gks G) {k0 : Nat} {x1 : Int32} (hk0 : isPol k0) {st : St} {Q : Int32 → St → Prop} (hw : wp_X1_decisionOn k0 x1 st Q) : MI l G yX1_decisionOn cX1_decisionOn 2 (some .int) { frames := 2, cells := 0, slots := 0, locals := 43 } [.ref (gh G k0), .int x1] st Q := by
  refine MI.of (own := RX1) (lo := 0) (hi := 17) hO hwin (by decide) rfl (Nat.le_of_ble_eq_true rfl) (fun p e s m args below meth c C hr hlk => ?_)
  refine g_lv (lv' := [(0, .ref (gh G k0)), (1, .int x1)]) rfl ?_
  unfold wp_X1_decisionOn at hw
  refine g_aload_n C 0 dX1_decisionOn_0 rfl rfl ?_
  refine g_aload_n C 0 dX1_decisionOn_1 rfl rfl ?_
  refine g_iload_n C 1 dX1_decisionOn_2 rfl rfl ?_
  refine g_callVi C (c_X1_applying l G hO hwin hk0 hw) kX1_applying tw_470 (Rv.of C (C.pol hk0) (isPol.cell hk0 G _) (ci := 1) rfl) rfl rfl ⟨Nat.le_of_ble_eq_true rfl, Nat.le_of_ble_eq_true rfl⟩ (As := [.int x1]) (rest := [.ref (gh G k0)]) rfl rfl (Nat.le_of_ble_eq_true rfl) dX1_decisionOn_3 ⟨Nat.le_of_ble_eq_true rfl, Nat.le_of_ble_eq_true rfl⟩ (fun r_2 s_1 hw => ?_)
  refine g_callVi C (c_X1_decisionAmong l G hO hwin hk0 hw) kX1_decisionAmong tw_474 (Rv.of C (C.pol hk0) (isPol.cell hk0 G _) (ci := 1) rfl) rfl rfl ⟨Nat.le_of_ble_eq_true rfl, Nat.le_of_ble_eq_true rfl⟩ (As := [.int r_2]) (rest := []) rfl rfl (Nat.le_of_ble_eq_true rfl) dX1_decisionOn_6 ⟨Nat.le_of_ble_eq_true rfl, Nat.le_of_ble_eq_true rfl⟩ (fun r_4 s_3 hw => ?_)
  exact g_iret C hr hlk hw dX1_decisionOn_9
