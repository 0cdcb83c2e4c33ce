set_option maxHeartbeats 4000000 in
set_option maxRecDepth 100000 in
theorem c_X0_size (l : Launch) (G : Gp) (hO : gOK G) (hwin : ∀ k, 0 ≤ k → k < 17 → k ∈ gks G)   {st : St} {Q : Int32 → St → Prop} (hw : wp_X0_size  st Q) : MI l G yX0_size cX0_size 1 (some .int) { frames := 0, cells := 0, slots := 0, locals := 0 } [.ref (gh G 11)] st Q := by
  refine MI.of (own := RX0) (lo := 0) (hi := 17) hO hwin (by decide) rfl (Nat.le_of_ble_eq_true rfl) (fun p e s m args below meth c C hr hlk => ?_)
  refine g_lv (lv' := [(0, .ref (gh G 11))]) rfl ?_
  unfold wp_X0_size at hw
  refine g_aload_n C 0 dX0_size_0 rfl rfl ?_
  refine g_get C inX0 (C.win (by decide) (by decide)) rfl rfl 2 (by decide) tw_110 rfl dX0_size_1 ?_
  exact g_iret C hr hlk hw dX0_size_4

set_option maxHeartbeats 4000000 in
set_option maxRecDepth 100000 in
theorem c_X0_forgetAll (l : Launch) (G : Gp) (hO : gOK G) (hwin : ∀ k, 0 ≤ k → k < 17 → k ∈ gks G)   {st : St} {Q : St → Prop} (hw : wp_X0_forgetAll  st Q) : MV l G yX0_forgetAll cX0_forgetAll 1 { frames := 0, cells := 0, slots := 0, locals := 0 } [.ref (gh G 11)] st Q := by
  refine MV.of (own := RX0) (lo := 0) (hi := 17) hO hwin (by decide) rfl (Nat.le_of_ble_eq_true rfl) (fun p e s m args below meth c C hr hlk => ?_)
  refine g_lv (lv' := [(0, .ref (gh G 11))]) rfl ?_
  unfold wp_X0_forgetAll at hw
  refine g_aload_n C 0 dX0_forgetAll_0 rfl rfl ?_
  refine g_iconst C (0 : Int32) dX0_forgetAll_1 (by decide) ?_
  refine g_put (ty := .int) (0 : Int32) C inX0 tyX0_ok nmX0 (C.win (by decide) (by decide)) rfl rfl 2 (by decide) tw_110 rfl (by decide +kernel) rfl rfl (Nat.le_of_ble_eq_true rfl) rfl dX0_forgetAll_2 ?_
  exact g_vret C hr hlk hw dX0_forgetAll_5

set_option maxHeartbeats 4000000 in
set_option maxRecDepth 100000 in
theorem c_X0_forgetOldest (l : Launch) (G : Gp) (hO : gOK G) (hwin : ∀ k, 0 ≤ k → k < 17 → k ∈ gks G)   {st : St} {Q : St → Prop} (hw : wp_X0_forgetOldest  st Q) : MV l G yX0_forgetOldest cX0_forgetOldest 1 { frames := 1, cells := 0, slots := 0, locals := 18 } [.ref (gh G 11)] st Q := by
  refine MV.of (own := RX0) (lo := 0) (hi := 17) hO hwin (by decide) rfl (Nat.le_of_ble_eq_true rfl) (fun p e s m args below meth c C hr hlk => ?_)
  refine g_lv (lv' := [(0, .ref (gh G 11))]) rfl ?_
  unfold wp_X0_forgetOldest at hw
  refine g_aload_n C 0 dX0_forgetOldest_0 rfl rfl ?_
  refine g_get C inX0 (C.win (by decide) (by decide)) rfl rfl 0 (by decide) tw_108 rfl dX0_forgetOldest_1 ?_
  refine g_iconst C (1 : Int32) dX0_forgetOldest_4 (by decide) ?_
  refine g_aload_n C 0 dX0_forgetOldest_5 rfl rfl ?_
  refine g_get C inX0 (C.win (by decide) (by decide)) rfl rfl 0 (by decide) tw_108 rfl dX0_forgetOldest_6 ?_
  refine g_iconst C (0 : Int32) dX0_forgetOldest_9 (by decide) ?_
  refine g_iconst C (3 : Int32) dX0_forgetOldest_10 (by decide) ?_
  refine g_copy C tw_353 kCopy (C.win (by decide) (by decide)) (C.win (by decide) (by decide)) (fun _ => rfl) (fun _ => rfl) hw.1 (by decide) (by decide) dX0_forgetOldest_11 ?_
  replace hw := hw.2
  refine g_aload_n C 0 dX0_forgetOldest_14 rfl rfl ?_
  refine g_get C inX0 (C.win (by decide) (by decide)) rfl rfl 1 (by decide) tw_109 rfl dX0_forgetOldest_15 ?_
  refine g_bipush C (27 : Int32) dX0_forgetOldest_18 (by decide) ?_
  refine g_aload_n C 0 dX0_forgetOldest_20 rfl rfl ?_
  refine g_get C inX0 (C.win (by decide) (by decide)) rfl rfl 1 (by decide) tw_109 rfl dX0_forgetOldest_21 ?_
  refine g_iconst C (0 : Int32) dX0_forgetOldest_24 (by decide) ?_
  refine g_bipush C (81 : Int32) dX0_forgetOldest_25 (by decide) ?_
  refine g_copy C tw_353 kCopy (C.win (by decide) (by decide)) (C.win (by decide) (by decide)) (fun _ => rfl) (fun _ => rfl) hw.1 (by decide) (by decide) dX0_forgetOldest_27 ?_
  replace hw := hw.2
  refine g_aload_n C 0 dX0_forgetOldest_30 rfl rfl ?_
  refine g_iconst C (3 : Int32) dX0_forgetOldest_31 (by decide) ?_
  refine g_put (ty := .int) (3 : Int32) C inX0 tyX0_ok nmX0 (C.win (by decide) (by decide)) rfl rfl 2 (by decide) tw_110 rfl (by decide +kernel) rfl rfl (Nat.le_of_ble_eq_true rfl) rfl dX0_forgetOldest_32 ?_
  exact g_vret C hr hlk hw dX0_forgetOldest_35

set_option maxHeartbeats 4000000 in
set_option maxRecDepth 100000 in
theorem c_X0_remember (l : Launch) (G : Gp) (hO : gOK G) (hwin : ∀ k, 0 ≤ k → k < 17 → k ∈ gks G) {x1 : Int32} {k2 : Nat} (hk2 : isPol k2) {st : St} {Q : St → Prop} (hw : wp_X0_remember x1 k2 st Q) : MV l G yX0_remember cX0_remember 3 { frames := 2, cells := 0, slots := 0, locals := 40 } [.ref (gh G 11), .int x1, .ref (gh G k2)] st Q := by
  refine MV.of (own := RX0) (lo := 0) (hi := 17) hO hwin (by decide) rfl (Nat.le_of_ble_eq_true rfl) (fun p e s m args below meth c C hr hlk => ?_)
  refine g_lv (lv' := [(0, .ref (gh G 11)), (1, .int x1), (2, .ref (gh G k2))]) rfl ?_
  unfold wp_X0_remember at hw
  obtain ⟨P12, hP12⟩ : ∃ P : St → Prop, P = fun st => WG p l e ({ frames := 2, cells := 0, slots := 0, locals := 40 } : Room) s m args below meth c 0 0 (MQ below (va_Qv Q (gB G) (gA G)) args s 0 0 (gA G)) G 3 12 [(0, .ref (gh G 11)), (1, .int x1), (2, .ref (gh G k2))] [] st := ⟨_, rfl⟩
  replace hw := hw P12
  replace hw := hw (by
    intro st hw
    rw [hP12]
    refine g_aload_n C 0 dX0_remember_12 rfl rfl ?_
    refine g_get C inX0 (C.win (by decide) (by decide)) rfl rfl 0 (by decide) tw_108 rfl dX0_remember_13 ?_
    refine g_aload_n C 0 dX0_remember_16 rfl rfl ?_
    refine g_get C inX0 (C.win (by decide) (by decide)) rfl rfl 2 (by decide) tw_110 rfl dX0_remember_17 ?_
    refine g_iload_n C 1 dX0_remember_20 rfl rfl ?_
    refine g_iast C (C.win (by decide) (by decide)) (fun _ => rfl) hw.1 dX0_remember_21 ?_
    replace hw := hw.2
    refine g_aload_n C 2 dX0_remember_22 rfl rfl ?_
    refine g_aload_n C 0 dX0_remember_23 rfl rfl ?_
    refine g_get C inX0 (C.win (by decide) (by decide)) rfl rfl 1 (by decide) tw_109 rfl dX0_remember_24 ?_
    refine g_aload_n C 0 dX0_remember_27 rfl rfl ?_
    refine g_get C inX0 (C.win (by decide) (by decide)) rfl rfl 2 (by decide) tw_110 rfl dX0_remember_28 ?_
    refine g_bipush C (27 : Int32) dX0_remember_31 (by decide) ?_
    refine g_imul C dX0_remember_33 ?_
    refine g_callVv C (c_X1_saveInto l G hO hwin hk2 hw) kX1_saveInto tw_354 (Rv.of C (C.pol hk2) (isPol.cell hk2 G _) (ci := 1) rfl) rfl rfl ⟨Nat.le_of_ble_eq_true rfl, Nat.le_of_ble_eq_true rfl⟩ (As := [.ref (gh G 13), .int (((up2 st 12 (st 11 2).toNatClampNeg x1) 11 2) * (27 : Int32))]) (rest := []) rfl rfl (Nat.le_of_ble_eq_true rfl) dX0_remember_34 ⟨Nat.le_of_ble_eq_true rfl, Nat.le_of_ble_eq_true rfl⟩ (fun s_1 hw => ?_)
    refine g_aload_n C 0 dX0_remember_37 rfl rfl ?_
    refine g_dup C dX0_remember_38 rfl ?_
    refine g_get C inX0 (C.win (by decide) (by decide)) rfl rfl 2 (by decide) tw_110 rfl dX0_remember_39 ?_
    refine g_iconst C (1 : Int32) dX0_remember_42 (by decide) ?_
    refine g_iadd C dX0_remember_43 ?_
    refine g_put (ty := .int) ((s_1 11 2) + (1 : Int32)) C inX0 tyX0_ok nmX0 (C.win (by decide) (by decide)) rfl rfl 2 (by decide) tw_110 rfl (by decide +kernel) rfl rfl (Nat.le_of_ble_eq_true rfl) rfl dX0_remember_44 ?_
    exact g_vret C hr hlk hw dX0_remember_47)
  refine g_aload_n C 0 dX0_remember_0 rfl rfl ?_
  refine g_get C inX0 (C.win (by decide) (by decide)) rfl rfl 2 (by decide) tw_110 rfl dX0_remember_1 ?_
  refine g_iconst C (4 : Int32) dX0_remember_4 (by decide) ?_
  refine g_icmp_lt C 12 dX0_remember_5 (by decide) (fun c_3 => ?_) (fun c_3 => ?_)
  · replace hw := hw.1 c_3
    rw [hP12] at hw
    exact g_perm [0, 1, 2] rfl (hw)
  · replace hw := hw.2 c_3
    refine g_aload_n C 0 dX0_remember_8 rfl rfl ?_
    refine g_callVv C (c_X0_forgetOldest l G hO hwin hw) kX0_forgetOldest tw_349 (Rv.of C (C.win (by decide) (by decide)) rfl (ci := 0) rfl) rfl rfl ⟨Nat.le_of_ble_eq_true rfl, Nat.le_of_ble_eq_true rfl⟩ (As := []) (rest := []) rfl rfl (Nat.le_of_ble_eq_true rfl) dX0_remember_9 ⟨Nat.le_of_ble_eq_true rfl, Nat.le_of_ble_eq_true rfl⟩ (fun s_2 hw => ?_)
    rw [hP12] at hw
    exact g_perm [0, 1, 2] rfl (hw)

set_option maxHeartbeats 4000000 in
set_option maxRecDepth 100000 in
theorem c_X0_latestNumber (l : Launch) (G : Gp) (hO : gOK G) (hwin : ∀ k, 0 ≤ k → k < 17 → k ∈ gks G)   {st : St} {Q : Int32 → St → Prop} (hw : wp_X0_latestNumber  st Q) : MI l G yX0_latestNumber cX0_latestNumber 1 (some .int) { frames := 0, cells := 0, slots := 0, locals := 0 } [.ref (gh G 11)] st Q := by
  refine MI.of (own := RX0) (lo := 0) (hi := 17) hO hwin (by decide) rfl (Nat.le_of_ble_eq_true rfl) (fun p e s m args below meth c C hr hlk => ?_)
  refine g_lv (lv' := [(0, .ref (gh G 11))]) rfl ?_
  unfold wp_X0_latestNumber at hw
  refine g_aload_n C 0 dX0_latestNumber_0 rfl rfl ?_
  refine g_get C inX0 (C.win (by decide) (by decide)) rfl rfl 2 (by decide) tw_110 rfl dX0_latestNumber_1 ?_
  refine g_if_le C 21 dX0_latestNumber_4 (by decide) (fun c_1 => ?_) (fun c_1 => ?_)
  · replace hw := hw.1 c_1
    refine g_iconst C (0 : Int32) dX0_latestNumber_21 (by decide) ?_
    exact g_iret C hr hlk hw dX0_latestNumber_22
  · replace hw := hw.2 c_1
    refine g_aload_n C 0 dX0_latestNumber_7 rfl rfl ?_
    refine g_get C inX0 (C.win (by decide) (by decide)) rfl rfl 0 (by decide) tw_108 rfl dX0_latestNumber_8 ?_
    refine g_aload_n C 0 dX0_latestNumber_11 rfl rfl ?_
    refine g_get C inX0 (C.win (by decide) (by decide)) rfl rfl 2 (by decide) tw_110 rfl dX0_latestNumber_12 ?_
    refine g_iconst C (1 : Int32) dX0_latestNumber_15 (by decide) ?_
    refine g_isub C dX0_latestNumber_16 ?_
    refine g_iald C (C.win (by decide) (by decide)) rfl hw.1 dX0_latestNumber_17 ?_
    replace hw := hw.2
    refine g_goto C 22 dX0_latestNumber_18 (by decide) ?_
    exact g_iret C hr hlk hw dX0_latestNumber_22

set_option maxHeartbeats 4000000 in
set_option maxRecDepth 100000 in
theorem c_X0_recallInto (l : Launch) (G : Gp) (hO : gOK G) (hwin : ∀ k, 0 ≤ k → k < 17 → k ∈ gks G) {k1 : Nat} (hk1 : isPol k1) {st : St} {Q : St → Prop} (hw : wp_X0_recallInto k1 st Q) : MV l G yX0_recallInto cX0_recallInto 2 { frames := 2, cells := 0, slots := 0, locals := 40 } [.ref (gh G 11), .ref (gh G k1)] st Q := by
  refine MV.of (own := RX0) (lo := 0) (hi := 17) hO hwin (by decide) rfl (Nat.le_of_ble_eq_true rfl) (fun p e s m args below meth c C hr hlk => ?_)
  refine g_lv (lv' := [(0, .ref (gh G 11)), (1, .ref (gh G k1))]) rfl ?_
  unfold wp_X0_recallInto at hw
  refine g_aload_n C 0 dX0_recallInto_0 rfl rfl ?_
  refine g_get C inX0 (C.win (by decide) (by decide)) rfl rfl 2 (by decide) tw_110 rfl dX0_recallInto_1 ?_
  refine g_if_le C 32 dX0_recallInto_4 (by decide) (fun c_2 => ?_) (fun c_2 => ?_)
  · replace hw := hw.1 c_2
    exact g_vret C hr hlk hw dX0_recallInto_32
  · replace hw := hw.2 c_2
    refine g_aload_n C 0 dX0_recallInto_7 rfl rfl ?_
    refine g_dup C dX0_recallInto_8 rfl ?_
    refine g_get C inX0 (C.win (by decide) (by decide)) rfl rfl 2 (by decide) tw_110 rfl dX0_recallInto_9 ?_
    refine g_iconst C (1 : Int32) dX0_recallInto_12 (by decide) ?_
    refine g_isub C dX0_recallInto_13 ?_
    refine g_put (ty := .int) ((st 11 2) - (1 : Int32)) C inX0 tyX0_ok nmX0 (C.win (by decide) (by decide)) rfl rfl 2 (by decide) tw_110 rfl (by decide +kernel) rfl rfl (Nat.le_of_ble_eq_true rfl) rfl dX0_recallInto_14 ?_
    refine g_aload_n C 1 dX0_recallInto_17 rfl rfl ?_
    refine g_aload_n C 0 dX0_recallInto_18 rfl rfl ?_
    refine g_get C inX0 (C.win (by decide) (by decide)) rfl rfl 1 (by decide) tw_109 rfl dX0_recallInto_19 ?_
    refine g_aload_n C 0 dX0_recallInto_22 rfl rfl ?_
    refine g_get C inX0 (C.win (by decide) (by decide)) rfl rfl 2 (by decide) tw_110 rfl dX0_recallInto_23 ?_
    refine g_bipush C (27 : Int32) dX0_recallInto_26 (by decide) ?_
    refine g_imul C dX0_recallInto_28 ?_
    refine g_callVv C (c_X1_restoreFrom l G hO hwin hk1 hw) kX1_restoreFrom tw_439 (Rv.of C (C.pol hk1) (isPol.cell hk1 G _) (ci := 1) rfl) rfl rfl ⟨Nat.le_of_ble_eq_true rfl, Nat.le_of_ble_eq_true rfl⟩ (As := [.ref (gh G 13), .int (((up2 st 11 2 ((st 11 2) - (1 : Int32))) 11 2) * (27 : Int32))]) (rest := []) rfl rfl (Nat.le_of_ble_eq_true rfl) dX0_recallInto_29 ⟨Nat.le_of_ble_eq_true rfl, Nat.le_of_ble_eq_true rfl⟩ (fun s_1 hw => ?_)
    exact g_vret C hr hlk hw dX0_recallInto_32

set_option maxHeartbeats 4000000 in
set_option maxRecDepth 100000 in
theorem c_X3_empty (l : Launch) (G : Gp) (hO : gOK G) (hwin : ∀ k, 0 ≤ k → k < 17 → k ∈ gks G)   {st : St} {Q : St → Prop} (hw : wp_X3_empty  st Q) : MV l G yX3_empty cX3_empty 2 { frames := 0, cells := 0, slots := 0, locals := 0 } [.ref (gh G 14)] st Q := by
  refine MV.of (own := RX3) (lo := 0) (hi := 17) hO hwin (by decide) rfl (Nat.le_of_ble_eq_true rfl) (fun p e s m args below meth c C hr hlk => ?_)
  refine g_lv (lv' := [(0, .ref (gh G 14))]) rfl ?_
  unfold wp_X3_empty at hw
  obtain ⟨P2, hP2⟩ : ∃ P : Int32 → St → Prop, P = fun x1 st => WG p l e ({ frames := 0, cells := 0, slots := 0, locals := 0 } : Room) s m args below meth c 0 0 (MQ below (va_Qv Q (gB G) (gA G)) args s 0 0 (gA G)) G 2 2 [(0, .ref (gh G 14)), (1, .int x1)] [] st := ⟨_, rfl⟩
  replace hw := hw P2
  replace hw := hw (by
    intro x1 st hw
    rw [hP2]
    refine g_iload_n C 1 dX3_empty_2 rfl rfl ?_
    refine g_sipush C (256 : Int32) dX3_empty_3 (by decide) ?_
    refine g_icmp_ge C 22 dX3_empty_6 (by decide) (fun c_2 => ?_) (fun c_2 => ?_)
    · replace hw := hw.1 c_2
      refine g_aload_n C 0 dX3_empty_22 rfl rfl ?_
      refine g_iconst C (0 : Int32) dX3_empty_23 (by decide) ?_
      refine g_put (ty := .int) (0 : Int32) C inX3 tyX3_ok nmX3 (C.win (by decide) (by decide)) rfl rfl 2 (by decide) tw_126 rfl (by decide +kernel) rfl rfl (Nat.le_of_ble_eq_true rfl) rfl dX3_empty_24 ?_
      exact g_vret C hr hlk hw dX3_empty_27
    · replace hw := hw.2 c_2
      refine g_aload_n C 0 dX3_empty_9 rfl rfl ?_
      refine g_get C inX3 (C.win (by decide) (by decide)) rfl rfl 1 (by decide) tw_125 rfl dX3_empty_10 ?_
      refine g_iload_n C 1 dX3_empty_13 rfl rfl ?_
      refine g_iconst C (0 : Int32) dX3_empty_14 (by decide) ?_
      refine g_zast C (C.win (by decide) (by decide)) (fun _ => rfl) hw.1 dX3_empty_15 ?_
      replace hw := hw.2
      obtain ⟨x1_1, ex1_1⟩ : ∃ z : Int32, z = x1 + (1 : Int32) := ⟨_, rfl⟩
      replace hw := hw x1_1 ex1_1
      refine g_iinc C x1_1 1 dX3_empty_16 rfl ex1_1.symm (by decide) (lv' := [(1, .int x1_1), (0, .ref (gh G 14))]) rfl ?_
      refine g_goto C 2 dX3_empty_19 (by decide) ?_
      rw [hP2] at hw
      exact g_perm [1, 0] rfl (hw))
  refine g_iconst C (0 : Int32) dX3_empty_0 (by decide) ?_
  refine g_istore_n C dX3_empty_1 rfl (by decide) (lv' := [(1, .int (0 : Int32)), (0, .ref (gh G 14))]) rfl ?_
  rw [hP2] at hw
  exact g_perm [1, 0] rfl (hw)

set_option maxHeartbeats 4000000 in
set_option maxRecDepth 100000 in
theorem c_X3_add (l : Launch) (G : Gp) (hO : gOK G) (hwin : ∀ k, 0 ≤ k → k < 17 → k ∈ gks G) {x1 : Int32}  {st : St} {Q : St → Prop} (hw : wp_X3_add x1 st Q) : MV l G yX3_add cX3_add 2 { frames := 0, cells := 0, slots := 0, locals := 0 } [.ref (gh G 14), .int x1] st Q := by
  refine MV.of (own := RX3) (lo := 0) (hi := 17) hO hwin (by decide) rfl (Nat.le_of_ble_eq_true rfl) (fun p e s m args below meth c C hr hlk => ?_)
  refine g_lv (lv' := [(0, .ref (gh G 14)), (1, .int x1)]) rfl ?_
  unfold wp_X3_add at hw
  refine g_iload_n C 1 dX3_add_0 rfl rfl ?_
  refine g_if_lt C 30 dX3_add_1 (by decide) (fun c_4 => ?_) (fun c_4 => ?_)
  · replace hw := hw.1 c_4
    exact g_vret C hr hlk hw dX3_add_30
  · replace hw := hw.2 c_4
    refine g_iload_n C 1 dX3_add_4 rfl rfl ?_
    refine g_sipush C (256 : Int32) dX3_add_5 (by decide) ?_
    refine g_icmp_ge C 30 dX3_add_8 (by decide) (fun c_3 => ?_) (fun c_3 => ?_)
    · replace hw := hw.1 c_3
      exact g_vret C hr hlk hw dX3_add_30
    · replace hw := hw.2 c_3
      refine g_aload_n C 0 dX3_add_11 rfl rfl ?_
      refine g_get C inX3 (C.win (by decide) (by decide)) rfl rfl 1 (by decide) tw_125 rfl dX3_add_12 ?_
      refine g_iload_n C 1 dX3_add_15 rfl rfl ?_
      refine g_zald C (C.win (by decide) (by decide)) rfl hw.1 dX3_add_16 ?_
      replace hw := hw.2
      refine g_if_ne C 30 dX3_add_17 (by decide) (fun c_2 => ?_) (fun c_2 => ?_)
      · replace hw := hw.2 c_2
        exact g_vret C hr hlk hw dX3_add_30
      · replace hw := hw.1 c_2
        refine g_aload_n C 0 dX3_add_20 rfl rfl ?_
        refine g_get C inX3 (C.win (by decide) (by decide)) rfl rfl 2 (by decide) tw_126 rfl dX3_add_21 ?_
        refine g_sipush C (256 : Int32) dX3_add_24 (by decide) ?_
        refine g_icmp_lt C 31 dX3_add_27 (by decide) (fun c_1 => ?_) (fun c_1 => ?_)
        · replace hw := hw.1 c_1
          refine g_aload_n C 0 dX3_add_31 rfl rfl ?_
          refine g_get C inX3 (C.win (by decide) (by decide)) rfl rfl 1 (by decide) tw_125 rfl dX3_add_32 ?_
          refine g_iload_n C 1 dX3_add_35 rfl rfl ?_
          refine g_iconst C (1 : Int32) dX3_add_36 (by decide) ?_
          refine g_zast C (C.win (by decide) (by decide)) (fun _ => rfl) hw.1 dX3_add_37 ?_
          replace hw := hw.2
          refine g_aload_n C 0 dX3_add_38 rfl rfl ?_
          refine g_get C inX3 (C.win (by decide) (by decide)) rfl rfl 0 (by decide) tw_124 rfl dX3_add_39 ?_
          refine g_aload_n C 0 dX3_add_42 rfl rfl ?_
          refine g_get C inX3 (C.win (by decide) (by decide)) rfl rfl 2 (by decide) tw_126 rfl dX3_add_43 ?_
          refine g_iload_n C 1 dX3_add_46 rfl rfl ?_
          refine g_iast C (C.win (by decide) (by decide)) (fun _ => rfl) hw.1 dX3_add_47 ?_
          replace hw := hw.2
          refine g_aload_n C 0 dX3_add_48 rfl rfl ?_
          refine g_dup C dX3_add_49 rfl ?_
          refine g_get C inX3 (C.win (by decide) (by decide)) rfl rfl 2 (by decide) tw_126 rfl dX3_add_50 ?_
          refine g_iconst C (1 : Int32) dX3_add_53 (by decide) ?_
          refine g_iadd C dX3_add_54 ?_
          refine g_put (ty := .int) (((up2 (up2 st 16 x1.toNatClampNeg (vp_nar .boolean (1 : Int32))) 15 ((up2 st 16 x1.toNatClampNeg (vp_nar .boolean (1 : Int32))) 14 2).toNatClampNeg x1) 14 2) + (1 : Int32)) C inX3 tyX3_ok nmX3 (C.win (by decide) (by decide)) rfl rfl 2 (by decide) tw_126 rfl (by decide +kernel) rfl rfl (Nat.le_of_ble_eq_true rfl) rfl dX3_add_55 ?_
          exact g_vret C hr hlk hw dX3_add_58
        · replace hw := hw.2 c_1
          exact g_vret C hr hlk hw dX3_add_30

set_option maxHeartbeats 4000000 in
set_option maxRecDepth 100000 in
theorem c_X3_anyGranted (l : Launch) (G : Gp) (hO : gOK G) (hwin : ∀ k, 0 ≤ k → k < 17 → k ∈ gks G) {k1 : Nat} {x2 : Int32} (hk1 : isPol k1) {st : St} {Q : Int32 → St → Prop} (hw : wp_X3_anyGranted k1 x2 st Q) : MI l G yX3_anyGranted cX3_anyGranted 4 (some .boolean) { frames := 2, cells := 0, slots := 0, locals := 43 } [.ref (gh G 14), .ref (gh G k1), .int x2] st Q := by
  refine MI.of (own := RX3) (lo := 0) (hi := 17) hO hwin (by decide) rfl (Nat.le_of_ble_eq_true rfl) (fun p e s m args below meth c C hr hlk => ?_)
  refine g_lv (lv' := [(0, .ref (gh G 14)), (1, .ref (gh G k1)), (2, .int x2)]) rfl ?_
  unfold wp_X3_anyGranted at hw
  obtain ⟨P2, hP2⟩ : ∃ P : Int32 → St → Prop, P = fun x3 st => WG p l e ({ frames := 2, cells := 0, slots := 0, locals := 43 } : Room) s m args below meth c 0 0 (MQ below (va_Qi Q (gB G) (gA G)) args s 0 0 (gA G)) G 4 2 [(0, .ref (gh G 14)), (1, .ref (gh G k1)), (2, .int x2), (3, .int x3)] [] st := ⟨_, rfl⟩
  replace hw := hw P2
  replace hw := hw (by
    intro x3 st hw
    rw [hP2]
    refine g_iload_n C 3 dX3_anyGranted_2 rfl rfl ?_
    refine g_aload_n C 0 dX3_anyGranted_3 rfl rfl ?_
    refine g_get C inX3 (C.win (by decide) (by decide)) rfl rfl 2 (by decide) tw_126 rfl dX3_anyGranted_4 ?_
    refine g_icmp_ge C 33 dX3_anyGranted_7 (by decide) (fun c_5 => ?_) (fun c_5 => ?_)
    · replace hw := hw.1 c_5
      refine g_iconst C (0 : Int32) dX3_anyGranted_33 (by decide) ?_
      exact g_zret C hr hlk rfl hw dX3_anyGranted_34
    · replace hw := hw.2 c_5
      refine g_aload_n C 1 dX3_anyGranted_10 rfl rfl ?_
      refine g_aload_n C 0 dX3_anyGranted_11 rfl rfl ?_
      refine g_get C inX3 (C.win (by decide) (by decide)) rfl rfl 0 (by decide) tw_124 rfl dX3_anyGranted_12 ?_
      refine g_iload_n C 3 dX3_anyGranted_15 rfl rfl ?_
      refine g_iald C (C.win (by decide) (by decide)) rfl hw.1 dX3_anyGranted_16 ?_
      replace hw := hw.2
      refine g_iload_n C 2 dX3_anyGranted_17 rfl rfl ?_
      refine g_iand C dX3_anyGranted_18 ?_
      refine g_callVi C (c_X1_decisionAmong l G hO hwin hk1 hw) kX1_decisionAmong tw_592 (Rv.of C (C.pol hk1) (isPol.cell hk1 G _) (ci := 1) rfl) rfl rfl ⟨Nat.le_of_ble_eq_true rfl, Nat.le_of_ble_eq_true rfl⟩ (As := [.int ((st 15 x3.toNatClampNeg) &&& x2)]) (rest := []) rfl rfl (Nat.le_of_ble_eq_true rfl) dX3_anyGranted_19 ⟨Nat.le_of_ble_eq_true rfl, Nat.le_of_ble_eq_true rfl⟩ (fun r_2 s_1 hw => ?_)
      refine g_if_ne C 27 dX3_anyGranted_22 (by decide) (fun c_4 => ?_) (fun c_4 => ?_)
      · replace hw := hw.2 c_4
        obtain ⟨x3_3, ex3_3⟩ : ∃ z : Int32, z = x3 + (1 : Int32) := ⟨_, rfl⟩
        replace hw := hw x3_3 ex3_3
        refine g_iinc C x3_3 3 dX3_anyGranted_27 rfl ex3_3.symm (by decide) (lv' := [(3, .int x3_3), (0, .ref (gh G 14)), (1, .ref (gh G k1)), (2, .int x2)]) rfl ?_
        refine g_goto C 2 dX3_anyGranted_30 (by decide) ?_
        rw [hP2] at hw
        exact g_perm [1, 2, 3, 0] rfl (hw)
      · replace hw := hw.1 c_4
        refine g_iconst C (1 : Int32) dX3_anyGranted_25 (by decide) ?_
        exact g_zret C hr hlk rfl hw dX3_anyGranted_26)
  refine g_iconst C (0 : Int32) dX3_anyGranted_0 (by decide) ?_
  refine g_istore_n C dX3_anyGranted_1 rfl (by decide) (lv' := [(3, .int (0 : Int32)), (0, .ref (gh G 14)), (1, .ref (gh G k1)), (2, .int x2)]) rfl ?_
  rw [hP2] at hw
  exact g_perm [1, 2, 3, 0] rfl (hw)

set_option maxHeartbeats 4000000 in
set_option maxRecDepth 100000 in
theorem c_X3_sameDecisions (l : Launch) (G : Gp) (hO : gOK G) (hwin : ∀ k, 0 ≤ k → k < 17 → k ∈ gks G) {k1 : Nat} {x2 : Int32} {x3 : Int32} (hk1 : isPol k1) {st : St} {Q : Int32 → St → Prop} (hw : wp_X3_sameDecisions k1 x2 x3 st Q) : MI l G yX3_sameDecisions cX3_sameDecisions 5 (some .boolean) { frames := 2, cells := 0, slots := 0, locals := 43 } [.ref (gh G 14), .ref (gh G k1), .int x2, .int x3] st Q := by
  refine MI.of (own := RX3) (lo := 0) (hi := 17) hO hwin (by decide) rfl (Nat.le_of_ble_eq_true rfl) (fun p e s m args below meth c C hr hlk => ?_)
  refine g_lv (lv' := [(0, .ref (gh G 14)), (1, .ref (gh G k1)), (2, .int x2), (3, .int x3)]) rfl ?_
  unfold wp_X3_sameDecisions at hw
  obtain ⟨P3, hP3⟩ : ∃ P : Int32 → St → Prop, P = fun x4 st => WG p l e ({ frames := 2, cells := 0, slots := 0, locals := 43 } : Room) s m args below meth c 0 0 (MQ below (va_Qi Q (gB G) (gA G)) args s 0 0 (gA G)) G 5 3 [(0, .ref (gh G 14)), (1, .ref (gh G k1)), (2, .int x2), (3, .int x3), (4, .int x4)] [] st := ⟨_, rfl⟩
  replace hw := hw P3
  replace hw := hw (by
    intro x4 st hw
    rw [hP3]
    refine g_iload C 4 dX3_sameDecisions_3 rfl ?_
    refine g_aload_n C 0 dX3_sameDecisions_5 rfl rfl ?_
    refine g_get C inX3 (C.win (by decide) (by decide)) rfl rfl 2 (by decide) tw_126 rfl dX3_sameDecisions_6 ?_
    refine g_icmp_ge C 49 dX3_sameDecisions_9 (by decide) (fun c_7 => ?_) (fun c_7 => ?_)
    · replace hw := hw.1 c_7
      refine g_iconst C (1 : Int32) dX3_sameDecisions_49 (by decide) ?_
      exact g_zret C hr hlk rfl hw dX3_sameDecisions_50
    · replace hw := hw.2 c_7
      refine g_aload_n C 1 dX3_sameDecisions_12 rfl rfl ?_
      refine g_aload_n C 0 dX3_sameDecisions_13 rfl rfl ?_
      refine g_get C inX3 (C.win (by decide) (by decide)) rfl rfl 0 (by decide) tw_124 rfl dX3_sameDecisions_14 ?_
      refine g_iload C 4 dX3_sameDecisions_17 rfl ?_
      refine g_iald C (C.win (by decide) (by decide)) rfl hw.1 dX3_sameDecisions_19 ?_
      replace hw := hw.2
      refine g_iload_n C 2 dX3_sameDecisions_20 rfl rfl ?_
      refine g_iand C dX3_sameDecisions_21 ?_
      refine g_callVi C (c_X1_decisionAmong l G hO hwin hk1 hw) kX1_decisionAmong tw_592 (Rv.of C (C.pol hk1) (isPol.cell hk1 G _) (ci := 1) rfl) rfl rfl ⟨Nat.le_of_ble_eq_true rfl, Nat.le_of_ble_eq_true rfl⟩ (As := [.int ((st 15 x4.toNatClampNeg) &&& x2)]) (rest := []) rfl rfl (Nat.le_of_ble_eq_true rfl) dX3_sameDecisions_22 ⟨Nat.le_of_ble_eq_true rfl, Nat.le_of_ble_eq_true rfl⟩ (fun r_2 s_1 hw => ?_)
      refine g_aload_n C 1 dX3_sameDecisions_25 rfl rfl ?_
      refine g_aload_n C 0 dX3_sameDecisions_26 rfl rfl ?_
      refine g_get C inX3 (C.win (by decide) (by decide)) rfl rfl 0 (by decide) tw_124 rfl dX3_sameDecisions_27 ?_
      refine g_iload C 4 dX3_sameDecisions_30 rfl ?_
      refine g_iald C (C.win (by decide) (by decide)) rfl hw.1 dX3_sameDecisions_32 ?_
      replace hw := hw.2
      refine g_iload_n C 3 dX3_sameDecisions_33 rfl rfl ?_
      refine g_iand C dX3_sameDecisions_34 ?_
      refine g_callVi C (c_X1_decisionAmong l G hO hwin hk1 hw) kX1_decisionAmong tw_592 (Rv.of C (C.pol hk1) (isPol.cell hk1 G _) (ci := 1) rfl) rfl rfl ⟨Nat.le_of_ble_eq_true rfl, Nat.le_of_ble_eq_true rfl⟩ (As := [.int ((s_1 15 x4.toNatClampNeg) &&& x3)]) (rest := [.int r_2]) rfl rfl (Nat.le_of_ble_eq_true rfl) dX3_sameDecisions_35 ⟨Nat.le_of_ble_eq_true rfl, Nat.le_of_ble_eq_true rfl⟩ (fun r_4 s_3 hw => ?_)
      refine g_icmp_eq C 43 dX3_sameDecisions_38 (by decide) (fun c_6 => ?_) (fun c_6 => ?_)
      · replace hw := hw.1 c_6
        obtain ⟨x4_5, ex4_5⟩ : ∃ z : Int32, z = x4 + (1 : Int32) := ⟨_, rfl⟩
        replace hw := hw x4_5 ex4_5
        refine g_iinc C x4_5 4 dX3_sameDecisions_43 rfl ex4_5.symm (by decide) (lv' := [(4, .int x4_5), (0, .ref (gh G 14)), (1, .ref (gh G k1)), (2, .int x2), (3, .int x3)]) rfl ?_
        refine g_goto C 3 dX3_sameDecisions_46 (by decide) ?_
        rw [hP3] at hw
        exact g_perm [1, 2, 3, 4, 0] rfl (hw)
      · replace hw := hw.2 c_6
        refine g_iconst C (0 : Int32) dX3_sameDecisions_41 (by decide) ?_
        exact g_zret C hr hlk rfl hw dX3_sameDecisions_42)
  refine g_iconst C (0 : Int32) dX3_sameDecisions_0 (by decide) ?_
  refine g_istore C dX3_sameDecisions_1 (by decide) (lv' := [(4, .int (0 : Int32)), (0, .ref (gh G 14)), (1, .ref (gh G k1)), (2, .int x2), (3, .int x3)]) rfl ?_
  rw [hP3] at hw
  exact g_perm [1, 2, 3, 4, 0] rfl (hw)

set_option maxHeartbeats 4000000 in
set_option maxRecDepth 100000 in
theorem c_X2_length (l : Launch) (G : Gp) (hO : gOK G) (hwin : ∀ k, 0 ≤ k → k < 17 → k ∈ gks G)   {st : St} {Q : Int32 → St → Prop} (hw : wp_X2_length  st Q) : MI l G yX2_length cX2_length 1 (some .int) { frames := 0, cells := 0, slots := 0, locals := 0 } [.ref (gh G 5)] st Q := by
  refine MI.of (own := RX2) (lo := 0) (hi := 17) hO hwin (by decide) rfl (Nat.le_of_ble_eq_true rfl) (fun p e s m args below meth c C hr hlk => ?_)
  refine g_lv (lv' := [(0, .ref (gh G 5))]) rfl ?_
  unfold wp_X2_length at hw
  refine g_aload_n C 0 dX2_length_0 rfl rfl ?_
  refine g_get C inX2 (C.win (by decide) (by decide)) rfl rfl 4 (by decide) tw_86 rfl dX2_length_1 ?_
  exact g_iret C hr hlk hw dX2_length_4

set_option maxHeartbeats 4000000 in
set_option maxRecDepth 100000 in
theorem c_X2_oldDraft (l : Launch) (G : Gp) (hO : gOK G) (hwin : ∀ k, 0 ≤ k → k < 17 → k ∈ gks G)   {st : St} {Q : Nat → St → Prop} (hw : wp_X2_oldDraft  st Q) : MR l G yX2_oldDraft cX2_oldDraft 1 (some (.object "PolicyComparer$Policy")) { frames := 0, cells := 0, slots := 0, locals := 0 } [.ref (gh G 5)] st Q := by
  refine MR.of (own := RX2) (lo := 0) (hi := 17) hO hwin (by decide) rfl (Nat.le_of_ble_eq_true rfl) (fun p e s m args below meth c C hr hlk => ?_)
  refine g_lv (lv' := [(0, .ref (gh G 5))]) rfl ?_
  unfold wp_X2_oldDraft at hw
  refine g_aload_n C 0 dX2_oldDraft_0 rfl rfl ?_
  refine g_get C inX2 (C.win (by decide) (by decide)) rfl rfl 1 (by decide) tw_83 rfl dX2_oldDraft_1 ?_
  exact g_aret C hr hlk hw dX2_oldDraft_4

set_option maxHeartbeats 4000000 in
set_option maxRecDepth 100000 in
theorem c_X2_newDraft (l : Launch) (G : Gp) (hO : gOK G) (hwin : ∀ k, 0 ≤ k → k < 17 → k ∈ gks G)   {st : St} {Q : Nat → St → Prop} (hw : wp_X2_newDraft  st Q) : MR l G yX2_newDraft cX2_newDraft 1 (some (.object "PolicyComparer$Policy")) { frames := 0, cells := 0, slots := 0, locals := 0 } [.ref (gh G 5)] st Q := by
  refine MR.of (own := RX2) (lo := 0) (hi := 17) hO hwin (by decide) rfl (Nat.le_of_ble_eq_true rfl) (fun p e s m args below meth c C hr hlk => ?_)
  refine g_lv (lv' := [(0, .ref (gh G 5))]) rfl ?_
  unfold wp_X2_newDraft at hw
  refine g_aload_n C 0 dX2_newDraft_0 rfl rfl ?_
  refine g_get C inX2 (C.win (by decide) (by decide)) rfl rfl 2 (by decide) tw_84 rfl dX2_newDraft_1 ?_
  exact g_aret C hr hlk hw dX2_newDraft_4

set_option maxHeartbeats 4000000 in
set_option maxRecDepth 100000 in
theorem c_X2_add (l : Launch) (G : Gp) (hO : gOK G) (hwin : ∀ k, 0 ≤ k → k < 17 → k ∈ gks G) {x1 : Int32}  {st : St} {Q : Int32 → St → Prop} (hw : wp_X2_add x1 st Q) : MI l G yX2_add cX2_add 2 (some .boolean) { frames := 0, cells := 0, slots := 0, locals := 0 } [.ref (gh G 5), .int x1] st Q := by
  refine MI.of (own := RX2) (lo := 0) (hi := 17) hO hwin (by decide) rfl (Nat.le_of_ble_eq_true rfl) (fun p e s m args below meth c C hr hlk => ?_)
  refine g_lv (lv' := [(0, .ref (gh G 5)), (1, .int x1)]) rfl ?_
  unfold wp_X2_add at hw
  refine g_aload_n C 0 dX2_add_0 rfl rfl ?_
  refine g_get C inX2 (C.win (by decide) (by decide)) rfl rfl 4 (by decide) tw_86 rfl dX2_add_1 ?_
  refine g_if_lt C 19 dX2_add_4 (by decide) (fun c_2 => ?_) (fun c_2 => ?_)
  · replace hw := hw.1 c_2
    refine g_iconst C (0 : Int32) dX2_add_19 (by decide) ?_
    exact g_zret C hr hlk rfl hw dX2_add_20
  · replace hw := hw.2 c_2
    refine g_aload_n C 0 dX2_add_7 rfl rfl ?_
    refine g_get C inX2 (C.win (by decide) (by decide)) rfl rfl 4 (by decide) tw_86 rfl dX2_add_8 ?_
    refine g_aload_n C 0 dX2_add_11 rfl rfl ?_
    refine g_get C inX2 (C.win (by decide) (by decide)) rfl rfl 0 (by decide) tw_82 rfl dX2_add_12 ?_
    refine g_alen (t0 := 1) C (C.win (by decide) (by decide)) (240 : Int32) rfl rfl rfl dX2_add_15 ?_
    refine g_icmp_lt C 21 dX2_add_16 (by decide) (fun c_1 => ?_) (fun c_1 => ?_)
    · replace hw := hw.1 c_1
      refine g_aload_n C 0 dX2_add_21 rfl rfl ?_
      refine g_get C inX2 (C.win (by decide) (by decide)) rfl rfl 0 (by decide) tw_82 rfl dX2_add_22 ?_
      refine g_aload_n C 0 dX2_add_25 rfl rfl ?_
      refine g_get C inX2 (C.win (by decide) (by decide)) rfl rfl 4 (by decide) tw_86 rfl dX2_add_26 ?_
      refine g_iload_n C 1 dX2_add_29 rfl rfl ?_
      refine g_cast C (C.win (by decide) (by decide)) (fun _ => rfl) hw.1 dX2_add_30 ?_
      replace hw := hw.2
      refine g_aload_n C 0 dX2_add_31 rfl rfl ?_
      refine g_dup C dX2_add_32 rfl ?_
      refine g_get C inX2 (C.win (by decide) (by decide)) rfl rfl 4 (by decide) tw_86 rfl dX2_add_33 ?_
      refine g_iconst C (1 : Int32) dX2_add_36 (by decide) ?_
      refine g_iadd C dX2_add_37 ?_
      refine g_put (ty := .int) (((up2 st 6 (st 5 4).toNatClampNeg (vp_nar .char x1)) 5 4) + (1 : Int32)) C inX2 tyX2_ok nmX2 (C.win (by decide) (by decide)) rfl rfl 4 (by decide) tw_86 rfl (by decide +kernel) rfl rfl (Nat.le_of_ble_eq_true rfl) rfl dX2_add_38 ?_
      refine g_iconst C (1 : Int32) dX2_add_41 (by decide) ?_
      exact g_zret C hr hlk rfl hw dX2_add_42
    · replace hw := hw.2 c_1
      refine g_iconst C (0 : Int32) dX2_add_19 (by decide) ?_
      exact g_zret C hr hlk rfl hw dX2_add_20

set_option maxHeartbeats 4000000 in
set_option maxRecDepth 100000 in
theorem c_X2_empty (l : Launch) (G : Gp) (hO : gOK G) (hwin : ∀ k, 0 ≤ k → k < 17 → k ∈ gks G)   {st : St} {Q : St → Prop} (hw : wp_X2_empty  st Q) : MV l G yX2_empty cX2_empty 1 { frames := 0, cells := 0, slots := 0, locals := 0 } [.ref (gh G 5)] st Q := by
  refine MV.of (own := RX2) (lo := 0) (hi := 17) hO hwin (by decide) rfl (Nat.le_of_ble_eq_true rfl) (fun p e s m args below meth c C hr hlk => ?_)
  refine g_lv (lv' := [(0, .ref (gh G 5))]) rfl ?_
  unfold wp_X2_empty at hw
  refine g_aload_n C 0 dX2_empty_0 rfl rfl ?_
  refine g_iconst C (0 : Int32) dX2_empty_1 (by decide) ?_
  refine g_put (ty := .int) (0 : Int32) C inX2 tyX2_ok nmX2 (C.win (by decide) (by decide)) rfl rfl 4 (by decide) tw_86 rfl (by decide +kernel) rfl rfl (Nat.le_of_ble_eq_true rfl) rfl dX2_empty_2 ?_
  exact g_vret C hr hlk hw dX2_empty_5

set_option maxHeartbeats 4000000 in
set_option maxRecDepth 100000 in
theorem c_X2_accept (l : Launch) (G : Gp) (hO : gOK G) (hwin : ∀ k, 0 ≤ k → k < 17 → k ∈ gks G) {i1 : Nat} (hi1 : i1 < nSx) {st : St} {Q : Int32 → St → Prop} (hw : wp_X2_accept i1 st Q) : MI l G yX2_accept cX2_accept 3 (some .boolean) { frames := 4, cells := 0, slots := 0, locals := 85 } [.ref (gh G 5), .ref (gK G i1)] st Q := by
  refine MI.of (own := RX2) (lo := 0) (hi := 17) hO hwin (by decide) rfl (Nat.le_of_ble_eq_true rfl) (fun p e s m args below meth c C hr hlk => ?_)
  refine g_lv (lv' := [(0, .ref (gh G 5)), (1, .ref (gK G i1))]) rfl ?_
  unfold wp_X2_accept at hw
  obtain ⟨P20, hP20⟩ : ∃ P : Int32 → St → Prop, P = fun x2 st => WG p l e ({ frames := 4, cells := 0, slots := 0, locals := 85 } : Room) s m args below meth c 0 0 (MQ below (va_Qi Q (gB G) (gA G)) args s 0 0 (gA G)) G 3 20 [(0, .ref (gh G 5)), (1, .ref (gK G i1)), (2, .int x2)] [] st := ⟨_, rfl⟩
  replace hw := hw P20
  replace hw := hw (by
    intro x2 st hw
    rw [hP20]
    refine g_iload_n C 2 dX2_accept_20 rfl rfl ?_
    refine g_aload_n C 1 dX2_accept_21 rfl rfl ?_
    refine g_callVi C (c_J0_length_8abf5 l G hO hwin hi1 hw) kJ0_length_8abf5 tw_208 (Rv.str C hi1) rfl rfl ⟨Nat.le_of_ble_eq_true rfl, Nat.le_of_ble_eq_true rfl⟩ (As := []) (rest := [.int x2]) rfl rfl (Nat.le_of_ble_eq_true rfl) dX2_accept_22 ⟨Nat.le_of_ble_eq_true rfl, Nat.le_of_ble_eq_true rfl⟩ (fun r_2 s_1 hw => ?_)
    refine g_icmp_ge C 55 dX2_accept_25 (by decide) (fun c_9 => ?_) (fun c_9 => ?_)
    · replace hw := hw.1 c_9
      refine g_aload_n C 0 dX2_accept_55 rfl rfl ?_
      refine g_dup C dX2_accept_56 rfl ?_
      refine g_get C inX2 (C.win (by decide) (by decide)) rfl rfl 5 (by decide) tw_87 rfl dX2_accept_57 ?_
      refine g_aload_n C 1 dX2_accept_60 rfl rfl ?_
      refine g_callVi C (c_J0_length_8abf5 l G hO hwin hi1 hw) kJ0_length_8abf5 tw_208 (Rv.str C hi1) rfl rfl ⟨Nat.le_of_ble_eq_true rfl, Nat.le_of_ble_eq_true rfl⟩ (As := []) (rest := [.int (s_1 5 5), .ref (gh G 5)]) rfl rfl (Nat.le_of_ble_eq_true rfl) dX2_accept_61 ⟨Nat.le_of_ble_eq_true rfl, Nat.le_of_ble_eq_true rfl⟩ (fun r_4 s_3 hw => ?_)
      refine g_iadd C dX2_accept_64 ?_
      refine g_put (ty := .int) ((s_1 5 5) + r_4) C inX2 tyX2_ok nmX2 (C.win (by decide) (by decide)) rfl rfl 5 (by decide) tw_87 rfl (by decide +kernel) rfl rfl (Nat.le_of_ble_eq_true rfl) rfl dX2_accept_65 ?_
      refine g_iconst C (1 : Int32) dX2_accept_68 (by decide) ?_
      exact g_zret C hr hlk rfl hw dX2_accept_69
    · replace hw := hw.2 c_9
      refine g_aload_n C 0 dX2_accept_28 rfl rfl ?_
      refine g_get C inX2 (C.win (by decide) (by decide)) rfl rfl 0 (by decide) tw_82 rfl dX2_accept_29 ?_
      refine g_aload_n C 0 dX2_accept_32 rfl rfl ?_
      refine g_get C inX2 (C.win (by decide) (by decide)) rfl rfl 5 (by decide) tw_87 rfl dX2_accept_33 ?_
      refine g_iload_n C 2 dX2_accept_36 rfl rfl ?_
      refine g_iadd C dX2_accept_37 ?_
      refine g_cald C (C.win (by decide) (by decide)) rfl hw.1 dX2_accept_38 ?_
      replace hw := hw.2
      refine g_aload_n C 1 dX2_accept_39 rfl rfl ?_
      refine g_iload_n C 2 dX2_accept_40 rfl rfl ?_
      refine g_callVi C (c_J0_charAt_5068e l G hO hwin hi1 hw) kJ0_charAt_5068e tw_209 (Rv.str C hi1) rfl rfl ⟨Nat.le_of_ble_eq_true rfl, Nat.le_of_ble_eq_true rfl⟩ (As := [.int x2]) (rest := [.int (s_1 6 ((s_1 5 5) + x2).toNatClampNeg)]) rfl rfl (Nat.le_of_ble_eq_true rfl) dX2_accept_41 ⟨Nat.le_of_ble_eq_true rfl, Nat.le_of_ble_eq_true rfl⟩ (fun r_6 s_5 hw => ?_)
      refine g_icmp_eq C 49 dX2_accept_44 (by decide) (fun c_8 => ?_) (fun c_8 => ?_)
      · replace hw := hw.1 c_8
        obtain ⟨x2_7, ex2_7⟩ : ∃ z : Int32, z = x2 + (1 : Int32) := ⟨_, rfl⟩
        replace hw := hw x2_7 ex2_7
        refine g_iinc C x2_7 2 dX2_accept_49 rfl ex2_7.symm (by decide) (lv' := [(2, .int x2_7), (0, .ref (gh G 5)), (1, .ref (gK G i1))]) rfl ?_
        refine g_goto C 20 dX2_accept_52 (by decide) ?_
        rw [hP20] at hw
        exact g_perm [1, 2, 0] rfl (hw)
      · replace hw := hw.2 c_8
        refine g_iconst C (0 : Int32) dX2_accept_47 (by decide) ?_
        exact g_zret C hr hlk rfl hw dX2_accept_48)
  refine g_aload_n C 1 dX2_accept_0 rfl rfl ?_
  refine g_callVi C (c_J0_length_8abf5 l G hO hwin hi1 hw) kJ0_length_8abf5 tw_208 (Rv.str C hi1) rfl rfl ⟨Nat.le_of_ble_eq_true rfl, Nat.le_of_ble_eq_true rfl⟩ (As := []) (rest := []) rfl rfl (Nat.le_of_ble_eq_true rfl) dX2_accept_1 ⟨Nat.le_of_ble_eq_true rfl, Nat.le_of_ble_eq_true rfl⟩ (fun r_11 s_10 hw => ?_)
  refine g_aload_n C 0 dX2_accept_4 rfl rfl ?_
  refine g_get C inX2 (C.win (by decide) (by decide)) rfl rfl 4 (by decide) tw_86 rfl dX2_accept_5 ?_
  refine g_aload_n C 0 dX2_accept_8 rfl rfl ?_
  refine g_get C inX2 (C.win (by decide) (by decide)) rfl rfl 5 (by decide) tw_87 rfl dX2_accept_9 ?_
  refine g_isub C dX2_accept_12 ?_
  refine g_icmp_le C 18 dX2_accept_13 (by decide) (fun c_12 => ?_) (fun c_12 => ?_)
  · replace hw := hw.1 c_12
    refine g_iconst C (0 : Int32) dX2_accept_18 (by decide) ?_
    refine g_istore_n C dX2_accept_19 rfl (by decide) (lv' := [(2, .int (0 : Int32)), (0, .ref (gh G 5)), (1, .ref (gK G i1))]) rfl ?_
    rw [hP20] at hw
    exact g_perm [1, 2, 0] rfl (hw)
  · replace hw := hw.2 c_12
    refine g_iconst C (0 : Int32) dX2_accept_16 (by decide) ?_
    exact g_zret C hr hlk rfl hw dX2_accept_17

set_option maxHeartbeats 4000000 in
set_option maxRecDepth 100000 in
theorem c_X2_acceptCharacter (l : Launch) (G : Gp) (hO : gOK G) (hwin : ∀ k, 0 ≤ k → k < 17 → k ∈ gks G) {x1 : Int32}  {st : St} {Q : Int32 → St → Prop} (hw : wp_X2_acceptCharacter x1 st Q) : MI l G yX2_acceptCharacter cX2_acceptCharacter 2 (some .boolean) { frames := 0, cells := 0, slots := 0, locals := 0 } [.ref (gh G 5), .int x1] st Q := by
  refine MI.of (own := RX2) (lo := 0) (hi := 17) hO hwin (by decide) rfl (Nat.le_of_ble_eq_true rfl) (fun p e s m args below meth c C hr hlk => ?_)
  refine g_lv (lv' := [(0, .ref (gh G 5)), (1, .int x1)]) rfl ?_
  unfold wp_X2_acceptCharacter at hw
  refine g_aload_n C 0 dX2_acceptCharacter_0 rfl rfl ?_
  refine g_get C inX2 (C.win (by decide) (by decide)) rfl rfl 5 (by decide) tw_87 rfl dX2_acceptCharacter_1 ?_
  refine g_aload_n C 0 dX2_acceptCharacter_4 rfl rfl ?_
  refine g_get C inX2 (C.win (by decide) (by decide)) rfl rfl 4 (by decide) tw_86 rfl dX2_acceptCharacter_5 ?_
  refine g_icmp_ge C 24 dX2_acceptCharacter_8 (by decide) (fun c_2 => ?_) (fun c_2 => ?_)
  · replace hw := hw.1 c_2
    refine g_iconst C (0 : Int32) dX2_acceptCharacter_24 (by decide) ?_
    exact g_zret C hr hlk rfl hw dX2_acceptCharacter_25
  · replace hw := hw.2 c_2
    refine g_aload_n C 0 dX2_acceptCharacter_11 rfl rfl ?_
    refine g_get C inX2 (C.win (by decide) (by decide)) rfl rfl 0 (by decide) tw_82 rfl dX2_acceptCharacter_12 ?_
    refine g_aload_n C 0 dX2_acceptCharacter_15 rfl rfl ?_
    refine g_get C inX2 (C.win (by decide) (by decide)) rfl rfl 5 (by decide) tw_87 rfl dX2_acceptCharacter_16 ?_
    refine g_cald C (C.win (by decide) (by decide)) rfl hw.1 dX2_acceptCharacter_19 ?_
    replace hw := hw.2
    refine g_iload_n C 1 dX2_acceptCharacter_20 rfl rfl ?_
    refine g_icmp_eq C 26 dX2_acceptCharacter_21 (by decide) (fun c_1 => ?_) (fun c_1 => ?_)
    · replace hw := hw.1 c_1
      refine g_aload_n C 0 dX2_acceptCharacter_26 rfl rfl ?_
      refine g_dup C dX2_acceptCharacter_27 rfl ?_
      refine g_get C inX2 (C.win (by decide) (by decide)) rfl rfl 5 (by decide) tw_87 rfl dX2_acceptCharacter_28 ?_
      refine g_iconst C (1 : Int32) dX2_acceptCharacter_31 (by decide) ?_
      refine g_iadd C dX2_acceptCharacter_32 ?_
      refine g_put (ty := .int) ((st 5 5) + (1 : Int32)) C inX2 tyX2_ok nmX2 (C.win (by decide) (by decide)) rfl rfl 5 (by decide) tw_87 rfl (by decide +kernel) rfl rfl (Nat.le_of_ble_eq_true rfl) rfl dX2_acceptCharacter_33 ?_
      refine g_iconst C (1 : Int32) dX2_acceptCharacter_36 (by decide) ?_
      exact g_zret C hr hlk rfl hw dX2_acceptCharacter_37
    · replace hw := hw.2 c_1
      refine g_iconst C (0 : Int32) dX2_acceptCharacter_24 (by decide) ?_
      exact g_zret C hr hlk rfl hw dX2_acceptCharacter_25

set_option maxHeartbeats 4000000 in
set_option maxRecDepth 100000 in
theorem c_X2_readAttribute (l : Launch) (G : Gp) (hO : gOK G) (hwin : ∀ k, 0 ≤ k → k < 17 → k ∈ gks G)   {st : St} {Q : Int32 → St → Prop} (hw : wp_X2_readAttribute  st Q) : MI l G yX2_readAttribute cX2_readAttribute 2 (some .int) { frames := 4, cells := 0, slots := 0, locals := 85 } [.ref (gh G 5)] st Q := by
  refine MI.of (own := RX2) (lo := 0) (hi := 17) hO hwin (by decide) rfl (Nat.le_of_ble_eq_true rfl) (fun p e s m args below meth c C hr hlk => ?_)
  refine g_lv (lv' := [(0, .ref (gh G 5))]) rfl ?_
  unfold wp_X2_readAttribute at hw
  obtain ⟨P2, hP2⟩ : ∃ P : Int32 → St → Prop, P = fun x1 st => WG p l e ({ frames := 4, cells := 0, slots := 0, locals := 85 } : Room) s m args below meth c 0 0 (MQ below (va_Qi Q (gB G) (gA G)) args s 0 0 (gA G)) G 2 2 [(0, .ref (gh G 5)), (1, .int x1)] [] st := ⟨_, rfl⟩
  replace hw := hw P2
  replace hw := hw (by
    intro x1 st hw
    rw [hP2]
    refine g_iload_n C 1 dX2_readAttribute_2 rfl rfl ?_
    refine g_iconst C (4 : Int32) dX2_readAttribute_3 (by decide) ?_
    refine g_icmp_ge C 28 dX2_readAttribute_4 (by decide) (fun c_7 => ?_) (fun c_7 => ?_)
    · replace hw := hw.1 c_7
      refine g_bipush C (-4 : Int32) dX2_readAttribute_28 (by decide) ?_
      exact g_iret C hr hlk hw dX2_readAttribute_30
    · replace hw := hw.2 c_7
      refine g_aload_n C 0 dX2_readAttribute_7 rfl rfl ?_
      refine g_ldcS C 11 (by decide) rfl rfl dX2_readAttribute_8 ?_
      refine g_iload_n C 1 dX2_readAttribute_10 rfl rfl ?_
      refine g_callVi C (c_J0_charAt_5068e l G hO hwin (by decide) hw) kJ0_charAt_5068e tw_209 (Rv.str C (by decide)) rfl rfl ⟨Nat.le_of_ble_eq_true rfl, Nat.le_of_ble_eq_true rfl⟩ (As := [.int x1]) (rest := [.ref (gh G 5)]) rfl rfl (Nat.le_of_ble_eq_true rfl) dX2_readAttribute_11 ⟨Nat.le_of_ble_eq_true rfl, Nat.le_of_ble_eq_true rfl⟩ (fun r_2 s_1 hw => ?_)
      refine g_callVi C (c_X2_acceptCharacter l G hO hwin hw) kX2_acceptCharacter tw_247 (Rv.of C (C.win (by decide) (by decide)) rfl (ci := 2) rfl) rfl rfl ⟨Nat.le_of_ble_eq_true rfl, Nat.le_of_ble_eq_true rfl⟩ (As := [.int r_2]) (rest := []) rfl rfl (Nat.le_of_ble_eq_true rfl) dX2_readAttribute_14 ⟨Nat.le_of_ble_eq_true rfl, Nat.le_of_ble_eq_true rfl⟩ (fun r_4 s_3 hw => ?_)
      refine g_if_eq C 22 dX2_readAttribute_17 (by decide) (fun c_6 => ?_) (fun c_6 => ?_)
      · replace hw := hw.1 c_6
        obtain ⟨x1_5, ex1_5⟩ : ∃ z : Int32, z = x1 + (1 : Int32) := ⟨_, rfl⟩
        replace hw := hw x1_5 ex1_5
        refine g_iinc C x1_5 1 dX2_readAttribute_22 rfl ex1_5.symm (by decide) (lv' := [(1, .int x1_5), (0, .ref (gh G 5))]) rfl ?_
        refine g_goto C 2 dX2_readAttribute_25 (by decide) ?_
        rw [hP2] at hw
        exact g_perm [1, 0] rfl (hw)
      · replace hw := hw.2 c_6
        refine g_iload_n C 1 dX2_readAttribute_20 rfl rfl ?_
        exact g_iret C hr hlk hw dX2_readAttribute_21)
  refine g_iconst C (0 : Int32) dX2_readAttribute_0 (by decide) ?_
  refine g_istore_n C dX2_readAttribute_1 rfl (by decide) (lv' := [(1, .int (0 : Int32)), (0, .ref (gh G 5))]) rfl ?_
  rw [hP2] at hw
  exact g_perm [1, 0] rfl (hw)

set_option maxHeartbeats 4000000 in
set_option maxRecDepth 100000 in
theorem c_X2_readValues (l : Launch) (G : Gp) (hO : gOK G) (hwin : ∀ k, 0 ≤ k → k < 17 → k ∈ gks G) {x1 : Int32}  {st : St} {Q : Int32 → St → Prop} (hw : wp_X2_readValues x1 st Q) : MI l G yX2_readValues cX2_readValues 5 (some .int) { frames := 0, cells := 0, slots := 0, locals := 0 } [.ref (gh G 5), .int x1] st Q := by
  refine MI.of (own := RX2) (lo := 0) (hi := 17) hO hwin (by decide) rfl (Nat.le_of_ble_eq_true rfl) (fun p e s m args below meth c C hr hlk => ?_)
  refine g_lv (lv' := [(0, .ref (gh G 5)), (1, .int x1)]) rfl ?_
  unfold wp_X2_readValues at hw
  obtain ⟨P4, hP4⟩ : ∃ P : Int32 → Int32 → St → Prop, P = fun x2 x3 st => WG p l e ({ frames := 0, cells := 0, slots := 0, locals := 0 } : Room) s m args below meth c 0 0 (MQ below (va_Qi Q (gB G) (gA G)) args s 0 0 (gA G)) G 5 4 [(0, .ref (gh G 5)), (1, .int x1), (2, .int x2), (3, .int x3)] [] st := ⟨_, rfl⟩
  replace hw := hw P4
  replace hw := hw (by
    intro x2 x3 st hw
    rw [hP4]
    refine g_iload_n C 3 dX2_readValues_4 rfl rfl ?_
    refine g_iload_n C 1 dX2_readValues_5 rfl rfl ?_
    refine g_icmp_ge C 79 dX2_readValues_6 (by decide) (fun c_8 => ?_) (fun c_8 => ?_)
    · replace hw := hw.1 c_8
      refine g_iload_n C 2 dX2_readValues_79 rfl rfl ?_
      exact g_iret C hr hlk hw dX2_readValues_80
    · replace hw := hw.2 c_8
      refine g_aload_n C 0 dX2_readValues_9 rfl rfl ?_
      refine g_get C inX2 (C.win (by decide) (by decide)) rfl rfl 5 (by decide) tw_87 rfl dX2_readValues_10 ?_
      refine g_aload_n C 0 dX2_readValues_13 rfl rfl ?_
      refine g_get C inX2 (C.win (by decide) (by decide)) rfl rfl 4 (by decide) tw_86 rfl dX2_readValues_14 ?_
      refine g_icmp_ge C 79 dX2_readValues_17 (by decide) (fun c_7 => ?_) (fun c_7 => ?_)
      · replace hw := hw.1 c_7
        refine g_iload_n C 2 dX2_readValues_79 rfl rfl ?_
        exact g_iret C hr hlk hw dX2_readValues_80
      · replace hw := hw.2 c_7
        refine g_aload_n C 0 dX2_readValues_20 rfl rfl ?_
        refine g_get C inX2 (C.win (by decide) (by decide)) rfl rfl 0 (by decide) tw_82 rfl dX2_readValues_21 ?_
        refine g_aload_n C 0 dX2_readValues_24 rfl rfl ?_
        refine g_get C inX2 (C.win (by decide) (by decide)) rfl rfl 5 (by decide) tw_87 rfl dX2_readValues_25 ?_
        refine g_cald C (C.win (by decide) (by decide)) rfl hw.1 dX2_readValues_28 ?_
        replace hw := hw.2
        refine g_bipush C (48 : Int32) dX2_readValues_29 (by decide) ?_
        refine g_isub C dX2_readValues_31 ?_
        refine g_topi (fun x4_1 ex4_1 => ?_)
        replace hw := hw x4_1 ex4_1
        refine g_istore C dX2_readValues_32 (by decide) (lv' := [(4, .int x4_1), (0, .ref (gh G 5)), (1, .int x1), (2, .int x2), (3, .int x3)]) rfl ?_
        refine g_iload C 0 dX2_readValues_34 rfl ?_
        refine g_if_lt C 54 dX2_readValues_36 (by decide) (fun c_6 => ?_) (fun c_6 => ?_)
        · replace hw := hw.1 c_6
          refine g_iload_n C 3 dX2_readValues_54 rfl rfl ?_
          exact g_iret C hr hlk hw dX2_readValues_55
        · replace hw := hw.2 c_6
          refine g_iload C 0 dX2_readValues_39 rfl ?_
          refine g_iload_n C 2 dX2_readValues_41 rfl rfl ?_
          refine g_icmp_ge C 54 dX2_readValues_42 (by decide) (fun c_5 => ?_) (fun c_5 => ?_)
          · replace hw := hw.1 c_5
            refine g_iload_n C 3 dX2_readValues_54 rfl rfl ?_
            exact g_iret C hr hlk hw dX2_readValues_55
          · replace hw := hw.2 c_5
            refine g_iload_n C 3 dX2_readValues_45 rfl rfl ?_
            refine g_iload C 0 dX2_readValues_46 rfl ?_
            refine g_ishr C dX2_readValues_48 ?_
            refine g_iconst C (1 : Int32) dX2_readValues_49 (by decide) ?_
            refine g_iand C dX2_readValues_50 ?_
            refine g_if_eq C 56 dX2_readValues_51 (by decide) (fun c_4 => ?_) (fun c_4 => ?_)
            · replace hw := hw.1 c_4
              refine g_iload_n C 3 dX2_readValues_56 rfl rfl ?_
              refine g_iconst C (1 : Int32) dX2_readValues_57 (by decide) ?_
              refine g_iload C 0 dX2_readValues_58 rfl ?_
              refine g_ishl C dX2_readValues_60 ?_
              refine g_ior C dX2_readValues_61 ?_
              refine g_topi (fun x2_2 ex2_2 => ?_)
              replace hw := hw x2_2 ex2_2
              refine g_istore_n C dX2_readValues_62 rfl (by decide) (lv' := [(2, .int x2_2), (4, .int x4_1), (0, .ref (gh G 5)), (1, .int x1), (3, .int x3)]) rfl ?_
              refine g_aload_n C 2 dX2_readValues_63 rfl rfl ?_
              refine g_dup C dX2_readValues_64 rfl ?_
              refine g_get C inX2 (C.win (by decide) (by decide)) rfl rfl 5 (by decide) tw_87 rfl dX2_readValues_65 ?_
              refine g_iconst C (1 : Int32) dX2_readValues_68 (by decide) ?_
              refine g_iadd C dX2_readValues_69 ?_
              refine g_put (ty := .int) ((st 5 5) + (1 : Int32)) C inX2 tyX2_ok nmX2 (C.win (by decide) (by decide)) rfl rfl 5 (by decide) tw_87 rfl (by decide +kernel) rfl rfl (Nat.le_of_ble_eq_true rfl) rfl dX2_readValues_70 ?_
              obtain ⟨x3_3, ex3_3⟩ : ∃ z : Int32, z = x3 + (1 : Int32) := ⟨_, rfl⟩
              replace hw := hw x3_3 ex3_3
              refine g_iinc C x3_3 4 dX2_readValues_73 rfl ex3_3.symm (by decide) (lv' := [(3, .int x3_3), (2, .int x2_2), (4, .int x4_1), (0, .ref (gh G 5)), (1, .int x1)]) rfl ?_
              refine g_goto C 4 dX2_readValues_76 (by decide) ?_
              rw [hP4] at hw
              exact g_perm [3, 4, 1, 0] rfl (hw)
            · replace hw := hw.2 c_4
              refine g_iload_n C 3 dX2_readValues_54 rfl rfl ?_
              exact g_iret C hr hlk hw dX2_readValues_55)
  refine g_iconst C (0 : Int32) dX2_readValues_0 (by decide) ?_
  refine g_istore_n C dX2_readValues_1 rfl (by decide) (lv' := [(2, .int (0 : Int32)), (0, .ref (gh G 5)), (1, .int x1)]) rfl ?_
  refine g_iconst C (0 : Int32) dX2_readValues_2 (by decide) ?_
  refine g_istore_n C dX2_readValues_3 rfl (by decide) (lv' := [(3, .int (0 : Int32)), (2, .int (0 : Int32)), (0, .ref (gh G 5)), (1, .int x1)]) rfl ?_
  rw [hP4] at hw
  exact g_perm [2, 3, 1, 0] rfl (hw)

set_option maxHeartbeats 4000000 in
set_option maxRecDepth 100000 in
theorem c_X2_readAlgorithm (l : Launch) (G : Gp) (hO : gOK G) (hwin : ∀ k, 0 ≤ k → k < 17 → k ∈ gks G)   {st : St} {Q : Int32 → St → Prop} (hw : wp_X2_readAlgorithm  st Q) : MI l G yX2_readAlgorithm cX2_readAlgorithm 2 (some .boolean) { frames := 5, cells := 0, slots := 0, locals := 107 } [.ref (gh G 5)] st Q := by
  refine MI.of (own := RX2) (lo := 0) (hi := 17) hO hwin (by decide) rfl (Nat.le_of_ble_eq_true rfl) (fun p e s m args below meth c C hr hlk => ?_)
  refine g_lv (lv' := [(0, .ref (gh G 5))]) rfl ?_
  unfold wp_X2_readAlgorithm at hw
  obtain ⟨P70, hP70⟩ : ∃ P : Int32 → St → Prop, P = fun x1 st => WG p l e ({ frames := 5, cells := 0, slots := 0, locals := 107 } : Room) s m args below meth c 0 0 (MQ below (va_Qi Q (gB G) (gA G)) args s 0 0 (gA G)) G 2 70 [(0, .ref (gh G 5)), (1, .int x1)] [] st := ⟨_, rfl⟩
  replace hw := hw P70
  replace hw := hw (by
    intro x1 st hw
    rw [hP70]
    refine g_iload_n C 1 dX2_readAlgorithm_70 rfl rfl ?_
    refine g_bipush C (-4 : Int32) dX2_readAlgorithm_71 (by decide) ?_
    refine g_icmp_ne C 78 dX2_readAlgorithm_73 (by decide) (fun c_2 => ?_) (fun c_2 => ?_)
    · replace hw := hw.2 c_2
      refine g_aload_n C 0 dX2_readAlgorithm_78 rfl rfl ?_
      refine g_get C inX2 (C.win (by decide) (by decide)) rfl rfl 3 (by decide) tw_85 rfl dX2_readAlgorithm_79 ?_
      refine g_iload_n C 1 dX2_readAlgorithm_82 rfl rfl ?_
      refine g_callVv C (c_X1_use l G hO hwin (isPol_sel _) hw) kX1_use tw_221 (Rv.of C (C.pol (isPol_sel _)) (isPol.cell (isPol_sel _) G _) (ci := 1) rfl) rfl rfl ⟨Nat.le_of_ble_eq_true rfl, Nat.le_of_ble_eq_true rfl⟩ (As := [.int x1]) (rest := []) rfl rfl (Nat.le_of_ble_eq_true rfl) dX2_readAlgorithm_83 ⟨Nat.le_of_ble_eq_true rfl, Nat.le_of_ble_eq_true rfl⟩ (fun s_1 hw => ?_)
      refine g_iconst C (1 : Int32) dX2_readAlgorithm_86 (by decide) ?_
      exact g_zret C hr hlk rfl hw dX2_readAlgorithm_87
    · replace hw := hw.1 c_2
      refine g_iconst C (0 : Int32) dX2_readAlgorithm_76 (by decide) ?_
      exact g_zret C hr hlk rfl hw dX2_readAlgorithm_77)
  refine g_bipush C (-4 : Int32) dX2_readAlgorithm_0 (by decide) ?_
  refine g_istore_n C dX2_readAlgorithm_2 rfl (by decide) (lv' := [(1, .int (-4 : Int32)), (0, .ref (gh G 5))]) rfl ?_
  refine g_aload_n C 1 dX2_readAlgorithm_3 rfl rfl ?_
  refine g_ldcS C 4 (by decide) rfl rfl dX2_readAlgorithm_4 ?_
  refine g_callVi C (c_X2_accept l G hO hwin (by decide) hw) kX2_accept tw_204 (Rv.of C (C.win (by decide) (by decide)) rfl (ci := 2) rfl) rfl rfl ⟨Nat.le_of_ble_eq_true rfl, Nat.le_of_ble_eq_true rfl⟩ (As := [.ref (gK G 4)]) (rest := []) rfl rfl (Nat.le_of_ble_eq_true rfl) dX2_readAlgorithm_6 ⟨Nat.le_of_ble_eq_true rfl, Nat.le_of_ble_eq_true rfl⟩ (fun r_4 s_3 hw => ?_)
  refine g_if_eq C 17 dX2_readAlgorithm_9 (by decide) (fun c_17 => ?_) (fun c_17 => ?_)
  · replace hw := hw.1 c_17
    refine g_aload_n C 1 dX2_readAlgorithm_17 rfl rfl ?_
    refine g_ldcS C 5 (by decide) rfl rfl dX2_readAlgorithm_18 ?_
    refine g_callVi C (c_X2_accept l G hO hwin (by decide) hw) kX2_accept tw_204 (Rv.of C (C.win (by decide) (by decide)) rfl (ci := 2) rfl) rfl rfl ⟨Nat.le_of_ble_eq_true rfl, Nat.le_of_ble_eq_true rfl⟩ (As := [.ref (gK G 5)]) (rest := []) rfl rfl (Nat.le_of_ble_eq_true rfl) dX2_readAlgorithm_20 ⟨Nat.le_of_ble_eq_true rfl, Nat.le_of_ble_eq_true rfl⟩ (fun r_6 s_5 hw => ?_)
    refine g_if_eq C 31 dX2_readAlgorithm_23 (by decide) (fun c_16 => ?_) (fun c_16 => ?_)
    · replace hw := hw.1 c_16
      refine g_aload_n C 1 dX2_readAlgorithm_31 rfl rfl ?_
      refine g_ldcS C 6 (by decide) rfl rfl dX2_readAlgorithm_32 ?_
      refine g_callVi C (c_X2_accept l G hO hwin (by decide) hw) kX2_accept tw_204 (Rv.of C (C.win (by decide) (by decide)) rfl (ci := 2) rfl) rfl rfl ⟨Nat.le_of_ble_eq_true rfl, Nat.le_of_ble_eq_true rfl⟩ (As := [.ref (gK G 6)]) (rest := []) rfl rfl (Nat.le_of_ble_eq_true rfl) dX2_readAlgorithm_34 ⟨Nat.le_of_ble_eq_true rfl, Nat.le_of_ble_eq_true rfl⟩ (fun r_8 s_7 hw => ?_)
      refine g_if_eq C 45 dX2_readAlgorithm_37 (by decide) (fun c_15 => ?_) (fun c_15 => ?_)
      · replace hw := hw.1 c_15
        refine g_aload_n C 1 dX2_readAlgorithm_45 rfl rfl ?_
        refine g_ldcS C 7 (by decide) rfl rfl dX2_readAlgorithm_46 ?_
        refine g_callVi C (c_X2_accept l G hO hwin (by decide) hw) kX2_accept tw_204 (Rv.of C (C.win (by decide) (by decide)) rfl (ci := 2) rfl) rfl rfl ⟨Nat.le_of_ble_eq_true rfl, Nat.le_of_ble_eq_true rfl⟩ (As := [.ref (gK G 7)]) (rest := []) rfl rfl (Nat.le_of_ble_eq_true rfl) dX2_readAlgorithm_48 ⟨Nat.le_of_ble_eq_true rfl, Nat.le_of_ble_eq_true rfl⟩ (fun r_10 s_9 hw => ?_)
        refine g_if_eq C 59 dX2_readAlgorithm_51 (by decide) (fun c_14 => ?_) (fun c_14 => ?_)
        · replace hw := hw.1 c_14
          refine g_aload_n C 1 dX2_readAlgorithm_59 rfl rfl ?_
          refine g_ldcS C 8 (by decide) rfl rfl dX2_readAlgorithm_60 ?_
          refine g_callVi C (c_X2_accept l G hO hwin (by decide) hw) kX2_accept tw_204 (Rv.of C (C.win (by decide) (by decide)) rfl (ci := 2) rfl) rfl rfl ⟨Nat.le_of_ble_eq_true rfl, Nat.le_of_ble_eq_true rfl⟩ (As := [.ref (gK G 8)]) (rest := []) rfl rfl (Nat.le_of_ble_eq_true rfl) dX2_readAlgorithm_62 ⟨Nat.le_of_ble_eq_true rfl, Nat.le_of_ble_eq_true rfl⟩ (fun r_12 s_11 hw => ?_)
          refine g_if_eq C 70 dX2_readAlgorithm_65 (by decide) (fun c_13 => ?_) (fun c_13 => ?_)
          · replace hw := hw.1 c_13
            rw [hP70] at hw
            exact g_perm [1, 0] rfl (hw)
          · replace hw := hw.2 c_13
            refine g_iconst C (4 : Int32) dX2_readAlgorithm_68 (by decide) ?_
            refine g_istore_n C dX2_readAlgorithm_69 rfl (by decide) (lv' := [(1, .int (4 : Int32)), (0, .ref (gh G 5))]) rfl ?_
            rw [hP70] at hw
            exact g_perm [1, 0] rfl (hw)
        · replace hw := hw.2 c_14
          refine g_iconst C (3 : Int32) dX2_readAlgorithm_54 (by decide) ?_
          refine g_istore_n C dX2_readAlgorithm_55 rfl (by decide) (lv' := [(1, .int (3 : Int32)), (0, .ref (gh G 5))]) rfl ?_
          refine g_goto C 70 dX2_readAlgorithm_56 (by decide) ?_
          rw [hP70] at hw
          exact g_perm [1, 0] rfl (hw)
      · replace hw := hw.2 c_15
        refine g_iconst C (2 : Int32) dX2_readAlgorithm_40 (by decide) ?_
        refine g_istore_n C dX2_readAlgorithm_41 rfl (by decide) (lv' := [(1, .int (2 : Int32)), (0, .ref (gh G 5))]) rfl ?_
        refine g_goto C 70 dX2_readAlgorithm_42 (by decide) ?_
        rw [hP70] at hw
        exact g_perm [1, 0] rfl (hw)
    · replace hw := hw.2 c_16
      refine g_iconst C (1 : Int32) dX2_readAlgorithm_26 (by decide) ?_
      refine g_istore_n C dX2_readAlgorithm_27 rfl (by decide) (lv' := [(1, .int (1 : Int32)), (0, .ref (gh G 5))]) rfl ?_
      refine g_goto C 70 dX2_readAlgorithm_28 (by decide) ?_
      rw [hP70] at hw
      exact g_perm [1, 0] rfl (hw)
  · replace hw := hw.2 c_17
    refine g_iconst C (0 : Int32) dX2_readAlgorithm_12 (by decide) ?_
    refine g_istore_n C dX2_readAlgorithm_13 rfl (by decide) (lv' := [(1, .int (0 : Int32)), (0, .ref (gh G 5))]) rfl ?_
    refine g_goto C 70 dX2_readAlgorithm_14 (by decide) ?_
    rw [hP70] at hw
    exact g_perm [1, 0] rfl (hw)

set_option maxHeartbeats 4000000 in
set_option maxRecDepth 100000 in
theorem c_X2_readRule (l : Launch) (G : Gp) (hO : gOK G) (hwin : ∀ k, 0 ≤ k → k < 17 → k ∈ gks G) {x1 : Int32}  {st : St} {Q : Int32 → St → Prop} (hw : wp_X2_readRule x1 st Q) : MI l G yX2_readRule cX2_readRule 7 (some .boolean) { frames := 5, cells := 0, slots := 0, locals := 107 } [.ref (gh G 5), .int x1] st Q := by
  refine MI.of (own := RX2) (lo := 0) (hi := 17) hO hwin (by decide) rfl (Nat.le_of_ble_eq_true rfl) (fun p e s m args below meth c C hr hlk => ?_)
  refine g_lv (lv' := [(0, .ref (gh G 5)), (1, .int x1)]) rfl ?_
  unfold wp_X2_readRule at hw
  obtain ⟨P30, hP30⟩ : ∃ P : Int32 → Int32 → Int32 → St → Prop, P = fun x2 x3 x4 st => WG p l e ({ frames := 5, cells := 0, slots := 0, locals := 107 } : Room) s m args below meth c 0 0 (MQ below (va_Qi Q (gB G) (gA G)) args s 0 0 (gA G)) G 7 30 [(0, .ref (gh G 5)), (1, .int x1), (2, .int x2), (3, .int x3), (4, .int x4)] [] st := ⟨_, rfl⟩
  replace hw := hw P30
  replace hw := hw (by
    intro x2 x3 x4 st hw
    rw [hP30]
    refine g_iload C 4 dX2_readRule_30 rfl ?_
    refine g_iconst C (4 : Int32) dX2_readRule_32 (by decide) ?_
    refine g_icmp_ge C 111 dX2_readRule_33 (by decide) (fun c_14 => ?_) (fun c_14 => ?_)
    · replace hw := hw.1 c_14
      refine g_iconst C (1 : Int32) dX2_readRule_111 (by decide) ?_
      exact g_zret C hr hlk rfl hw dX2_readRule_112
    · replace hw := hw.2 c_14
      refine g_aload_n C 0 dX2_readRule_36 rfl rfl ?_
      refine g_ldcS C 10 (by decide) rfl rfl dX2_readRule_37 ?_
      refine g_callVi C (c_X2_accept l G hO hwin (by decide) hw) kX2_accept tw_204 (Rv.of C (C.win (by decide) (by decide)) rfl (ci := 2) rfl) rfl rfl ⟨Nat.le_of_ble_eq_true rfl, Nat.le_of_ble_eq_true rfl⟩ (As := [.ref (gK G 10)]) (rest := []) rfl rfl (Nat.le_of_ble_eq_true rfl) dX2_readRule_39 ⟨Nat.le_of_ble_eq_true rfl, Nat.le_of_ble_eq_true rfl⟩ (fun r_2 s_1 hw => ?_)
      refine g_if_eq C 111 dX2_readRule_42 (by decide) (fun c_13 => ?_) (fun c_13 => ?_)
      · replace hw := hw.1 c_13
        refine g_iconst C (1 : Int32) dX2_readRule_111 (by decide) ?_
        exact g_zret C hr hlk rfl hw dX2_readRule_112
      · replace hw := hw.2 c_13
        refine g_aload_n C 0 dX2_readRule_45 rfl rfl ?_
        refine g_callVi C (c_X2_readAttribute l G hO hwin hw) kX2_readAttribute tw_242 (Rv.of C (C.win (by decide) (by decide)) rfl (ci := 2) rfl) rfl rfl ⟨Nat.le_of_ble_eq_true rfl, Nat.le_of_ble_eq_true rfl⟩ (As := []) (rest := []) rfl rfl (Nat.le_of_ble_eq_true rfl) dX2_readRule_46 ⟨Nat.le_of_ble_eq_true rfl, Nat.le_of_ble_eq_true rfl⟩ (fun r_4 s_3 hw => ?_)
        refine g_istore C dX2_readRule_49 (by decide) (lv' := [(5, .int r_4), (0, .ref (gh G 5)), (1, .int x1), (2, .int x2), (3, .int x3), (4, .int x4)]) rfl ?_
        refine g_iload C 0 dX2_readRule_51 rfl ?_
        refine g_if_lt C 65 dX2_readRule_53 (by decide) (fun c_12 => ?_) (fun c_12 => ?_)
        · replace hw := hw.1 c_12
          refine g_iconst C (0 : Int32) dX2_readRule_65 (by decide) ?_
          exact g_zret C hr hlk rfl hw dX2_readRule_66
        · replace hw := hw.2 c_12
          refine g_iload_n C 4 dX2_readRule_56 rfl rfl ?_
          refine g_iload C 0 dX2_readRule_57 rfl ?_
          refine g_ishr C dX2_readRule_59 ?_
          refine g_iconst C (1 : Int32) dX2_readRule_60 (by decide) ?_
          refine g_iand C dX2_readRule_61 ?_
          refine g_if_eq C 67 dX2_readRule_62 (by decide) (fun c_11 => ?_) (fun c_11 => ?_)
          · replace hw := hw.1 c_11
            refine g_iload_n C 4 dX2_readRule_67 rfl rfl ?_
            refine g_iconst C (1 : Int32) dX2_readRule_68 (by decide) ?_
            refine g_iload C 0 dX2_readRule_69 rfl ?_
            refine g_ishl C dX2_readRule_71 ?_
            refine g_ior C dX2_readRule_72 ?_
            refine g_topi (fun x3_5 ex3_5 => ?_)
            replace hw := hw x3_5 ex3_5
            refine g_istore_n C dX2_readRule_73 rfl (by decide) (lv' := [(3, .int x3_5), (5, .int r_4), (0, .ref (gh G 5)), (1, .int x1), (2, .int x2), (4, .int x4)]) rfl ?_
            refine g_aload_n C 2 dX2_readRule_74 rfl rfl ?_
            refine g_getsN C (fun h => h.1.1) (fun h => h.2.2.2.2.2.2.2.2.1) dX2_readRule_75 ?_
            refine g_iload C 1 dX2_readRule_78 rfl ?_
            refine g_ti C (fun h => h.1.2) hw.1 dX2_readRule_80 ?_
            replace hw := hw.2
            refine g_callVi C (c_X2_readValues l G hO hwin hw) kX2_readValues tw_253 (Rv.of C (C.win (by decide) (by decide)) rfl (ci := 2) rfl) rfl rfl ⟨Nat.le_of_ble_eq_true rfl, Nat.le_of_ble_eq_true rfl⟩ (As := [.int (vcF r_4.toNatClampNeg)]) (rest := []) rfl rfl (Nat.le_of_ble_eq_true rfl) dX2_readRule_81 ⟨Nat.le_of_ble_eq_true rfl, Nat.le_of_ble_eq_true rfl⟩ (fun r_7 s_6 hw => ?_)
            refine g_istore C dX2_readRule_84 (by decide) (lv' := [(6, .int r_7), (3, .int x3_5), (5, .int r_4), (0, .ref (gh G 5)), (1, .int x1), (2, .int x2), (4, .int x4)]) rfl ?_
            refine g_iload C 0 dX2_readRule_86 rfl ?_
            refine g_if_ne C 93 dX2_readRule_88 (by decide) (fun c_10 => ?_) (fun c_10 => ?_)
            · replace hw := hw.2 c_10
              refine g_aload_n C 3 dX2_readRule_93 rfl rfl ?_
              refine g_get C inX2 (C.win (by decide) (by decide)) rfl rfl 3 (by decide) tw_85 rfl dX2_readRule_94 ?_
              refine g_iload_n C 5 dX2_readRule_97 rfl rfl ?_
              refine g_iload C 2 dX2_readRule_98 rfl ?_
              refine g_iload C 0 dX2_readRule_100 rfl ?_
              refine g_callVv C (c_X1_restrict l G hO hwin (isPol_sel _) hw) kX1_restrict tw_257 (Rv.of C (C.pol (isPol_sel _)) (isPol.cell (isPol_sel _) G _) (ci := 1) rfl) rfl rfl ⟨Nat.le_of_ble_eq_true rfl, Nat.le_of_ble_eq_true rfl⟩ (As := [.int x2, .int r_4, .int r_7]) (rest := []) rfl rfl (Nat.le_of_ble_eq_true rfl) dX2_readRule_102 ⟨Nat.le_of_ble_eq_true rfl, Nat.le_of_ble_eq_true rfl⟩ (fun s_8 hw => ?_)
              obtain ⟨x4_9, ex4_9⟩ : ∃ z : Int32, z = x4 + (1 : Int32) := ⟨_, rfl⟩
              replace hw := hw x4_9 ex4_9
              refine g_iinc C x4_9 6 dX2_readRule_105 rfl ex4_9.symm (by decide) (lv' := [(4, .int x4_9), (6, .int r_7), (3, .int x3_5), (5, .int r_4), (0, .ref (gh G 5)), (1, .int x1), (2, .int x2)]) rfl ?_
              refine g_goto C 30 dX2_readRule_108 (by decide) ?_
              rw [hP30] at hw
              exact g_perm [4, 5, 6, 2, 0] rfl (hw)
            · replace hw := hw.1 c_10
              refine g_iconst C (0 : Int32) dX2_readRule_91 (by decide) ?_
              exact g_zret C hr hlk rfl hw dX2_readRule_92
          · replace hw := hw.2 c_11
            refine g_iconst C (0 : Int32) dX2_readRule_65 (by decide) ?_
            exact g_zret C hr hlk rfl hw dX2_readRule_66)
  refine g_aload_n C 0 dX2_readRule_0 rfl rfl ?_
  refine g_get C inX2 (C.win (by decide) (by decide)) rfl rfl 3 (by decide) tw_85 rfl dX2_readRule_1 ?_
  refine g_callVi C (c_X1_size l G hO hwin (isPol_sel _) hw) kX1_size tw_230 (Rv.of C (C.pol (isPol_sel _)) (isPol.cell (isPol_sel _) G _) (ci := 1) rfl) rfl rfl ⟨Nat.le_of_ble_eq_true rfl, Nat.le_of_ble_eq_true rfl⟩ (As := []) (rest := []) rfl rfl (Nat.le_of_ble_eq_true rfl) dX2_readRule_4 ⟨Nat.le_of_ble_eq_true rfl, Nat.le_of_ble_eq_true rfl⟩ (fun r_16 s_15 hw => ?_)
  refine g_istore_n C dX2_readRule_7 rfl (by decide) (lv' := [(2, .int r_16), (0, .ref (gh G 5)), (1, .int x1)]) rfl ?_
  refine g_iload_n C 0 dX2_readRule_8 rfl rfl ?_
  refine g_bipush C (8 : Int32) dX2_readRule_9 (by decide) ?_
  refine g_icmp_lt C 16 dX2_readRule_11 (by decide) (fun c_18 => ?_) (fun c_18 => ?_)
  · replace hw := hw.1 c_18
    refine g_aload_n C 1 dX2_readRule_16 rfl rfl ?_
    refine g_get C inX2 (C.win (by decide) (by decide)) rfl rfl 3 (by decide) tw_85 rfl dX2_readRule_17 ?_
    refine g_iload_n C 0 dX2_readRule_20 rfl rfl ?_
    refine g_iload_n C 2 dX2_readRule_21 rfl rfl ?_
    refine g_callVv C (c_X1_insertRule l G hO hwin (isPol_sel _) hw) kX1_insertRule tw_234 (Rv.of C (C.pol (isPol_sel _)) (isPol.cell (isPol_sel _) G _) (ci := 1) rfl) rfl rfl ⟨Nat.le_of_ble_eq_true rfl, Nat.le_of_ble_eq_true rfl⟩ (As := [.int r_16, .int x1]) (rest := []) rfl rfl (Nat.le_of_ble_eq_true rfl) dX2_readRule_22 ⟨Nat.le_of_ble_eq_true rfl, Nat.le_of_ble_eq_true rfl⟩ (fun s_17 hw => ?_)
    refine g_iconst C (0 : Int32) dX2_readRule_25 (by decide) ?_
    refine g_istore_n C dX2_readRule_26 rfl (by decide) (lv' := [(3, .int (0 : Int32)), (2, .int r_16), (0, .ref (gh G 5)), (1, .int x1)]) rfl ?_
    refine g_iconst C (0 : Int32) dX2_readRule_27 (by decide) ?_
    refine g_istore C dX2_readRule_28 (by decide) (lv' := [(4, .int (0 : Int32)), (3, .int (0 : Int32)), (2, .int r_16), (0, .ref (gh G 5)), (1, .int x1)]) rfl ?_
    rw [hP30] at hw
    exact g_perm [3, 4, 2, 1, 0] rfl (hw)
  · replace hw := hw.2 c_18
    refine g_iconst C (0 : Int32) dX2_readRule_14 (by decide) ?_
    exact g_zret C hr hlk rfl hw dX2_readRule_15

set_option maxHeartbeats 4000000 in
set_option maxRecDepth 100000 in
theorem c_X2_readStatement (l : Launch) (G : Gp) (hO : gOK G) (hwin : ∀ k, 0 ≤ k → k < 17 → k ∈ gks G)   {st : St} {Q : Int32 → St → Prop} (hw : wp_X2_readStatement  st Q) : MI l G yX2_readStatement cX2_readStatement 1 (some .boolean) { frames := 6, cells := 0, slots := 0, locals := 133 } [.ref (gh G 5)] st Q := by
  refine MI.of (own := RX2) (lo := 0) (hi := 17) hO hwin (by decide) rfl (Nat.le_of_ble_eq_true rfl) (fun p e s m args below meth c C hr hlk => ?_)
  refine g_lv (lv' := [(0, .ref (gh G 5))]) rfl ?_
  unfold wp_X2_readStatement at hw
  refine g_aload_n C 0 dX2_readStatement_0 rfl rfl ?_
  refine g_ldcS C 1 (by decide) rfl rfl dX2_readStatement_1 ?_
  refine g_callVi C (c_X2_accept l G hO hwin (by decide) hw) kX2_accept tw_204 (Rv.of C (C.win (by decide) (by decide)) rfl (ci := 2) rfl) rfl rfl ⟨Nat.le_of_ble_eq_true rfl, Nat.le_of_ble_eq_true rfl⟩ (As := [.ref (gK G 1)]) (rest := []) rfl rfl (Nat.le_of_ble_eq_true rfl) dX2_readStatement_3 ⟨Nat.le_of_ble_eq_true rfl, Nat.le_of_ble_eq_true rfl⟩ (fun r_2 s_1 hw => ?_)
  refine g_if_eq C 19 dX2_readStatement_6 (by decide) (fun c_22 => ?_) (fun c_22 => ?_)
  · replace hw := hw.1 c_22
    refine g_aload_n C 0 dX2_readStatement_19 rfl rfl ?_
    refine g_ldcS C 2 (by decide) rfl rfl dX2_readStatement_20 ?_
    refine g_callVi C (c_X2_accept l G hO hwin (by decide) hw) kX2_accept tw_204 (Rv.of C (C.win (by decide) (by decide)) rfl (ci := 2) rfl) rfl rfl ⟨Nat.le_of_ble_eq_true rfl, Nat.le_of_ble_eq_true rfl⟩ (As := [.ref (gK G 2)]) (rest := []) rfl rfl (Nat.le_of_ble_eq_true rfl) dX2_readStatement_22 ⟨Nat.le_of_ble_eq_true rfl, Nat.le_of_ble_eq_true rfl⟩ (fun r_4 s_3 hw => ?_)
    refine g_if_eq C 38 dX2_readStatement_25 (by decide) (fun c_21 => ?_) (fun c_21 => ?_)
    · replace hw := hw.1 c_21
      refine g_aload_n C 0 dX2_readStatement_38 rfl rfl ?_
      refine g_ldcS C 3 (by decide) rfl rfl dX2_readStatement_39 ?_
      refine g_callVi C (c_X2_accept l G hO hwin (by decide) hw) kX2_accept tw_204 (Rv.of C (C.win (by decide) (by decide)) rfl (ci := 2) rfl) rfl rfl ⟨Nat.le_of_ble_eq_true rfl, Nat.le_of_ble_eq_true rfl⟩ (As := [.ref (gK G 3)]) (rest := []) rfl rfl (Nat.le_of_ble_eq_true rfl) dX2_readStatement_41 ⟨Nat.le_of_ble_eq_true rfl, Nat.le_of_ble_eq_true rfl⟩ (fun r_6 s_5 hw => ?_)
      refine g_if_eq C 52 dX2_readStatement_44 (by decide) (fun c_20 => ?_) (fun c_20 => ?_)
      · replace hw := hw.1 c_20
        refine g_aload_n C 0 dX2_readStatement_52 rfl rfl ?_
        refine g_ldcS C 9 (by decide) rfl rfl dX2_readStatement_53 ?_
        refine g_callVi C (c_X2_accept l G hO hwin (by decide) hw) kX2_accept tw_204 (Rv.of C (C.win (by decide) (by decide)) rfl (ci := 2) rfl) rfl rfl ⟨Nat.le_of_ble_eq_true rfl, Nat.le_of_ble_eq_true rfl⟩ (As := [.ref (gK G 9)]) (rest := []) rfl rfl (Nat.le_of_ble_eq_true rfl) dX2_readStatement_55 ⟨Nat.le_of_ble_eq_true rfl, Nat.le_of_ble_eq_true rfl⟩ (fun r_8 s_7 hw => ?_)
        refine g_if_eq C 67 dX2_readStatement_58 (by decide) (fun c_17 => ?_) (fun c_17 => ?_)
        · replace hw := hw.1 c_17
          refine g_aload_n C 0 dX2_readStatement_67 rfl rfl ?_
          refine g_ldcS C 12 (by decide) rfl rfl dX2_readStatement_68 ?_
          refine g_callVi C (c_X2_accept l G hO hwin (by decide) hw) kX2_accept tw_204 (Rv.of C (C.win (by decide) (by decide)) rfl (ci := 2) rfl) rfl rfl ⟨Nat.le_of_ble_eq_true rfl, Nat.le_of_ble_eq_true rfl⟩ (As := [.ref (gK G 12)]) (rest := []) rfl rfl (Nat.le_of_ble_eq_true rfl) dX2_readStatement_70 ⟨Nat.le_of_ble_eq_true rfl, Nat.le_of_ble_eq_true rfl⟩ (fun r_10 s_9 hw => ?_)
          refine g_if_eq C 88 dX2_readStatement_73 (by decide) (fun c_14 => ?_) (fun c_14 => ?_)
          · replace hw := hw.1 c_14
            refine g_iconst C (0 : Int32) dX2_readStatement_88 (by decide) ?_
            exact g_zret C hr hlk rfl hw dX2_readStatement_89
          · replace hw := hw.2 c_14
            refine g_aload_n C 0 dX2_readStatement_76 rfl rfl ?_
            refine g_iconst C (1 : Int32) dX2_readStatement_77 (by decide) ?_
            refine g_callVi C (c_X2_readRule l G hO hwin hw) kX2_readRule tw_226 (Rv.of C (C.win (by decide) (by decide)) rfl (ci := 2) rfl) rfl rfl ⟨Nat.le_of_ble_eq_true rfl, Nat.le_of_ble_eq_true rfl⟩ (As := [.int (1 : Int32)]) (rest := []) rfl rfl (Nat.le_of_ble_eq_true rfl) dX2_readStatement_78 ⟨Nat.le_of_ble_eq_true rfl, Nat.le_of_ble_eq_true rfl⟩ (fun r_12 s_11 hw => ?_)
            refine g_if_eq C 88 dX2_readStatement_81 (by decide) (fun c_13 => ?_) (fun c_13 => ?_)
            · replace hw := hw.1 c_13
              refine g_iconst C (0 : Int32) dX2_readStatement_88 (by decide) ?_
              exact g_zret C hr hlk rfl hw dX2_readStatement_89
            · replace hw := hw.2 c_13
              refine g_iconst C (1 : Int32) dX2_readStatement_84 (by decide) ?_
              refine g_goto C 89 dX2_readStatement_85 (by decide) ?_
              exact g_zret C hr hlk rfl hw dX2_readStatement_89
        · replace hw := hw.2 c_17
          refine g_aload_n C 0 dX2_readStatement_61 rfl rfl ?_
          refine g_iconst C (0 : Int32) dX2_readStatement_62 (by decide) ?_
          refine g_callVi C (c_X2_readRule l G hO hwin hw) kX2_readRule tw_226 (Rv.of C (C.win (by decide) (by decide)) rfl (ci := 2) rfl) rfl rfl ⟨Nat.le_of_ble_eq_true rfl, Nat.le_of_ble_eq_true rfl⟩ (As := [.int (0 : Int32)]) (rest := []) rfl rfl (Nat.le_of_ble_eq_true rfl) dX2_readStatement_63 ⟨Nat.le_of_ble_eq_true rfl, Nat.le_of_ble_eq_true rfl⟩ (fun r_16 s_15 hw => ?_)
          exact g_zret C hr hlk (nar_bool hw.1) hw.2 dX2_readStatement_66
      · replace hw := hw.2 c_20
        refine g_aload_n C 0 dX2_readStatement_47 rfl rfl ?_
        refine g_callVi C (c_X2_readAlgorithm l G hO hwin hw) kX2_readAlgorithm tw_212 (Rv.of C (C.win (by decide) (by decide)) rfl (ci := 2) rfl) rfl rfl ⟨Nat.le_of_ble_eq_true rfl, Nat.le_of_ble_eq_true rfl⟩ (As := []) (rest := []) rfl rfl (Nat.le_of_ble_eq_true rfl) dX2_readStatement_48 ⟨Nat.le_of_ble_eq_true rfl, Nat.le_of_ble_eq_true rfl⟩ (fun r_19 s_18 hw => ?_)
        exact g_zret C hr hlk (nar_bool hw.1) hw.2 dX2_readStatement_51
    · replace hw := hw.2 c_21
      refine g_aload_n C 0 dX2_readStatement_28 rfl rfl ?_
      refine g_aload_n C 0 dX2_readStatement_29 rfl rfl ?_
      refine g_get C inX2 (C.win (by decide) (by decide)) rfl rfl 2 (by decide) tw_84 rfl dX2_readStatement_30 ?_
      refine g_put (ty := .object "PolicyComparer$Policy") (1 : Int32) C inX2 tyX2_ok nmX2 (C.win (by decide) (by decide)) rfl rfl 3 (by decide) tw_85 rfl (by decide +kernel) rfl rfl (Nat.le_of_ble_eq_true rfl) rfl dX2_readStatement_33 ?_
      refine g_iconst C (1 : Int32) dX2_readStatement_36 (by decide) ?_
      exact g_zret C hr hlk rfl hw dX2_readStatement_37
  · replace hw := hw.2 c_22
    refine g_aload_n C 0 dX2_readStatement_9 rfl rfl ?_
    refine g_aload_n C 0 dX2_readStatement_10 rfl rfl ?_
    refine g_get C inX2 (C.win (by decide) (by decide)) rfl rfl 1 (by decide) tw_83 rfl dX2_readStatement_11 ?_
    refine g_put (ty := .object "PolicyComparer$Policy") (0 : Int32) C inX2 tyX2_ok nmX2 (C.win (by decide) (by decide)) rfl rfl 3 (by decide) tw_85 rfl (by decide +kernel) rfl rfl (Nat.le_of_ble_eq_true rfl) rfl dX2_readStatement_14 ?_
    refine g_iconst C (1 : Int32) dX2_readStatement_17 (by decide) ?_
    exact g_zret C hr hlk rfl hw dX2_readStatement_18

set_option maxHeartbeats 4000000 in
set_option maxRecDepth 100000 in
theorem c_X2_firstMalformed (l : Launch) (G : Gp) (hO : gOK G) (hwin : ∀ k, 0 ≤ k → k < 17 → k ∈ gks G)   {st : St} {Q : Int32 → St → Prop} (hw : wp_X2_firstMalformed  st Q) : MI l G yX2_firstMalformed cX2_firstMalformed 3 (some .int) { frames := 7, cells := 0, slots := 0, locals := 153 } [.ref (gh G 5)] st Q := by
  refine MI.of (own := RX2) (lo := 0) (hi := 17) hO hwin (by decide) rfl (Nat.le_of_ble_eq_true rfl) (fun p e s m args below meth c C hr hlk => ?_)
  refine g_lv (lv' := [(0, .ref (gh G 5))]) rfl ?_
  unfold wp_X2_firstMalformed at hw
  obtain ⟨P29, hP29⟩ : ∃ P : Int32 → St → Prop, P = fun x1 st => WG p l e ({ frames := 7, cells := 0, slots := 0, locals := 153 } : Room) s m args below meth c 0 0 (MQ below (va_Qi Q (gB G) (gA G)) args s 0 0 (gA G)) G 3 29 [(0, .ref (gh G 5)), (1, .int x1)] [] st := ⟨_, rfl⟩
  replace hw := hw P29
  replace hw := hw (by
    intro x1 st hw
    rw [hP29]
    refine g_iload_n C 1 dX2_firstMalformed_29 rfl rfl ?_
    refine g_sipush C (240 : Int32) dX2_firstMalformed_30 (by decide) ?_
    refine g_icmp_ge C 76 dX2_firstMalformed_33 (by decide) (fun c_10 => ?_) (fun c_10 => ?_)
    · replace hw := hw.1 c_10
      refine g_bipush C (-4 : Int32) dX2_firstMalformed_76 (by decide) ?_
      exact g_iret C hr hlk hw dX2_firstMalformed_78
    · replace hw := hw.2 c_10
      refine g_aload_n C 0 dX2_firstMalformed_36 rfl rfl ?_
      refine g_get C inX2 (C.win (by decide) (by decide)) rfl rfl 5 (by decide) tw_87 rfl dX2_firstMalformed_37 ?_
      refine g_aload_n C 0 dX2_firstMalformed_40 rfl rfl ?_
      refine g_get C inX2 (C.win (by decide) (by decide)) rfl rfl 4 (by decide) tw_86 rfl dX2_firstMalformed_41 ?_
      refine g_icmp_ge C 76 dX2_firstMalformed_44 (by decide) (fun c_9 => ?_) (fun c_9 => ?_)
      · replace hw := hw.1 c_9
        refine g_bipush C (-4 : Int32) dX2_firstMalformed_76 (by decide) ?_
        exact g_iret C hr hlk hw dX2_firstMalformed_78
      · replace hw := hw.2 c_9
        refine g_aload_n C 0 dX2_firstMalformed_47 rfl rfl ?_
        refine g_get C inX2 (C.win (by decide) (by decide)) rfl rfl 5 (by decide) tw_87 rfl dX2_firstMalformed_48 ?_
        refine g_topi (fun x2_1 ex2_1 => ?_)
        replace hw := hw x2_1 ex2_1
        refine g_istore_n C dX2_firstMalformed_51 rfl (by decide) (lv' := [(2, .int x2_1), (0, .ref (gh G 5)), (1, .int x1)]) rfl ?_
        refine g_aload_n C 1 dX2_firstMalformed_52 rfl rfl ?_
        refine g_callVi C (c_X2_readStatement l G hO hwin hw) kX2_readStatement tw_199 (Rv.of C (C.win (by decide) (by decide)) rfl (ci := 2) rfl) rfl rfl ⟨Nat.le_of_ble_eq_true rfl, Nat.le_of_ble_eq_true rfl⟩ (As := []) (rest := []) rfl rfl (Nat.le_of_ble_eq_true rfl) dX2_firstMalformed_53 ⟨Nat.le_of_ble_eq_true rfl, Nat.le_of_ble_eq_true rfl⟩ (fun r_3 s_2 hw => ?_)
        refine g_if_eq C 68 dX2_firstMalformed_56 (by decide) (fun c_8 => ?_) (fun c_8 => ?_)
        · replace hw := hw.1 c_8
          refine g_iload_n C 0 dX2_firstMalformed_68 rfl rfl ?_
          exact g_iret C hr hlk hw dX2_firstMalformed_69
        · replace hw := hw.2 c_8
          refine g_aload_n C 1 dX2_firstMalformed_59 rfl rfl ?_
          refine g_ldcS C 13 (by decide) rfl rfl dX2_firstMalformed_60 ?_
          refine g_callVi C (c_X2_accept l G hO hwin (by decide) hw) kX2_accept tw_204 (Rv.of C (C.win (by decide) (by decide)) rfl (ci := 2) rfl) rfl rfl ⟨Nat.le_of_ble_eq_true rfl, Nat.le_of_ble_eq_true rfl⟩ (As := [.ref (gK G 13)]) (rest := []) rfl rfl (Nat.le_of_ble_eq_true rfl) dX2_firstMalformed_62 ⟨Nat.le_of_ble_eq_true rfl, Nat.le_of_ble_eq_true rfl⟩ (fun r_5 s_4 hw => ?_)
          refine g_if_ne C 70 dX2_firstMalformed_65 (by decide) (fun c_7 => ?_) (fun c_7 => ?_)
          · replace hw := hw.2 c_7
            obtain ⟨x1_6, ex1_6⟩ : ∃ z : Int32, z = x1 + (1 : Int32) := ⟨_, rfl⟩
            replace hw := hw x1_6 ex1_6
            refine g_iinc C x1_6 2 dX2_firstMalformed_70 rfl ex1_6.symm (by decide) (lv' := [(1, .int x1_6), (2, .int x2_1), (0, .ref (gh G 5))]) rfl ?_
            refine g_goto C 29 dX2_firstMalformed_73 (by decide) ?_
            rw [hP29] at hw
            exact g_perm [2, 0] rfl (hw)
          · replace hw := hw.1 c_7
            refine g_iload_n C 0 dX2_firstMalformed_68 rfl rfl ?_
            exact g_iret C hr hlk hw dX2_firstMalformed_69)
  refine g_aload_n C 0 dX2_firstMalformed_0 rfl rfl ?_
  refine g_get C inX2 (C.win (by decide) (by decide)) rfl rfl 1 (by decide) tw_83 rfl dX2_firstMalformed_1 ?_
  refine g_callVv C (c_X1_empty l G hO hwin (Or.inr (Or.inr (Or.inl rfl))) hw) kX1_empty tw_192 (Rv.of C (C.pol (Or.inr (Or.inr (Or.inl rfl)))) (isPol.cell (Or.inr (Or.inr (Or.inl rfl))) G _) (ci := 1) rfl) rfl rfl ⟨Nat.le_of_ble_eq_true rfl, Nat.le_of_ble_eq_true rfl⟩ (As := []) (rest := []) rfl rfl (Nat.le_of_ble_eq_true rfl) dX2_firstMalformed_4 ⟨Nat.le_of_ble_eq_true rfl, Nat.le_of_ble_eq_true rfl⟩ (fun s_11 hw => ?_)
  refine g_aload_n C 0 dX2_firstMalformed_7 rfl rfl ?_
  refine g_get C inX2 (C.win (by decide) (by decide)) rfl rfl 2 (by decide) tw_84 rfl dX2_firstMalformed_8 ?_
  refine g_callVv C (c_X1_empty l G hO hwin (Or.inr (Or.inr (Or.inr rfl))) hw) kX1_empty tw_192 (Rv.of C (C.pol (Or.inr (Or.inr (Or.inr rfl)))) (isPol.cell (Or.inr (Or.inr (Or.inr rfl))) G _) (ci := 1) rfl) rfl rfl ⟨Nat.le_of_ble_eq_true rfl, Nat.le_of_ble_eq_true rfl⟩ (As := []) (rest := []) rfl rfl (Nat.le_of_ble_eq_true rfl) dX2_firstMalformed_11 ⟨Nat.le_of_ble_eq_true rfl, Nat.le_of_ble_eq_true rfl⟩ (fun s_12 hw => ?_)
  refine g_aload_n C 0 dX2_firstMalformed_14 rfl rfl ?_
  refine g_aload_n C 0 dX2_firstMalformed_15 rfl rfl ?_
  refine g_get C inX2 (C.win (by decide) (by decide)) rfl rfl 1 (by decide) tw_83 rfl dX2_firstMalformed_16 ?_
  refine g_put (ty := .object "PolicyComparer$Policy") (0 : Int32) C inX2 tyX2_ok nmX2 (C.win (by decide) (by decide)) rfl rfl 3 (by decide) tw_85 rfl (by decide +kernel) rfl rfl (Nat.le_of_ble_eq_true rfl) rfl dX2_firstMalformed_19 ?_
  refine g_aload_n C 0 dX2_firstMalformed_22 rfl rfl ?_
  refine g_iconst C (0 : Int32) dX2_firstMalformed_23 (by decide) ?_
  refine g_put (ty := .int) (0 : Int32) C inX2 tyX2_ok nmX2 (C.win (by decide) (by decide)) rfl rfl 5 (by decide) tw_87 rfl (by decide +kernel) rfl rfl (Nat.le_of_ble_eq_true rfl) rfl dX2_firstMalformed_24 ?_
  refine g_iconst C (0 : Int32) dX2_firstMalformed_27 (by decide) ?_
  refine g_istore_n C dX2_firstMalformed_28 rfl (by decide) (lv' := [(1, .int (0 : Int32)), (0, .ref (gh G 5))]) rfl ?_
  rw [hP29] at hw
  exact g_perm [1, 0] rfl (hw)
